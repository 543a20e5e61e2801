/-! the class: a search begun, boats added, the arrival -/
theorem arrL_300 {Q : Int → Prop} {r : Int} (h : arrL 300 Q r) : arr Q r := h
theorem rv_o (b : Bool) : am_rv b = 6 ∨ am_rv b = 32 := by
  cases b
  · exact Or.inr rfl
  · exact Or.inl rfl
def Eb (o : Nat) (J : am_J) (K : am_K) (v : Nat → Int) (lt g a c : Int) : Prop := rq o J v ∧ rK o K v ∧ J 26 1 = lt ∧ J 26 2 = a ∧ J 26 3 = c ∧ J 26 4 = 8 * v 0 ∧ J 26 5 = g
abbrev PhS (v : Nat → Int) (lt g a c : Int) (K : am_K) (t0 x : Int) : Prop := Phi (Sc K t0) (fun _ => False) (fun x t f l b => Cn v lt g a c x t f l b) x
theorem beg_loop {o : Nat} : ∀ (k n x : Nat) (J : am_J) (K : am_K), k < n → x + k = 180 → ∃ K', f_Search_begin_L34 o n (x : Int) J K = some (J, K') ∧ (∀ j, x ≤ j → j < 180 → K' 27 j = 0) ∧ (∀ j, j < x → K' 27 j = K 27 j) ∧ (∀ a, a ≠ 27 → K' a = K a) := by
  intro k
  induction k with
  | zero =>
    intro n x J K hn hx
    obtain ⟨n, rfl⟩ : ∃ m, n = m + 1 := ⟨n - 1, by omega⟩
    rw [f_Search_begin_L34.eq_2, if_pos (show am_i32 (x : Int) by omega), if_neg (show ¬ (x : Int) < 180 by omega)]
    exact ⟨K, rfl, fun j j1 j2 => by omega, fun j _ => rfl, fun _ _ => rfl⟩
  | succ k ih =>
    intro n x J K hn hx
    obtain ⟨n, rfl⟩ : ∃ m, n = m + 1 := ⟨n - 1, by omega⟩
    rw [f_Search_begin_L34.eq_2, if_pos (show am_i32 (x : Int) by omega), if_pos (show (x : Int) < 180 by omega), if_pos (show 0 ≤ (x : Int) ∧ (x : Int) < 180 by omega), show ((x : Int)).toNat = x from rfl]
    obtain ⟨K', a1, a2, a3, a4⟩ := ih n (x + 1) J (am_ul K 27 x 0) (by omega) (by omega)
    refine ⟨K', a1, fun j j1 j2 => ?_, fun j hj => ?_, fun a ha => ?_⟩
    · by_cases e : j = x
      · rw [e, a3 _ (by omega), ul_at]
      · exact a2 j (by omega) j2
    · rw [a3 j (by omega), ul_ne (by omega)]
    · rw [a4 a ha, ul_row ha]
theorem rK_row {o : Nat} {K K' : am_K} {v : Nat → Int} (h : rK o K v) (e : K' (o + 10) = K (o + 10)) : rK o K' v := by
  intro hh l f h1 h2 h3
  rw [e]
  exact h hh l f h1 h2 h3
theorem c_begin {o : Nat} (ho : o = 6 ∨ o = 32) {v : Nat → Int} {J : am_J} {K : am_K} {lt : Int} (q : rq o J v) (k : rK o K v) : ∃ J' K', f_Search_begin o lt J K = some (J', K') ∧ Eb o J' K' v lt (8 * v 0) 0 8 ∧ (∀ j, j < 180 → K' 27 j = 0) ∧ (∀ a, a ≠ 26 → J' a = J a) := by
  unfold f_Search_begin
  have q1 : rq o (am_up (am_up (am_up J 26 1 lt) 26 2 0) 26 3 8) v := rq_fr q fun i h1 h9 j => by rw [up_row (by omega), up_row (by omega), up_row (by omega)]
  rw [c_top q1]
  simp only [Option.bind_some]
  obtain ⟨K', a1, a2, -, a4⟩ := beg_loop (o := o) 180 am_FU 0 (am_up (am_up (am_up (am_up (am_up J 26 1 lt) 26 2 0) 26 3 8) 26 4 (8 * v 0)) 26 5 (8 * v 0)) K (by decide) (by omega)
  have rw5 : ∀ a, a ≠ 26 → am_up (am_up (am_up (am_up (am_up J 26 1 lt) 26 2 0) 26 3 8) 26 4 (8 * v 0)) 26 5 (8 * v 0) a = J a := fun a ha => by rw [up_row ha, up_row ha, up_row ha, up_row ha, up_row ha]
  refine ⟨_, K', a1, ⟨?_, rK_row k (a4 _ (by omega)), rfl, rfl, rfl, rfl, rfl⟩, fun j hj => a2 j (by omega) hj, rw5⟩
  exact rq_fr q fun i h1 h9 j => by rw [rw5 _ (by omega)]
theorem clr_Dc {v : Nat → Int} {a c : Int} {K : am_K} (h : ∀ j, j < 180 → K 27 j = 0) : Dc v a c K := by
  intro t f l b hd hm
  rw [h _ (by unfold ci; omega), bt_0] at hm
  cases hm
theorem clr_PhS {v : Nat → Int} {lt g a c : Int} {K : am_K} (h : ∀ j, j < 180 → K 27 j = 0) (t x : Int) : ¬ PhS v lt g a c K t x := by
  rintro (z | ⟨t', f, l, b, ⟨-, hd, z⟩, -⟩)
  · exact z
  · rw [h _ (by unfold ci; omega), bt_0] at z
    cases z
theorem c_add {o o1 : Nat} {v : Nat → Int} (hv : rv_ok v) {lt g a c : Int} (hac : (0 ≤ a ∧ a ≤ 8) ∧ (0 ≤ c ∧ c ≤ 8)) {J : am_J} {K : am_K} (hE : Eb o J K v lt g a c) (hD : Dc v a c K) {f l b t : Int} (e0 : J o1 0 = f) (e1 : J o1 1 = l) (e2 : J o1 2 = b) (e3 : J o1 3 = t) (hf : 0 ≤ f ∧ f ≤ 1000) (hl : 0 ≤ l ∧ l ≤ 8) (hb : b = 0 ∨ b = 1) (ht : 0 ≤ t ∧ t ≤ 300) : ∃ K', f_Search_add o1 J K = some K' ∧ Dc v a c K' ∧ (∀ k, k ≠ 27 → K' k = K k) ∧ ∀ x, PhS v lt g a c K' t x ↔ PhS v lt g a c K t x ∨ (a ≤ l ∧ l ≤ c ∧ f < 8 * v 0 ∧ Cn v lt g a c x t f l b) := by
  have hm := hv.1.1
  obtain ⟨q1, q2, q3, q4, q5, q6, q7⟩ := hE
  unfold f_Search_add
  rw [e0, e1, e2, e3, q6, c_serves q4 q5 (by omega) (by omega) (by omega)]
  simp only [Option.bind_some, fl_32, if_true, fl_0]
  by_cases c0 : a ≤ l ∧ l ≤ c
  · rw [if_neg (show ¬ ¬ (a ≤ l ∧ l ≤ c) from fun n => n c0), if_pos (show am_i32 (8 * v 0) by omega), if_pos (show am_i32 f by omega)]
    by_cases c1 : f < 8 * v 0
    · obtain ⟨x1, x2⟩ := c_indexOf (t := t) (l := l) (b := b) (by omega) hl (by omega)
      rw [if_pos c1, x1]
      simp only [Option.bind_some]
      rw [if_pos x2, show (t % 10 * 18 + l * 2 + b).toNat = ci t l b from rfl]
      have hbit : ∀ i : Nat, i < 64 → (bt (am_lshl 1 f) i = true ↔ (i : Int) = f) := by
        intro i hi
        rw [bt_shl _ hf.1 (by omega) i hi, bt_1, Bool.and_eq_true, decide_eq_true_eq, decide_eq_true_eq]
        omega
      refine ⟨_, rfl, Dc_or hD hl (by omega) (fun i i1 i2 => ⟨by have := (hbit i i1).mp i2; omega, c0⟩), fun k hk => ul_row hk, fun x => ?_⟩
      unfold PhS
      rw [Phi_adds (fun t' f' l' b' => Sc_or (by omega) hl (by omega) t' f' l' b')]
      refine or_congr Iff.rfl ?_
      constructor
      · rintro ⟨i, i1, i2, i3⟩
        rw [(hbit i i1).mp i2] at i3
        exact ⟨c0.1, c0.2, c1, i3⟩
      · rintro ⟨-, -, -, z⟩
        refine ⟨f.toNat, by omega, (hbit _ (by omega)).mpr (by omega), ?_⟩
        rw [show ((f.toNat : Nat) : Int) = f by omega]
        exact z
    · rw [if_neg c1]
      exact ⟨K, rfl, hD, fun _ _ => rfl, fun x => ⟨Or.inl, fun z => by rcases z with z | z; exact z; exact absurd z.2.2.1 c1⟩⟩
  · rw [if_pos c0]
    exact ⟨K, rfl, hD, fun _ _ => rfl, fun x => ⟨Or.inl, fun z => by rcases z with z | z; exact z; exact absurd ⟨z.1, z.2.1⟩ c0⟩⟩
theorem c_arrive {o : Nat} (ho : o = 6 ∨ o = 32) {v : Nat → Int} (hv : rv_ok v) {lt g a c : Int} (hp : prm lt g a c) (hac : a ≤ c + 1) {Q : Int → Prop} {L t : Int} (hL : 0 ≤ L ∧ L ≤ 300) (ht : 0 ≤ t ∧ t ≤ 300) {J : am_J} {K : am_K} (hE : Eb o J K v lt g a c) (hD : Dc v a c K) (hQ : ∀ x, x ≤ L → (PhS v lt g a c K t x ↔ Q x)) : ∃ r J' K', f_Search_arrive o t L J K = some (r, J', K') ∧ arrL L Q r := by
  obtain ⟨q1, q2, q3, q4, q5, q6, q7⟩ := hE
  unfold f_Search_arrive
  have E1 : Ec o (am_up J 26 6 (L + 1)) K v lt g a c := by
    refine ⟨rq_fr q1 fun i h1 h9 j => by rw [up_row (by omega)], q2, ?_, ?_, ?_, ?_, ?_, ?_⟩
    · rw [up_ne (by decide)]; exact q3
    · rw [up_ne (by decide)]; exact q4
    · rw [up_ne (by decide)]; exact q5
    · rw [up_ne (by decide)]; exact q6
    · rw [up_ne (by decide)]; exact q7
    · rw [up_at]; omega
  refine c_arrive_loop ho hv hp hac hL (L - t).toNat am_FU t _ K (by have : am_FU = 20000 := rfl; omega) rfl ht.1 ht.2 E1 hD fun x hx => ?_
  rw [← hQ x hx]
  refine Phi_cong (fun _ _ _ _ => Iff.rfl) ?_
  unfold Fc
  rw [up_at]
  constructor
  · intro z; omega
  · intro z; exact absurd z id
theorem c_arrivalOf {o1 : Nat} {b : Bool} {v : Nat → Int} (hv : rv_ok v) {J : am_J} {K : am_K} (q : rq (am_rv b) J v) (k : rK (am_rv b) K v) (h1 : o1 ≠ 26) {a c f l d t : Int} (e0 : J o1 0 = f) (e1 : J o1 1 = l) (e2 : J o1 2 = d) (e3 : J o1 3 = t) (hf : 0 ≤ f ∧ f < 8 * v 0) (hl : 0 ≤ l ∧ l ≤ 8) (hd : d = 0 ∨ d = 1) (ht : 0 ≤ t ∧ t ≤ 300) (ha : 0 ≤ a ∧ a ≤ 8) (hc : 0 ≤ c ∧ c ≤ 8) (hac : a ≤ c) : ∃ r J' K', f_UpRiver_arrivalOf o1 b a c J K = some (r, J', K') ∧ arr (fun x => a ≤ l ∧ l ≤ c ∧ Cn v 0 (8 * v 0) a c x t f l d) r := by
  have hm := hv.1.1
  have hp : prm 0 (8 * v 0) a c := ⟨by omega, by omega, ha, hc⟩
  obtain ⟨J1, K1, b1, b2, b3, b4⟩ := c_begin (rv_o b) (lt := 0) q k
  unfold f_UpRiver_arrivalOf
  rw [b1]
  simp only [Option.bind_some]
  have kt : f_Search_keepTo a c J1 = some (am_up (am_up J1 26 2 a) 26 3 c) := by
    unfold f_Search_keepTo
    rw [j_max (by decide) (by omega), j_min (by decide) (by omega)]
    simp only [Option.bind_some]
    have ea : (if (0 : Int) < a then a else 0) = a := by split <;> omega
    have ec : (if c < (8 : Int) then c else 8) = c := by split <;> omega
    rw [ea, ec]
  rw [kt]
  simp only [Option.bind_some]
  have rw2 : ∀ n, n ≠ 26 → am_up (am_up J1 26 2 a) 26 3 c n = J n := fun n hn => by rw [up_row hn, up_row hn, b4 n hn]
  have E2 : Eb (am_rv b) (am_up (am_up J1 26 2 a) 26 3 c) K1 v 0 (8 * v 0) a c := by
    obtain ⟨q1, q2, q3, q4, q5, q6, q7⟩ := b2
    refine ⟨rq_fr q fun i h1 h9 j => by rw [rw2 _ (by have := rv_o b; omega)], q2, ?_, ?_, ?_, ?_, ?_⟩
    · rw [up_ne (by decide), up_ne (by decide)]; exact q3
    · rw [up_ne (by decide), up_at]
    · rw [up_at]
    · rw [up_ne (by decide), up_ne (by decide)]; exact q6
    · rw [up_ne (by decide), up_ne (by decide)]; exact q7
  obtain ⟨K2, d1, d2, d3, d4⟩ := c_add (o1 := o1) hv ⟨ha, hc⟩ E2 (clr_Dc b3) (f := f) (l := l) (b := d) (t := t) (by rw [rw2 _ h1]; exact e0) (by rw [rw2 _ h1]; exact e1) (by rw [rw2 _ h1]; exact e2) (by rw [rw2 _ h1]; exact e3) (by omega) hl hd ht
  rw [d1]
  simp only [Option.bind_some]
  rw [rw2 _ h1, e3]
  have E3 : Eb (am_rv b) (am_up (am_up J1 26 2 a) 26 3 c) K2 v 0 (8 * v 0) a c := by
    obtain ⟨q1, q2, q3⟩ := E2
    exact ⟨q1, rK_row q2 (d3 _ (by have := rv_o b; omega)), q3⟩
  obtain ⟨r, J', K', w1, w2⟩ := c_arrive (rv_o b) hv hp (by omega) (Q := fun x => a ≤ l ∧ l ≤ c ∧ Cn v 0 (8 * v 0) a c x t f l d) (L := 300) (t := t) (by omega) ht E3 d2 (fun x hx => by
    rw [d4 x]
    constructor
    · rintro (z | z)
      · exact absurd z (clr_PhS b3 t x)
      · exact ⟨z.1, z.2.1, z.2.2.2⟩
    · exact fun z => Or.inr ⟨z.1, z.2.1, hf.2, z.2.2⟩)
  rw [w1]
  exact ⟨r, J', K', rfl, w2⟩
/-! soonest, only -/
theorem arr_32 {Q : Int → Prop} {r : Int} (h : arr Q r) : am_i32 r := by
  have := h.1
  omega
theorem e_soonest {b : Bool} {J : am_J} {K : am_K} (hr : sR b J) (hk : rK (am_rv b) K (J 66)) (hb : sB J) : ∃ r J' K' J2, f_UpRiver_soonest b J K = some (r, J', K') ∧ f_UpRiverModel_soonest J' = some (r, J2) ∧ am_i32 r := by
  obtain ⟨h, q, e15⟩ := hr
  have hv := h.1.1
  obtain ⟨⟨r0, r1, r2, r3, r4, r5, r6⟩, m0, m1, m2, m3, m4, m5⟩ := hb
  by_cases up : 8 * J 66 0 ≤ J 18 0
  · refine ⟨-2, J, K, J, ?_, ?_, by decide⟩
    · unfold f_UpRiver_soonest
      rw [c_isUp h q (by omega)]
      simp only [Option.bind_some, fl_32, if_true, fl_0]
      rw [if_neg (show ¬ ¬ (8 * J 66 0 ≤ J 18 0) from fun z => z up)]
    · unfold f_UpRiverModel_soonest
      rw [m_isUp h (by omega)]
      simp only [Option.bind_some, fl_32, if_true, fl_0]
      rw [if_neg (show ¬ ¬ (8 * J 66 0 ≤ J 68 1) from fun z => z (by omega))]
  · obtain ⟨r, J', K', w1, w2⟩ := c_arrivalOf h q hk (o1 := 18) (by decide) (a := 0) (c := 8) rfl rfl rfl rfl (by omega) r1 r2 r3 (by omega) (by omega) (by omega)
    have cl : f_UpRiver_soonest b J K = some (r, J', K') := by
      unfold f_UpRiver_soonest
      rw [c_isUp h q (by omega)]
      simp only [Option.bind_some, fl_32, if_true, fl_0]
      rw [if_pos up, w1]
      rfl
    have f66 : J' 66 = J 66 := by funext j; exact frJ_UpRiver_soonest cl rfl
    have f15 : J' 65 15 = 0 := by rw [← e15]; exact frJ_UpRiver_soonest cl rfl
    have f68 : ∀ j, J' 68 j = J 68 j := fun j => frJ_UpRiver_soonest cl rfl
    obtain ⟨r', J2, z1, z2, -⟩ := m_soonestFrom (J := J') (f := J 68 1) (l := J 68 2) (b := J 68 3) (t := J 68 0) (a := 0) (c := 8) (by rw [f66]; exact h) (by omega) (by omega) (by omega) (by omega) (by omega) (by omega) (by omega)
    rw [f66, f15, ← m0, ← m1, ← m2, ← m3] at z2
    have er : r' = r := arr_eq (z2 (by omega)) w2
    refine ⟨r, J', K', J2, cl, ?_, arr_32 w2⟩
    unfold f_UpRiverModel_soonest
    rw [m_isUp (by rw [f66]; exact h) (by rw [f68]; omega), f66, f68]
    simp only [Option.bind_some, fl_32, if_true, fl_0]
    rw [if_pos (show ¬ (8 * J 66 0 ≤ J 68 1) by omega)]
    unfold f_UpRiverModel_soonestNow
    rw [f68, f68, f68, f68, z1, er]
    rfl
theorem e_only {b : Bool} {J : am_J} {K : am_K} {x y : Int} (hr : sR b J) (hk : rK (am_rv b) K (J 66)) (hb : sB J) (hx : am_i32 x) (hy : am_i32 y) : ∃ r J' K' J2, f_UpRiver_only b x y J K = some (r, J', K') ∧ f_UpRiverModel_only x y J' = some (r, J2) ∧ am_i32 r := by
  obtain ⟨h, q, e15⟩ := hr
  have hv := h.1.1
  obtain ⟨⟨r0, r1, r2, r3, r4, r5, r6⟩, m0, m1, m2, m3, m4, m5⟩ := hb
  have mo : ∀ J1 : am_J, f_UpRiverModel_only x y J1 = if 0 ≤ x ∧ x ≤ 8 then (if x ≤ y ∧ y ≤ 8 then ((f_UpRiverModel_isUp J1).bind fun q => if am_i32 q then (if q = 0 then ((f_UpRiverModel_soonestNow x y J1).bind fun p => some (p.1, p.2)) else (some ((-2), J1))) else none) else some (-1, J1)) else some (-1, J1) := by
    intro J1
    unfold f_UpRiverModel_only
    rw [m_isLane hx, show (8 : Int64) = am_i2l 8 from rfl, m_in hy hx (by decide)]
    simp only [Option.bind_some, fl_32, if_true, fl_0]
    by_cases c0 : 0 ≤ x ∧ x ≤ 8
    · rw [if_neg (show ¬ ¬ (0 ≤ x ∧ x ≤ 8) from fun z => z c0), if_pos c0]
      by_cases c1 : x ≤ y ∧ y ≤ 8
      · rw [if_neg (show ¬ ¬ (x ≤ y ∧ y ≤ 8) from fun z => z c1), if_pos c1]
      · rw [if_pos c1, if_neg c1]
    · rw [if_pos c0, if_neg c0]
  by_cases c0 : 0 ≤ x ∧ x ≤ 8
  · by_cases c1 : x ≤ y ∧ y ≤ 8
    · have co : f_UpRiver_only b x y J K = ((f_Boat_isUp 18 (am_rv b) J).bind fun q822 => if am_i32 q822 then (if q822 = 0 then ((f_UpRiver_arrivalOf 18 b x y J K).bind fun q826 => some (q826.1, q826.2.1, q826.2.2)) else (some ((-2), J, K))) else none) := by
        unfold f_UpRiver_only
        rw [c_isLane hx, c_isLane hy]
        simp only [Option.bind_some, fl_32, if_true, fl_0]
        rw [if_neg (show ¬ ¬ (0 ≤ x ∧ x ≤ 8) from fun z => z c0), if_neg (show ¬ ¬ (0 ≤ y ∧ y ≤ 8) from fun z => z (by omega)), if_pos hy, if_pos hx, if_neg (show ¬ y < x by omega)]
      by_cases up : 8 * J 66 0 ≤ J 18 0
      · refine ⟨-2, J, K, J, ?_, ?_, by decide⟩
        · rw [co, c_isUp h q (by omega)]
          simp only [Option.bind_some, fl_32, if_true, fl_0]
          rw [if_neg (show ¬ ¬ (8 * J 66 0 ≤ J 18 0) from fun z => z up)]
        · rw [mo, if_pos c0, if_pos c1, m_isUp h (by omega)]
          simp only [Option.bind_some, fl_32, if_true, fl_0]
          rw [if_neg (show ¬ ¬ (8 * J 66 0 ≤ J 68 1) from fun z => z (by omega))]
      · obtain ⟨r, J', K', w1, w2⟩ := c_arrivalOf h q hk (o1 := 18) (by decide) (a := x) (c := y) rfl rfl rfl rfl (by omega) r1 r2 r3 (by omega) (by omega) (by omega)
        have cl : f_UpRiver_only b x y J K = some (r, J', K') := by
          rw [co, c_isUp h q (by omega)]
          simp only [Option.bind_some, fl_32, if_true, fl_0]
          rw [if_pos up, w1]
          rfl
        have f66 : J' 66 = J 66 := by funext j; exact frJ_UpRiver_only cl rfl
        have f15 : J' 65 15 = 0 := by rw [← e15]; exact frJ_UpRiver_only cl rfl
        have f68 : ∀ j, J' 68 j = J 68 j := fun j => frJ_UpRiver_only cl rfl
        obtain ⟨r', J2, z1, z2, -⟩ := m_soonestFrom (J := J') (f := J 68 1) (l := J 68 2) (b := J 68 3) (t := J 68 0) (a := x) (c := y) (by rw [f66]; exact h) (by omega) (by omega) (by omega) (by omega) (by omega) (by omega) (by omega)
        rw [f66, f15, ← m0, ← m1, ← m2, ← m3] at z2
        have er : r' = r := arr_eq (z2 (by omega)) w2
        refine ⟨r, J', K', J2, cl, ?_, arr_32 w2⟩
        rw [mo, if_pos c0, if_pos c1, m_isUp (by rw [f66]; exact h) (by rw [f68]; omega), f66, f68]
        simp only [Option.bind_some, fl_32, if_true, fl_0]
        rw [if_pos (show ¬ (8 * J 66 0 ≤ J 68 1) by omega)]
        unfold f_UpRiverModel_soonestNow
        rw [f68, f68, f68, f68, z1, er]
        rfl
    · refine ⟨-1, J, K, J, ?_, by rw [mo, if_pos c0, if_neg c1], by decide⟩
      unfold f_UpRiver_only
      rw [c_isLane hx, c_isLane hy]
      simp only [Option.bind_some, fl_32, if_true, fl_0]
      rw [if_neg (show ¬ ¬ (0 ≤ x ∧ x ≤ 8) from fun z => z c0)]
      by_cases c2 : 0 ≤ y ∧ y ≤ 8
      · rw [if_neg (show ¬ ¬ (0 ≤ y ∧ y ≤ 8) from fun z => z c2), if_pos hy, if_pos hx, if_pos (show y < x by omega)]
      · rw [if_pos c2]
  · refine ⟨-1, J, K, J, ?_, by rw [mo, if_neg c0], by decide⟩
    unfold f_UpRiver_only
    rw [c_isLane hx]
    simp only [Option.bind_some, fl_32, if_true, fl_0]
    rw [if_pos c0]
