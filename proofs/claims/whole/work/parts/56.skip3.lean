theorem m_hisMove {v : Nat → Int} (hv : rv_ok v) {J : am_J} (e66 : J 66 = v) {s : Int × Int × Int × Int × Int × Int × Int} (hs : hmS J = s) (ho : skO s) (hu : s.1 < 8 * v 0) (hbg : bgO (J 65 34) (J 65 35)) (hz : J 65 36 = -4 ∨ (0 ≤ J 65 36 ∧ J 65 36 ≤ 300)) {p : Prop} [Decidable p] {f l d t : Int} (h : toAt J f l d t) (hd : d = 0 ∨ d = 1) (ht : s.2.2.2.1 < t ∧ t ≤ 1000) : ∃ J', f_UpRiverModel_hisMove (fl p) J = some J' ∧ (p ∧ t ≤ 300 → hmS J' = (f, l, d, t, (if d = s.2.2.1 then s.2.2.2.2.1 else s.2.2.2.2.1 + 1), (if d = s.2.2.1 then s.2.2.2.2.2.1 + 1 else s.2.2.2.2.2.1), (if d = s.2.2.1 then 1 else 0)) ∧ metW (v 0) s.1 s.2.1 (J 65 34) (J 65 35) s.2.2.2.1 t (J 65 36) (J 65 37) (J' 65 36) (J' 65 37)) ∧ (¬ (p ∧ t ≤ 300) → hmS J' = (s.1, s.2.1, s.2.2.1, s.2.2.2.1 + 1, s.2.2.2.2.1, s.2.2.2.2.2.1, s.2.2.2.2.2.2) ∧ metW (v 0) s.1 s.2.1 (J 65 34) (J 65 35) s.2.2.2.1 (s.2.2.2.1 + 1) (J 65 36) (J 65 37) (J' 65 36) (J' 65 37)) := by
  have h4 := ho.2.2.2.1
  obtain ⟨J1, a1, a2, a3⟩ := m_move_stay hv e66 hs ho hu hbg hz
  unfold f_UpRiverModel_hisMove
  rw [h.2.2.2]
  simp only [fl_32, if_true, fl_0]
  by_cases c0 : p
  · rw [if_neg (fun z => z c0), if_pos (show am_i32 t by omega)]
    by_cases c1 : 300 < t
    · rw [if_pos c1, a1]
      exact ⟨J1, rfl, fun z => by omega, fun _ => ⟨a2, a3⟩⟩
    · obtain ⟨J2, b1, b2, b3⟩ := m_move_go hv e66 hs ho hu hbg hz h hd (by omega)
      rw [if_neg c1, b1]
      exact ⟨J2, rfl, fun _ => ⟨b2, b3⟩, fun z => absurd ⟨c0, by omega⟩ z⟩
  · rw [if_pos c0, a1]
    exact ⟨J1, rfl, fun z => absurd z.1 c0, fun _ => ⟨a2, a3⟩⟩
theorem m_hisStep {v : Nat → Int} (hv : rv_ok v) {J : am_J} (e66 : J 66 = v) (e15 : J 65 15 = 0) {s : Int × Int × Int × Int × Int × Int × Int} (hs : hmS J = s) (ho : skO s) (hu : s.1 < 8 * v 0) (ht : s.2.2.2.1 < 300) (hbg : bgO (J 65 34) (J 65 35)) (hz : J 65 36 = -4 ∨ (0 ≤ J 65 36 ∧ J 65 36 ≤ 300)) {m e : Int} (hm : 0 ≤ m ∧ m ≤ 20) (he : e = 0 ∨ e = 1) : ∃ J', f_UpRiverModel_hisStep m e J = some J' ∧ hmS J' = skN v m e s ∧ metW (v 0) s.1 s.2.1 (J 65 34) (J 65 35) s.2.2.2.1 (skN v m e s).2.2.2.1 (J 65 36) (J 65 37) (J' 65 36) (J' 65 37) := by
  have ho' := ho
  obtain ⟨h1, h2, h3, h4, h5, h6, h7, h8⟩ := ho'
  have hv0 := hv.1.1
  have hv2 := hv.1.2.2.1
  have hv5 := hv.1.2.2.2.2.2.1
  have c27 : J 65 27 = s.1 := by rw [← hs]; rfl
  have c28 : J 65 28 = s.2.1 := by rw [← hs]; rfl
  have c29 : J 65 29 = s.2.2.1 := by rw [← hs]; rfl
  have c30 : J 65 30 = s.2.2.2.1 := by rw [← hs]; rfl
  have c33 : J 65 33 = s.2.2.2.2.2.2 := by rw [← hs]; rfl
  have turn : skT v m e s.1 s.2.1 s.2.2.1 s.2.2.2.1 s.2.2.2.2.2.2 → rAf v 0 (s.1 / 8) s.2.1 s.2.2.2.1 → ∃ J', f_UpRiverModel_hisStep_L145 J = some J' ∧ hmS J' = skN v m e s ∧ metW (v 0) s.1 s.2.1 (J 65 34) (J 65 35) s.2.2.2.1 (skN v m e s).2.2.2.1 (J 65 36) (J 65 37) (J' 65 36) (J' 65 37) := by
    intro hT af
    obtain ⟨J1, s1, s2⟩ := m_turns (J := J) (by rw [e66]; exact hv) (f := s.1) (l := s.2.1) (b := s.2.2.1) (t := s.2.2.2.1) h1.1 (by rw [e66]; exact hu) h2.1 h2.2 (by rw [e15]; omega)
    rw [e66, e15] at s1 s2
    have fr : ∀ j, am_nw [(65, some 16), (65, some 17), (65, some 18), (65, some 19)] 65 j = true → J1 65 j = J 65 j := fun j hj => frJ_UpRiverModel_turns s1 hj
    have hs1 : hmS J1 = s := by
      rw [← hs]
      unfold hmS
      rw [fr 27 rfl, fr 28 rfl, fr 29 rfl, fr 30 rfl, fr 31 rfl, fr 32 rfl, fr 33 rfl]
    obtain ⟨J2, a1, a2, a3⟩ := m_hisMove hv (J := J1) (by rw [← e66]; funext j; exact frJ_UpRiverModel_turns s1 rfl) hs1 ho hu (by rw [fr 34 rfl, fr 35 rfl]; exact hbg) (by rw [fr 36 rfl]; exact hz) (p := tOk v 0 s.1 s.2.1 s.2.2.2.1) s2 (by omega) (by omega)
    rw [fr 34 rfl, fr 35 rfl, fr 36 rfl, fr 37 rfl] at a2 a3
    unfold f_UpRiverModel_hisStep_L145
    rw [c27, c28, c29, c30, s1]
    simp only [Option.bind_some]
    rw [a1]
    refine ⟨J2, rfl, ?_⟩
    unfold skN
    rw [if_pos hT]
    by_cases c0 : skA v s.1 s.2.1 s.2.2.2.1
    · rw [if_pos c0]
      obtain ⟨b1, b2⟩ := a2 ⟨c0.2.2, c0.1⟩
      have hne : ¬ (1 - s.2.2.1 = s.2.2.1) := by omega
      rw [if_neg hne, if_neg hne, if_neg hne] at b1
      exact ⟨b1, b2⟩
    · rw [if_neg c0]
      exact a3 (fun z => c0 ⟨z.2, af, z.1⟩)
  have sail : ¬ skT v m e s.1 s.2.1 s.2.2.1 s.2.2.2.1 s.2.2.2.2.2.2 → rAf v 0 (s.1 / 8) s.2.1 s.2.2.2.1 → ∃ J', ((f_UpRiverModel_sails (J 65 27) (J 65 28) (J 65 29) (J 65 30) J).bind fun q2485 => (f_UpRiverModel_hisMove q2485.1 q2485.2).bind fun q2487 => some q2487) = some J' ∧ hmS J' = skN v m e s ∧ metW (v 0) s.1 s.2.1 (J 65 34) (J 65 35) s.2.2.2.1 (skN v m e s).2.2.2.1 (J 65 36) (J 65 37) (J' 65 36) (J' 65 37) := by
    intro hT af
    obtain ⟨J1, s1, s2⟩ := m_sails (J := J) (by rw [e66]; exact hv) (f := s.1) (l := s.2.1) (b := s.2.2.1) (t := s.2.2.2.1) h1.1 (by rw [e66]; exact hu) h2.1 h2.2 h3 (by rw [e15]; omega)
    rw [e66, e15] at s1 s2
    have fr : ∀ j, am_nw [(65, some 16), (65, some 17), (65, some 18), (65, some 19)] 65 j = true → J1 65 j = J 65 j := fun j hj => frJ_UpRiverModel_sails s1 hj
    have hs1 : hmS J1 = s := by
      rw [← hs]
      unfold hmS
      rw [fr 27 rfl, fr 28 rfl, fr 29 rfl, fr 30 rfl, fr 31 rfl, fr 32 rfl, fr 33 rfl]
    obtain ⟨J2, a1, a2, a3⟩ := m_hisMove hv (J := J1) (by rw [← e66]; funext j; exact frJ_UpRiverModel_sails s1 rfl) hs1 ho hu (by rw [fr 34 rfl, fr 35 rfl]; exact hbg) (by rw [fr 36 rfl]; exact hz) (p := sOk v 0 s.1 s.2.1 s.2.2.1 s.2.2.2.1) s2 (by omega) (by omega)
    rw [fr 34 rfl, fr 35 rfl, fr 36 rfl, fr 37 rfl] at a2 a3
    rw [c27, c28, c29, c30, s1]
    simp only [Option.bind_some]
    rw [a1]
    refine ⟨J2, rfl, ?_⟩
    unfold skN
    rw [if_neg hT]
    by_cases c0 : skB v s.1 s.2.1 s.2.2.1 s.2.2.2.1
    · rw [if_pos c0]
      obtain ⟨b1, b2⟩ := a2 ⟨c0.2, by omega⟩
      rw [if_pos (show s.2.2.1 = s.2.2.1 from rfl), if_pos (show s.2.2.1 = s.2.2.1 from rfl), if_pos (show s.2.2.1 = s.2.2.1 from rfl)] at b1
      exact ⟨b1, b2⟩
    · rw [if_neg c0]
      exact a3 (fun z => c0 ⟨af, z.1⟩)
  unfold f_UpRiverModel_hisStep
  rw [if_pos (show am_i32 (J 65 27) by omega), am_dv_pos (by omega), m_isAfloat (J := J) (by rw [e66]; exact hv) (by omega) (by omega) (by omega) (by rw [e15]; omega), e66, e15, c27, c28, c29, c30]
  simp only [Option.bind_some, fl_32, if_true, fl_0]
  by_cases af : rAf v 0 (s.1 / 8) s.2.1 s.2.2.2.1
  · rw [if_neg (show ¬ ¬ rAf v 0 (s.1 / 8) s.2.1 s.2.2.2.1 from fun z => z af), if_pos (show am_i32 s.2.2.1 by omega)]
    obtain ⟨ah, hah⟩ : ∃ ah, (if s.2.2.1 = 0 then s.2.1 + 1 else s.2.1 - 1) = ah := ⟨_, rfl⟩
    have bah : -1 ≤ ah ∧ ah ≤ 9 := by rw [← hah]; split <;> omega
    have skE : skT v m e s.1 s.2.1 s.2.2.1 s.2.2.2.1 s.2.2.2.2.2.2 ↔ (¬ rOp v (s.1 / 8) ah ∨ rWt v 0 (s.1 / 8) ah s.2.2.2.1 < v 2 + m) ∨ (e = 1 ∧ s.2.2.2.2.2.2 ≠ 0 ∧ rWy v (s.1 / 8) s.2.2.1 < rWy v (s.1 / 8) (1 - s.2.2.1)) := by
      rw [← hah]
    have w1 := rWy_bd hv (show 0 ≤ s.1 / 8 by omega) (show s.1 / 8 < 8 by omega) s.2.2.1
    have w2 := rWy_bd hv (show 0 ≤ s.1 / 8 by omega) (show s.1 / 8 < 8 by omega) (1 - s.2.2.1)
    have L133 : ∀ p q : Int, (p = 0 ∨ p = 1) → (q = 0 ∨ q = 1) → (skT v m e s.1 s.2.1 s.2.2.1 s.2.2.2.1 s.2.2.2.2.2.2 ↔ p = 1 ∨ q = 1) → ∃ J', f_UpRiverModel_hisStep_L133 p q J = some J' ∧ hmS J' = skN v m e s ∧ metW (v 0) s.1 s.2.1 (J 65 34) (J 65 35) s.2.2.2.1 (skN v m e s).2.2.2.1 (J 65 36) (J 65 37) (J' 65 36) (J' 65 37) := by
      intro p q hp hq hT
      unfold f_UpRiverModel_hisStep_L133
      rw [if_pos (show am_i32 p by omega)]
      by_cases c0 : p = 0
      · rw [if_pos c0, if_pos (show am_i32 q by omega)]
        by_cases c1 : q = 0
        · rw [if_pos c1]
          exact sail (fun z => by have := hT.mp z; omega) af
        · rw [if_neg c1]
          exact turn (hT.mpr (Or.inr (by omega))) af
      · rw [if_neg c0]
        exact turn (hT.mpr (Or.inl (by omega))) af
    have L91 : ∀ p : Int, (p = 0 ∨ p = 1) → ((¬ rOp v (s.1 / 8) ah ∨ rWt v 0 (s.1 / 8) ah s.2.2.2.1 < v 2 + m) ↔ p = 1) → ∃ J', f_UpRiverModel_hisStep_L91 e (s.1 / 8) p J = some J' ∧ hmS J' = skN v m e s ∧ metW (v 0) s.1 s.2.1 (J 65 34) (J 65 35) s.2.2.2.1 (skN v m e s).2.2.2.1 (J 65 36) (J 65 37) (J' 65 36) (J' 65 37) := by
      intro p hp hP
      unfold f_UpRiverModel_hisStep_L91
      rw [if_pos (show am_i32 e by omega)]
      by_cases c0 : e = 1
      · rw [if_pos c0, c33, if_pos (show am_i32 s.2.2.2.2.2.2 by omega)]
        by_cases c1 : s.2.2.2.2.2.2 = 0
        · rw [if_pos c1]
          exact L133 p 0 hp (Or.inl rfl) (by rw [skE, hP]; exact or_congr Iff.rfl ⟨fun z => absurd c1 z.2.1, fun z => absurd z (by decide)⟩)
        · rw [if_neg c1, c29, m_wayOf (J := J) (by rw [e66]; exact hv) (by omega) (by omega) (by omega), m_wayOf (J := J) (by rw [e66]; exact hv) (by omega) (by omega) (by omega), e66]
          simp only [Option.bind_some]
          rw [if_pos (show am_i32 (rWy v (s.1 / 8) s.2.2.1) by omega), if_pos (show am_i32 (rWy v (s.1 / 8) (1 - s.2.2.1)) by omega)]
          by_cases c2 : rWy v (s.1 / 8) s.2.2.1 < rWy v (s.1 / 8) (1 - s.2.2.1)
          · rw [if_pos c2]
            exact L133 p 1 hp (Or.inr rfl) (by rw [skE, hP]; exact or_congr Iff.rfl ⟨fun z => rfl, fun z => ⟨c0, c1, c2⟩⟩)
          · rw [if_neg c2]
            exact L133 p 0 hp (Or.inl rfl) (by rw [skE, hP]; exact or_congr Iff.rfl ⟨fun z => absurd z.2.2 c2, fun z => absurd z (by decide)⟩)
      · rw [if_neg c0]
        exact L133 p 0 hp (Or.inl rfl) (by rw [skE, hP]; exact or_congr Iff.rfl ⟨fun z => absurd z.1 c0, fun z => absurd z (by decide)⟩)
    have L52 : ∃ J', f_UpRiverModel_hisStep_L52 m e (s.1 / 8) ah J = some J' ∧ hmS J' = skN v m e s ∧ metW (v 0) s.1 s.2.1 (J 65 34) (J 65 35) s.2.2.2.1 (skN v m e s).2.2.2.1 (J 65 36) (J 65 37) (J' 65 36) (J' 65 37) := by
      unfold f_UpRiverModel_hisStep_L52
      rw [m_isOpen (J := J) (by rw [e66]; exact hv) (by omega) (by omega) (by omega), e66]
      simp only [Option.bind_some, fl_32, if_true, fl_0]
      by_cases c0 : rOp v (s.1 / 8) ah
      · have h9 := rv_r hv (show 0 ≤ s.1 / 8 by omega) (show s.1 / 8 < 8 by omega)
        have l0 : 0 ≤ ah := by have := c0.1; omega
        have l8 : ah ≤ 8 := by have := c0.2; omega
        have hw := rWt_bd hv 0 s.2.2.2.1 (show 0 ≤ s.1 / 8 by omega) (show s.1 / 8 < 8 by omega) l0 l8
        rw [if_neg (show ¬ ¬ rOp v (s.1 / 8) ah from fun z => z c0), m_waterAt (J := J) (by rw [e66]; exact hv) (by omega) (by omega) l0 l8 (by rw [e15]; omega), e66, e15, c30]
        simp only [Option.bind_some]
        rw [if_pos (show am_i32 (v 2 + m) by omega), if_pos (show am_i32 (rWt v 0 (s.1 / 8) ah s.2.2.2.1) by omega)]
        by_cases c1 : rWt v 0 (s.1 / 8) ah s.2.2.2.1 < v 2 + m
        · rw [if_pos c1]
          exact L91 1 (Or.inr rfl) ⟨fun _ => rfl, fun _ => Or.inr c1⟩
        · rw [if_neg c1]
          exact L91 0 (Or.inl rfl) ⟨fun z => by rcases z with z | z; exact absurd c0 z; exact absurd z c1, fun z => absurd z (by decide)⟩
      · rw [if_pos c0]
        exact L91 1 (Or.inr rfl) ⟨fun _ => rfl, fun _ => Or.inl c0⟩
    by_cases c0 : s.2.2.1 = 0
    · rw [if_pos c0]
      rw [if_pos c0] at hah
      rw [hah]
      exact L52
    · rw [if_neg c0]
      rw [if_neg c0] at hah
      rw [hah]
      exact L52
  · rw [if_pos af]
    unfold f_UpRiverModel_hisMove
    rw [if_pos (show am_i32 0 by decide), if_pos (show (0 : Int) = 0 from rfl)]
    obtain ⟨J1, a1, a2, a3⟩ := m_move_stay hv e66 hs ho hu hbg hz
    have eN : skN v m e s = (s.1, s.2.1, s.2.2.1, s.2.2.2.1 + 1, s.2.2.2.2.1, s.2.2.2.2.2.1, s.2.2.2.2.2.2) := by
      unfold skN
      rw [if_neg (show ¬ skA v s.1 s.2.1 s.2.2.2.1 from fun z => af z.2.1), if_neg (show ¬ skB v s.1 s.2.1 s.2.2.1 s.2.2.2.1 from fun z => af z.1)]
      split <;> rfl
    rw [a1, eN]
    exact ⟨J1, rfl, a2, a3⟩
