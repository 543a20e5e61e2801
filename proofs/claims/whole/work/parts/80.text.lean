/-! the text -/
def kpT (J J2 : am_J) : Prop := ∀ a, a ≠ 65 → a ≠ 67 → a ≠ 70 → J2 a = J a
/-- what comes of a text: by the class s, J', K'; by the reference r, J2' -/
def TX (b : Bool) (J2 : am_J) (s r : Int) (J' : am_J) (K' : am_K) (J2' : am_J) : Prop :=
  (s = 0 ∧ r = -10 - J' 1 11 ∧ J' 1 10 = J2' 65 13 ∧ (0 ≤ J' 1 11 ∧ J' 1 11 ≤ 400) ∧ (1 ≤ J' 1 10 ∧ J' 1 10 ≤ 5) ∧ (0 ≤ J2' 65 12 ∧ J2' 65 12 ≤ 999) ∧ J2' 65 8 = 0 ∧ kpT J2 J2')
  ∨ (s = 1 ∧ r = J' 1 8 ∧ (0 ≤ r ∧ r ≤ 400) ∧ J' 1 10 = 0 ∧ ∃ J3, f_UpRiverModel_keepDraft (am_up J3 65 8 0) = some J2' ∧ J3 65 13 = 0 ∧ (0 ≤ J3 65 12 ∧ J3 65 12 ≤ 999) ∧ kpT J2 J3 ∧ LB b J' J3 ∧ J' 1 9 < J3 67 0 ∧ rK (am_dr b) K' (J3 67))
theorem m_text_f {m : Int} {J2 : am_J} (h : 1 ≤ J2 65 13 ∧ J2 65 13 ≤ 5) (h6 : 0 ≤ J2 65 6 ∧ J2 65 6 ≤ 7) (h67 : am_i32 (J2 67 0)) : f_UpRiverModel_text_L44 m J2 = some (-10 - J2 65 14, am_up J2 65 8 0) := by
  have L63 : ∀ s, (s = 0 ∨ s = 1) → f_UpRiverModel_text_L63 m s J2 = some (-10 - J2 65 14, am_up J2 65 8 0) := by
    intro s hs
    unfold f_UpRiverModel_text_L63
    rw [m_needs_f (by omega) (by omega) (by omega)]
    simp only [Option.bind_some]
    rw [if_pos (show am_i32 (J2 65 13) by omega), if_pos (show 0 < J2 65 13 by omega)]
  unfold f_UpRiverModel_text_L44
  rw [if_pos h67, if_pos (show am_i32 (J2 65 6) by omega), L63 1 (Or.inr rfl), L63 0 (Or.inl rfl)]
  split <;> rfl
/-- one round: to the end, or a line on -/
theorem txt_step {N : Nat} {T : Nat → Int} (hT : tpO N T) {b : Bool} {K : am_K} {n n' : Nat} {i m : Int} {p : Nat} {J J2 : am_J} (i0 : 0 ≤ i) (ip : i ≤ p) (hm1 : 0 ≤ m ∧ m ≤ p) (hP : PRE N T p J J2) (hL : LB b J J2) (e8 : J 1 8 = m) : (∃ s J' K' r J2', f_Reader_readText_L13 b (n + 1) i J K = some (s, J', K') ∧ f_UpRiverModel_text_L20 (n' + 2) m J2 = some (r, J2') ∧ TX b J2 s r J' K' J2') ∨ (∃ J' J2' p', p < p' ∧ f_Reader_readText_L13 b (n + 1) i J K = f_Reader_readText_L13 b n (i + 1) J' K ∧ f_UpRiverModel_text_L20 (n' + 2) m J2 = f_UpRiverModel_text_L20 (n' + 1) (m + 1) J2' ∧ PRE N T p' J' J2' ∧ LB b J' J2' ∧ J' 1 8 = m + 1 ∧ kpT J2 J2') := by
  have h4 := hT.1
  have hP' := hP
  obtain ⟨hp, e4, hK, hC, hM, e10⟩ := hP'
  have hb := tke_bd (T := T) hp
  have hq := tkq_bd (T := T) hp
  have kc4 := tkk_c N T p
  have h70 := hL.1.1.1.1
  have h6 := HT_6 hL.2.2.2
  have h19 := hL.2.2.2.1
  have hk' := hK
  obtain ⟨m0, m1⟩ := hk'
  obtain ⟨s, J1, a1, a2⟩ := c_tok hT hC hp e4
  have base : f_Reader_readText_L13 b (n + 1) i J K = (if am_i32 s then (if s = 0 then (some (0, J1, K)) else (if am_i32 (J1 1 5) then (if (J1 1 5) = 4 then (f_Reader_readText_L69 b J1 K) else ((f_Reader_readLine b J1).bind fun q358 => if am_i32 q358.1 then (if q358.1 = 0 then (some (0, q358.2, K)) else (f_Reader_readText_L13 b n (i + 1) (am_up q358.2 1 8 ((q358.2 1 8) + 1)) K)) else none)) else none)) else none) := by
    rw [f_Reader_readText_L13.eq_2, hC.1, if_pos (show am_i32 (N : Int) by omega), if_pos (show am_i32 i by omega), if_neg (show ¬ (N : Int) < i by omega), a1]
    rfl
  have fr1 : ∀ a, a ≠ 1 → J1 a = J a := fun a ha => by funext j; exact frJ_Reader_nextToken a1 (nw_not2 1 1 rfl ha ha)
  have j18 : J1 1 8 = m := by rw [← e8]; exact frJ_Reader_nextToken a1 rfl
  have j19 : J1 1 9 = J 1 9 := frJ_Reader_nextToken a1 rfl
  rcases a2 with ⟨b1, rfl, b3, b4, b5, b6, b10⟩ | ⟨b1, rfl, b3, b4⟩
  · rw [if_pos (show am_i32 1 by decide), if_neg (show ¬ (1 : Int) = 0 by decide)] at base
    obtain ⟨n1, n2, n3, n4, n5, n6⟩ : tkk N T p ≠ 9 ∧ J2 65 13 = 0 ∧ J2 65 11 = tkk N T p ∧ J2 65 10 = (tkq N T p : Nat) ∧ J2 65 9 = (tke N T p : Nat) ∧ (tkk N T p = 2 → J2 65 12 = tkw N T p) := by
      rcases m1 with z | z
      · exact z
      · exact absurd z.1 b1
    have hC1 : tC N T J1 := tC_row hC (fr1 2 (by decide)) (fr1 3 (by decide))
    have od := dr_o b
    have hL1 : LB b J1 J2 := LB_of hL ⟨hL.1.1, rq_fr hL.1.2 fun ii h1 h9 j => by rw [fr1 _ (by omega)]⟩ (fr1 4 (by decide)) rfl rfl j19 rfl (fun _ _ => rfl) (fun _ _ => rfl)
    have mb : f_UpRiverModel_text_L20 (n' + 2) m J2 = (if (tkk N T p) = 0 then (f_UpRiverModel_text_L44 m J2) else ((f_UpRiverModel_readLine J2).bind fun q1882 => f_UpRiverModel_text_L20 (n' + 1) (m + 1) q1882)) := by
      rw [f_UpRiverModel_text_L20.eq_2, n2, if_pos (show am_i32 0 by decide), if_pos (show (0 : Int) = 0 from rfl), n3, if_pos (show am_i32 (tkk N T p) by omega)]
    by_cases c0 : tkk N T p = 0
    · left
      have hN := hb.2.2.2 c0
      rw [if_pos c0] at b3 mb
      rw [b3, if_pos (show am_i32 4 by decide), if_pos (show (4 : Int) = 4 from rfl)] at base
      rw [base, mb]
      have d0 : J1 (am_dr b + 1) 0 = J2 67 0 := hL1.1.2.1 0 (by omega)
      have d6 := hL.2.2.2.2.1
      unfold f_Reader_readText_L69 f_UpRiverModel_text_L44 f_UpRiverModel_text_L63
      rw [d0, j19, if_pos (show am_i32 (J2 67 0) by omega), if_pos (show am_i32 (J 1 9) by omega), if_pos (show am_i32 (J2 67 0) by omega), if_pos (show am_i32 (J2 65 6) by omega), m_needs n2 (Or.inr rfl), m_needs n2 (Or.inl rfl), if_neg (show ¬ (1 : Int) = 0 by decide), if_pos (show (0 : Int) = 0 from rfl)]
      simp only [Option.bind_some]
      by_cases c1 : J 1 9 < J2 67 0
      · obtain ⟨K', k1, k2⟩ := c_settle hL1.1.1 hL1.1.2 K
        obtain ⟨J4, w1, -⟩ := m_keepDraft (J := am_up J2 65 8 0)
        have c6 : J2 65 6 < J2 67 0 := by rw [d6]; split <;> omega
        rw [if_pos c1, if_pos c6, k1, n2, if_pos (show am_i32 0 by decide), if_neg (show ¬ (0 : Int) < 0 by decide), w1]
        exact ⟨1, J1, K', m, J4, rfl, rfl, Or.inr ⟨rfl, j18.symm, by omega, by rw [b10, e10], J2, w1, n2, m0, fun _ _ _ _ => rfl, hL1, by rw [j19]; exact c1, k2⟩⟩
      · have c6 : ¬ J2 65 6 < J2 67 0 := by rw [d6]; split <;> omega
        have z13 : (am_up (am_up J2 65 13 5) 65 14 (J2 65 10)) 65 13 = 5 := rfl
        rw [if_neg c1, if_neg c6, z13, if_pos (show am_i32 5 by decide), if_pos (show (0 : Int) < 5 by decide)]
        refine ⟨0, am_up (am_up J1 1 10 5) 1 11 (J1 2 1), K, _, _, rfl, rfl, Or.inl ⟨rfl, ?_, rfl, ?_, (show (1 : Int) ≤ 5 ∧ (5 : Int) ≤ 5 by decide), ?_, rfl, fun a y1 y2 y3 => ?_⟩⟩
        · rw [up_at, up_at, n4, hC1.1, hN.1]
        · rw [up_at, hC1.1]; omega
        · rw [up_ne (by decide), up_ne (by decide), up_ne (by decide)]; exact m0
        · rw [up_row y1, up_row y1, up_row y1]
    · rw [if_neg c0] at b3 mb
      rw [b3, if_pos (show am_i32 (tkk N T p) by omega), if_neg (show ¬ tkk N T p = 4 by omega)] at base
      obtain ⟨s2, J', J2', x1, x2, x3⟩ := rdLine hT (b := b) hp hC1 hM hK b1 c0 b3 b4 b5 (by rw [b10, e10]) hL1
      have kp : kpT J2 J2' := by
        intro a y1 y2 y3
        funext j
        exact frJ_UpRiverModel_readLine x2 (by
          refine List.all_eq_true.mpr fun q hq => ?_
          have : q.1 = 65 ∨ q.1 = 67 ∨ q.1 = 70 := by
            have h3 : (([(65, some 5), (65, some 6), (65, some 9), (65, some 10), (65, some 11), (65, some 12), (65, some 13), (65, some 14), (67, none), (70, none)] : List (Nat × Option Nat)).all fun q => Nat.beq q.1 65 || (Nat.beq q.1 67 || Nat.beq q.1 70)) = true := rfl
            have h4 := List.all_eq_true.mp h3 q hq
            rw [Bool.or_eq_true, Bool.or_eq_true] at h4
            rcases h4 with h4 | h4 | h4
            · exact Or.inl (Nat.eq_of_beq_eq_true h4)
            · exact Or.inr (Or.inl (Nat.eq_of_beq_eq_true h4))
            · exact Or.inr (Or.inr (Nat.eq_of_beq_eq_true h4))
          have e : Nat.beq q.1 a = false := by
            cases e : Nat.beq q.1 a with
            | false => rfl
            | true => have := Nat.eq_of_beq_eq_true e; omega
          rw [e]
          rfl)
      rw [x1] at base
      rw [x2] at mb
      simp only [Option.bind_some] at base mb
      rcases x3 with ⟨rfl, p', y1, y2, y3⟩ | ⟨rfl, y1, y2, y3, y4⟩
      · right
        rw [if_pos (show am_i32 1 by decide), if_neg (show ¬ (1 : Int) = 0 by decide)] at base
        have k8 : J' 1 8 = J1 1 8 := frJ_Reader_readLine x1 (by cases b <;> rfl)
        refine ⟨am_up J' 1 8 (J' 1 8 + 1), J2', p', y1, base, mb, ?_, ?_, by rw [up_at, k8, j18], kp⟩
        · exact PRE_of y2 y2.1 (by rw [up_ne (by decide)]; exact y2.2.1) y2.2.2.1 (up_ne (by decide)) (up_row (by decide)) (up_row (by decide)) rfl rfl
        · exact LB_of y3 ⟨y3.1.1, rq_fr y3.1.2 fun ii h1 h9 j => by rw [up_row (by omega)]⟩ (up_row (by decide)) rfl rfl (up_ne (by decide)) rfl (fun _ _ => rfl) (fun _ _ => rfl)
      · left
        rw [if_pos (show am_i32 0 by decide), if_pos (show (0 : Int) = 0 from rfl)] at base
        have mt : f_UpRiverModel_text_L20 (n' + 1) (m + 1) J2' = some (-10 - J2' 65 14, am_up J2' 65 8 0) := by
          rw [f_UpRiverModel_text_L20.eq_2, if_pos (show am_i32 (J2' 65 13) by have := y1.2.2.1; omega), if_neg (show ¬ J2' 65 13 = 0 by have := y1.2.2.1; omega)]
          exact m_text_f y1.2.2.1 y3 y4
        refine ⟨0, J', K, _, _, base, mb.trans mt, Or.inl ⟨rfl, by rw [y1.2.1], ?_, by rw [y1.2.1]; exact y1.2.2.2, by rw [y1.1]; exact y1.2.2.1, ?_, up_at _ _ _ _, fun a z1 z2 z3 => by rw [up_row z1]; exact kp a z1 z2 z3⟩⟩
        · rw [up_ne (by decide)]; exact y1.1
        · rw [up_ne (by decide)]; exact y2
  · left
    obtain ⟨n1, n2, n3⟩ : tkk N T p = 9 ∧ J2 65 13 = 1 ∧ J2 65 14 = (tkq N T p : Nat) := by
      rcases m1 with z | z
      · exact absurd b1 z.1
      · exact z
    rw [if_pos (show am_i32 0 by decide), if_pos (show (0 : Int) = 0 from rfl)] at base
    have mt : f_UpRiverModel_text_L20 (n' + 2) m J2 = some (-10 - J2 65 14, am_up J2 65 8 0) := by
      rw [f_UpRiverModel_text_L20.eq_2, n2, if_pos (show am_i32 1 by decide), if_neg (show ¬ (1 : Int) = 0 by decide)]
      exact m_text_f (by omega) h6 (by omega)
    refine ⟨0, J1, K, _, _, base, mt, Or.inl ⟨rfl, by rw [n3, b4], ?_, by rw [b4]; omega, by rw [b3]; decide, ?_, up_at _ _ _ _, fun a z1 z2 z3 => up_row z1⟩⟩
    · rw [up_ne (by decide), b3, n2]
    · rw [up_ne (by decide)]; exact m0
theorem TX_kp {b : Bool} {J2 J3 : am_J} {s r : Int} {J' : am_J} {K' : am_K} {J2' : am_J} (h : kpT J2 J3) (t : TX b J3 s r J' K' J2') : TX b J2 s r J' K' J2' := by
  rcases t with ⟨t1, t2, t3, t4, t5, t6, t7, t8⟩ | ⟨t1, t2, tr, t3, J4, t4, t5, t6, t7, t8⟩
  · exact Or.inl ⟨t1, t2, t3, t4, t5, t6, t7, fun a z1 z2 z3 => by rw [t8 a z1 z2 z3, h a z1 z2 z3]⟩
  · exact Or.inr ⟨t1, t2, tr, t3, J4, t4, t5, t6, fun a z1 z2 z3 => by rw [t7 a z1 z2 z3, h a z1 z2 z3], t8⟩
theorem txt_loop {N : Nat} {T : Nat → Int} (hT : tpO N T) {b : Bool} {K : am_K} : ∀ (d n n' : Nat) (i m : Int) (p : Nat) (J J2 : am_J), d < n → d < n' → N - p ≤ d → 0 ≤ i → i ≤ p → 0 ≤ m ∧ m ≤ p → PRE N T p J J2 → LB b J J2 → J 1 8 = m → ∃ s J' K' r J2', f_Reader_readText_L13 b n i J K = some (s, J', K') ∧ f_UpRiverModel_text_L20 (n' + 1) m J2 = some (r, J2') ∧ TX b J2 s r J' K' J2' := by
  intro d
  induction d with
  | zero =>
    intro n n' i m p J J2 hn hn' hd i0 ip hm1 hP hL e8
    obtain ⟨n, rfl⟩ : ∃ m, n = m + 1 := ⟨n - 1, by omega⟩
    obtain ⟨n', rfl⟩ : ∃ m, n' = m + 1 := ⟨n' - 1, by omega⟩
    rcases txt_step hT (b := b) (K := K) (n := n) (n' := n') i0 ip hm1 hP hL e8 with h | ⟨J', J2', p', h1, -, -, h2, -⟩
    · exact h
    · have := h2.1
      have := hP.1
      omega
  | succ d ih =>
    intro n n' i m p J J2 hn hn' hd i0 ip hm1 hP hL e8
    obtain ⟨n, rfl⟩ : ∃ m, n = m + 1 := ⟨n - 1, by omega⟩
    obtain ⟨n', rfl⟩ : ∃ m, n' = m + 1 := ⟨n' - 1, by omega⟩
    rcases txt_step hT (b := b) (K := K) (n := n) (n' := n') i0 ip hm1 hP hL e8 with h | ⟨J', J2', p', h1, h2, h3, h4, h5, h6, h7⟩
    · exact h
    · obtain ⟨s, A, K', r, B, z1, z2, z3⟩ := ih n n' (i + 1) (m + 1) p' J' J2' (by omega) (by omega) (by have := h4.1; omega) (by omega) (by omega) (by omega) h4 h5 h6
      exact ⟨s, A, K', r, B, h2.trans z1, h3.trans z2, TX_kp h7 z3⟩
