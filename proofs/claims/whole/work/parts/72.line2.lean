theorem nw_not2 {W : List (Nat × Option Nat)} (c d : Nat) (h : W.all (fun q => Nat.beq q.1 c || Nat.beq q.1 d) = true) {a j : Nat} (h1 : a ≠ c) (h2 : a ≠ d) : am_nw W a j = true := by
  refine List.all_eq_true.mpr fun q hq => ?_
  have h3 := List.all_eq_true.mp h q hq
  have e : Nat.beq q.1 a = false := by
    cases e : Nat.beq q.1 a with
    | false => rfl
    | true =>
      have e2 := Nat.eq_of_beq_eq_true e
      rw [Bool.or_eq_true] at h3
      rcases h3 with h3 | h3
      · have := Nat.eq_of_beq_eq_true h3; omega
      · have := Nat.eq_of_beq_eq_true h3; omega
  rw [e]
  rfl
theorem L74_end {b : Bool} {n : Nat} {kc i cnt : Int} {J : am_J} (h0 : f_Reader_numbersOf kc = some cnt) (hc : 0 ≤ cnt ∧ cnt ≤ 12) (hi : cnt ≤ i ∧ i ≤ 100) : f_Reader_readLine_L74 b (n + 1) kc i J = clE b kc J := by
  rw [f_Reader_readLine_L74.eq_2, h0]
  simp only [Option.bind_some]
  rw [if_pos (show am_i32 cnt by omega), if_pos (show am_i32 i by omega), if_neg (show ¬ i < cnt by omega)]
  rfl
theorem L74_num {b : Bool} {n : Nat} {kc i cnt lo hi : Int} {J : am_J} (h0 : f_Reader_numbersOf kc = some cnt) (hc : cnt ≤ 12) (hi1 : 0 ≤ i ∧ i < cnt) (hl : f_Reader_leastOf J kc i = some lo) (hh : f_Reader_mostOf J kc i = some hi) {s : Int} {J' : am_J} (hr : f_Reader_readNumber lo hi J = some (s, J')) : (s = 0 → f_Reader_readLine_L74 b (n + 1) kc i J = some (0, J')) ∧ (s = 1 → ∀ mk s2 J'', f_Reader_markOf (am_up J' 5 i.toNat (J' 1 7)) kc i = some mk → f_Reader_mark mk (am_up J' 5 i.toNat (J' 1 7)) = some (s2, J'') → (s2 = 0 → f_Reader_readLine_L74 b (n + 1) kc i J = some (0, J'')) ∧ (s2 = 1 → f_Reader_readLine_L74 b (n + 1) kc i J = f_Reader_readLine_L74 b n kc (i + 1) J'')) := by
  have base : f_Reader_readLine_L74 b (n + 1) kc i J = (if am_i32 s then (if s = 0 then (some (0, J')) else (if 0 ≤ i ∧ i < 12 then ((f_Reader_markOf (am_up J' 5 i.toNat (J' 1 7)) kc i).bind fun q306 => (f_Reader_mark q306 (am_up J' 5 i.toNat (J' 1 7))).bind fun q308 => if am_i32 q308.1 then (if q308.1 = 0 then (some (0, q308.2)) else (f_Reader_readLine_L74 b n kc (i + 1) q308.2)) else none) else none)) else none) := by
    rw [f_Reader_readLine_L74.eq_2, h0]
    simp only [Option.bind_some]
    rw [if_pos (show am_i32 cnt by omega), if_pos (show am_i32 i by omega), if_pos (show i < cnt by omega), hl, hh]
    simp only [Option.bind_some]
    rw [hr]
    rfl
  refine ⟨fun e => ?_, fun e mk s2 J'' hm hk => ?_⟩
  · rw [base, e, if_pos (show am_i32 0 by decide), if_pos (show (0 : Int) = 0 from rfl)]
  · have b2 : f_Reader_readLine_L74 b (n + 1) kc i J = (if am_i32 s2 then (if s2 = 0 then (some (0, J'')) else (f_Reader_readLine_L74 b n kc (i + 1) J'')) else none) := by
      rw [base, e, if_pos (show am_i32 1 by decide), if_neg (show ¬ (1 : Int) = 0 by decide), if_pos (show 0 ≤ i ∧ i < 12 by omega), hm]
      simp only [Option.bind_some]
      rw [hk]
      rfl
    refine ⟨fun e2 => ?_, fun e2 => ?_⟩
    · rw [b2, e2, if_pos (show am_i32 0 by decide), if_pos (show (0 : Int) = 0 from rfl)]
    · rw [b2, e2, if_pos (show am_i32 1 by decide), if_neg (show ¬ (1 : Int) = 0 by decide)]
/-- what the class keeps in a number's step -/
def kpC (i : Nat) (w : Int) (J J' : am_J) : Prop := J' 5 i = w ∧ (∀ j, j ≠ i → J' 5 j = J 5 j) ∧ (∀ a, a ≠ 1 → a ≠ 4 → a ≠ 5 → J' a = J a) ∧ J' 1 9 = J 1 9
def kpM (J J' : am_J) : Prop := (∀ a, a ≠ 65 → a ≠ 70 → J' a = J a) ∧ J' 65 5 = J 65 5
theorem kpC_num {i : Nat} {lo hi s : Int} {J J' : am_J} (h : f_Reader_readNumber lo hi J = some (s, J')) : kpC i (J' 1 7) J (am_up J' 5 i (J' 1 7)) ∧ (am_up J' 5 i (J' 1 7)) 4 = J 4 := by
  refine ⟨⟨up_at _ _ _ _, fun j hj => ?_, fun a h1 h4 h5 => ?_, ?_⟩, ?_⟩
  · rw [up_ne hj]; exact frJ_Reader_readNumber h rfl
  · rw [up_row h5]; funext j; exact frJ_Reader_readNumber h (nw_not2 1 1 rfl h1 h1)
  · rw [up_row (by decide)]; exact frJ_Reader_readNumber h rfl
  · rw [up_row (by decide)]; funext j; exact frJ_Reader_readNumber h rfl
theorem PRE_of {N : Nat} {T : Nat → Int} {p p' : Nat} {J J2 J' J2' : am_J} (h : PRE N T p J J2) (hp : p' ≤ N) (e4 : J' 1 4 = (p' : Int)) (hK : tokM N T p' J2') (e10 : J' 1 10 = J 1 10) (c2 : J' 2 = J 2) (c3 : J' 3 = J 3) (m8 : J2' 65 8 = J2 65 8) (m71 : J2' 71 = J2 71) : PRE N T p' J' J2' := by
  obtain ⟨h1, h2, h3, h4, h5, h6⟩ := h
  exact ⟨hp, e4, hK, tC_row h4 c2 c3, tM_row h5 m8 m71, by rw [e10, h6]⟩
theorem lnN {N : Nat} {T : Nat → Int} (hT : tpO N T) {b : Bool} {n : Nat} {kc i cnt lo hi : Int} {p : Nat} {J J2 : am_J} (h : PRE N T p J J2) (h0 : f_Reader_numbersOf kc = some cnt) (hc : cnt ≤ 12) (hi1 : 0 ≤ i ∧ i < cnt) (hl : f_Reader_leastOf J kc i = some lo) (hh : f_Reader_mostOf J kc i = some hi) (hmk : ∀ A, f_Reader_markOf A kc i = some (-4)) (hlo : am_i32 lo) (hhi : am_i32 hi) : ∃ w J2', f_UpRiverModel_readNumber lo hi J2 = some (w, J2') ∧ (0 ≤ w ∧ w ≤ 999) ∧ kpM J2 J2' ∧ J2' 70 = J2 70 ∧ J2' 65 6 = J2 65 6 ∧ ((∃ J'' p', p < p' ∧ f_Reader_readLine_L74 b (n + 1) kc i J = f_Reader_readLine_L74 b n kc (i + 1) J'' ∧ PRE N T p' J'' J2' ∧ (lo ≤ w ∧ w ≤ hi) ∧ kpC i.toNat w J J'' ∧ J'' 4 = J 4) ∨ (∃ J', f_Reader_readLine_L74 b (n + 1) kc i J = some (0, J') ∧ flR J' J2' ∧ J2' 65 12 = J2 65 12)) := by
  have h' := h
  obtain ⟨hp, e4, hK, hC, hM, e10⟩ := h'
  obtain ⟨s, J', w, J2', a1, a2, a3, a4⟩ := stepN hT hC hM hp e4 hK hlo hhi
  have fm : kpM J2 J2' := ⟨fun a h1 h2 => by funext j; exact frJ_UpRiverModel_readNumber a2 (nw_not2 65 65 rfl h1 h1), frJ_UpRiverModel_readNumber a2 rfl⟩
  obtain ⟨l1, l2⟩ := L74_num (b := b) (n := n) h0 hc hi1 hl hh a1
  refine ⟨w, J2', a2, a3, fm, by funext j; exact frJ_UpRiverModel_readNumber a2 rfl, frJ_UpRiverModel_readNumber a2 rfl, ?_⟩
  rcases a4 with ⟨rfl, c2, c3, c4, c5, c6, c7, c8⟩ | ⟨rfl, c2, c3⟩
  · left
    obtain ⟨k1, k2⟩ := kpC_num (i := i.toNat) a1
    rw [c3] at k1 k2
    refine ⟨am_up J' 5 i.toNat w, tke N T p, c5, ?_, ?_, c2, k1, k2⟩
    · have := (l2 rfl (-4) 1 _ (hmk _) (mk0 _)).2 rfl
      rw [c3] at this
      exact this
    · exact PRE_of h c6 (by rw [up_row (by decide)]; exact c4) c7 (by rw [up_row (by decide)]; exact c8) (k1.2.2.1 2 (by decide) (by decide) (by decide)) (k1.2.2.1 3 (by decide) (by decide) (by decide)) (frJ_UpRiverModel_readNumber a2 rfl) (fm.1 71 (by decide) (by decide))
  · right
    exact ⟨J', l1 rfl, c2, c3⟩
theorem lnR {N : Nat} {T : Nat → Int} (hT : tpO N T) {b : Bool} {n : Nat} {kc cnt : Int} {p : Nat} {J J2 : am_J} (h : PRE N T p J J2) (hMR : MR J J2) (h6 : 0 ≤ J2 65 6 ∧ J2 65 6 ≤ 7) (h0 : f_Reader_numbersOf kc = some cnt) (hc : 1 ≤ cnt ∧ cnt ≤ 12) (hl : f_Reader_leastOf J kc 0 = some 0) (hh : f_Reader_mostOf J kc 0 = some 7) {cm rows : Nat} (hmk : ∀ A : am_J, f_Reader_markOf A kc 0 = some ((cm : Int) + A 5 0)) (hg : ∀ r, r < 8 → gm (cm + r) (rows + r)) : ∃ r J2', f_UpRiverModel_readReach 1 (rows : Int) J2 = some (r, J2') ∧ (0 ≤ r ∧ r ≤ 7) ∧ kpM J2 J2' ∧ (0 ≤ J2' 65 6 ∧ J2' 65 6 ≤ 7) ∧ ((∃ J'' p', p < p' ∧ f_Reader_readLine_L74 b (n + 1) kc 0 J = f_Reader_readLine_L74 b n kc (0 + 1) J'' ∧ PRE N T p' J'' J2' ∧ kpC 0 r J J'' ∧ J'' 4 = (am_up J 4 (cm + r.toNat) 1) 4 ∧ J2' 70 = (am_up J2 70 (rows + r.toNat) 1) 70 ∧ J2' 65 6 = (if J2 65 6 < r then r else J2 65 6)) ∨ (∃ J', f_Reader_readLine_L74 b (n + 1) kc 0 J = some (0, J') ∧ flR J' J2' ∧ J2' 65 12 = J2 65 12)) := by
  have h' := h
  obtain ⟨hp, e4, hK, hC, hM, e10⟩ := h'
  have h4 := hT.1
  have h12 := hK.1
  have hb := tke_bd (T := T) hp
  have hq := tkq_bd (T := T) hp
  obtain ⟨s, J', J2a, a1, a2, a3⟩ := num hT hC hp e4 hK (lo := 0) (hi := 7) (by decide) (by decide)
  obtain ⟨l1, l2⟩ := L74_num (b := b) (n := n) h0 hc.2 (show 0 ≤ (0 : Int) ∧ 0 < cnt by omega) hl hh a1
  have frR : ∀ r J2', f_UpRiverModel_readReach 1 (rows : Int) J2 = some (r, J2') → kpM J2 J2' := fun r J2' u => ⟨fun a x1 x2 => by funext j; exact frJ_UpRiverModel_readReach u (nw_not2 65 70 rfl x1 x2), frJ_UpRiverModel_readReach u rfl⟩
  rcases a3 with ⟨rfl, rfl, b3, b4, b5, b6, b7, b8, b9, b10, b11, b12⟩ | ⟨rfl, b2, b3⟩
  · -- the number stands: its mark
    obtain ⟨w, hw⟩ : ∃ w : Nat, tkw N T p = (w : Int) := ⟨(tkw N T p).toNat, by omega⟩
    have hw8 : w < 8 := by omega
    have g := hg w hw8
    have gb := gm_bd g
    have hm6 : (0 ≤ (if J2a 65 6 < (w : Int) then (w : Int) else J2a 65 6) ∧ (if J2a 65 6 < (w : Int) then (w : Int) else J2a 65 6) ≤ 7) := by split <;> omega
    obtain ⟨k1, k2⟩ := kpC_num (i := 0) a1
    rw [b6, hw] at k1 k2
    generalize hA : am_up J' 5 0 (w : Int) = A at *
    have A4 : A 4 = J 4 := k2
    have A6 : A 1 6 = (tkq N T p : Nat) := by rw [← hA, up_row (by decide)]; exact b5
    obtain ⟨s2, J'', J2b, c1, c2, c3⟩ := mk1 (J := A) (J2 := am_up J2a 65 6 (if J2a 65 6 < (w : Int) then (w : Int) else J2a 65 6)) (c := cm + w) (m := rows + w) gb.1.2 gb.2 (by rw [A4, up_row (by decide)]; exact (hMR _ _ g).1) (by rw [A4]; exact (hMR _ _ g).2) (by rw [A6, up_ne (by decide), b11]) (by rw [up_ne (by decide)]; exact b8) (by rw [up_ne (by decide), b11]; omega)
    have rr : f_UpRiverModel_readReach 1 (rows : Int) J2a = (f_UpRiverModel_next J2b).bind fun q => some ((w : Int), q) := by
      unfold f_UpRiverModel_readReach f_UpRiverModel_readReach_L22 f_UpRiverModel_readReach_L40 f_UpRiverModel_readReach_L54
      rw [a2]
      simp only [Option.bind_some]
      rw [b8, if_pos (show am_i32 0 by decide), if_pos (show (0 : Int) = 0 from rfl), b9, hw, if_pos (show am_i32 (J2a 65 6) by omega), if_pos (show am_i32 (w : Int) by omega), if_pos (show am_i32 1 by decide), if_neg (show ¬ (1 : Int) = 0 by decide), if_neg (show ¬ (1 : Int) = 0 by decide), show (rows : Int) + (w : Int) = ((rows + w : Nat) : Int) by omega]
      by_cases cc : J2a 65 6 < (w : Int)
      · rw [if_pos cc]
        rw [if_pos cc] at c2
        rw [c2]
        rfl
      · rw [if_neg cc]
        rw [if_neg cc] at c2
        rw [c2]
        rfl
    have lm := l2 rfl ((cm : Int) + w) s2 J'' (by rw [b6, hw, show ((0 : Int)).toNat = 0 from rfl, hA, hmk, k1.1]) (by rw [b6, hw, show ((0 : Int)).toNat = 0 from rfl, hA, show (cm : Int) + (w : Int) = ((cm + w : Nat) : Int) by omega]; exact c1)
    rcases c3 with ⟨rfl, d2, d3⟩ | ⟨rfl, d2, d3⟩
    · obtain ⟨J2c, x1, x2⟩ := m_tok hT (J := J2b) (p := tke N T p) (by rw [d3]; exact tM_row hM (by rw [up_row (by decide), up_ne (by decide)]) (by rw [up_row (by decide), up_row (by decide)])) hb.2.1 (by rw [d3, up_row (by decide), up_ne (by decide)]; exact b10) (by rw [d3, up_row (by decide), up_ne (by decide)]; exact b8) (by rw [d3, up_row (by decide), up_ne (by decide)]; exact h12)
      rw [x1] at rr
      have rr' : f_UpRiverModel_readReach 1 (rows : Int) J2a = some ((w : Int), J2c) := rr
      have e6 : J2c 65 6 = (if J2a 65 6 < (w : Int) then (w : Int) else J2a 65 6) := by
        have : J2c 65 6 = J2b 65 6 := frJ_UpRiverModel_next x1 rfl
        rw [this, d3, up_row (by decide), up_at]
      have fm := frR _ _ rr'
      refine ⟨(w : Int), J2c, rr', by omega, fm, by rw [e6]; exact hm6, Or.inl ⟨J'', tke N T p, ?_, lm.2 rfl, ?_, ?_, ?_, ?_, e6⟩⟩
      · have := hb.2.2.1 (by omega); omega
      · refine PRE_of h hb.2.1 ?_ x2 ?_ ?_ ?_ (frJ_UpRiverModel_readReach rr' rfl) (fm.1 71 (by decide) (by decide))
        · rw [d2, up_row (by decide), ← hA, up_row (by decide)]; exact b4
        · rw [d2, up_row (by decide), ← hA, up_row (by decide)]; exact b12
        · rw [d2, up_row (by decide)]; exact k1.2.2.1 2 (by decide) (by decide) (by decide)
        · rw [d2, up_row (by decide)]; exact k1.2.2.1 3 (by decide) (by decide) (by decide)
      · refine ⟨?_, fun j hj => ?_, fun a x1 x4 x5 => ?_, ?_⟩
        · rw [d2, up_row (by decide)]; exact k1.1
        · rw [d2, up_row (by decide)]; exact k1.2.1 j hj
        · rw [d2, up_row x4]; exact k1.2.2.1 a x1 x4 x5
        · rw [d2, up_row (by decide)]; exact k1.2.2.2
      · rw [d2, show ((w : Int)).toNat = w from rfl]
        funext j
        by_cases e : j = cm + w
        · rw [e, up_at, up_at]
        · rw [up_ne e, up_ne e, A4]
      · rw [show ((w : Int)).toNat = w from rfl]
        funext j
        have : J2c 70 j = J2b 70 j := frJ_UpRiverModel_next x1 rfl
        rw [this, d3]
        by_cases e : j = rows + w
        · rw [e, up_at, up_at]
        · rw [up_ne e, up_ne e, up_row (by decide)]
    · rw [m_next_f d2.2.2.1] at rr
      have rr' : f_UpRiverModel_readReach 1 (rows : Int) J2a = some ((w : Int), J2b) := rr
      have e6 : J2b 65 6 = (if J2a 65 6 < (w : Int) then (w : Int) else J2a 65 6) := (frJ_UpRiverModel_once c2 rfl).trans (up_at _ _ _ _)
      exact ⟨(w : Int), J2b, rr', by omega, frR _ _ rr', by rw [e6]; exact hm6, Or.inr ⟨J'', lm.1 rfl, d2, by rw [d3, up_ne (by decide)]⟩⟩
  · have rr : f_UpRiverModel_readReach 1 (rows : Int) J2 = some (0, J2a) := by
      have g6 : J2a 65 6 = J2 65 6 := frJ_UpRiverModel_isNumber a2 rfl
      have := m_reach_f (J := J2a) b2.2.2.1 (by rw [g6]; exact h6) (x := 1) (Or.inr rfl) (rows : Int)
      unfold f_UpRiverModel_readReach at this ⊢
      rw [m_isN_f b2.2.2.1] at this
      rw [a2]
      exact this
    have g6 : J2a 65 6 = J2 65 6 := frJ_UpRiverModel_isNumber a2 rfl
    exact ⟨0, J2a, rr, by omega, frR _ _ rr, by rw [g6]; exact h6, Or.inr ⟨J', l1 rfl, b2, b3⟩⟩
