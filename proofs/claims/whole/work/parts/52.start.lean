/-! start: the reference's way from the end -/
def upV (P : Int → Prop) (u : Int) : Prop := (u = 9999 ∨ (0 ≤ u ∧ u ≤ 300)) ∧ ∀ x, x ≤ 300 → (u ≤ x ↔ P x)
theorem upV_c {P Q : Int → Prop} {u : Int} (h : upV P u) (e : ∀ x, x ≤ 300 → (P x ↔ Q x)) : upV Q u := ⟨h.1, fun x hx => by rw [h.2 x hx, e x hx]⟩
theorem upV_far {P : Int → Prop} (h : ∀ x, x ≤ 300 → ¬ P x) : upV P 9999 := ⟨Or.inl rfl, fun x hx => ⟨fun z => by omega, fun z => absurd z (h x hx)⟩⟩
theorem m_less {P Q : Int → Prop} {u w : Int} (h : upV P u) (h' : upV Q w) : ∃ r, f_UpRiverModel_less u w = some r ∧ upV (fun x => P x ∨ Q x) r := by
  have a := h.1
  have a' := h'.1
  unfold f_UpRiverModel_less
  rw [if_pos (show am_i32 w by omega), if_pos (show am_i32 u by omega)]
  by_cases c : u < w
  · rw [if_pos c]
    refine ⟨u, rfl, a, fun x hx => ?_⟩
    show _ ↔ P x ∨ Q x
    rw [← h.2 x hx, ← h'.2 x hx]
    omega
  · rw [if_neg c]
    refine ⟨w, rfl, a', fun x hx => ?_⟩
    show _ ↔ P x ∨ Q x
    rw [← h.2 x hx, ← h'.2 x hx]
    omega
abbrev CnT (v : Nat → Int) (x t f l b : Int) : Prop := Cn v 0 (8 * v 0) 0 8 x t f l b
def UpW (v : Nat → Int) (J : am_J) (t0 : Int) : Prop := ∀ t f l b : Int, t0 < t → t ≤ t0 + 9 → t ≤ 300 → dmn f l b → f < 8 * v 0 → upV (fun x => CnT v x t f l b) (J 73 (mi t f l b))
theorem m_upThere {v : Nat → Int} (hv : rv_ok v) {J : am_J} (e66 : J 66 = v) {f l b t0 t : Int} (hU : UpW v J t0) (h : toAt J f l b t) (h0 : 0 ≤ t0 ∧ t0 ≤ 300) (hw : t0 < t ∧ t ≤ t0 + 9) (hf : 0 ≤ f ∧ f ≤ 1000) (hl : 0 ≤ l ∧ l ≤ 8) (hb : 0 ≤ b ∧ b ≤ 1) : ∃ w, f_UpRiverModel_upThere J = some w ∧ upV (fun x => goW v (8 * v 0) 0 8 x (CnT v x) t f l b) w := by
  have hm := hv.1.1
  have h5 := hv.1.2.2.2.2.2.1
  obtain ⟨a1, a2, a3, a4⟩ := h
  unfold f_UpRiverModel_upThere f_UpRiverModel_top f_UpRiverModel_spot
  simp only [Option.bind_some]
  rw [a1, a2, a3, a4, e66, if_pos (show am_i32 t by omega)]
  by_cases c0 : 300 < t
  · rw [if_pos c0]
    refine ⟨9999, rfl, upV_far fun x hx z => ?_⟩
    rcases z with z | z
    · omega
    · have := Cn_lt h5.1 z.2.2.2; omega
  rw [if_neg c0, if_pos (show am_i32 (8 * v 0) by omega), if_pos (show am_i32 f by omega)]
  by_cases c1 : f < 8 * v 0
  · have hd : dmn f l b := ⟨by omega, hl, hb⟩
    rw [if_pos c1, am_rm_pos (by omega), if_pos (show 0 ≤ 1152 * (t % 10) + (2 * (9 * f + l) + b) ∧ 1152 * (t % 10) + (2 * (9 * f + l) + b) < 11520 by omega)]
    refine ⟨_, rfl, upV_c (hU t f l b hw.1 hw.2 (by omega) hd c1) fun x hx => ?_⟩
    constructor
    · exact fun z => Or.inr ⟨c1, hl.1, hl.2, z⟩
    · rintro (z | z)
      · rcases z.2 with z2 | z2
        · omega
        · omega
      · exact z.2.2.2
  · rw [if_neg c1]
    refine ⟨t, rfl, Or.inr (by omega), fun x hx => ?_⟩
    constructor
    · exact fun z => Or.inl ⟨z, Or.inl (by omega)⟩
    · rintro (z | z)
      · exact z.1
      · exact absurd z.1 c1
theorem m_upFrom {v : Nat → Int} (hv : rv_ok v) {J : am_J} (e66 : J 66 = v) (e15 : J 65 15 = 0) {f l b t : Int} (hU : UpW v J t) (ht : 0 ≤ t ∧ t ≤ 300) (hd : dmn f l b) (hf : f < 8 * v 0) : ∃ u J', f_UpRiverModel_upFrom t (2 * (9 * f + l) + b) J = some (u, J') ∧ upV (fun x => CnT v x t f l b) u := by
  have hm := hv.1.1
  have h5 := hv.1.2.2.2.2.2.1
  have hd' := hd
  obtain ⟨d1, d2, d3⟩ := hd'
  have e1 : (2 * (9 * f + l) + b) % 2 = b := by omega
  have e2 : (2 * (9 * f + l) + b) / 2 = 9 * f + l := by omega
  have e3 : (9 * f + l) % 9 = l := by omega
  have e4 : (9 * f + l) / 9 = f := by omega
  have L91 : ∀ (J1 : am_J) (w : Int) (P : Int → Prop), J1 66 = v → J1 65 15 = 0 → J1 73 = J 73 → upV P w → ∃ u J', f_UpRiverModel_upFrom_L91 t b l f w J1 = some (u, J') ∧ upV (fun x => P x ∨ (tOk v 0 f l t ∧ goW v (8 * v 0) 0 8 x (CnT v x) (t + v 5) (tF v 0 f l t) l (1 - b))) u := by
    intro J1 w P g66 g15 g73 hw
    obtain ⟨J2, s1, s2⟩ := m_turns (J := J1) (by rw [g66]; exact hv) (f := f) (l := l) (b := b) (t := t) d1.1 (by rw [g66]; exact hf) d2.1 d2.2 (by rw [g15]; omega)
    rw [g66, g15] at s1 s2
    unfold f_UpRiverModel_upFrom_L91
    rw [s1]
    simp only [Option.bind_some, fl_32, if_true, fl_0]
    by_cases ok : tOk v 0 f l t
    · have hb := tF_bd hv d1.1 0 l t
      obtain ⟨z, z1, z2⟩ := m_upThere hv (J := J2) (by rw [← g66]; funext j; exact frJ_UpRiverModel_turns s1 rfl) (t0 := t) (by unfold UpW; rw [show J2 73 = J 73 by rw [← g73]; funext j; exact frJ_UpRiverModel_turns s1 rfl]; exact hU) s2 ht (by omega) (by omega) d2 (by omega)
      obtain ⟨u, u1, u2⟩ := m_less hw z2
      rw [if_neg (show ¬ ¬ tOk v 0 f l t from fun n => n ok), z1]
      simp only [Option.bind_some]
      rw [u1]
      exact ⟨u, J2, rfl, upV_c u2 fun x hx => or_congr Iff.rfl ⟨fun n => ⟨ok, n⟩, fun n => n.2⟩⟩
    · rw [if_pos ok]
      exact ⟨w, J2, rfl, upV_c hw fun x hx => ⟨Or.inl, fun n => by rcases n with n | n; exact n; exact absurd n.1 ok⟩⟩
  have L50 : ∀ (w : Int), upV (fun x => CnT v x (t + 1) f l b) w → ∃ u J', f_UpRiverModel_upFrom_L50 t b l f w J = some (u, J') ∧ upV (fun x => CnT v x t f l b) u := by
    intro w hw
    unfold f_UpRiverModel_upFrom_L50
    rw [if_pos (show am_i32 f by omega), am_dv_pos d1.1, m_isAfloat (J := J) (by rw [e66]; exact hv) (by omega) (by omega) (by omega) (by rw [e15]; omega), e66, e15]
    simp only [Option.bind_some, fl_32, if_true, fl_0]
    by_cases af : rAf v 0 (f / 8) l t
    · rw [if_neg (show ¬ ¬ rAf v 0 (f / 8) l t from fun z => z af)]
      obtain ⟨J1, s1, s2⟩ := m_sails (J := J) (by rw [e66]; exact hv) (f := f) (l := l) (b := b) (t := t) d1.1 (by rw [e66]; exact hf) d2.1 d2.2 (by omega) (by rw [e15]; omega)
      rw [e66, e15] at s1 s2
      have g66 : J1 66 = v := by rw [← e66]; funext j; exact frJ_UpRiverModel_sails s1 rfl
      have g15 : J1 65 15 = 0 := by rw [← e15]; exact frJ_UpRiverModel_sails s1 rfl
      have g73 : J1 73 = J 73 := by funext j; exact frJ_UpRiverModel_sails s1 rfl
      rw [s1]
      simp only [Option.bind_some, fl_32, if_true, fl_0]
      by_cases ok : sOk v 0 f l b t
      · have hbd := sF_bd hv d1.1 hf 0 l b t
        have hbl := sL_lane hv d1.1 hf d2.1 d2.2 ok
        obtain ⟨z, z1, z2⟩ := m_upThere hv g66 (t0 := t) (by unfold UpW; rw [g73]; exact hU) s2 ht (by omega) (by omega) hbl (by omega)
        obtain ⟨w', w1, w2⟩ := m_less hw z2
        rw [if_neg (show ¬ ¬ sOk v 0 f l b t from fun n => n ok), z1]
        simp only [Option.bind_some]
        rw [w1]
        simp only [Option.bind_some]
        obtain ⟨u, J', u1, u2⟩ := L91 J1 w' _ g66 g15 g73 w2
        refine ⟨u, J', u1, upV_c u2 fun x hx => ?_⟩
        rw [show CnT v x t f l b ↔ _ from Cn_eq ..]
        unfold Go
        constructor
        · rintro ((n | n) | n)
          · exact Or.inl n
          · exact Or.inr ⟨af, Or.inl ⟨ok, n⟩⟩
          · exact Or.inr ⟨af, Or.inr n⟩
        · rintro (n | ⟨-, n | n⟩)
          · exact Or.inl (Or.inl n)
          · exact Or.inl (Or.inr n.2)
          · exact Or.inr n
      · rw [if_pos ok]
        obtain ⟨u, J', u1, u2⟩ := L91 J1 w _ g66 g15 g73 hw
        refine ⟨u, J', u1, upV_c u2 fun x hx => ?_⟩
        rw [show CnT v x t f l b ↔ _ from Cn_eq ..]
        unfold Go
        constructor
        · rintro (n | n)
          · exact Or.inl n
          · exact Or.inr ⟨af, Or.inr n⟩
        · rintro (n | ⟨-, n | n⟩)
          · exact Or.inl n
          · exact absurd n.1 ok
          · exact Or.inr n
    · rw [if_pos af]
      refine ⟨w, J, rfl, upV_c hw fun x hx => ?_⟩
      rw [show CnT v x t f l b ↔ _ from Cn_eq ..]
      exact ⟨Or.inl, fun n => by rcases n with n | n; exact n; exact absurd n.1 af⟩
  unfold f_UpRiverModel_upFrom
  rw [am_rm_pos (show 0 ≤ 2 * (9 * f + l) + b by omega), am_dv_pos (show 0 ≤ 2 * (9 * f + l) + b by omega), e1, e2, am_rm_pos (show 0 ≤ 9 * f + l by omega), am_dv_pos (show 0 ≤ 9 * f + l by omega), e3, e4, if_pos (show am_i32 (2 * (9 * f + l) + b) by omega), if_pos (show am_i32 (9 * f + l) by omega), if_pos (show am_i32 t by omega)]
  by_cases c0 : t < 300
  · rw [if_pos c0, if_pos (show am_i32 (t + 1) by omega), am_rm_pos (show 0 ≤ t + 1 by omega), if_pos (show 0 ≤ 1152 * ((t + 1) % 10) + (2 * (9 * f + l) + b) ∧ 1152 * ((t + 1) % 10) + (2 * (9 * f + l) + b) < 11520 by omega)]
    exact L50 _ (hU (t + 1) f l b (by omega) (by omega) (by omega) hd hf)
  · rw [if_neg c0]
    refine L50 _ (upV_far fun x hx z => ?_)
    have := Cn_lt h5.1 z; omega
theorem lay_loop {v : Nat → Int} (hv : rv_ok v) {kb : Int → Int → am_J → Option am_J} {t : Int} (ht : 0 ≤ t ∧ t ≤ 300) {S : Nat → Int} : ∀ (k n : Nat) (s : Int) (J : am_J), k < n → 144 * v 0 - s = (k : Int) → 0 ≤ s → J 66 = v → J 65 15 = 0 → UpW v J t → J 74 = S → (∀ f l b : Int, dmn f l b → f < 8 * v 0 → 2 * (9 * f + l) + b < s → upV (fun x => CnT v x t f l b) (J 73 (mi t f l b))) → ∃ J' u, f_UpRiverModel_layStarts_L18 kb n (144 * v 0) t s J = kb (144 * v 0) (t + (-1)) J' ∧ J' 66 = v ∧ J' 65 15 = 0 ∧ UpW v J' (t - 1) ∧ J' 74 t.toNat = u ∧ upV (fun x => CnT v x t 0 (v 7) 0) u ∧ (∀ i, i ≠ t.toNat → J' 74 i = S i) := by
  have hm := hv.1.1
  have h7 := rv_7 hv
  intro k
  induction k with
  | zero =>
    intro n s J hn hk s0 e66 e15 hU e74 hL
    obtain ⟨n, rfl⟩ : ∃ m, n = m + 1 := ⟨n - 1, by omega⟩
    rw [f_UpRiverModel_layStarts_L18.eq_2, if_pos (show am_i32 (144 * v 0) by omega), if_pos (show am_i32 s by omega), if_neg (show ¬ s < 144 * v 0 by omega), if_pos (show am_i32 t by omega)]
    unfold f_UpRiverModel_spot
    simp only [Option.bind_some]
    rw [e66, am_rm_pos ht.1, if_pos (show 0 ≤ 1152 * (t % 10) + (2 * (9 * 0 + v 7) + 0) ∧ 1152 * (t % 10) + (2 * (9 * 0 + v 7) + 0) < 11520 by omega), if_pos (show 0 ≤ t ∧ t < 301 by omega)]
    refine ⟨_, _, rfl, by rw [up_row (by decide)]; exact e66, by rw [up_row (by decide)]; exact e15, ?_, up_at _ _ _ _, hL 0 (v 7) 0 ⟨by omega, by omega, by omega⟩ (by omega) (by omega), fun i hi => by rw [up_ne hi, e74]⟩
    intro t' f l b h1 h2 h3 hd hf
    rw [up_row (by decide)]
    by_cases e : t' = t
    · rw [e]
      exact hL f l b hd hf (by omega)
    · exact hU t' f l b (by omega) (by omega) h3 hd hf
  | succ k ih =>
    intro n s J hn hk s0 e66 e15 hU e74 hL
    obtain ⟨n, rfl⟩ : ∃ m, n = m + 1 := ⟨n - 1, by omega⟩
    have hs : 2 * (9 * (s / 18) + s % 18 / 2) + s % 2 = s := by omega
    have hd : dmn (s / 18) (s % 18 / 2) (s % 2) := ⟨by omega, by omega, by omega⟩
    obtain ⟨u, J1, u1, u2⟩ := m_upFrom hv e66 e15 hU ht hd (by omega)
    rw [hs] at u1
    rw [f_UpRiverModel_layStarts_L18.eq_2, if_pos (show am_i32 (144 * v 0) by omega), if_pos (show am_i32 s by omega), if_pos (show s < 144 * v 0 by omega), if_pos (show am_i32 t by omega), u1]
    simp only [Option.bind_some]
    rw [am_rm_pos ht.1, if_pos (show 0 ≤ 1152 * (t % 10) + s ∧ 1152 * (t % 10) + s < 11520 by omega)]
    have em : (1152 * (t % 10) + s).toNat = mi t (s / 18) (s % 18 / 2) (s % 2) := by unfold mi; rw [hs]
    rw [em]
    have g73 : J1 73 = J 73 := by funext j; exact frJ_UpRiverModel_upFrom u1 rfl
    refine ih n (s + 1) _ (by omega) (by omega) (by omega) ?_ ?_ ?_ ?_ ?_
    · rw [up_row (by decide), ← e66]; funext j; exact frJ_UpRiverModel_upFrom u1 rfl
    · rw [up_row (by decide), ← e15]; exact frJ_UpRiverModel_upFrom u1 rfl
    · intro t' f l b h1 h2 h3 hd' hf
      rw [up_ne (fun e => by have := mi_inj hd' hd e; omega), g73]
      exact hU t' f l b h1 h2 h3 hd' hf
    · rw [up_row (by decide), ← e74]; funext j; exact frJ_UpRiverModel_upFrom u1 rfl
    · intro f l b hd' hf hlt
      by_cases e : mi t f l b = mi t (s / 18) (s % 18 / 2) (s % 2)
      · obtain ⟨-, x1, x2, x3⟩ := mi_inj hd' hd e
        rw [e, up_at, x1, x2, x3]
        exact u2
      · rw [up_ne e, g73]
        refine hL f l b hd' hf ?_
        have : 2 * (9 * f + l) + b ≠ s := by
          intro e2
          apply e
          unfold mi
          rw [e2, hs]
        omega
theorem lay_outer {v : Nat → Int} (hv : rv_ok v) : ∀ (k n : Nat) (t : Int) (J : am_J), k < n → t + 1 = (k : Int) → t ≤ 300 → J 66 = v → J 65 15 = 0 → UpW v J t → (∀ i : Nat, t < (i : Int) → i ≤ 300 → upV (fun x => CnT v x i 0 (v 7) 0) (J 74 i)) → ∃ J', f_UpRiverModel_layStarts_L12 n (144 * v 0) t J = some J' ∧ (∀ i : Nat, i ≤ 300 → upV (fun x => CnT v x i 0 (v 7) 0) (J' 74 i)) := by
  have hm := hv.1.1
  intro k
  induction k with
  | zero =>
    intro n t J hn hk ht e66 e15 hU hS
    obtain ⟨n, rfl⟩ : ∃ m, n = m + 1 := ⟨n - 1, by omega⟩
    rw [f_UpRiverModel_layStarts_L12.eq_2, if_pos (show am_i32 t by omega), if_pos (show t < 0 by omega)]
    exact ⟨J, rfl, fun i hi => hS i (by omega) hi⟩
  | succ k ih =>
    intro n t J hn hk ht e66 e15 hU hS
    obtain ⟨n, rfl⟩ : ∃ m, n = m + 1 := ⟨n - 1, by omega⟩
    rw [f_UpRiverModel_layStarts_L12.eq_2, if_pos (show am_i32 t by omega), if_neg (show ¬ t < 0 by omega)]
    obtain ⟨J', u, w1, w2, w3, w4, w5, w6, w7⟩ := lay_loop hv (kb := f_UpRiverModel_layStarts_L12 n) (t := t) (by omega) (S := J 74) (144 * v 0).toNat am_FU 0 J (by have : am_FU = 20000 := rfl; omega) (by omega) (by omega) e66 e15 hU rfl (fun f l b hd hf h => by omega)
    rw [w1, show t + (-1) = t - 1 by omega]
    refine ih n (t - 1) J' (by omega) (by omega) (by omega) w2 w3 w4 fun i i1 i2 => ?_
    by_cases e : i = t.toNat
    · rw [e, w5, show ((t.toNat : Nat) : Int) = t by omega]
      exact w6
    · rw [w7 i e]
      exact hS i (by omega) i2
theorem m_layStarts {J : am_J} (hv : rv_ok (J 66)) (e15 : J 65 15 = 0) : ∃ J', f_UpRiverModel_layStarts J = some J' ∧ (∀ i : Nat, i ≤ 300 → upV (fun x => CnT (J 66) x i 0 (J 66 7) 0) (J' 74 i)) := by
  have hm := hv.1.1
  unfold f_UpRiverModel_layStarts f_UpRiverModel_top
  simp only [Option.bind_some]
  rw [show 18 * (8 * J 66 0) = 144 * J 66 0 by omega]
  exact lay_outer hv 301 am_FU 300 J (by decide) (by omega) (by omega) rfl e15 (fun t f l b h1 h2 h3 => by omega) (fun i h1 h2 => by omega)
