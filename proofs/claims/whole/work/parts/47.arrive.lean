theorem c_serves {J : am_J} {a c l : Int} (e2 : J 26 2 = a) (e3 : J 26 3 = c) (ha : am_i32 a) (hc : am_i32 c) (hl : am_i32 l) : f_Search_serves J l = some (fl (a ≤ l ∧ l ≤ c)) := by
  unfold f_Search_serves
  rw [e2, e3, if_pos ha, if_pos hl]
  by_cases c0 : l < a
  · rw [if_pos c0, fl_f (by omega)]
  · rw [if_neg c0, if_pos hc]
    by_cases c1 : c < l
    · rw [if_pos c1, fl_f (by omega)]
    · rw [if_neg c1, fl_t (by omega)]
theorem Sc_clr {K : am_K} {t0 l1 b1 : Int} (hl : 0 ≤ l1 ∧ l1 ≤ 8) (hb : 0 ≤ b1 ∧ b1 ≤ 1) (t f l b : Int) : Sc K t0 t f l b ↔ Sc (am_ul K 27 (ci t0 l1 b1) 0) t0 t f l b ∨ (t = t0 ∧ l = l1 ∧ b = b1 ∧ (0 ≤ f ∧ f < 64) ∧ bt (K 27 (ci t0 l1 b1)) f.toNat = true) := by
  unfold Sc
  constructor
  · rintro ⟨h1, h2, h3⟩
    by_cases e : ci t l b = ci t0 l1 b1
    · obtain ⟨e1, e2, e3⟩ := ci_inj h2.2.1 h2.2.2 hl hb e
      exact Or.inr ⟨by omega, e2, e3, h2.1, by rw [← e]; exact h3⟩
    · exact Or.inl ⟨h1, h2, by rw [ul_ne e]; exact h3⟩
  · rintro (⟨h1, h2, h3⟩ | ⟨rfl, rfl, rfl, h1, h2⟩)
    · refine ⟨h1, h2, ?_⟩
      by_cases e : ci t l b = ci t0 l1 b1
      · rw [e, ul_at, bt_0] at h3; cases h3
      · rw [ul_ne e] at h3; exact h3
    · exact ⟨by omega, ⟨h1, hl, hb⟩, h2⟩
theorem Dc_clr {v : Nat → Int} {a c : Int} {K : am_K} (h : Dc v a c K) (k : Nat) : Dc v a c (am_ul K 27 k 0) := by
  intro t f l b hd hm
  by_cases e : ci t l b = k
  · rw [e, ul_at, bt_0] at hm; cases hm
  · rw [ul_ne e] at hm
    exact h t f l b hd hm
theorem Ec_K {o : Nat} (ho : o = 6 ∨ o = 32) {v : Nat → Int} {lt g a c : Int} {J : am_J} {K : am_K} (h : Ec o J K v lt g a c) (k : Nat) (y : Int64) : Ec o J (am_ul K 27 k y) v lt g a c :=
  Ec_of ho h (fun _ _ _ => rfl) (fun a j hw => am_uln (am_nw_a hw 0 rfl)) h.2.2.2.2.2.2.2
theorem c_leave {o : Nat} (ho : o = 6 ∨ o = 32) {v : Nat → Int} (hv : rv_ok v) {lt g a c : Int} (hp : prm lt g a c) {t l b : Int} (ht : 0 ≤ t ∧ t ≤ 300) (hl : a ≤ l ∧ l ≤ c) (hb : b = 0 ∨ b = 1) {J : am_J} {K : am_K} (hE : Ec o J K v lt g a c) (hD : Dc v a c K) : ∃ J' K', f_Search_leave o l b t J K = some (J', K') ∧ Ec o J' K' v lt g a c ∧ Dc v a c K' ∧ (∀ x, x ≤ 300 → (PhC v lt g a c J' K' t x ↔ PhC v lt g a c J K t x)) ∧ (∀ l' b' : Int, 0 ≤ l' → l' ≤ 8 → 0 ≤ b' → b' ≤ 1 → (l' = l ∧ b' = b → K' 27 (ci t l' b') = 0) ∧ (¬ (l' = l ∧ b' = b) → K' 27 (ci t l' b') = K 27 (ci t l' b'))) := by
  have hm := hv.1.1
  have h5 := hv.1.2.2.2.2.2.1
  have hp' := hp
  obtain ⟨p1, p2, p3, p4⟩ := hp'
  obtain ⟨x1, x2⟩ := c_indexOf (t := t) (l := l) (b := b) (by omega) (by omega) (by omega)
  obtain ⟨y1, y2⟩ := c_indexOf (t := t + 1) (l := l) (b := b) (by omega) (by omega) (by omega)
  have ex : (t % 10 * 18 + l * 2 + b).toNat = ci t l b := rfl
  have ey : ((t + 1) % 10 * 18 + l * 2 + b).toNat = ci (t + 1) l b := rfl
  have nxt : ∀ l' b' : Int, 0 ≤ l' → l' ≤ 8 → 0 ≤ b' → b' ≤ 1 → ci t l' b' ≠ ci (t + 1) l b := by
    intro l' b' l0 l8 b0 b1 e
    have := ci_inj ⟨l0, l8⟩ ⟨b0, b1⟩ (by omega) (by omega) e
    omega
  have lay0 : ∀ l' b' : Int, 0 ≤ l' → l' ≤ 8 → 0 ≤ b' → b' ≤ 1 → ¬ (l' = l ∧ b' = b) → ci t l' b' ≠ ci t l b := by
    intro l' b' l0 l8 b0 b1 n e
    have := ci_inj ⟨l0, l8⟩ ⟨b0, b1⟩ (by omega) (by omega) e
    exact n this.2
  unfold f_Search_leave
  rw [x1]
  simp only [Option.bind_some]
  rw [if_pos x2, if_pos (am_lcmp32 _ _), ex]
  generalize hh : K 27 (ci t l b) = here
  have hK : ∀ x, PhC v lt g a c J K t x ↔ PhC v lt g a c J (am_ul K 27 (ci t l b) 0) t x ∨ ∃ f : Nat, f < 64 ∧ bt here f = true ∧ Cn v lt g a c x t f l b := by
    intro x
    unfold PhC
    rw [← hh]
    exact Phi_adds (fun t' f' l' b' => Sc_clr (by omega) (by omega) t' f' l' b')
  by_cases c0 : am_lcmp here 0 = 0
  · rw [if_pos c0]
    refine ⟨J, _, rfl, Ec_K ho hE _ _, Dc_clr hD _, fun x hx => ?_, fun l' b' l0 l8 b0 b1 => ⟨?_, fun n => ul_ne (lay0 l' b' l0 l8 b0 b1 n)⟩⟩
    · rw [hK x]
      constructor
      · exact Or.inl
      · rintro (z | ⟨f, f1, f2, -⟩)
        · exact z
        · rw [(bt_eq0 here).mp ((lcmp_0 here).mp c0) f f1] at f2; cases f2
    · rintro ⟨rfl, rfl⟩
      exact ul_at _ _ _ _
  · rw [if_neg c0, y1]
    simp only [Option.bind_some]
    rw [if_pos y2, if_pos (show am_i32 b by omega), ey]
    have hn : ∀ f : Nat, f < 64 → bt here f = true → (f : Int) < 8 * v 0 := by
      intro f f1 f2
      exact (hD t f l b ⟨by omega, by omega, by omega⟩ (by rw [hh]; exact f2)).1
    have D1 := Dc_clr hD (ci t l b)
    have D2 := Dc_or (y := here) (t1 := t + 1) (l1 := l) (b1 := b) D1 (by omega) (by omega) (fun f f1 f2 => ⟨hn f f1 f2, hl⟩)
    have E2 := Ec_K ho (Ec_K ho hE (ci t l b) 0) (ci (t + 1) l b) (am_ul K 27 (ci t l b) 0 27 (ci (t + 1) l b) ||| here)
    generalize hK2 : am_ul (am_ul K 27 (ci t l b) 0) 27 (ci (t + 1) l b) (am_ul K 27 (ci t l b) 0 27 (ci (t + 1) l b) ||| here) = K2 at D2 E2 ⊢
    have P2 : ∀ x, PhC v lt g a c J K2 t x ↔ PhC v lt g a c J (am_ul K 27 (ci t l b) 0) t x ∨ ∃ f : Nat, f < 64 ∧ bt here f = true ∧ Cn v lt g a c x (t + 1) f l b := by
      intro x
      unfold PhC
      rw [← hK2]
      exact Phi_adds (fun t' f' l' b' => Sc_or (by omega) (by omega) (by omega) t' f' l' b')
    have main : ∃ J' K', f_Search_leave_L66 o l b t here (if b = 0 then l + 1 else l - 1) J K2 = some (J', K') ∧ Ec o J' K' v lt g a c ∧ Dc v a c K' ∧ (∀ x, x ≤ 300 → (PhC v lt g a c J' K' t x ↔ PhC v lt g a c J K t x)) ∧ (∀ l' b' : Int, 0 ≤ l' → l' ≤ 8 → 0 ≤ b' → b' ≤ 1 → K' 27 (ci t l' b') = K2 27 (ci t l' b')) := by
      have E2' := E2
      obtain ⟨q1, q2, q3, q4, q5, q6, q7, q8⟩ := E2'
      have e5 := q1.1 5 (by omega)
      generalize hl' : (if b = 0 then l + 1 else l - 1) = l'
      have bl' : -1 ≤ l' ∧ l' ≤ 9 := by rw [← hl']; split <;> omega
      obtain ⟨z0, z1, z2⟩ := c_bitsIn hv q1 q2 (l := l) (t := t - lt) (by omega) (by omega)
      obtain ⟨w0, w1, w2⟩ := c_bitsIn hv q1 q2 (l := l') (t := t + 1 - lt) (by omega) (by omega)
      obtain ⟨u0, u1, u2⟩ := c_bitsIn hv q1 q2 (l := l) (t := t + v 5 - lt) (by omega) (by omega)
      have fin : ∀ z12 : Int64, (∀ f : Nat, f < 64 → (bt z12 f = true ↔ (a ≤ l' ∧ l' ≤ c) ∧ (f : Int) < 8 * v 0 ∧ rAf v lt ((f : Int) / 8) l' (t + 1))) → ∃ J' K', f_Search_leave_L124 o l b t l' (t + v 5) (here &&& z0) z12 J K2 = some (J', K') ∧ Ec o J' K' v lt g a c ∧ Dc v a c K' ∧ (∀ x, x ≤ 300 → (PhC v lt g a c J' K' t x ↔ PhC v lt g a c J K t x)) ∧ (∀ l' b' : Int, 0 ≤ l' → l' ≤ 8 → 0 ≤ b' → b' ≤ 1 → K' 27 (ci t l' b') = K2 27 (ci t l' b')) := by
        intro z12 hz12
        unfold f_Search_leave_L124
        rw [q3, u1]
        simp only [Option.bind_some]
        rw [← hl'] at hz12 ⊢
        have hfree : ∀ f : Nat, f < 64 → (bt (here &&& z0) f = true ↔ bt here f = true ∧ (f : Int) < 8 * v 0 ∧ rAf v lt ((f : Int) / 8) l t) := by
          intro f f1
          rw [bt_and, Bool.and_eq_true, z2 f f1, rAf_lt]
        obtain ⟨J', K', r1, r2, r3, r4, r5⟩ := c_L143 ho hv hp ht hl hb (y := here &&& z0) (z := z12) (w := u0) (fun f f1 f2 => ((hfree f f1).mp f2).2) hz12 (fun f f1 => by rw [u2 f f1, rAf_lt]; exact ⟨fun z => ⟨hl, z⟩, fun z => z.2⟩) (v 0).toNat am_FU 0 J K2 (by have : am_FU = 20000 := rfl; omega) (by omega) (by omega) E2 D2
        refine ⟨J', K', r1, r2, r3, fun x hx => ?_, r5⟩
        rw [r4 x hx, P2 x, hK x, or_assoc]
        refine or_congr Iff.rfl ?_
        constructor
        · rintro (⟨f, f1, f2, f3⟩ | ⟨f, f1, f2, f3, f4⟩)
          · exact ⟨f, f1, f2, (Cn_eq ..).mpr (Or.inl f3)⟩
          · exact ⟨f, f1, ((hfree f f1).mp f3).1, (Cn_eq ..).mpr (Or.inr f4)⟩
        · rintro ⟨f, f1, f2, f3⟩
          rcases (Cn_eq ..).mp f3 with f4 | f4
          · exact Or.inl ⟨f, f1, f2, f4⟩
          · exact Or.inr ⟨f, f1, by omega, (hfree f f1).mpr ⟨f2, hn f f1 f2, f4.1⟩, f4⟩
      unfold f_Search_leave_L66
      rw [q3, z1, w1, e5]
      simp only [Option.bind_some]
      rw [c_serves q4 q5 (by omega) (by omega) (by omega)]
      simp only [Option.bind_some, fl_32, if_true, fl_0]
      by_cases c1 : a ≤ l' ∧ l' ≤ c
      · rw [if_neg (show ¬ ¬ (a ≤ l' ∧ l' ≤ c) from fun n => n c1)]
        exact fin w0 fun f f1 => by rw [w2 f f1, rAf_lt]; exact ⟨fun z => ⟨c1, z⟩, fun z => z.2⟩
      · rw [if_pos c1]
        exact fin 0 fun f f1 => by rw [bt_0]; exact ⟨fun z => (by cases z), fun z => absurd z.1 c1⟩
    have lay : ∀ J' K', (∀ l' b' : Int, 0 ≤ l' → l' ≤ 8 → 0 ≤ b' → b' ≤ 1 → K' 27 (ci t l' b') = K2 27 (ci t l' b')) → Ec o J' K' v lt g a c → (∀ l' b' : Int, 0 ≤ l' → l' ≤ 8 → 0 ≤ b' → b' ≤ 1 → (l' = l ∧ b' = b → K' 27 (ci t l' b') = 0) ∧ (¬ (l' = l ∧ b' = b) → K' 27 (ci t l' b') = K 27 (ci t l' b'))) := by
      intro J' K' h _ l' b' l0 l8 b0 b1
      rw [h l' b' l0 l8 b0 b1, ← hK2, ul_ne (nxt l' b' l0 l8 b0 b1)]
      refine ⟨?_, fun n => ul_ne (lay0 l' b' l0 l8 b0 b1 n)⟩
      rintro ⟨rfl, rfl⟩
      exact ul_at _ _ _ _
    obtain ⟨J', K', m1, m2, m3, m4, m5⟩ := main
    refine ⟨J', K', ?_, m2, m3, m4, lay J' K' m5 m2⟩
    rcases hb with rfl | rfl
    · rw [if_pos (show (0 : Int) = 0 from rfl)]
      rw [if_pos (show (0 : Int) = 0 from rfl)] at m1
      exact m1
    · rw [if_neg (show ¬ (1 : Int) = 0 by decide)]
      rw [if_neg (show ¬ (1 : Int) = 0 by decide)] at m1
      exact m1
/-- one minute of it -/
theorem c_minute {o : Nat} (ho : o = 6 ∨ o = 32) {v : Nat → Int} (hv : rv_ok v) {lt g a c : Int} (hp : prm lt g a c) {Q : Int → Prop} {kb : Int → Int → am_J → am_K → Option (Int × am_J × am_K)} {t L : Int} (ht : 0 ≤ t ∧ t ≤ 300) : ∀ (k n : Nat) (l : Int) (J : am_J) (K : am_K), k < n → c + 1 - l = (k : Int) → a ≤ l → Ec o J K v lt g a c → Dc v a c K → (∀ x, x ≤ 300 → (PhC v lt g a c J K t x ↔ Q x)) → (∀ l' b' : Int, a ≤ l' → l' < l → 0 ≤ b' → b' ≤ 1 → K 27 (ci t l' b') = 0) → ∃ J' K', f_Search_arrive_L33 o kb n L t l J K = kb L (t + 1) J' K' ∧ Ec o J' K' v lt g a c ∧ Dc v a c K' ∧ (∀ x, x ≤ 300 → (PhC v lt g a c J' K' t x ↔ Q x)) ∧ (∀ l' b' : Int, a ≤ l' → l' ≤ c → 0 ≤ b' → b' ≤ 1 → K' 27 (ci t l' b') = 0) := by
  have hp' := hp
  obtain ⟨p1, p2, p3, p4⟩ := hp'
  intro k
  induction k with
  | zero =>
    intro n l J K hn hk la hE hD hQ hz
    obtain ⟨n, rfl⟩ : ∃ m, n = m + 1 := ⟨n - 1, by omega⟩
    have e3 := hE.2.2.2.2.1
    rw [f_Search_arrive_L33.eq_2, e3, if_pos (show am_i32 c by omega), if_pos (show am_i32 l by omega), if_pos (show c < l by omega)]
    exact ⟨J, K, rfl, hE, hD, hQ, fun l' b' h1 h2 h3 h4 => hz l' b' h1 (by omega) h3 h4⟩
  | succ k ih =>
    intro n l J K hn hk la hE hD hQ hz
    obtain ⟨n, rfl⟩ : ∃ m, n = m + 1 := ⟨n - 1, by omega⟩
    have e3 := hE.2.2.2.2.1
    obtain ⟨J1, K1, a1, a2, a3, a4, a5⟩ := c_leave ho hv hp ht (l := l) (b := 0) (by omega) (Or.inl rfl) hE hD
    obtain ⟨J2, K2, b1, b2, b3, b4, b5⟩ := c_leave ho hv hp ht (l := l) (b := 1) (by omega) (Or.inr rfl) a2 a3
    rw [f_Search_arrive_L33.eq_2, e3, if_pos (show am_i32 c by omega), if_pos (show am_i32 l by omega), if_neg (show ¬ c < l by omega), a1]
    simp only [Option.bind_some]
    rw [b1]
    simp only [Option.bind_some]
    refine ih n (l + 1) J2 K2 (by omega) (by omega) (by omega) b2 b3 (fun x hx => by rw [b4 x hx, a4 x hx, hQ x hx]) fun l' b' h1 h2 h3 h4 => ?_
    by_cases e : l' = l
    · by_cases f : b' = 1
      · exact (b5 l' b' (by omega) (by omega) h3 h4).1 ⟨e, f⟩
      · rw [(b5 l' b' (by omega) (by omega) h3 h4).2 (fun z => f z.2)]
        exact (a5 l' b' (by omega) (by omega) h3 h4).1 ⟨e, by omega⟩
    · rw [(b5 l' b' (by omega) (by omega) h3 h4).2 (fun z => e z.1), (a5 l' b' (by omega) (by omega) h3 h4).2 (fun z => e z.1)]
      exact hz l' b' h1 (by omega) h3 h4
/-- the first minute up to L by which Q holds, or none -/
def arrL (L : Int) (Q : Int → Prop) (r : Int) : Prop := (r = -4 ∨ (0 ≤ r ∧ r ≤ L)) ∧ ∀ x, x ≤ L → ((r ≠ -4 ∧ r ≤ x) ↔ Q x)
theorem c_end {o : Nat} {v : Nat → Int} (hv : rv_ok v) {lt g a c : Int} {Q : Int → Prop} {J : am_J} {K : am_K} {t L : Int} (hL : 0 ≤ L ∧ L ≤ 300) (hE : Ec o J K v lt g a c) (hQ : ∀ x, x ≤ L → (PhC v lt g a c J K t x ↔ Q x)) (h : L ≤ t ∨ J 26 6 ≤ t + 1) : ∃ r, f_Search_arrive_L74 o L J K = some (r, J, K) ∧ arrL L Q r := by
  have h5 := hv.1.2.2.2.2.2.1
  have h6 := hE.2.2.2.2.2.2.2
  have key : ∀ x, x ≤ L → (J 26 6 ≤ x ↔ Q x) := by
    intro x hx
    rw [← hQ x hx]
    constructor
    · exact Or.inl
    · rintro (z | ⟨t', f, l, b, ⟨z1, -⟩, z2⟩)
      · exact z
      · have := Cn_lt h5.1 z2
        omega
  unfold f_Search_arrive_L74
  rw [if_pos (show am_i32 L by omega), if_pos (show am_i32 (J 26 6) by omega)]
  by_cases c0 : L < J 26 6
  · rw [if_pos c0]
    refine ⟨-4, rfl, Or.inl rfl, fun x hx => ?_⟩
    rw [← key x hx]
    omega
  · rw [if_neg c0]
    refine ⟨_, rfl, Or.inr (by omega), fun x hx => ?_⟩
    rw [← key x hx]
    omega
theorem c_arrive_loop {o : Nat} (ho : o = 6 ∨ o = 32) {v : Nat → Int} (hv : rv_ok v) {lt g a c : Int} (hp : prm lt g a c) (hac : a ≤ c + 1) {Q : Int → Prop} {L : Int} (hL : 0 ≤ L ∧ L ≤ 300) : ∀ (k n : Nat) (t : Int) (J : am_J) (K : am_K), k < n → (L - t).toNat = k → 0 ≤ t → t ≤ 300 → Ec o J K v lt g a c → Dc v a c K → (∀ x, x ≤ L → (PhC v lt g a c J K t x ↔ Q x)) → ∃ r J' K', f_Search_arrive_L10 o n L t J K = some (r, J', K') ∧ arrL L Q r := by
  have hp' := hp
  obtain ⟨p1, p2, p3, p4⟩ := hp'
  intro k
  induction k with
  | zero =>
    intro n t J K hn hk t0 t3 hE hD hQ
    obtain ⟨n, rfl⟩ : ∃ m, n = m + 1 := ⟨n - 1, by omega⟩
    obtain ⟨r, r1, r2⟩ := c_end hv hL hE hQ (Or.inl (by omega))
    rw [f_Search_arrive_L10.eq_2, if_pos (show am_i32 L by omega), if_pos (show am_i32 t by omega), if_neg (show ¬ t < L by omega), r1]
    exact ⟨r, J, K, rfl, r2⟩
  | succ k ih =>
    intro n t J K hn hk t0 t3 hE hD hQ
    obtain ⟨n, rfl⟩ : ∃ m, n = m + 1 := ⟨n - 1, by omega⟩
    have h6 := hE.2.2.2.2.2.2.2
    have e2 := hE.2.2.2.1
    rw [f_Search_arrive_L10.eq_2, if_pos (show am_i32 L by omega), if_pos (show am_i32 t by omega), if_pos (show t < L by omega), if_pos (show am_i32 (J 26 6) by omega), if_pos (show am_i32 (t + 1) by omega)]
    by_cases c0 : t + 1 < J 26 6
    · rw [if_pos c0, e2]
      obtain ⟨J', K', w1, w2, w3, w4, w5⟩ := c_minute ho hv hp (Q := fun x => PhC v lt g a c J K t x) (kb := f_Search_arrive_L10 o n) (t := t) (L := L) (by omega) (c + 1 - a).toNat am_FU a J K (by have : am_FU = 20000 := rfl; omega) (by omega) (by omega) hE hD (fun x _ => Iff.rfl) (fun l' b' h1 h2 => by omega)
      rw [w1]
      refine ih n (t + 1) J' K' (by omega) (by omega) (by omega) (by omega) w2 w3 fun x hx => ?_
      rw [← hQ x hx, ← w4 x (by omega)]
      refine Phi_cong (fun t' f l b => ?_) Iff.rfl
      have emp : ∀ f l b : Int, dmn f l b → bt (K' 27 (ci t l b)) f.toNat = true → False := by
        intro f l b hd hm
        have hl := (w3 t f l b hd hm).2
        rw [w5 l b hl.1 hl.2 hd.2.2.1 hd.2.2.2, bt_0] at hm
        cases hm
      unfold Sc
      constructor
      · rintro ⟨z1, z2, z3⟩
        refine ⟨?_, z2, z3⟩
        by_cases e : t' = t + 10
        · refine absurd (emp f l b z2 ?_) id
          rw [show ci t l b = ci t' l b by unfold ci; rw [show t' % 10 = t % 10 by omega]]
          exact z3
        · omega
      · rintro ⟨z1, z2, z3⟩
        refine ⟨?_, z2, z3⟩
        by_cases e : t' = t
        · rw [e] at z3
          exact absurd (emp f l b z2 z3) id
        · omega
    · rw [if_neg c0]
      obtain ⟨r, r1, r2⟩ := c_end hv hL hE hQ (Or.inr (by omega))
      rw [r1]
      exact ⟨r, J, K, rfl, r2⟩
