theorem Phi_adds {S S' : Int → Int → Int → Int → Prop} {F : Int → Prop} {P : Int → Int → Int → Int → Int → Prop} {x t1 l1 b1 : Int} {y : Int64} (hS : ∀ t f l b, S' t f l b ↔ S t f l b ∨ (t = t1 ∧ l = l1 ∧ b = b1 ∧ (0 ≤ f ∧ f < 64) ∧ bt y f.toNat = true)) : Phi S' F P x ↔ Phi S F P x ∨ ∃ f : Nat, f < 64 ∧ bt y f = true ∧ P x t1 f l1 b1 := by
  unfold Phi
  constructor
  · rintro (h | ⟨t, f, l, b, h1, h2⟩)
    · exact Or.inl (Or.inl h)
    · rcases (hS t f l b).mp h1 with h1 | ⟨rfl, rfl, rfl, h3, h4⟩
      · exact Or.inl (Or.inr ⟨t, f, l, b, h1, h2⟩)
      · exact Or.inr ⟨f.toNat, by omega, h4, by rw [show ((f.toNat : Nat) : Int) = f by omega]; exact h2⟩
  · rintro ((h | ⟨t, f, l, b, h1, h2⟩) | ⟨f, h1, h2, h3⟩)
    · exact Or.inl h
    · exact Or.inr ⟨t, f, l, b, (hS t f l b).mpr (Or.inl h1), h2⟩
    · exact Or.inr ⟨t1, f, l1, b1, (hS _ _ _ _).mpr (Or.inr ⟨rfl, rfl, rfl, by omega, h2⟩), h3⟩
theorem Phi_F {S : Int → Int → Int → Int → Prop} {F F' : Int → Prop} {P : Int → Int → Int → Int → Int → Prop} {x : Int} {A : Prop} (hF : F' x ↔ F x ∨ A) : Phi S F' P x ↔ Phi S F P x ∨ A := by
  unfold Phi
  rw [hF]
  constructor
  · rintro ((h | h) | h)
    · exact Or.inl (Or.inl h)
    · exact Or.inr h
    · exact Or.inl (Or.inr h)
  · rintro ((h | h) | h)
    · exact Or.inl (Or.inl h)
    · exact Or.inr h
    · exact Or.inl (Or.inr h)
def lgW (v : Nat → Int) (lt g a c x t f l b : Int) : Prop := (t ≤ x ∧ 8 * v 0 ≤ f) ∨ (f < 8 * v 0 ∧ a ≤ l ∧ l ≤ c ∧ rAf v lt (f / 8) l t ∧ ((t ≤ x ∧ g ≤ f) ∨ Cn v lt g a c x t f l b))
theorem sail_lg (v : Nat → Int) (lt g a c x t f l b : Int) : (sOk v lt f l b t ∧ goW v g a c x (Cn v lt g a c x) (t + 1) (sF v lt f l b t) (sL v lt f l b t) b) ↔ lgW v lt g a c x (t + 1) (sF v lt f l b t) (if b = 0 then l + 1 else l - 1) b := by
  unfold goW lgW sOk
  by_cases c0 : sF v lt f l b t < 8 * v 0
  · have e : sL v lt f l b t = if b = 0 then l + 1 else l - 1 := by unfold sL; rw [if_pos c0]
    rw [e]
    generalize (if b = 0 then l + 1 else l - 1) = l'
    constructor
    · rintro ⟨h1, h2⟩
      have h1' : rAf v lt (sF v lt f l b t / 8) l' (t + 1) := by
        rcases h1 with h1 | h1
        · omega
        · exact h1
      rcases h2 with ⟨h2, h3 | h3⟩ | h2
      · omega
      · exact Or.inr ⟨c0, h3.2.1, h3.2.2, h1', Or.inl ⟨h2, h3.1⟩⟩
      · exact Or.inr ⟨c0, h2.2.1, h2.2.2.1, h1', Or.inr h2.2.2.2⟩
    · rintro (h | ⟨-, h1, h2, h3, h4 | h4⟩)
      · omega
      · exact ⟨Or.inr h3, Or.inl ⟨h4.1, Or.inr ⟨h4.2, h1, h2⟩⟩⟩
      · exact ⟨Or.inr h3, Or.inr ⟨c0, h1, h2, h4⟩⟩
  · constructor
    · rintro ⟨-, h2⟩
      rcases h2 with ⟨h2, -⟩ | h2
      · exact Or.inl ⟨h2, by omega⟩
      · exact absurd h2.1 c0
    · rintro (h | h)
      · exact ⟨Or.inl h.2, Or.inl ⟨h.1, Or.inl h.2⟩⟩
      · exact absurd h.1 c0
theorem turn_lg (v : Nat → Int) (lt g a c x t f l b : Int) : (tOk v lt f l t ∧ goW v g a c x (Cn v lt g a c x) (t + v 5) (tF v lt f l t) l (1 - b)) ↔ lgW v lt g a c x (t + v 5) (tF v lt f l t) l (1 - b) := by
  unfold goW lgW tOk
  by_cases c0 : tF v lt f l t < 8 * v 0
  · constructor
    · rintro ⟨h1, h2⟩
      have h1' : rAf v lt (tF v lt f l t / 8) l (t + v 5) := by
        rcases h1 with h1 | h1
        · omega
        · exact h1
      rcases h2 with ⟨h2, h3 | h3⟩ | h2
      · omega
      · exact Or.inr ⟨c0, h3.2.1, h3.2.2, h1', Or.inl ⟨h2, h3.1⟩⟩
      · exact Or.inr ⟨c0, h2.2.1, h2.2.2.1, h1', Or.inr h2.2.2.2⟩
    · rintro (h | ⟨-, h1, h2, h3, h4 | h4⟩)
      · omega
      · exact ⟨Or.inr h3, Or.inl ⟨h4.1, Or.inr ⟨h4.2, h1, h2⟩⟩⟩
      · exact ⟨Or.inr h3, Or.inr ⟨c0, h1, h2, h4⟩⟩
  · constructor
    · rintro ⟨-, h2⟩
      rcases h2 with ⟨h2, -⟩ | h2
      · exact Or.inl ⟨h2, by omega⟩
      · exact absurd h2.1 c0
    · rintro (h | h)
      · exact ⟨Or.inl h.2, Or.inl ⟨h.1, Or.inl h.2⟩⟩
      · exact absurd h.1 c0
def mvF (f d : Int) : Int := if f + d < 0 then 0 else f + d
theorem c_leg {o : Nat} (ho : o = 6 ∨ o = 32) {v : Nat → Int} (hv : rv_ok v) {lt g a c : Int} (hp : prm lt g a c) {J : am_J} {K : am_K} (hE : Ec o J K v lt g a c) (hD : Dc v a c K) {y z : Int64} (hy0 : y ≠ 0) (hy : ∀ f : Nat, f < 64 → bt y f = true → (f : Int) < 8 * v 0) {d t0 t l b : Int} (hd : -1000 ≤ d ∧ d ≤ 1000) (hw : t0 < t ∧ t ≤ t0 + 9) (ht0 : 0 ≤ t0 ∧ t0 ≤ 400) (hb : 0 ≤ b ∧ b ≤ 1) (hz : ∀ f : Nat, f < 64 → (bt z f = true ↔ (a ≤ l ∧ l ≤ c) ∧ (f : Int) < 8 * v 0 ∧ rAf v lt ((f : Int) / 8) l t)) : ∃ J1 m J' K', f_Search_noteUp y d t J = some J1 ∧ f_Search_moved y d = some m ∧ f_Search_land (m &&& z) l b t J1 K = some (J', K') ∧ Ec o J' K' v lt g a c ∧ Dc v a c K' ∧ (∀ x, x ≤ 300 → (PhC v lt g a c J' K' t0 x ↔ PhC v lt g a c J K t0 x ∨ ∃ f : Nat, f < 64 ∧ bt y f = true ∧ lgW v lt g a c x t (mvF f d) l b)) ∧ (∀ l' b' : Int, 0 ≤ l' → l' ≤ 8 → 0 ≤ b' → b' ≤ 1 → K' 27 (ci t0 l' b') = K 27 (ci t0 l' b')) := by
  have hm := hv.1.1
  have hE' := hE
  obtain ⟨q1, q2, q3, q4, q5, q6, q7, q8⟩ := hE'
  have hp' := hp
  obtain ⟨p1, p2, p3, p4⟩ := hp'
  obtain ⟨J1, n1, n2, n3⟩ := c_noteUp (y := y) (d := d) (t := t) q6 (by omega) q8 hd (by omega) hy
  have fj1 : ∀ a j, am_nw [(26, some 6)] a j = true → J1 a j = J a j := fun a j h => frJ_Search_noteUp n1 h
  obtain ⟨m, m1, m2⟩ := c_moved hy0 hd
  have hmz : ∀ f : Nat, f < 64 → (bt (m &&& z) f = true ↔ bt m f = true ∧ (a ≤ l ∧ l ≤ c) ∧ (f : Int) < 8 * v 0 ∧ rAf v lt ((f : Int) / 8) l t) := by
    intro f hf
    rw [bt_and, Bool.and_eq_true, hz f hf]
  obtain ⟨J', K', l1, l2, l3, l4, l5, l6⟩ := c_land (v := v) (a := a) (c := c) (J := J1) (K := K) (y := m &&& z) (t0 := t0) (t := t) (l := l) (b := b) (g := g) (by rw [← q7]; exact fj1 _ _ rfl) p2 n2 hw ht0 hb (by omega) (fun f hf h => by have := (hmz f hf).mp h; exact ⟨this.2.2.1, this.2.1⟩) hD
  have E1 : Ec o J1 K v lt g a c := Ec_of ho hE fj1 (fun _ _ _ => rfl) n2
  refine ⟨J1, m, J', K', n1, m1, l1, Ec_of ho E1 (fun a j h => frJ_Search_land l1 h) (fun a j h => frK_Search_land l1 h) l2, l3, fun x hx => ?_, l6⟩
  have e1 : PhC v lt g a c J' K' t0 x ↔ (PhC v lt g a c J K t0 x ∨ (t ≤ x ∧ ∃ f : Nat, f < 64 ∧ bt y f = true ∧ 8 * v 0 ≤ f + d)) ∨ (t ≤ x ∧ ∃ f : Nat, f < 64 ∧ bt (m &&& z) f = true ∧ g ≤ f) ∨ ∃ f : Nat, f < 64 ∧ bt (m &&& z) f = true ∧ Cn v lt g a c x t f l b := by
    unfold PhC
    rw [Phi_adds l5, Phi_F (l4 x), Phi_F (n3 x hx), or_assoc]
  rw [e1, or_assoc]
  refine or_congr Iff.rfl ?_
  have mv : ∀ i : Nat, i < 64 → (bt m i = true ↔ ∃ f : Nat, f < 64 ∧ bt y f = true ∧ (i : Int) = mvF f d) := m2
  constructor
  · rintro (⟨h1, f, h2, h3, h4⟩ | ⟨h1, f, h2, h3, h4⟩ | ⟨f, h2, h3, h4⟩)
    · refine ⟨f, h2, h3, Or.inl ⟨h1, ?_⟩⟩
      unfold mvF
      rw [if_neg (by omega)]
      exact h4
    · obtain ⟨k1, k2, k3, k4⟩ := (hmz f h2).mp h3
      obtain ⟨i, i1, i2, i3⟩ := (mv f h2).mp k1
      refine ⟨i, i1, i2, Or.inr ?_⟩
      rw [← i3]
      exact ⟨k3, k2.1, k2.2, k4, Or.inl ⟨h1, h4⟩⟩
    · obtain ⟨k1, k2, k3, k4⟩ := (hmz f h2).mp h3
      obtain ⟨i, i1, i2, i3⟩ := (mv f h2).mp k1
      refine ⟨i, i1, i2, Or.inr ?_⟩
      rw [← i3]
      exact ⟨k3, k2.1, k2.2, k4, Or.inr h4⟩
  · rintro ⟨f, h1, h2, h3⟩
    have nn : 0 ≤ mvF f d := by unfold mvF; split <;> omega
    rcases h3 with ⟨h3, h4⟩ | ⟨h3, h4, h5, h6, h7⟩
    · refine Or.inl ⟨h3, f, h1, h2, ?_⟩
      unfold mvF at h4
      split at h4 <;> omega
    · have ee : (((mvF f d).toNat : Nat) : Int) = mvF f d := by omega
      have hb2 : bt (m &&& z) (mvF f d).toNat = true := by
        refine (hmz _ (by omega)).mpr ⟨(mv _ (by omega)).mpr ⟨f, h1, h2, ee⟩, ⟨h4, h5⟩, ?_, ?_⟩
        · rw [ee]; exact h3
        · rw [ee]; exact h6
      rcases h7 with h7 | h7
      · exact Or.inr (Or.inl ⟨h7.1, _, by omega, hb2, by rw [ee]; exact h7.2⟩)
      · exact Or.inr (Or.inr ⟨_, by omega, hb2, by rw [ee]; exact h7⟩)
/-- the reaches, one behind another -/
theorem c_L143 {o : Nat} (ho : o = 6 ∨ o = 32) {v : Nat → Int} (hv : rv_ok v) {lt g a c : Int} (hp : prm lt g a c) {t l b : Int} (ht : 0 ≤ t ∧ t ≤ 300) (hl : a ≤ l ∧ l ≤ c) (hb : b = 0 ∨ b = 1) {y z w : Int64} (hy : ∀ f : Nat, f < 64 → bt y f = true → (f : Int) < 8 * v 0 ∧ rAf v lt ((f : Int) / 8) l t) (hz : ∀ f : Nat, f < 64 → (bt z f = true ↔ (a ≤ (if b = 0 then l + 1 else l - 1) ∧ (if b = 0 then l + 1 else l - 1) ≤ c) ∧ (f : Int) < 8 * v 0 ∧ rAf v lt ((f : Int) / 8) (if b = 0 then l + 1 else l - 1) (t + 1))) (hw : ∀ f : Nat, f < 64 → (bt w f = true ↔ (a ≤ l ∧ l ≤ c) ∧ (f : Int) < 8 * v 0 ∧ rAf v lt ((f : Int) / 8) l (t + v 5))) : ∀ (k n : Nat) (r : Int) (J : am_J) (K : am_K), k < n → v 0 - r = (k : Int) → 0 ≤ r → Ec o J K v lt g a c → Dc v a c K → ∃ J' K', f_Search_leave_L143 o n l b t (if b = 0 then l + 1 else l - 1) (t + v 5) y z w r J K = some (J', K') ∧ Ec o J' K' v lt g a c ∧ Dc v a c K' ∧ (∀ x, x ≤ 300 → (PhC v lt g a c J' K' t x ↔ PhC v lt g a c J K t x ∨ ∃ f : Nat, f < 64 ∧ r ≤ (f : Int) / 8 ∧ bt y f = true ∧ Go v lt g a c x t f l b)) ∧ (∀ l' b' : Int, 0 ≤ l' → l' ≤ 8 → 0 ≤ b' → b' ≤ 1 → K' 27 (ci t l' b') = K 27 (ci t l' b')) := by
  have hm := hv.1.1
  have h5 := hv.1.2.2.2.2.2.1
  have hp' := hp
  obtain ⟨p1, p2, p3, p4⟩ := hp'
  intro k
  induction k with
  | zero =>
    intro n r J K hn hk r0 hE hD
    obtain ⟨n, rfl⟩ : ∃ m, n = m + 1 := ⟨n - 1, by omega⟩
    have e0 := hE.1.1 0 (by omega)
    rw [f_Search_leave_L143.eq_2, e0, if_pos (show am_i32 (v 0) by omega), if_pos (show am_i32 r by omega), if_neg (show ¬ r < v 0 by omega)]
    refine ⟨J, K, rfl, hE, hD, fun x hx => ⟨Or.inl, fun q => ?_⟩, fun _ _ _ _ _ _ => rfl⟩
    rcases q with q | ⟨f, f1, f2, f3, -⟩
    · exact q
    · have := (hy f f1 f3).1; omega
  | succ k ih =>
    intro n r J K hn hk r0 hE hD
    obtain ⟨n, rfl⟩ : ∃ m, n = m + 1 := ⟨n - 1, by omega⟩
    have e0 := hE.1.1 0 (by omega)
    have e1 := hE.2.2.1
    rw [f_Search_leave_L143.eq_2, e0, if_pos (show am_i32 (v 0) by omega), if_pos (show am_i32 r by omega), if_pos (show r < v 0 by omega), if_pos (am_lcmp32 _ _)]
    have hs : ∀ f : Nat, f < 64 → (bt (y &&& am_lshl 255 (r * 8)) f = true ↔ bt y f = true ∧ (f : Int) / 8 = r) := by
      intro f hf
      rw [bt_and, Bool.and_eq_true, bt_reach r0 (by omega) f hf]
    generalize hsm : y &&& am_lshl 255 (r * 8) = sm at hs ⊢
    by_cases c0 : am_lcmp sm 0 = 0
    · rw [if_pos c0]
      obtain ⟨J', K', u1, u2, u3, u4, u5⟩ := ih n (r + 1) J K (by omega) (by omega) (by omega) hE hD
      refine ⟨J', K', u1, u2, u3, fun x hx => ?_, u5⟩
      rw [u4 x hx]
      refine or_congr Iff.rfl ⟨?_, ?_⟩
      · rintro ⟨f, f1, f2, f3⟩
        exact ⟨f, f1, by omega, f3⟩
      · rintro ⟨f, f1, f2, f3⟩
        refine ⟨f, f1, ?_, f3⟩
        apply Classical.byContradiction
        intro nn
        have := (bt_eq0 sm).mp ((lcmp_0 sm).mp c0) f f1
        rw [(hs f f1).mpr ⟨f3.1, by omega⟩] at this
        cases this
    · have hne : sm ≠ 0 := fun nn => c0 ((lcmp_0 sm).mpr nn)
      obtain ⟨i, i1, i2⟩ := (bt_ne0 sm).mp hne
      obtain ⟨i3, i4⟩ := (hs i i1).mp i2
      have i5 := hy i i1 i3
      have io : rOp v r l := by rw [← i4]; exact i5.2.1
      have hfl := rFl_bd hv lt r l t
      have hwy := rWy_bd hv r0 (show r < 8 by omega) b
      rw [if_neg c0, c_flowAt hv hE.1 (by omega) (by omega) (by rw [e1]; omega), c_wayOn hv hE.1 (by omega) (by omega), if_pos (show 0 ≤ r ∧ r < v 0 ∧ rOp v r l from ⟨r0, by omega, io⟩), if_pos (show 0 ≤ r ∧ r < v 0 by omega), e1, rFl_lt]
      simp only [Option.bind_some]
      have hsy : ∀ f : Nat, f < 64 → bt sm f = true → (f : Int) < 8 * v 0 := fun f f1 f2 => (hy f f1 ((hs f f1).mp f2).1).1
      obtain ⟨J1, m1, J2, K2, a1, a2, a3, a4, a5, a6, a7⟩ := c_leg ho hv hp hE hD hne hsy (d := rWy v r b + rFl v lt r l t) (t0 := t) (t := t + 1) (b := b) (by omega) (by omega) (by omega) (by omega) hz
      rw [a1, a2]
      simp only [Option.bind_some]
      rw [a3]
      simp only [Option.bind_some]
      have hmul : -81 ≤ v 5 * rFl v lt r l t ∧ v 5 * rFl v lt r l t ≤ 81 := by
        have aa : v 5 = 1 ∨ v 5 = 2 ∨ v 5 = 3 ∨ v 5 = 4 ∨ v 5 = 5 ∨ v 5 = 6 ∨ v 5 = 7 ∨ v 5 = 8 ∨ v 5 = 9 := by omega
        rcases aa with e | e | e | e | e | e | e | e | e <;> rw [e] <;> omega
      rw [show t + v 5 - t = v 5 by omega]
      obtain ⟨J3, m3, J4, K4, b1, b2, b3, b4, b5, b6, b7⟩ := c_leg ho hv hp a4 a5 hne hsy (d := v 5 * rFl v lt r l t) (t0 := t) (t := t + v 5) (l := l) (b := 1 - b) (by omega) (by omega) (by omega) (by omega) hw
      rw [b1, b2]
      simp only [Option.bind_some]
      rw [b3]
      simp only [Option.bind_some]
      obtain ⟨J', K', u1, u2, u3, u4, u5⟩ := ih n (r + 1) J4 K4 (by omega) (by omega) (by omega) b4 b5
      refine ⟨J', K', u1, u2, u3, fun x hx => ?_, fun l' b' h1 h2 h3 h4 => ?_⟩
      · rw [u4 x hx, b6 x hx, a6 x hx, or_assoc, or_assoc]
        refine or_congr Iff.rfl ?_
        have sl : ∀ f : Nat, (f : Int) / 8 = r → mvF f (rWy v r b + rFl v lt r l t) = sF v lt f l b t := by
          intro f hf
          unfold mvF sF
          rw [hf, ← Int.add_assoc]
        have tl : ∀ f : Nat, (f : Int) / 8 = r → mvF f (v 5 * rFl v lt r l t) = tF v lt f l t := by
          intro f hf
          unfold mvF tF
          rw [hf]
        constructor
        · rintro (⟨f, f1, f2, f3⟩ | ⟨f, f1, f2, f3⟩ | ⟨f, f1, f2, f3⟩)
          · obtain ⟨f4, f5⟩ := (hs f f1).mp f2
            rw [sl f f5] at f3
            exact ⟨f, f1, by omega, f4, (hy f f1 f4).2, Or.inl ((sail_lg ..).mpr f3)⟩
          · obtain ⟨f4, f5⟩ := (hs f f1).mp f2
            rw [tl f f5] at f3
            exact ⟨f, f1, by omega, f4, (hy f f1 f4).2, Or.inr ((turn_lg ..).mpr f3)⟩
          · exact ⟨f, f1, by omega, f3⟩
        · rintro ⟨f, f1, f2, f3, f4, f5⟩
          by_cases e : (f : Int) / 8 = r
          · have f6 := (hs f f1).mpr ⟨f3, e⟩
            rcases f5 with f5 | f5
            · exact Or.inl ⟨f, f1, f6, by rw [sl f e]; exact (sail_lg ..).mp f5⟩
            · exact Or.inr (Or.inl ⟨f, f1, f6, by rw [tl f e]; exact (turn_lg ..).mp f5⟩)
          · exact Or.inr (Or.inr ⟨f, f1, by omega, f3, f4, f5⟩)
      · rw [u5 l' b' h1 h2 h3 h4, b7 l' b' h1 h2 h3 h4, a7 l' b' h1 h2 h3 h4]
theorem c_bitsIn {o : Nat} {v : Nat → Int} (hv : rv_ok v) {J : am_J} {K : am_K} (q : rq o J v) (k : rK o K v) {l t : Int} (hl : am_i32 l) (ht : am_i32 t) : ∃ z, f_River_bitsAfloatIn o J K l t = some z ∧ ∀ f : Nat, f < 64 → (bt z f = true ↔ (f : Int) < 8 * v 0 ∧ rAf v 0 ((f : Int) / 8) l t) := by
  have hm := hv.1.1
  have hph := rPh_bd hv 0 t
  have hh := rHt_bd hv 0 t
  have qp := (rq_p q hph.1 hph.2).2
  unfold f_River_bitsAfloatIn
  rw [c_phaseIn hv q ht]
  simp only [Option.bind_some]
  have eh : J (o + 3) (rPh v 0 t).toNat = rHt v 0 t := qp
  rw [if_pos hph, eh, if_pos (show am_i32 (rHt v 0 t) by omega), if_neg (show ¬ rHt v 0 t < 0 by omega), if_pos (show rHt v 0 t < 16 by omega), c_isLane hl]
  simp only [Option.bind_some, fl_32, if_true, fl_0]
  by_cases c0 : 0 ≤ l ∧ l ≤ 8
  · rw [if_neg (show ¬ ¬ (0 ≤ l ∧ l ≤ 8) from fun n => n c0), if_pos (show 0 ≤ rHt v 0 t * 9 + l ∧ rHt v 0 t * 9 + l < 144 by omega)]
    refine ⟨_, rfl, fun f hf => ?_⟩
    have kk := k (rHt v 0 t).toNat l.toNat f (by omega) (by omega) hf
    rw [show (rHt v 0 t * 9 + l).toNat = (rHt v 0 t).toNat * 9 + l.toNat by omega, kk, show ((l.toNat : Nat) : Int) = l by omega, show (((rHt v 0 t).toNat : Nat) : Int) = rHt v 0 t by omega]
    unfold rAf rWt
    constructor
    · rintro ⟨h1, h2, h3⟩
      exact ⟨by omega, h2, h3⟩
    · rintro ⟨h1, h2, h3⟩
      exact ⟨by omega, h2, h3⟩
  · rw [if_pos c0]
    refine ⟨_, rfl, fun f hf => ?_⟩
    rw [bt_0]
    constructor
    · intro n; cases n
    · rintro ⟨h1, h2⟩
      have := af_lane hv (show 0 ≤ (f : Int) / 8 by omega) (by omega) h2
      exact absurd this c0
