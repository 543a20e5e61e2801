/-! what can be reached from a spot (minute t, fine f, lane l, board b) by minute x: g the goal, lanes a to c -/
def goW (v : Nat → Int) (g a c x : Int) (P : Int → Int → Int → Int → Prop) (t f l b : Int) : Prop :=
  (t ≤ x ∧ (8 * v 0 ≤ f ∨ (g ≤ f ∧ a ≤ l ∧ l ≤ c))) ∨ (f < 8 * v 0 ∧ a ≤ l ∧ l ≤ c ∧ P t f l b)
def cn (v : Nat → Int) (lt g a c x : Int) : Nat → Int → Int → Int → Int → Prop
  | 0, _, _, _, _ => False
  | n + 1, t, f, l, b => cn v lt g a c x n (t + 1) f l b ∨ (rAf v lt (f / 8) l t ∧ ((sOk v lt f l b t ∧ goW v g a c x (cn v lt g a c x n) (t + 1) (sF v lt f l b t) (sL v lt f l b t) b) ∨ (tOk v lt f l t ∧ goW v g a c x (cn v lt g a c x n) (t + v 5) (tF v lt f l t) l (1 - b))))
def Cn (v : Nat → Int) (lt g a c x t f l b : Int) : Prop := ∃ n, cn v lt g a c x n t f l b
/-- what she does in that minute, but for waiting -/
def Go (v : Nat → Int) (lt g a c x t f l b : Int) : Prop := rAf v lt (f / 8) l t ∧ ((sOk v lt f l b t ∧ goW v g a c x (Cn v lt g a c x) (t + 1) (sF v lt f l b t) (sL v lt f l b t) b) ∨ (tOk v lt f l t ∧ goW v g a c x (Cn v lt g a c x) (t + v 5) (tF v lt f l t) l (1 - b)))
theorem goW_of {v : Nat → Int} {lt g a c x : Int} {n : Nat} {t f l b : Int} (h : goW v g a c x (cn v lt g a c x n) t f l b) : goW v g a c x (Cn v lt g a c x) t f l b := by
  rcases h with h | ⟨h1, h2, h3, h4⟩
  · exact Or.inl h
  · exact Or.inr ⟨h1, h2, h3, n, h4⟩
theorem goW_to {v : Nat → Int} {lt g a c x : Int} {t f l b : Int} (h : goW v g a c x (Cn v lt g a c x) t f l b) : ∃ n, goW v g a c x (cn v lt g a c x n) t f l b := by
  rcases h with h | ⟨h1, h2, h3, n, h4⟩
  · exact ⟨0, Or.inl h⟩
  · exact ⟨n, Or.inr ⟨h1, h2, h3, h4⟩⟩
theorem Cn_eq (v : Nat → Int) (lt g a c x t f l b : Int) : Cn v lt g a c x t f l b ↔ Cn v lt g a c x (t + 1) f l b ∨ Go v lt g a c x t f l b := by
  constructor
  · intro ⟨n, h⟩
    cases n with
    | zero => exact absurd h id
    | succ n =>
      rcases h with h | ⟨h1, ⟨h2, h3⟩ | ⟨h2, h3⟩⟩
      · exact Or.inl ⟨n, h⟩
      · exact Or.inr ⟨h1, Or.inl ⟨h2, goW_of h3⟩⟩
      · exact Or.inr ⟨h1, Or.inr ⟨h2, goW_of h3⟩⟩
  · intro h
    rcases h with ⟨n, h⟩ | ⟨h1, ⟨h2, h3⟩ | ⟨h2, h3⟩⟩
    · exact ⟨n + 1, Or.inl h⟩
    · obtain ⟨n, h3⟩ := goW_to h3
      exact ⟨n + 1, Or.inr ⟨h1, Or.inl ⟨h2, h3⟩⟩⟩
    · obtain ⟨n, h3⟩ := goW_to h3
      exact ⟨n + 1, Or.inr ⟨h1, Or.inr ⟨h2, h3⟩⟩⟩
theorem Cn_lt {v : Nat → Int} (h5 : 1 ≤ v 5) {lt g a c x t f l b : Int} (h : Cn v lt g a c x t f l b) : t < x := by
  obtain ⟨n, h⟩ := h
  induction n generalizing t f l b with
  | zero => exact absurd h id
  | succ n ih =>
    rcases h with h | ⟨-, ⟨-, h3⟩ | ⟨-, h3⟩⟩
    · have := ih h; omega
    · rcases h3 with h3 | h3
      · omega
      · have := ih h3.2.2.2; omega
    · rcases h3 with h3 | h3
      · omega
      · have := ih h3.2.2.2; omega
theorem Cn_mono {v : Nat → Int} {lt g a c x x' t f l b : Int} (hx : x ≤ x') (h : Cn v lt g a c x t f l b) : Cn v lt g a c x' t f l b := by
  obtain ⟨n, h⟩ := h
  refine ⟨n, ?_⟩
  induction n generalizing t f l b with
  | zero => exact absurd h id
  | succ n ih =>
    have W : ∀ {t f l b : Int}, goW v g a c x (cn v lt g a c x n) t f l b → goW v g a c x' (cn v lt g a c x' n) t f l b := by
      intro t f l b h
      rcases h with ⟨h, h'⟩ | ⟨h1, h2, h3, h4⟩
      · exact Or.inl ⟨by omega, h'⟩
      · exact Or.inr ⟨h1, h2, h3, ih h4⟩
    rcases h with h | ⟨h1, ⟨h2, h3⟩ | ⟨h2, h3⟩⟩
    · exact Or.inl (ih h)
    · exact Or.inr ⟨h1, Or.inl ⟨h2, W h3⟩⟩
    · exact Or.inr ⟨h1, Or.inr ⟨h2, W h3⟩⟩
/-- the first minute by which Q holds, or none -/
def arr (Q : Int → Prop) (r : Int) : Prop := (r = -4 ∨ (0 ≤ r ∧ r ≤ 300)) ∧ ∀ x, x ≤ 300 → ((r ≠ -4 ∧ r ≤ x) ↔ Q x)
theorem arr_eq {Q : Int → Prop} {r r' : Int} (h : arr Q r) (h' : arr Q r') : r = r' := by
  by_cases c : r = -4
  · by_cases c' : r' = -4
    · omega
    · have b := h'.1
      have := (h.2 r' (by omega)).mpr ((h'.2 r' (by omega)).mp ⟨c', by omega⟩)
      omega
  · have b := h.1
    have b' := h'.1
    have := (h'.2 r (by omega)).mpr ((h.2 r (by omega)).mp ⟨c, by omega⟩)
    by_cases c' : r' = -4
    · omega
    · have := (h.2 r' (by omega)).mpr ((h'.2 r' (by omega)).mp ⟨c', by omega⟩)
      omega
/-! a set of spots by minutes, and what it can come to -/
def Phi (S : Int → Int → Int → Int → Prop) (F : Int → Prop) (P : Int → Int → Int → Int → Int → Prop) (x : Int) : Prop := F x ∨ ∃ t f l b, S t f l b ∧ P x t f l b
theorem Phi_cong {S S' : Int → Int → Int → Int → Prop} {F F' : Int → Prop} {P : Int → Int → Int → Int → Int → Prop} {x : Int} (hS : ∀ t f l b, S t f l b ↔ S' t f l b) (hF : F x ↔ F' x) : Phi S F P x ↔ Phi S' F' P x := by
  unfold Phi
  rw [hF]
  simp only [hS]
/-- one spot more -/
theorem Phi_add {S S' : Int → Int → Int → Int → Prop} {F : Int → Prop} {P : Int → Int → Int → Int → Int → Prop} {x t1 f1 l1 b1 : Int} (hS : ∀ t f l b, S' t f l b ↔ S t f l b ∨ (t = t1 ∧ f = f1 ∧ l = l1 ∧ b = b1)) : Phi S' F P x ↔ Phi S F P x ∨ P x t1 f1 l1 b1 := by
  unfold Phi
  constructor
  · rintro (h | ⟨t, f, l, b, h1, h2⟩)
    · exact Or.inl (Or.inl h)
    · rcases (hS t f l b).mp h1 with h1 | ⟨rfl, rfl, rfl, rfl⟩
      · exact Or.inl (Or.inr ⟨t, f, l, b, h1, h2⟩)
      · exact Or.inr h2
  · rintro ((h | ⟨t, f, l, b, h1, h2⟩) | h)
    · exact Or.inl h
    · exact Or.inr ⟨t, f, l, b, (hS t f l b).mpr (Or.inl h1), h2⟩
    · exact Or.inr ⟨t1, f1, l1, b1, (hS _ _ _ _).mpr (Or.inr ⟨rfl, rfl, rfl, rfl⟩), h⟩
