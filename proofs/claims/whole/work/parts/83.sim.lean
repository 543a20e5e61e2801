/-! the invariant, and what a frame keeps of it -/
def Sim (b : Bool) (J : am_J) (K : am_K) : Prop := sR b J ∧ rK (am_rv b) K (J 66) ∧ sV (J 66) ∧ sB J ∧ sLg J ∧ sW J ∧ sI J ∧ sS J ∧ sTn J ∧ sT J ∧ sA (J 66) J ∧ sQ J ∧ sF1 J
def fr (W : List (Nat × Option Nat)) (J J2 : am_J) : Prop := ∀ a j, am_nw W a j = true → J2 a j = J a j
theorem fr_two {W1 W2 : List (Nat × Option Nat)} {J J' J2 : am_J} (h1 : fr W1 J J') (h2 : fr W2 J' J2) : fr (W1 ++ W2) J J2 := by
  intro a j h
  unfold am_nw at h
  rw [List.all_append, Bool.and_eq_true] at h
  exact (h2 a j h.2).trans (h1 a j h.1)
def ck (L : List Nat) (W : List (Nat × Option Nat)) : Bool := W.all fun q => L.all fun c => !(Nat.beq q.1 c)
theorem fr_row {W : List (Nat × Option Nat)} {J J2 : am_J} (F : fr W J J2) {L : List Nat} (h : ck L W = true) {c : Nat} (hc : c ∈ L) : J2 c = J c := by
  funext j
  refine F c j (List.all_eq_true.mpr fun q hq => ?_)
  have h1 := List.all_eq_true.mp (List.all_eq_true.mp h q hq) c hc
  rw [h1]
  rfl
theorem p_R {b : Bool} {W : List (Nat × Option Nat)} {J J2 : am_J} (F : fr W J J2) (h : sR b J) (h66 : J2 66 = J 66) (h15 : J2 65 15 = 0) (h1 : W.all (fun q => decide (q.1 < 7) || decide (15 < q.1)) = true) (h2 : W.all (fun q => decide (q.1 < 33) || decide (41 < q.1)) = true) : sR b J2 := by
  unfold sR
  rw [h66]
  exact ⟨h.1, rq_nw h.2.1 F h1 h2, h15⟩
theorem p_B {J J2 : am_J} (h : sB J) (e18 : J2 18 = J 18) (e68 : ∀ j, j < 6 → J2 68 j = J 68 j) : sB J2 := by
  unfold sB bR bm at h ⊢
  rw [e18, e68 0 (by decide), e68 1 (by decide), e68 2 (by decide), e68 3 (by decide), e68 4 (by decide), e68 5 (by decide)]
  exact h
theorem p_L {J J2 : am_J} (h : sLg J) (e19 : J2 19 = J 19) (e20 : J2 20 = J 20) (e21 : J2 21 = J 21) (e66 : J2 66 = J 66) (e68 : ∀ j, 6 ≤ j → j < 31 → J2 68 j = J 68 j) : sLg J2 := by
  obtain ⟨h1, h2, h3, h4, h5⟩ := h
  unfold sLg
  rw [e19, e20, e21, e66, e68 6 (by decide) (by decide)]
  refine ⟨h1, h2, h3, fun i hi => ?_, h5⟩
  rw [e68 _ (by omega) (by omega), e68 _ (by omega) (by omega)]
  exact h4 i hi
theorem p_W {J J2 : am_J} (h : sW J) (e22 : J2 22 = J 22) (e23 : J2 23 = J 23) (e68 : ∀ j, 31 ≤ j → j < 72 → J2 68 j = J 68 j) : sW J2 := by
  obtain ⟨h1, h2, h3, h4⟩ := h
  unfold sW
  rw [e22, e23, e68 31 (by decide) (by decide)]
  refine ⟨h1, h2, h3, fun i hi => ?_⟩
  rw [e68 _ (by omega) (by omega)]
  exact h4 i hi
theorem p_I {J J2 : am_J} (h : sI J) (e : ∀ a, 43 ≤ a → a ≤ 56 → J2 a = J a) (e66 : J2 66 = J 66) (e69 : J2 69 = J 69) (e68 : ∀ j, 72 ≤ j → j < 216 → J2 68 j = J 68 j) : sI J2 := by
  obtain ⟨⟨a1, a2, a3⟩, b1, b2, b3⟩ := h
  unfold sI
  rw [e 43 (by decide) (by decide), e 50 (by decide) (by decide), e69]
  exact ⟨⟨a1, a2, fun z => vo_rows (a3 z) (fun k hk => e _ (by omega) (by omega)) e66 (fun j hj => e68 _ (by omega) (by omega))⟩, b1, b2, fun z => vo_rows (b3 z) (fun k hk => e _ (by omega) (by omega)) e66 (fun j hj => e68 _ (by omega) (by omega))⟩
theorem p_S {J J2 : am_J} (h : sS J) (e : ∀ a, 57 ≤ a → a ≤ 64 → J2 a = J a) (e75 : J2 75 = J 75) (e76 : J2 76 = J 76) (e77 : J2 77 = J 77) : sS J2 := fun k hk => sh1_cong (h k hk) (e _ (by omega) (by omega)) (e _ (by omega) (by omega)) (by rw [e75]) (by rw [e76]) (fun i _ => by rw [e77])
theorem p_Tn {J J2 : am_J} (h : sTn J) (e9 : J2 0 9 = J 0 9) (e41 : J2 65 41 = J 65 41) : sTn J2 := by
  unfold sTn
  rw [e9, e41]
  exact h
theorem p_T {J J2 : am_J} (h : sT J) (e1 : J2 2 1 = J 2 1) (e8 : J2 65 8 = J 65 8) (e3 : J2 3 = J 3) (e71 : J2 71 = J 71) : sT J2 := by
  unfold sT
  rw [e1, e8, e3, e71]
  exact h
theorem p_A {J J2 : am_J} (h : sA (J 66) J) (e31 : J2 31 = J 31) (e66 : J2 66 = J 66) : sA (J2 66) J2 := by
  rw [e66]
  exact sA_row h e31
theorem sim_of {b : Bool} {J J2 : am_J} {K K2 : am_K} {W : List (Nat × Option Nat)} (s : Sim b J K) (F : fr W J J2) (FK : ∀ a j, am_nw [(27, none)] a j = true → K2 a j = K a j) (c1 : (W.all (fun q => decide (q.1 < 7) || decide (15 < q.1)) && W.all (fun q => decide (q.1 < 33) || decide (41 < q.1)) && ck [66] W && am_nw W 65 12 && am_nw W 1 10 && am_nw W 65 13) = true) (h15 : J2 65 15 = 0) (hB : sB J2) (hL : sLg J2) (hW : sW J2) (hI : sI J2) (hS : sS J2) (hTn : sTn J2) (hT : sT J2) (hA : sA (J2 66) J2) : Sim b J2 K2 := by
  obtain ⟨sr, sk, sv, -, -, -, -, -, -, -, -, sq, sf⟩ := s
  simp only [Bool.and_eq_true] at c1
  obtain ⟨⟨⟨⟨⟨d1, d2⟩, d3⟩, d4⟩, d5⟩, d6⟩ := c1
  have e66 : J2 66 = J 66 := fr_row F d3 (List.mem_singleton.mpr rfl)
  refine ⟨p_R F sr e66 h15 d1 d2, ?_, ?_, hB, hL, hW, hI, hS, hTn, hT, hA, ?_, ?_⟩
  · rw [e66]; exact rK_nw sk FK
  · rw [e66]; exact sv
  · unfold sQ; rw [F _ _ d4]; exact sq
  · unfold sF1; rw [F _ _ d5, F _ _ d6]; exact sf
theorem mem_rng {a : Nat} {L : List Nat} {lo hi : Nat} (h : (List.range' lo (hi - lo)).all (fun c => L.contains c) = true) (h1 : lo ≤ a) (h2 : a < hi) : a ∈ L := by
  have := List.all_eq_true.mp h a (List.mem_range'_1.mpr ⟨h1, by omega⟩)
  exact List.contains_iff_mem.mp this
theorem K_same {K : am_K} : ∀ a j, am_nw [(27, none)] a j = true → K a j = K a j := fun _ _ _ => rfl
