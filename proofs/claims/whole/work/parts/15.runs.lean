/-! runs of the abstract machine without their fuel; blocks of instructions -/
def am_stepn (X : am_X) (T : List am_Row) : Nat → Bool → am_S → Option am_G
  | 0, g, σ => some (g, .inl σ)
  | k + 1, g, σ => match am_step X T σ with
    | some (g', .inl σ') => am_stepn X T k (g' && g) σ'
    | some (g', o) => some (g' && g, o)
    | none => none
def am_runs (X : am_X) (T : List am_Row) (σ : am_S) (R : am_R) : Prop := ∃ n0 : Nat, ∀ n, n0 ≤ n → am_exec X n T σ = some R
theorem am_runs_step {X : am_X} {T : List am_Row} {σ σ' : am_S} {R : am_R} (hs : am_step X T σ = some (true, .inl σ')) (h : am_runs X T σ' R) : am_runs X T σ R := by
  obtain ⟨n0, h0⟩ := h
  refine ⟨n0 + 1, fun n hn => ?_⟩
  obtain ⟨n', rfl⟩ : ∃ n', n = n' + 1 := ⟨n - 1, by omega⟩
  unfold am_exec
  rw [hs]
  exact h0 n' (by omega)
theorem am_runs_ret {X : am_X} {T : List am_Row} {σ : am_S} {R : am_R} (hs : am_step X T σ = some (true, .inr (.inr R))) : am_runs X T σ R := by
  refine ⟨1, fun n hn => ?_⟩
  obtain ⟨n', rfl⟩ : ∃ n', n = n' + 1 := ⟨n - 1, by omega⟩
  unfold am_exec
  rw [hs]
theorem am_runs_call {X : am_X} {T : List am_Row} {σ : am_S} {R : am_R} {c ml mc ms nx : Nat} {as : List am_V} {lv : am_L} {st : List am_V} {sh : am_Sh} {m : am_M} {v : Option am_V} {sh' : am_Sh} {m' : am_M} (hs : am_step X T σ = some (true, .inr (.inl (c, as, ml, mc, ms, nx, lv, st, sh, m)))) (hc : am_runs X (am_T c) (0, am_largs 0 as, [], sh, m) (v, sh', m')) (hl : sh'.length = sh.length + mc ∧ am_tot sh' = am_tot sh + ms) (h : am_runs X T (nx, lv, v.toList ++ st, sh', m') R) : am_runs X T σ R := by
  obtain ⟨n0, h0⟩ := h
  obtain ⟨n1, h1⟩ := hc
  refine ⟨n0 + n1 + 1, fun n hn => ?_⟩
  obtain ⟨n', rfl⟩ : ∃ n', n = n' + 1 := ⟨n - 1, by omega⟩
  unfold am_exec
  rw [hs]
  dsimp only
  rw [h1 n' (by omega)]
  dsimp only
  rw [if_pos hl]
  exact h0 n' (by omega)
theorem am_stepn_g {X : am_X} {T : List am_Row} : ∀ (k : Nat) (g : Bool) (σ : am_S) (q : am_G), am_stepn X T k g σ = some q → q.1 = true → g = true
  | 0, g, σ, q, h, hg => by
    simp only [am_stepn, Option.some.injEq] at h
    rw [← h] at hg
    exact hg
  | k + 1, g, σ, q, h, hg => by
    unfold am_stepn at h
    split at h
    · rename_i g' σ' hs
      have := am_stepn_g k (g' && g) σ' q h hg
      rw [Bool.and_eq_true] at this
      exact this.2
    · rename_i g' o hn hs
      simp only [Option.some.injEq] at h
      rw [← h] at hg
      rw [Bool.and_eq_true] at hg
      exact hg.2
    · cases h
theorem am_r_go {X : am_X} {T : List am_Row} {R : am_R} : ∀ {k : Nat} {g0 g : Bool} {σ σ' : am_S}, am_stepn X T k g0 σ = some (g, .inl σ') → g = true → am_runs X T σ' R → am_runs X T σ R
  | 0, g0, g, σ, σ', h, hg, hr => by
    simp only [am_stepn, Option.some.injEq, Prod.mk.injEq, Sum.inl.injEq] at h
    rw [h.2]
    exact hr
  | k + 1, g0, g, σ, σ', h, hg, hr => by
    unfold am_stepn at h
    split at h
    · rename_i g' τ hs
      have h1 := am_stepn_g k _ _ _ h hg
      rw [Bool.and_eq_true] at h1
      rw [h1.1] at hs
      exact am_runs_step hs (am_r_go h hg hr)
    · rename_i g' o hn hs
      simp only [Option.some.injEq, Prod.mk.injEq] at h
      exact (hn σ' h.2).elim
    · cases h
theorem am_r_last {X : am_X} {T : List am_Row} {R : am_R} {x : am_C ⊕ am_R} (hP : ∀ σ : am_S, am_step X T σ = some (true, .inr x) → am_runs X T σ R) : ∀ {k : Nat} {g0 g : Bool} {σ : am_S}, am_stepn X T k g0 σ = some (g, .inr x) → g = true → am_runs X T σ R
  | 0, g0, g, σ, h, hg => by
    simp only [am_stepn, Option.some.injEq, Prod.mk.injEq] at h
    cases h.2
  | k + 1, g0, g, σ, h, hg => by
    unfold am_stepn at h
    split at h
    · rename_i g' τ hs
      have h1 := am_stepn_g k _ _ _ h hg
      rw [Bool.and_eq_true] at h1
      rw [h1.1] at hs
      exact am_runs_step hs (am_r_last hP h hg)
    · rename_i g' o hn hs
      simp only [Option.some.injEq, Prod.mk.injEq] at h
      obtain ⟨h1, h2⟩ := h
      rw [← h1, Bool.and_eq_true] at hg
      rw [hg.1, h2] at hs
      exact hP σ hs
    · cases h
theorem am_r_ret {X : am_X} {T : List am_Row} {R : am_R} {k : Nat} {g : Bool} {σ : am_S} (h : am_stepn X T k true σ = some (g, .inr (.inr R))) (hg : g = true) : am_runs X T σ R := am_r_last (fun _ hs => am_runs_ret hs) h hg
theorem am_r_call {X : am_X} {T T' : List am_Row} {R : am_R} {k : Nat} {g : Bool} {σ : am_S} {c ml nx : Nat} {as : List am_V} {lv : am_L} {st : List am_V} {sh : am_Sh} {m : am_M} {v : Option am_V} {m' : am_M} (h : am_stepn X T k true σ = some (g, .inr (.inl (c, as, ml, 0, 0, nx, lv, st, sh, m)))) (hg : g = true) (hT : am_T c = T') (hc : am_runs X T' (0, am_largs 0 as, [], sh, m) (v, sh, m')) (hr : am_runs X T (nx, lv, v.toList ++ st, sh, m') R) : am_runs X T σ R := by
  subst hT
  exact am_r_last (fun _ hs => am_runs_call hs hc ⟨rfl, rfl⟩ hr) h hg
theorem am_r_callC {X : am_X} {T T' : List am_Row} {R : am_R} {k : Nat} {g : Bool} {σ : am_S} {c ml mc ms nx : Nat} {as : List am_V} {lv : am_L} {st : List am_V} {sh sh' : am_Sh} {m : am_M} {v : Option am_V} {m' : am_M} (h : am_stepn X T k true σ = some (g, .inr (.inl (c, as, ml, mc, ms, nx, lv, st, sh, m)))) (hg : g = true) (hT : am_T c = T') (hc : am_runs X T' (0, am_largs 0 as, [], sh, m) (v, sh', m')) (hl : sh'.length = sh.length + mc ∧ am_tot sh' = am_tot sh + ms) (hr : am_runs X T (nx, lv, v.toList ++ st, sh', m') R) : am_runs X T σ R := by
  subst hT
  exact am_r_last (fun _ hs => am_runs_call hs hc hl hr) h hg
theorem am_r_t {X : am_X} {T : List am_Row} {R : am_R} {k : Nat} {g c : Bool} {σ : am_S} {p q : Nat} {lv : am_L} {st : List am_V} {sh : am_Sh} {m : am_M} (h : am_stepn X T k true σ = some (g, .inl (bif c then p else q, lv, st, sh, m))) (hg : g = true) (hc : c = true) (hr : am_runs X T (p, lv, st, sh, m) R) : am_runs X T σ R := by
  subst hc
  exact am_r_go h hg hr
theorem am_r_f {X : am_X} {T : List am_Row} {R : am_R} {k : Nat} {g c : Bool} {σ : am_S} {p q : Nat} {lv : am_L} {st : List am_V} {sh : am_Sh} {m : am_M} (h : am_stepn X T k true σ = some (g, .inl (bif c then p else q, lv, st, sh, m))) (hg : g = true) (hc : c = false) (hr : am_runs X T (q, lv, st, sh, m) R) : am_runs X T σ R := by
  subst hc
  exact am_r_go h hg hr
theorem am_r_sw {X : am_X} {T : List am_Row} {R : am_R} {k : Nat} {g : Bool} {σ : am_S} {p q : Nat} {lv : am_L} {st : List am_V} {sh : am_Sh} {m : am_M} (h : am_stepn X T k true σ = some (g, .inl (q, lv, st, sh, m))) (hg : g = true) (hc : q = p) (hr : am_runs X T (p, lv, st, sh, m) R) : am_runs X T σ R := by
  subst hc
  exact am_r_go h hg hr
theorem am_r_eq {X : am_X} {T : List am_Row} {R : am_R} {σ σ' : am_S} (h : am_step X T σ = am_step X T σ') (hr : am_runs X T σ' R) : am_runs X T σ R := by
  obtain ⟨n0, h0⟩ := hr
  refine ⟨n0 + 1, fun n hn => ?_⟩
  obtain ⟨n', rfl⟩ : ∃ n', n = n' + 1 := ⟨n - 1, by omega⟩
  have h1 := h0 (n' + 1) (by omega)
  unfold am_exec at h1 ⊢
  rw [h]
  exact h1
theorem am_sw_out {lo hi : Int} {ps : List Nat} {x : Int} (h : x < lo ∨ hi < x) : am_sw lo hi ps x = am_ps ps 0 := by unfold am_sw; rw [if_pos h]
theorem am_g1 {P : Prop} [Decidable P] {g : Bool} (h : P) (hg : g = true) : (decide P && g) = true := by rw [decide_eq_true h, hg]; rfl
theorem am_g2 {P P' : Prop} [Decidable P] [Decidable P'] {g : Bool} (h : P) (h' : P') (hg : g = true) : ((decide P && decide P') && g) = true := by rw [decide_eq_true h, decide_eq_true h', hg]; rfl
theorem am_nd_t {P : Prop} [Decidable P] (h : P) : (!decide P) = false := by rw [decide_eq_true h]; rfl
theorem am_nd_f {P : Prop} [Decidable P] (h : ¬ P) : (!decide P) = true := by rw [decide_eq_false h]; rfl
theorem am_if_some {P : Prop} [Decidable P] {α : Type} {a : Option α} {r : α} (h : (if P then a else none) = some r) : P ∧ a = some r := by
  by_cases hP : P
  · rw [if_pos hP] at h; exact ⟨hP, h⟩
  · rw [if_neg hP] at h; cases h
theorem am_bind_some {α β : Type} {a : Option α} {f : α → Option β} {r : β} (h : a.bind f = some r) : ∃ q, a = some q ∧ f q = some r := by
  cases a with
  | none => cases h
  | some q => exact ⟨q, rfl, h⟩
theorem am_gi {j : Int} {n : Nat} {g : Bool} (h : 0 ≤ j ∧ j < (n : Int)) (hg : g = true) : (am_in j n && g) = true := am_g1 h hg
theorem am_gz {v j : Int} {n : Nat} {g : Bool} (hv : v = 0 ∨ v = 1) (h : 0 ≤ j ∧ j < (n : Int)) (hg : g = true) : ((decide (v = 0 ∨ v = 1) && am_in j n) && g) = true := am_g2 hv h hg
def am_wc (a : Nat) (j : Int) : Int := (am_words.getD (a - 2100) []).getD j.toNat 0
def am_wln (a : Nat) : Int := ((am_words.getD (a - 2100) []).length : Int)
abbrev am_iv (x : Int) : am_V := .inl x
abbrev am_jv (x : Int64) : am_V := .inr (.inl x)
abbrev am_pv (a : Nat) : am_V := .inr (.inr (some a))
def am_FU : Nat := 20000
def am_rv (b : Bool) : Nat := bif b then 6 else 32
def am_dr (b : Bool) : Nat := bif b then 32 else 6
def am_SH : am_Sh := [(10, 10), (2, 12), (8, 2), (102, 400), (101, 182), (100, 12), (3, 10), (100, 7), (100, 12), (100, 12), (100, 8), (100, 8), (100, 8), (101, 8), (100, 72), (101, 72), (103, 144), (9, 4), (0, 6), (1, 3), (100, 12), (100, 12), (7, 2), (100, 40), (104, 2), (105, 4), (4, 7), (103, 180), (6, 4), (0, 6), (0, 6), (100, 301), (3, 10), (100, 7), (100, 12), (100, 12), (100, 8), (100, 8), (100, 8), (101, 8), (100, 72), (101, 72), (103, 144), (9, 4), (0, 6), (1, 3), (100, 12), (100, 12), (7, 2), (100, 40), (9, 4), (0, 6), (1, 3), (100, 12), (100, 12), (7, 2), (100, 40), (5, 3), (100, 40), (5, 3), (100, 40), (5, 3), (100, 40), (5, 3), (100, 40), (11, 42), (100, 295), (100, 295), (100, 216), (101, 2), (101, 252), (100, 400), (101, 11520), (100, 11520), (100, 301), (100, 4), (100, 4), (100, 160)]
def am_ln (a : Nat) : Nat := match am_at am_SH a with
  | some q => q.2
  | none => 0
def am_rl0 : List (Nat × List (Option Nat)) := [(1, [some 2, some 4, some 5]), (2, [some 3]), (6, [some 7, some 8, some 9, some 10, some 11, some 12, some 13, some 14, some 15, some 16]), (17, [some 18, some 19, some 22]), (19, [some 20, some 21]), (22, [some 23]), (24, [some 43, some 50]), (25, [some 57, some 59, some 61, some 63]), (26, [some 27]), (28, [some 29]), (32, [some 33, some 34, some 35, some 36, some 37, some 38, some 39, some 40, some 41, some 42]), (43, [some 44, some 45, some 48]), (45, [some 46, some 47]), (48, [some 49]), (50, [some 51, some 52, some 55]), (52, [some 53, some 54]), (55, [some 56]), (57, [some 58]), (59, [some 60]), (61, [some 62]), (63, [some 64]), (65, [some 66, some 67, some 68, some 69, some 70, none, none, some 71, none, none, none, none, none, none, none, none, none, none, none, none, some 72, none, none, none, none, some 73, some 74, none, none, none, none, none, none, none, none, none, none, none, some 75, some 76, some 77, none])]
def am_rnth : List (Option Nat) → Nat → Option Nat
  | [], _ => none
  | q :: _, 0 => q
  | _ :: t, k + 1 => am_rnth t k
def am_rget : List (Nat × List (Option Nat)) → Nat → Nat → Option Nat
  | [], _, _ => none
  | q :: t, a, j => bif Nat.beq q.1 a then am_rnth q.2 j else am_rget t a j
def am_RF (b : Bool) (a j : Nat) : Option Nat := bif Nat.beq a 0 then (bif Nat.beq j 8 then some (am_rv b) else am_rnth [some 1, some 17, some 24, some 25, some 26, some 28, some 30, some 31] j) else bif Nat.beq a 1 && Nat.beq j 3 then some (am_dr b) else am_rget am_rl0 a j
theorem tb_UpRiver_init : am_T 0 = T_UpRiver_init := rfl
theorem tb_Reader_init : am_T 1 = T_Reader_init := rfl
theorem tb_Tape_init : am_T 2 = T_Tape_init := rfl
theorem tb_River_init : am_T 3 = T_River_init := rfl
theorem tb_River_forget : am_T 4 = T_River_forget := rfl
theorem tb_River_settle : am_T 5 = T_River_settle := rfl
theorem tb_River_bitsAfloat : am_T 6 = T_River_bitsAfloat := rfl
theorem tb_River_isOpen : am_T 7 = T_River_isOpen := rfl
theorem tb_Voyage_init : am_T 8 = T_Voyage_init := rfl
theorem tb_Boat_init : am_T 9 = T_Boat_init := rfl
theorem tb_Log_init : am_T 10 = T_Log_init := rfl
theorem tb_Swings_init : am_T 11 = T_Swings_init := rfl
theorem tb_Search_init : am_T 12 = T_Search_init := rfl
theorem tb_Skipper_init : am_T 13 = T_Skipper_init := rfl
theorem tb_Sheet_init : am_T 14 = T_Sheet_init := rfl
theorem tb_UpRiver_feed : am_T 15 = T_UpRiver_feed := rfl
theorem tb_Tape_append : am_T 16 = T_Tape_append := rfl
theorem tb_UpRiver_end : am_T 17 = T_UpRiver_end := rfl
theorem tb_UpRiver_text : am_T 18 = T_UpRiver_text := rfl
theorem tb_Reader_readText : am_T 19 = T_Reader_readText := rfl
theorem tb_Reader_forget : am_T 20 = T_Reader_forget := rfl
theorem tb_Reader_nextToken : am_T 21 = T_Reader_nextToken := rfl
theorem tb_Tape_at : am_T 22 = T_Tape_at := rfl
theorem tb_Reader_isLetter : am_T 23 = T_Reader_isLetter := rfl
theorem tb_Reader_skipName : am_T 24 = T_Reader_skipName := rfl
theorem tb_Reader_isFigure : am_T 25 = T_Reader_isFigure := rfl
theorem tb_Reader_takeNumber : am_T 26 = T_Reader_takeNumber := rfl
theorem tb_Reader_fail : am_T 27 = T_Reader_fail := rfl
theorem tb_Reader_readLine : am_T 28 = T_Reader_readLine := rfl
theorem tb_Reader_kindOfName : am_T 29 = T_Reader_kindOfName := rfl
theorem tb_Reader_wordOf : am_T 30 = T_Reader_wordOf := rfl
theorem tb_Reader_isWord : am_T 31 = T_Reader_isWord := rfl
theorem tb_JString_length : am_T 32 = T_JString_length := rfl
theorem tb_JString_coder : am_T 33 = T_JString_coder := rfl
theorem tb_JString_charAt : am_T 34 = T_JString_charAt := rfl
theorem tb_JString_isLatin1 : am_T 35 = T_JString_isLatin1 := rfl
theorem tb_JStringLatin1_charAt : am_T 36 = T_JStringLatin1_charAt := rfl
theorem tb_JString_checkIndex : am_T 37 = T_JString_checkIndex := rfl
theorem tb_JPreconditions_checkIndex : am_T 38 = T_JPreconditions_checkIndex := rfl
theorem tb_Reader_mark : am_T 39 = T_Reader_mark := rfl
theorem tb_Reader_numbersOf : am_T 40 = T_Reader_numbersOf := rfl
theorem tb_Reader_leastOf : am_T 41 = T_Reader_leastOf := rfl
theorem tb_Reader_mostOf : am_T 42 = T_Reader_mostOf := rfl
theorem tb_Reader_readNumber : am_T 43 = T_Reader_readNumber := rfl
theorem tb_Reader_markOf : am_T 44 = T_Reader_markOf := rfl
theorem tb_Reader_tell : am_T 45 = T_Reader_tell := rfl
theorem tb_Reader_tellPhases : am_T 46 = T_Reader_tellPhases := rfl
theorem tb_Reader_tellReach : am_T 47 = T_Reader_tellReach := rfl
theorem tb_JMath_max : am_T 48 = T_JMath_max := rfl
theorem tb_Reader_tradeFor : am_T 49 = T_Reader_tradeFor := rfl
theorem tb_UpRiver_beginAnew : am_T 50 = T_UpRiver_beginAnew := rfl
theorem tb_Boat_lieAtStart : am_T 51 = T_Boat_lieAtStart := rfl
theorem tb_Boat_lieAt : am_T 52 = T_Boat_lieAt := rfl
theorem tb_UpRiver_fault : am_T 53 = T_UpRiver_fault := rfl
theorem tb_UpRiver_rule : am_T 54 = T_UpRiver_rule := rfl
theorem tb_UpRiver_reach : am_T 55 = T_UpRiver_reach := rfl
theorem tb_River_hasReach : am_T 56 = T_River_hasReach := rfl
theorem tb_UpRiver_asInt : am_T 57 = T_UpRiver_asInt := rfl
theorem tb_River_wayOn : am_T 58 = T_River_wayOn := rfl
theorem tb_UpRiver_flow : am_T 59 = T_UpRiver_flow := rfl
theorem tb_UpRiver_isMinute : am_T 60 = T_UpRiver_isMinute := rfl
theorem tb_River_flowAt : am_T 61 = T_River_flowAt := rfl
theorem tb_River_phaseIn : am_T 62 = T_River_phaseIn := rfl
theorem tb_JMath_floorDiv : am_T 63 = T_JMath_floorDiv := rfl
theorem tb_JMath_floorMod : am_T 64 = T_JMath_floorMod := rfl
theorem tb_UpRiver_afloat : am_T 65 = T_UpRiver_afloat := rfl
theorem tb_UpRiver_isLane : am_T 66 = T_UpRiver_isLane := rfl
theorem tb_UpRiver_isYesOrNo : am_T 67 = T_UpRiver_isYesOrNo := rfl
theorem tb_River_carries : am_T 68 = T_River_carries := rfl
theorem tb_River_waterAt : am_T 69 = T_River_waterAt := rfl
theorem tb_UpRiver_sail : am_T 70 = T_UpRiver_sail := rfl
theorem tb_Boat_isUp : am_T 71 = T_Boat_isUp := rfl
theorem tb_River_top : am_T 72 = T_River_top := rfl
theorem tb_Boat_trySail : am_T 73 = T_Boat_trySail := rfl
theorem tb_Boat_isAfloat : am_T 74 = T_Boat_isAfloat := rfl
theorem tb_Boat_laneAhead : am_T 75 = T_Boat_laneAhead := rfl
theorem tb_UpRiver_turn : am_T 76 = T_UpRiver_turn := rfl
theorem tb_Boat_tryTurn : am_T 77 = T_Boat_tryTurn := rfl
theorem tb_UpRiver_anchor : am_T 78 = T_UpRiver_anchor := rfl
theorem tb_UpRiver_now : am_T 79 = T_UpRiver_now := rfl
theorem tb_UpRiver_set : am_T 80 = T_UpRiver_set := rfl
theorem tb_UpRiver_soonest : am_T 81 = T_UpRiver_soonest := rfl
theorem tb_UpRiver_arrivalOf : am_T 82 = T_UpRiver_arrivalOf := rfl
theorem tb_Search_begin : am_T 83 = T_Search_begin := rfl
theorem tb_Search_keepTo : am_T 84 = T_Search_keepTo := rfl
theorem tb_JMath_min : am_T 85 = T_JMath_min := rfl
theorem tb_Search_add : am_T 86 = T_Search_add := rfl
theorem tb_Search_serves : am_T 87 = T_Search_serves := rfl
theorem tb_Search_indexOf : am_T 88 = T_Search_indexOf := rfl
theorem tb_Search_arrive : am_T 89 = T_Search_arrive := rfl
theorem tb_Search_leave : am_T 90 = T_Search_leave := rfl
theorem tb_River_bitsAfloatIn : am_T 91 = T_River_bitsAfloatIn := rfl
theorem tb_Search_noteUp : am_T 92 = T_Search_noteUp := rfl
theorem tb_Search_bitsFrom : am_T 93 = T_Search_bitsFrom := rfl
theorem tb_Search_moved : am_T 94 = T_Search_moved := rfl
theorem tb_Search_land : am_T 95 = T_Search_land := rfl
theorem tb_UpRiver_only : am_T 96 = T_UpRiver_only := rfl
theorem tb_UpRiver_first : am_T 97 = T_UpRiver_first := rfl
theorem tb_Boat_take : am_T 98 = T_Boat_take := rfl
theorem tb_UpRiver_trialArrival : am_T 99 = T_UpRiver_trialArrival := rfl
theorem tb_UpRiver_from : am_T 100 = T_UpRiver_from := rfl
theorem tb_UpRiver_startArrival : am_T 101 = T_UpRiver_startArrival := rfl
theorem tb_UpRiver_start : am_T 102 = T_UpRiver_start := rfl
theorem tb_UpRiver_days : am_T 103 = T_UpRiver_days := rfl
theorem tb_UpRiver_skipper : am_T 104 = T_UpRiver_skipper := rfl
theorem tb_UpRiver_isSkipper : am_T 105 = T_UpRiver_isSkipper := rfl
theorem tb_UpRiver_skipperArrival : am_T 106 = T_UpRiver_skipperArrival := rfl
theorem tb_Skipper_begin : am_T 107 = T_Skipper_begin := rfl
theorem tb_Skipper_act : am_T 108 = T_Skipper_act := rfl
theorem tb_Skipper_isShoalAhead : am_T 109 = T_Skipper_isShoalAhead := rfl
theorem tb_Skipper_isOtherBoardBetter : am_T 110 = T_Skipper_isOtherBoardBetter := rfl
theorem tb_UpRiver_best : am_T 111 = T_UpRiver_best := rfl
theorem tb_UpRiver_loses : am_T 112 = T_UpRiver_loses := rfl
theorem tb_UpRiver_narrow : am_T 113 = T_UpRiver_narrow := rfl
theorem tb_UpRiver_lead : am_T 114 = T_UpRiver_lead := rfl
theorem tb_UpRiver_areChances : am_T 115 = T_UpRiver_areChances := rfl
theorem tb_UpRiver_shallowChances : am_T 116 = T_UpRiver_shallowChances := rfl
theorem tb_UpRiver_commonDivisor : am_T 117 = T_UpRiver_commonDivisor := rfl
theorem tb_UpRiver_near : am_T 118 = T_UpRiver_near := rfl
theorem tb_UpRiver_logged : am_T 119 = T_UpRiver_logged := rfl
theorem tb_Log_add : am_T 120 = T_Log_add := rfl
theorem tb_UpRiver_lost : am_T 121 = T_UpRiver_lost := rfl
theorem tb_UpRiver_stretchArrival : am_T 122 = T_UpRiver_stretchArrival := rfl
theorem tb_UpRiver_swing : am_T 123 = T_UpRiver_swing := rfl
theorem tb_Swings_add : am_T 124 = T_Swings_add := rfl
theorem tb_UpRiver_judged : am_T 125 = T_UpRiver_judged := rfl
theorem tb_Swings_rightBy : am_T 126 = T_Swings_rightBy := rfl
theorem tb_Swings_meanAhead : am_T 127 = T_Swings_meanAhead := rfl
theorem tb_UpRiver_judge : am_T 128 = T_UpRiver_judge := rfl
theorem tb_UpRiver_barge : am_T 129 = T_UpRiver_barge := rfl
theorem tb_UpRiver_keep : am_T 130 = T_UpRiver_keep := rfl
theorem tb_Voyage_take : am_T 131 = T_Voyage_take := rfl
theorem tb_Log_take : am_T 132 = T_Log_take := rfl
theorem tb_Swings_take : am_T 133 = T_Swings_take := rfl
theorem tb_UpRiver_back : am_T 134 = T_UpRiver_back := rfl
theorem tb_UpRiver_sheet : am_T 135 = T_UpRiver_sheet := rfl
theorem tb_UpRiver_isSheet : am_T 136 = T_UpRiver_isSheet := rfl
theorem tb_Sheet_isKind : am_T 137 = T_Sheet_isKind := rfl
theorem tb_Sheet_renew : am_T 138 = T_Sheet_renew := rfl
theorem tb_UpRiver_lay : am_T 139 = T_UpRiver_lay := rfl
theorem tb_Sheet_put : am_T 140 = T_Sheet_put := rfl
theorem tb_Sheet_hasCell : am_T 141 = T_Sheet_hasCell := rfl
theorem tb_UpRiver_read : am_T 142 = T_UpRiver_read := rfl
theorem tb_Sheet_faultAs : am_T 143 = T_Sheet_faultAs := rfl
theorem tb_Sheet_cellAt : am_T 144 = T_Sheet_cellAt := rfl
theorem tb_UpRiver_torn : am_T 145 = T_UpRiver_torn := rfl
theorem tb_UpRiver_count : am_T 146 = T_UpRiver_count := rfl
theorem tb_UpRiver_howMany : am_T 147 = T_UpRiver_howMany := rfl
theorem tb_UpRiverModel_init : am_T 148 = T_UpRiverModel_init := rfl
theorem tb_UpRiverModel_firstDraft : am_T 149 = T_UpRiverModel_firstDraft := rfl
theorem tb_UpRiverModel_in : am_T 150 = T_UpRiverModel_in := rfl
theorem tb_UpRiverModel_keepDraft : am_T 151 = T_UpRiverModel_keepDraft := rfl
theorem tb_UpRiverModel_feed : am_T 152 = T_UpRiverModel_feed := rfl
theorem tb_UpRiverModel_end : am_T 153 = T_UpRiverModel_end := rfl
theorem tb_UpRiverModel_text : am_T 154 = T_UpRiverModel_text := rfl
theorem tb_UpRiverModel_next : am_T 155 = T_UpRiverModel_next := rfl
theorem tb_UpRiverModel_look : am_T 156 = T_UpRiverModel_look := rfl
theorem tb_UpRiverModel_needs : am_T 157 = T_UpRiverModel_needs := rfl
theorem tb_UpRiverModel_readLine : am_T 158 = T_UpRiverModel_readLine := rfl
theorem tb_UpRiverModel_nameNow : am_T 159 = T_UpRiverModel_nameNow := rfl
theorem tb_UpRiverModel_is : am_T 160 = T_UpRiverModel_is := rfl
theorem tb_UpRiverModel_ruleNow : am_T 161 = T_UpRiverModel_ruleNow := rfl
theorem tb_UpRiverModel_readLineOf : am_T 162 = T_UpRiverModel_readLineOf := rfl
theorem tb_UpRiverModel_lowest : am_T 163 = T_UpRiverModel_lowest := rfl
theorem tb_UpRiverModel_highest : am_T 164 = T_UpRiverModel_highest := rfl
theorem tb_UpRiverModel_readNumber : am_T 165 = T_UpRiverModel_readNumber := rfl
theorem tb_UpRiverModel_isNumber : am_T 166 = T_UpRiverModel_isNumber := rfl
theorem tb_UpRiverModel_readReach : am_T 167 = T_UpRiverModel_readReach := rfl
theorem tb_UpRiverModel_once : am_T 168 = T_UpRiverModel_once := rfl
theorem tb_UpRiverModel_readPlace : am_T 169 = T_UpRiverModel_readPlace := rfl
theorem tb_UpRiverModel_fault : am_T 170 = T_UpRiverModel_fault := rfl
theorem tb_UpRiverModel_rule : am_T 171 = T_UpRiverModel_rule := rfl
theorem tb_UpRiverModel_reach : am_T 172 = T_UpRiverModel_reach := rfl
theorem tb_UpRiverModel_isReach : am_T 173 = T_UpRiverModel_isReach := rfl
theorem tb_UpRiverModel_wayOf : am_T 174 = T_UpRiverModel_wayOf := rfl
theorem tb_UpRiverModel_flow : am_T 175 = T_UpRiverModel_flow := rfl
theorem tb_UpRiverModel_isOpen : am_T 176 = T_UpRiverModel_isOpen := rfl
theorem tb_UpRiverModel_isMinute : am_T 177 = T_UpRiverModel_isMinute := rfl
theorem tb_UpRiverModel_flowAt : am_T 178 = T_UpRiverModel_flowAt := rfl
theorem tb_UpRiverModel_phase : am_T 179 = T_UpRiverModel_phase := rfl
theorem tb_UpRiverModel_afloat : am_T 180 = T_UpRiverModel_afloat := rfl
theorem tb_UpRiverModel_isLane : am_T 181 = T_UpRiverModel_isLane := rfl
theorem tb_UpRiverModel_isAfloat : am_T 182 = T_UpRiverModel_isAfloat := rfl
theorem tb_UpRiverModel_waterAt : am_T 183 = T_UpRiverModel_waterAt := rfl
theorem tb_UpRiverModel_sail : am_T 184 = T_UpRiverModel_sail := rfl
theorem tb_UpRiverModel_isUp : am_T 185 = T_UpRiverModel_isUp := rfl
theorem tb_UpRiverModel_top : am_T 186 = T_UpRiverModel_top := rfl
theorem tb_UpRiverModel_isFloating : am_T 187 = T_UpRiverModel_isFloating := rfl
theorem tb_UpRiverModel_sails : am_T 188 = T_UpRiverModel_sails := rfl
theorem tb_UpRiverModel_isThere : am_T 189 = T_UpRiverModel_isThere := rfl
theorem tb_UpRiverModel_goesThere : am_T 190 = T_UpRiverModel_goesThere := rfl
theorem tb_UpRiverModel_turn : am_T 191 = T_UpRiverModel_turn := rfl
theorem tb_UpRiverModel_turns : am_T 192 = T_UpRiverModel_turns := rfl
theorem tb_UpRiverModel_anchor : am_T 193 = T_UpRiverModel_anchor := rfl
theorem tb_UpRiverModel_now : am_T 194 = T_UpRiverModel_now := rfl
theorem tb_UpRiverModel_flag : am_T 195 = T_UpRiverModel_flag := rfl
theorem tb_UpRiverModel_set : am_T 196 = T_UpRiverModel_set := rfl
theorem tb_UpRiverModel_soonest : am_T 197 = T_UpRiverModel_soonest := rfl
theorem tb_UpRiverModel_soonestNow : am_T 198 = T_UpRiverModel_soonestNow := rfl
theorem tb_UpRiverModel_soonestFrom : am_T 199 = T_UpRiverModel_soonestFrom := rfl
theorem tb_UpRiverModel_clears : am_T 200 = T_UpRiverModel_clears := rfl
theorem tb_UpRiverModel_marks : am_T 201 = T_UpRiverModel_marks := rfl
theorem tb_UpRiverModel_spot : am_T 202 = T_UpRiverModel_spot := rfl
theorem tb_UpRiverModel_spreads : am_T 203 = T_UpRiverModel_spreads := rfl
theorem tb_UpRiverModel_goesOn : am_T 204 = T_UpRiverModel_goesOn := rfl
theorem tb_UpRiverModel_comesThere : am_T 205 = T_UpRiverModel_comesThere := rfl
theorem tb_UpRiverModel_less : am_T 206 = T_UpRiverModel_less := rfl
theorem tb_UpRiverModel_only : am_T 207 = T_UpRiverModel_only := rfl
theorem tb_UpRiverModel_first : am_T 208 = T_UpRiverModel_first := rfl
theorem tb_UpRiverModel_leadsBy : am_T 209 = T_UpRiverModel_leadsBy := rfl
theorem tb_UpRiverModel_from : am_T 210 = T_UpRiverModel_from := rfl
theorem tb_UpRiverModel_startIn : am_T 211 = T_UpRiverModel_startIn := rfl
theorem tb_UpRiverModel_start : am_T 212 = T_UpRiverModel_start := rfl
theorem tb_UpRiverModel_layStarts : am_T 213 = T_UpRiverModel_layStarts := rfl
theorem tb_UpRiverModel_upFrom : am_T 214 = T_UpRiverModel_upFrom := rfl
theorem tb_UpRiverModel_upThere : am_T 215 = T_UpRiverModel_upThere := rfl
theorem tb_UpRiverModel_days : am_T 216 = T_UpRiverModel_days := rfl
theorem tb_UpRiverModel_skipper : am_T 217 = T_UpRiverModel_skipper := rfl
theorem tb_UpRiverModel_isSkipper : am_T 218 = T_UpRiverModel_isSkipper := rfl
theorem tb_UpRiverModel_skips : am_T 219 = T_UpRiverModel_skips := rfl
theorem tb_UpRiverModel_hisBegin : am_T 220 = T_UpRiverModel_hisBegin := rfl
theorem tb_UpRiverModel_hisStep : am_T 221 = T_UpRiverModel_hisStep := rfl
theorem tb_UpRiverModel_hisMove : am_T 222 = T_UpRiverModel_hisMove := rfl
theorem tb_UpRiverModel_meets : am_T 223 = T_UpRiverModel_meets := rfl
theorem tb_UpRiverModel_best : am_T 224 = T_UpRiverModel_best := rfl
theorem tb_UpRiverModel_loses : am_T 225 = T_UpRiverModel_loses := rfl
theorem tb_UpRiverModel_narrow : am_T 226 = T_UpRiverModel_narrow := rfl
theorem tb_UpRiverModel_lead : am_T 227 = T_UpRiverModel_lead := rfl
theorem tb_UpRiverModel_isLead : am_T 228 = T_UpRiverModel_isLead := rfl
theorem tb_UpRiverModel_shallows : am_T 229 = T_UpRiverModel_shallows := rfl
theorem tb_UpRiverModel_near : am_T 230 = T_UpRiverModel_near := rfl
theorem tb_UpRiverModel_logged : am_T 231 = T_UpRiverModel_logged := rfl
theorem tb_UpRiverModel_logOf : am_T 232 = T_UpRiverModel_logOf := rfl
theorem tb_UpRiverModel_lost : am_T 233 = T_UpRiverModel_lost := rfl
theorem tb_UpRiverModel_stretch : am_T 234 = T_UpRiverModel_stretch := rfl
theorem tb_UpRiverModel_swing : am_T 235 = T_UpRiverModel_swing := rfl
theorem tb_UpRiverModel_judged : am_T 236 = T_UpRiverModel_judged := rfl
theorem tb_UpRiverModel_rightBy : am_T 237 = T_UpRiverModel_rightBy := rfl
theorem tb_UpRiverModel_judge : am_T 238 = T_UpRiverModel_judge := rfl
theorem tb_UpRiverModel_barge : am_T 239 = T_UpRiverModel_barge := rfl
theorem tb_UpRiverModel_keep : am_T 240 = T_UpRiverModel_keep := rfl
theorem tb_UpRiverModel_copies : am_T 241 = T_UpRiverModel_copies := rfl
theorem tb_UpRiverModel_back : am_T 242 = T_UpRiverModel_back := rfl
theorem tb_UpRiverModel_sheet : am_T 243 = T_UpRiverModel_sheet := rfl
theorem tb_UpRiverModel_isSheet : am_T 244 = T_UpRiverModel_isSheet := rfl
theorem tb_UpRiverModel_lay : am_T 245 = T_UpRiverModel_lay := rfl
theorem tb_UpRiverModel_read : am_T 246 = T_UpRiverModel_read := rfl
theorem tb_UpRiverModel_torn : am_T 247 = T_UpRiverModel_torn := rfl
theorem tb_UpRiverModel_count : am_T 248 = T_UpRiverModel_count := rfl
theorem tb_UpRiverLaw_law : am_T 249 = T_UpRiverLaw_law := rfl
