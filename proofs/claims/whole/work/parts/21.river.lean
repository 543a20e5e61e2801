/-! the river as the reference holds it (v = J 66): what each question answers, by the reference and by the class -/
def rv_ok (v : Nat → Int) : Prop :=
  ((2 ≤ v 0 ∧ v 0 ≤ 8) ∧ (5 ≤ v 1 ∧ v 1 ≤ 120) ∧ (1 ≤ v 2 ∧ v 2 ≤ 20) ∧ (1 ≤ v 3 ∧ v 3 ≤ 8) ∧ (0 ≤ v 4 ∧ v 4 ≤ 8) ∧ (1 ≤ v 5 ∧ v 5 ≤ 9) ∧ (1 ≤ v 6 ∧ v 6 ≤ 300))
  ∧ (∀ r : Nat, r < 8 → 0 ≤ v (7 + r) ∧ v (7 + r) ≤ v (19 + r) ∧ v (19 + r) ≤ 8 ∧ (v (31 + r) = 0 ∨ v (31 + r) = 1) ∧ 0 ≤ v (43 + r) ∧ v (43 + r) ≤ 2)
  ∧ (∀ k : Nat, k < 72 → 0 ≤ v (55 + k) ∧ v (55 + k) ≤ 30 ∧ (v (163 + k) = 0 ∨ v (163 + k) = 1))
  ∧ (∀ p : Nat, p < 12 → 0 ≤ v (271 + p) ∧ v (271 + p) ≤ 18 ∧ 0 ≤ v (283 + p) ∧ v (283 + p) ≤ 15)
/-- the class's river o holds the same -/
def rq (o : Nat) (J : am_J) (v : Nat → Int) : Prop :=
  (∀ i : Nat, i < 7 → J (o + 1) i = v i) ∧ (∀ p : Nat, p < 12 → J (o + 2) p = v (271 + p) - 9 ∧ J (o + 3) p = v (283 + p))
  ∧ (∀ r : Nat, r < 8 → J (o + 4) r = v (7 + r) ∧ J (o + 5) r = v (19 + r) ∧ J (o + 6) r = v (43 + r) ∧ J (o + 7) r = v (31 + r))
  ∧ (∀ k : Nat, k < 72 → J (o + 8) k = v (55 + k) ∧ J (o + 9) k = v (163 + k))
theorem rv_r {v : Nat → Int} (h : rv_ok v) {r : Int} (h0 : 0 ≤ r) (h8 : r < 8) : 0 ≤ v (7 + r).toNat ∧ v (7 + r).toNat ≤ v (19 + r).toNat ∧ v (19 + r).toNat ≤ 8 ∧ (v (31 + r).toNat = 0 ∨ v (31 + r).toNat = 1) ∧ 0 ≤ v (43 + r).toNat ∧ v (43 + r).toNat ≤ 2 := by
  have := h.2.1 r.toNat (by omega)
  rw [show (7 + r).toNat = 7 + r.toNat by omega, show (19 + r).toNat = 19 + r.toNat by omega, show (31 + r).toNat = 31 + r.toNat by omega, show (43 + r).toNat = 43 + r.toNat by omega]
  exact this
theorem rv_k {v : Nat → Int} (h : rv_ok v) {r l : Int} (h0 : 0 ≤ r) (h8 : r < 8) (l0 : 0 ≤ l) (l8 : l ≤ 8) : 0 ≤ v (55 + 9 * r + l).toNat ∧ v (55 + 9 * r + l).toNat ≤ 30 ∧ (v (163 + 9 * r + l).toNat = 0 ∨ v (163 + 9 * r + l).toNat = 1) := by
  have := h.2.2.1 (9 * r + l).toNat (by omega)
  rw [show (55 + 9 * r + l).toNat = 55 + (9 * r + l).toNat by omega, show (163 + 9 * r + l).toNat = 163 + (9 * r + l).toNat by omega]
  exact this
theorem rv_p {v : Nat → Int} (h : rv_ok v) {p : Int} (h0 : 0 ≤ p) (h8 : p < 12) : 0 ≤ v (271 + p).toNat ∧ v (271 + p).toNat ≤ 18 ∧ 0 ≤ v (283 + p).toNat ∧ v (283 + p).toNat ≤ 15 := by
  have := h.2.2.2 p.toNat (by omega)
  rw [show (271 + p).toNat = 271 + p.toNat by omega, show (283 + p).toNat = 283 + p.toNat by omega]
  exact this
theorem rq_r {o : Nat} {J : am_J} {v : Nat → Int} (h : rq o J v) {r : Int} (h0 : 0 ≤ r) (h8 : r < 8) : J (o + 4) r.toNat = v (7 + r).toNat ∧ J (o + 5) r.toNat = v (19 + r).toNat ∧ J (o + 6) r.toNat = v (43 + r).toNat ∧ J (o + 7) r.toNat = v (31 + r).toNat := by
  have := h.2.2.1 r.toNat (by omega)
  rw [show (7 + r).toNat = 7 + r.toNat by omega, show (19 + r).toNat = 19 + r.toNat by omega, show (31 + r).toNat = 31 + r.toNat by omega, show (43 + r).toNat = 43 + r.toNat by omega]
  exact this
theorem rq_k {o : Nat} {J : am_J} {v : Nat → Int} (h : rq o J v) {r l : Int} (h0 : 0 ≤ r) (h8 : r < 8) (l0 : 0 ≤ l) (l8 : l ≤ 8) : J (o + 8) (r * 9 + l).toNat = v (55 + 9 * r + l).toNat ∧ J (o + 9) (r * 9 + l).toNat = v (163 + 9 * r + l).toNat := by
  have := h.2.2.2 (r * 9 + l).toNat (by omega)
  rw [show (55 + 9 * r + l).toNat = 55 + (r * 9 + l).toNat by omega, show (163 + 9 * r + l).toNat = 163 + (r * 9 + l).toNat by omega]
  exact this
theorem rq_p {o : Nat} {J : am_J} {v : Nat → Int} (h : rq o J v) {p : Int} (h0 : 0 ≤ p) (h8 : p < 12) : J (o + 2) p.toNat = v (271 + p).toNat - 9 ∧ J (o + 3) p.toNat = v (283 + p).toNat := by
  have := h.2.1 p.toNat (by omega)
  rw [show (271 + p).toNat = 271 + p.toNat by omega, show (283 + p).toNat = 283 + p.toNat by omega]
  exact this
/-- phase, stream, height, flow, way, open, afloat; lt: how much later phases begin -/
def rPh (v : Nat → Int) (lt t : Int) : Int := ((t - lt) % (12 * v 1)) / v 1
def rSt (v : Nat → Int) (lt t : Int) : Int := v (271 + rPh v lt t).toNat - 9
def rHt (v : Nat → Int) (lt t : Int) : Int := v (283 + rPh v lt t).toNat
def rFl (v : Nat → Int) (lt r l t : Int) : Int :=
  if v (163 + 9 * r + l).toNat = 1 then -(if l - v (7 + r).toNat ≤ 1 ∨ v (19 + r).toNat - l ≤ 1 then am_dv (rSt v lt t) 2 else rSt v lt t) else (if l - v (7 + r).toNat ≤ 1 ∨ v (19 + r).toNat - l ≤ 1 then am_dv (rSt v lt t) 2 else rSt v lt t)
def rWy (v : Nat → Int) (r bd : Int) : Int := if v (31 + r).toNat = 1 then 1 else if bd = 0 then v 3 + (v (43 + r).toNat - 1) * v 4 else v 3 + (-((v (43 + r).toNat - 1) * v 4))
abbrev rOp (v : Nat → Int) (r l : Int) : Prop := v (7 + r).toNat ≤ l ∧ l ≤ v (19 + r).toNat
def rWt (v : Nat → Int) (lt r l t : Int) : Int := v (55 + 9 * r + l).toNat + rHt v lt t
abbrev rAf (v : Nat → Int) (lt r l t : Int) : Prop := rOp v r l ∧ v 2 ≤ rWt v lt r l t
theorem rPh_bd {v : Nat → Int} (h : rv_ok v) (lt t : Int) : 0 ≤ rPh v lt t ∧ rPh v lt t < 12 := by
  have hb := h.1.2.1
  unfold rPh
  have e2 := Int.emod_nonneg (t - lt) (show 12 * v 1 ≠ 0 by omega)
  have e3 := Int.emod_lt_of_pos (t - lt) (show 0 < 12 * v 1 by omega)
  exact ⟨Int.ediv_nonneg e2 (by omega), Int.ediv_lt_of_lt_mul (by omega) e3⟩
theorem rPh_sh (v : Nat → Int) (lt t : Int) : rPh v lt t = rPh v 0 (t - lt) := by
  unfold rPh
  rw [Int.sub_zero]
theorem rSt_bd {v : Nat → Int} (h : rv_ok v) (lt t : Int) : -9 ≤ rSt v lt t ∧ rSt v lt t ≤ 9 := by
  have hp := rPh_bd h lt t
  have := rv_p h hp.1 hp.2
  unfold rSt
  omega
theorem rHt_bd {v : Nat → Int} (h : rv_ok v) (lt t : Int) : 0 ≤ rHt v lt t ∧ rHt v lt t ≤ 15 := by
  have hp := rPh_bd h lt t
  have := rv_p h hp.1 hp.2
  unfold rHt
  omega
theorem dv2_bd {x : Int} (h : -9 ≤ x ∧ x ≤ 9) : -4 ≤ am_dv x 2 ∧ am_dv x 2 ≤ 4 := by
  unfold am_dv
  split <;> omega
theorem rFl_bd {v : Nat → Int} (h : rv_ok v) (lt r l t : Int) : -9 ≤ rFl v lt r l t ∧ rFl v lt r l t ≤ 9 := by
  have h1 := rSt_bd h lt t
  have h2 := dv2_bd h1
  unfold rFl
  split <;> split <;> omega
theorem rWy_bd {v : Nat → Int} (h : rv_ok v) {r : Int} (h0 : 0 ≤ r) (h8 : r < 8) (bd : Int) : -7 ≤ rWy v r bd ∧ rWy v r bd ≤ 16 := by
  have h1 := rv_r h h0 h8
  have h3 := h.1.2.2.2.1
  have h4 := h.1.2.2.2.2.1
  unfold rWy
  have hw : v (43 + r).toNat = 0 ∨ v (43 + r).toNat = 1 ∨ v (43 + r).toNat = 2 := by omega
  split
  · omega
  · split <;> rcases hw with e | e | e <;> rw [e] <;> omega
theorem rWt_bd {v : Nat → Int} (h : rv_ok v) (lt t : Int) {r l : Int} (h0 : 0 ≤ r) (h8 : r < 8) (l0 : 0 ≤ l) (l8 : l ≤ 8) : 0 ≤ rWt v lt r l t ∧ rWt v lt r l t ≤ 45 := by
  have h1 := rv_k h h0 h8 l0 l8
  have h2 := rHt_bd h lt t
  unfold rWt
  omega
/-! the reference -/
theorem m_phase {J : am_J} (h : rv_ok (J 66)) {t : Int} (ht : -100000 ≤ t - J 65 15 ∧ t - J 65 15 ≤ 100000) : f_UpRiverModel_phase J t = some (rPh (J 66) (J 65 15) t) := by
  have hb := h.1.2.1
  unfold f_UpRiverModel_phase
  have hm : 0 < 12 * J 66 1 := by omega
  have hm2 : am_i32 (12 * J 66 1) := ⟨by omega, by omega⟩
  have e2 := Int.emod_nonneg (t - J 65 15) (show 12 * J 66 1 ≠ 0 by omega)
  have e3 := Int.emod_lt_of_pos (t - J 65 15) hm
  rw [if_pos ⟨hm, hm2⟩, if_pos (show am_i32 (t - J 65 15) from ⟨by omega, by omega⟩), if_pos (rm_bd hm hm2)]
  by_cases h0 : t - J 65 15 < 0
  · have hf := rm_floor h0 hm
    by_cases hz : am_rm (t - J 65 15) (12 * J 66 1) = 0
    · rw [if_neg (by omega), if_pos (show 0 < J 66 1 ∧ am_i32 (J 66 1) from ⟨by omega, by omega, by omega⟩), am_dv_pos (by omega)]
      rw [if_pos hz] at hf
      unfold rPh
      rw [hf, hz]
    · rw [if_neg hz] at hf
      have hneg : am_rm (t - J 65 15) (12 * J 66 1) < 0 := by omega
      rw [if_pos hneg, if_pos (show 0 < J 66 1 ∧ am_i32 (J 66 1) from ⟨by omega, by omega, by omega⟩), if_pos (show am_i32 (am_rm (t - J 65 15) (12 * J 66 1) + 12 * J 66 1) from ⟨by omega, by omega⟩), am_dv_pos (by omega), ← hf]
      rfl
  · rw [am_rm_pos (by omega), if_neg (by omega), if_pos (show 0 < J 66 1 ∧ am_i32 (J 66 1) from ⟨by omega, by omega, by omega⟩), am_dv_pos e2]
    rfl
theorem m_isOpen {J : am_J} (h : rv_ok (J 66)) {r l : Int} (h0 : 0 ≤ r) (h8 : r < 8) (hl : am_i32 l) : f_UpRiverModel_isOpen J r l = some (fl (rOp (J 66) r l)) := by
  have h1 := rv_r h h0 h8
  unfold f_UpRiverModel_isOpen
  rw [if_pos (by omega), if_pos (by omega), m_in hl ⟨by omega, by omega⟩ ⟨by omega, by omega⟩]
  simp only [Option.bind_some]
  rw [if_pos ((fl_01 _).mpr trivial)]
theorem m_waterAt {J : am_J} (h : rv_ok (J 66)) {r l t : Int} (h0 : 0 ≤ r) (h8 : r < 8) (l0 : 0 ≤ l) (l8 : l ≤ 8) (ht : -100000 ≤ t - J 65 15 ∧ t - J 65 15 ≤ 100000) : f_UpRiverModel_waterAt J r l t = some (rWt (J 66) (J 65 15) r l t) := by
  have hp := rPh_bd h (J 65 15) t
  unfold f_UpRiverModel_waterAt
  rw [if_pos (by omega), m_phase h ht]
  simp only [Option.bind_some]
  rw [if_pos (by omega)]
  rfl
theorem m_isAfloat {J : am_J} (h : rv_ok (J 66)) {r l t : Int} (h0 : 0 ≤ r) (h8 : r < 8) (hl : am_i32 l) (ht : -100000 ≤ t - J 65 15 ∧ t - J 65 15 ≤ 100000) : f_UpRiverModel_isAfloat J r l t = some (fl (rAf (J 66) (J 65 15) r l t)) := by
  have h1 := rv_r h h0 h8
  unfold f_UpRiverModel_isAfloat
  rw [m_isOpen h h0 h8 hl]
  simp only [Option.bind_some, fl_32, if_true, fl_0]
  by_cases ho : rOp (J 66) r l
  · rw [if_neg (fun z => z ho), m_waterAt h h0 h8 (by omega) (by omega) ht]
    have hw := rWt_bd h (J 65 15) t h0 h8 (show 0 ≤ l by omega) (show l ≤ 8 by omega)
    have h2 := h.1.2.2.1
    simp only [Option.bind_some]
    rw [if_pos (show am_i32 (J 66 2) from ⟨by omega, by omega⟩), if_pos (show am_i32 (rWt (J 66) (J 65 15) r l t) from ⟨by omega, by omega⟩)]
    by_cases hd : rWt (J 66) (J 65 15) r l t < J 66 2
    · rw [if_pos hd, fl_f (fun z => by omega)]
    · rw [if_neg hd, fl_t ⟨ho, by omega⟩]
  · rw [if_pos ho, fl_f (fun z => ho z.1)]
theorem m_wayOf {J : am_J} (h : rv_ok (J 66)) {r bd : Int} (h0 : 0 ≤ r) (h8 : r < 8) (hb : am_i32 bd) : f_UpRiverModel_wayOf J r bd = some (rWy (J 66) r bd) := by
  have h1 := rv_r h h0 h8
  unfold f_UpRiverModel_wayOf rWy
  rw [if_pos (by omega), if_pos (show am_i32 (J 66 (31 + r).toNat) from ⟨by omega, by omega⟩)]
  by_cases hl : J 66 (31 + r).toNat = 1
  · rw [if_pos hl, if_pos hl]
  · rw [if_neg hl, if_neg hl, if_pos (by omega), if_pos hb]
    split <;> rfl
theorem m_flowAt {J : am_J} (h : rv_ok (J 66)) {r l t : Int} (h0 : 0 ≤ r) (h8 : r < 8) (l0 : 0 ≤ l) (l8 : l ≤ 8) (ht : -100000 ≤ t - J 65 15 ∧ t - J 65 15 ≤ 100000) : f_UpRiverModel_flowAt J r l t = some (rFl (J 66) (J 65 15) r l t) := by
  have h1 := rv_r h h0 h8
  have hk := rv_k h h0 h8 l0 l8
  have hp := rPh_bd h (J 65 15) t
  have hs := rSt_bd h (J 65 15) t
  have L70 : ∀ x, f_UpRiverModel_flowAt_L70 J r l x = some (if J 66 (163 + 9 * r + l).toNat = 1 then -x else x) := by
    intro x
    unfold f_UpRiverModel_flowAt_L70
    rw [if_pos (by omega), if_pos (show am_i32 (J 66 (163 + 9 * r + l).toNat) from ⟨by omega, by omega⟩)]
    split <;> rfl
  have L54 : ∀ s, (s = 0 ∨ s = 1) → f_UpRiverModel_flowAt_L54 J r l (rSt (J 66) (J 65 15) t) s = some (if J 66 (163 + 9 * r + l).toNat = 1 then -(if s = 1 then am_dv (rSt (J 66) (J 65 15) t) 2 else rSt (J 66) (J 65 15) t) else (if s = 1 then am_dv (rSt (J 66) (J 65 15) t) 2 else rSt (J 66) (J 65 15) t)) := by
    intro s hs'
    unfold f_UpRiverModel_flowAt_L54
    rw [if_pos (show am_i32 s from ⟨by omega, by omega⟩), L70, L70, if_pos (show am_i32 (rSt (J 66) (J 65 15) t) from ⟨by omega, by omega⟩)]
    rcases hs' with rfl | rfl <;> simp
  unfold f_UpRiverModel_flowAt
  rw [m_phase h ht]
  simp only [Option.bind_some]
  rw [if_pos (by omega), if_pos (by omega), if_pos (show am_i32 (l - J 66 (7 + r).toNat) from ⟨by omega, by omega⟩)]
  have est : J 66 (271 + rPh (J 66) (J 65 15) t).toNat - 9 = rSt (J 66) (J 65 15) t := rfl
  rw [est, L54 0 (by omega), L54 1 (by omega)]
  unfold rFl
  by_cases ha : 1 < l - J 66 (7 + r).toNat
  · rw [if_pos ha, if_pos (by omega), if_pos (show am_i32 (J 66 (19 + r).toNat - l) from ⟨by omega, by omega⟩)]
    by_cases hb : 1 < J 66 (19 + r).toNat - l
    · rw [if_pos hb]
      have hn : ¬ (l - J 66 (7 + r).toNat ≤ 1 ∨ J 66 (19 + r).toNat - l ≤ 1) := by omega
      simp [hn]
    · rw [if_neg hb]
      have hn : (l - J 66 (7 + r).toNat ≤ 1 ∨ J 66 (19 + r).toNat - l ≤ 1) := by omega
      simp [hn]
  · rw [if_neg ha]
    have hn : (l - J 66 (7 + r).toNat ≤ 1 ∨ J 66 (19 + r).toNat - l ≤ 1) := by omega
    simp [hn]
theorem m_isReach {J : am_J} (h : rv_ok (J 66)) {r : Int} (hr : am_i32 r) : f_UpRiverModel_isReach J r = some (fl (0 ≤ r ∧ r < J 66 0)) := by
  have h1 := h.1.1
  unfold f_UpRiverModel_isReach
  rw [show (0 : Int64) = am_i2l 0 from rfl, m_in hr (by decide) ⟨by omega, by omega⟩]
  simp only [Option.bind_some]
  rw [if_pos ((fl_01 _).mpr trivial)]
  congr 1
  exact fl_c (by omega)
/-! the class -/
theorem c_isOpen {o : Nat} {J : am_J} {v : Nat → Int} (h : rv_ok v) (q : rq o J v) {r l : Int} (hr : am_i32 r) (hl : am_i32 l) : f_River_isOpen o J r l = some (fl (0 ≤ r ∧ r < v 0 ∧ rOp v r l)) := by
  have h1 := h.1.1
  have e0 := q.1 0 (by omega)
  unfold f_River_isOpen
  rw [e0, if_pos hr]
  by_cases a1 : r < 0
  · rw [if_pos a1, fl_f (fun z => by omega)]
  rw [if_neg a1]
  by_cases a2 : r < 8
  · rw [if_pos a2, if_pos (show am_i32 (v 0) from ⟨by omega, by omega⟩)]
    by_cases a3 : r < v 0
    · have h2 := rv_r h (show 0 ≤ r by omega) a2
      have q2 := rq_r q (show 0 ≤ r by omega) a2
      rw [if_pos a3, q2.1, q2.2.1, if_pos (by omega), if_pos (show am_i32 (v (7 + r).toNat) from ⟨by omega, by omega⟩), if_pos hl]
      by_cases a4 : l < v (7 + r).toNat
      · rw [if_pos a4, fl_f (fun z => by have := z.2.2.1; omega)]
      · rw [if_neg a4, if_pos (show am_i32 (v (19 + r).toNat) from ⟨by omega, by omega⟩)]
        by_cases a5 : v (19 + r).toNat < l
        · rw [if_pos a5, fl_f (fun z => by have := z.2.2.2; omega)]
        · rw [if_neg a5, if_neg (by omega), if_pos (by omega), fl_t ⟨by omega, by omega, by omega, by omega⟩]
    · rw [if_neg a3, fl_f (fun z => by omega)]
  · rw [if_neg a2, fl_f (fun z => by omega)]
theorem c_hasReach {o : Nat} {J : am_J} {v : Nat → Int} (h : rv_ok v) (q : rq o J v) {r : Int} (hr : am_i32 r) : f_River_hasReach o J r = some (fl (0 ≤ r ∧ r < v 0)) := by
  have h1 := h.1.1
  have e0 := q.1 0 (by omega)
  unfold f_River_hasReach
  rw [e0, if_pos hr]
  by_cases a1 : r < 0
  · rw [if_pos a1, fl_f (fun z => by omega)]
  rw [if_neg a1]
  by_cases a2 : r < 8
  · rw [if_pos a2, if_pos (show am_i32 (v 0) from ⟨by omega, by omega⟩)]
    by_cases a3 : r < v 0
    · rw [if_pos a3, fl_t ⟨by omega, a3⟩]
    · rw [if_neg a3, fl_f (fun z => by omega)]
  · rw [if_neg a2, fl_f (fun z => by omega)]
theorem ph_eq {t b : Int} (hb : 0 < b) : (t / b) % 12 = (t % (12 * b)) / b := by
  have e1 := Int.emod_add_mul_ediv t (12 * b)
  have e2 := Int.emod_nonneg t (show 12 * b ≠ 0 by omega)
  have e3 := Int.emod_lt_of_pos t (show 0 < 12 * b by omega)
  generalize hq : t / (12 * b) = q at *
  generalize hs : t % (12 * b) = s at *
  have et : t = s + b * (12 * q) := by
    rw [← e1, Int.mul_comm 12 b, Int.mul_assoc]
  rw [et, Int.add_mul_ediv_left _ _ (by omega), Int.add_mul_emod_self_left]
  exact Int.emod_eq_of_lt (Int.ediv_nonneg e2 (by omega)) (Int.ediv_lt_of_lt_mul hb e3)
theorem c_phaseIn {o : Nat} {J : am_J} {v : Nat → Int} (h : rv_ok v) (q : rq o J v) {t : Int} (ht : am_i32 t) : f_River_phaseIn o J t = some (rPh v 0 t) := by
  have hb := h.1.2.1
  have e1 := q.1 1 (by omega)
  unfold f_River_phaseIn
  rw [e1, if_pos (show am_i32 (v 1) from ⟨by omega, by omega⟩), if_neg (by omega), j_floorDiv ht (by omega) ⟨by omega, by omega⟩]
  simp only [Option.bind_some]
  rw [j_floorMod (ediv_bd (by omega) ht).1 (by omega) (by decide)]
  simp only [Option.bind_some]
  rw [ph_eq (by omega)]
  unfold rPh
  rw [Int.sub_zero]
theorem c_waterAt {o : Nat} {J : am_J} {v : Nat → Int} (h : rv_ok v) (q : rq o J v) {r l t : Int} (hr : am_i32 r) (hl : am_i32 l) (ht : am_i32 t) : f_River_waterAt o J r l t = some (if 0 ≤ r ∧ r < v 0 ∧ rOp v r l then rWt v 0 r l t else -1) := by
  have h1 := h.1.1
  unfold f_River_waterAt
  rw [c_isOpen h q hr hl]
  simp only [Option.bind_some, fl_32, if_true, fl_0]
  by_cases ho : 0 ≤ r ∧ r < v 0 ∧ rOp v r l
  · have h2 := rv_r h ho.1 (show r < 8 by omega)
    have hp := rPh_bd h 0 t
    have q2 := rq_k q ho.1 (show r < 8 by omega) (show 0 ≤ l by have := ho.2.2.1; omega) (show l ≤ 8 by have := ho.2.2.2; omega)
    have q3 := rq_p q hp.1 hp.2
    rw [if_neg (fun z => z ho), if_pos ho, if_pos (by have := ho.2.2; omega), c_phaseIn h q ht]
    simp only [Option.bind_some]
    rw [if_pos hp, q2.1, q3.2]
    rfl
  · rw [if_pos ho, if_neg ho]
theorem c_carries {o : Nat} {J : am_J} {v : Nat → Int} (h : rv_ok v) (q : rq o J v) {r l t : Int} (hr : am_i32 r) (hl : am_i32 l) (ht : am_i32 t) : f_River_carries o J r l t = some (fl (0 ≤ r ∧ r < v 0 ∧ rAf v 0 r l t)) := by
  have h1 := h.1.1
  have h2 := h.1.2.2.1
  have e2 := q.1 2 (by omega)
  unfold f_River_carries
  rw [c_waterAt h q hr hl ht, e2]
  simp only [Option.bind_some]
  rw [if_pos (show am_i32 (v 2) from ⟨by omega, by omega⟩)]
  by_cases ho : 0 ≤ r ∧ r < v 0 ∧ rOp v r l
  · have h3 := rv_r h ho.1 (show r < 8 by omega)
    have hw := rWt_bd h 0 t ho.1 (show r < 8 by omega) (show 0 ≤ l by have := ho.2.2.1; omega) (show l ≤ 8 by have := ho.2.2.2; omega)
    rw [if_pos ho, if_pos (show am_i32 (rWt v 0 r l t) from ⟨by omega, by omega⟩)]
    by_cases hd : rWt v 0 r l t < v 2
    · rw [if_pos hd, fl_f (fun z => by have := z.2.2.2; omega)]
    · rw [if_neg hd, fl_t ⟨ho.1, ho.2.1, ho.2.2, by omega⟩]
  · rw [if_neg ho, if_pos (by decide), if_pos (by omega), fl_f (fun z => ho ⟨z.1, z.2.1, z.2.2.1⟩)]
theorem c_flowAt {o : Nat} {J : am_J} {v : Nat → Int} (h : rv_ok v) (q : rq o J v) {r l t : Int} (hr : am_i32 r) (hl : am_i32 l) (ht : am_i32 t) : f_River_flowAt o J r l t = some (if 0 ≤ r ∧ r < v 0 ∧ rOp v r l then rFl v 0 r l t else 0) := by
  have h1 := h.1.1
  unfold f_River_flowAt
  rw [c_isOpen h q hr hl]
  simp only [Option.bind_some, fl_32, if_true, fl_0]
  by_cases ho : 0 ≤ r ∧ r < v 0 ∧ rOp v r l
  · have l0 : 0 ≤ l := by have := ho.2.2.1; have := rv_r h ho.1 (show r < 8 by omega); omega
    have l8 : l ≤ 8 := by have := ho.2.2.2; have := rv_r h ho.1 (show r < 8 by omega); omega
    have h2 := rv_r h ho.1 (show r < 8 by omega)
    have hk := rv_k h ho.1 (show r < 8 by omega) l0 l8
    have hp := rPh_bd h 0 t
    have hs := rSt_bd h 0 t
    have q1 := rq_r q ho.1 (show r < 8 by omega)
    have q2 := rq_k q ho.1 (show r < 8 by omega) l0 l8
    have q3 := rq_p q hp.1 hp.2
    have L53 : ∀ x, f_River_flowAt_L53 o J r l x = some (if v (163 + 9 * r + l).toNat = 1 then -x else x) := by
      intro x
      unfold f_River_flowAt_L53
      rw [q2.2, if_pos (by omega), if_pos (show am_i32 (v (163 + 9 * r + l).toNat) from ⟨by omega, by omega⟩)]
      rcases hk.2.2 with e | e <;> rw [e] <;> simp
    have est : v (271 + rPh v 0 t).toNat - 9 = rSt v 0 t := rfl
    rw [if_neg (fun z => z ho), if_pos ho, c_phaseIn h q ht]
    simp only [Option.bind_some]
    rw [if_pos hp, if_pos (by omega), q1.1, q1.2.1, q3.1, est, L53, L53, if_pos (show am_i32 (l - v (7 + r).toNat) from ⟨by omega, by omega⟩), if_pos (show am_i32 (rSt v 0 t) from ⟨by omega, by omega⟩)]
    unfold rFl
    by_cases ha : 1 < l - v (7 + r).toNat
    · rw [if_pos ha, if_pos (show am_i32 (v (19 + r).toNat - l) from ⟨by omega, by omega⟩)]
      by_cases hb : 1 < v (19 + r).toNat - l
      · rw [if_pos hb]
        have hn : ¬ (l - v (7 + r).toNat ≤ 1 ∨ v (19 + r).toNat - l ≤ 1) := by omega
        simp [hn]
      · rw [if_neg hb]
        have hn : (l - v (7 + r).toNat ≤ 1 ∨ v (19 + r).toNat - l ≤ 1) := by omega
        simp [hn]
    · rw [if_neg ha]
      have hn : (l - v (7 + r).toNat ≤ 1 ∨ v (19 + r).toNat - l ≤ 1) := by omega
      simp [hn]
  · rw [if_pos ho, if_neg ho]
theorem c_wayOn {o : Nat} {J : am_J} {v : Nat → Int} (h : rv_ok v) (q : rq o J v) {r bd : Int} (hr : am_i32 r) (hb : am_i32 bd) : f_River_wayOn o J r bd = some (if 0 ≤ r ∧ r < v 0 then rWy v r bd else 0) := by
  have h1 := h.1.1
  unfold f_River_wayOn
  rw [c_hasReach h q hr]
  simp only [Option.bind_some, fl_32, if_true, fl_0]
  by_cases ho : 0 ≤ r ∧ r < v 0
  · have h2 := rv_r h ho.1 (show r < 8 by omega)
    have q1 := rq_r q ho.1 (show r < 8 by omega)
    have e3 := q.1 3 (by omega)
    have e4 := q.1 4 (by omega)
    rw [if_neg (fun z => z ho), if_pos ho, if_pos (by omega), q1.2.2.2, q1.2.2.1, e3, e4, if_pos (show am_i32 (v (31 + r).toNat) from ⟨by omega, by omega⟩)]
    unfold rWy
    rcases h2.2.2.2.1 with e | e
    · rw [e, if_pos rfl, if_pos hb, if_neg (show ¬ (0 : Int) = 1 by decide)]
      split <;> rfl
    · rw [e, if_neg (by omega), if_pos rfl]
  · rw [if_pos ho, if_neg ho]
theorem c_top {o : Nat} {J : am_J} {v : Nat → Int} (q : rq o J v) : f_River_top o J = some (8 * v 0) := by
  unfold f_River_top
  rw [q.1 0 (by omega), Int.mul_comm]
