/-! the machine's runs; its worlds as cells -/
def am_nth : List am_Me → Nat → Option am_Me
  | [], _ => none
  | q :: _, 0 => some q
  | _ :: t, k + 1 => am_nth t k
def am_T (c : Nat) : List am_Row := match am_nth am_ms c with
  | some q => q.2.2.2.2.2.2.2.2.2
  | none => []
def am_largs : Nat → List am_V → am_L
  | _, [] => []
  | i, v :: t => (i, v) :: am_largs (i + am_cat v) t
def am_exec (X : am_X) : Nat → List am_Row → am_S → Option am_R
  | 0, _, _ => none
  | n + 1, T, σ => match am_step X T σ with
    | some (true, .inl σ') => am_exec X n T σ'
    | some (true, .inr (.inr r)) => some r
    | some (true, .inr (.inl (c, as, _, mc, ms, nx, lv, st, sh, m))) => match am_exec X n (am_T c) (0, am_largs 0 as, [], sh, m) with
      | none => none
      | some (v, sh', m') => if sh'.length = sh.length + mc ∧ am_tot sh' = am_tot sh + ms then am_exec X n T (nx, lv, v.toList ++ st, sh', m') else none
    | _ => none
def am_ad (b : Nat) (ex : Nat → Nat) (i : Nat) : Nat := if i < 1000 then b + i else ex i
def am_rn (ad : Nat → Nat) : am_V → Value
  | .inl x => .int (Int32.ofInt x)
  | .inr (.inl x) => .long x
  | .inr (.inr r) => va_rf (r.map ad)
def am_rl (ad : Nat → Nat) (lv : am_L) : List (Nat × Value) := lv.map fun q => (q.1, am_rn ad q.2)
def am_isI : FieldType → Bool
  | .int => true
  | .boolean => true
  | _ => false
def am_fv (ad : Nat → Nat) (m : am_M) (i k : Nat) (ty : FieldType) : Value := if am_isI ty then .int (Int32.ofInt (m.1 i k)) else va_rf ((m.2.2 i k).map ad)
def am_fs (ad : Nat → Nat) (m : am_M) (i ci n : Nat) : List Value := (List.range n).map fun k => am_fv ad m i k (am_ty ci k)
def am_cell (ad : Nat → Nat) (aC : Nat → ClassId) (m : am_M) (i : Nat) (q : Nat × Nat) : va_E :=
  if q.1 < 100 then .inr (q.1, am_fs ad m i q.1 q.2) else
  if q.1 < 103 then .inl (aC q.1, q.2, .inl (fun j => Int32.ofInt (m.1 i j))) else
  if q.1 = 103 then .inl (aC q.1, q.2, .inr (.inl (m.2.1 i))) else
  .inl (aC q.1, q.2, .inr (.inr (.inr (.inr fun j => (m.2.2 i j).map ad))))
def am_ws (b : Nat) (ex : Nat → Nat) (aC : Nat → ClassId) (sh : am_Sh) (m : am_M) : va_W := (List.range sh.length).map fun i => (am_ad b ex i, am_cell (am_ad b ex) aC m i (sh.getD i (0, 0)))
theorem am_at_eq : ∀ (sh : am_Sh) (a : Nat), am_at sh a = sh[a]?
  | [], a => by simp [am_at]
  | q :: t, 0 => by simp [am_at]
  | q :: t, a + 1 => by simp [am_at, am_at_eq t a]
theorem am_arr_inv {sh : am_Sh} {a kd n : Nat} (h : am_arr sh a kd = some n) : sh[a]? = some (kd, n) := by
  unfold am_arr at h
  rw [am_at_eq] at h
  cases hq : sh[a]? with
  | none => rw [hq] at h; cases h
  | some q =>
    rw [hq] at h
    obtain ⟨q1, q2⟩ := q
    dsimp only at h
    cases hb : Nat.beq q1 kd with
    | false => rw [hb] at h; cases h
    | true =>
      rw [hb] at h
      have := Nat.eq_of_beq_eq_true hb
      subst this
      cases h
      rfl
theorem am_lt_of {sh : am_Sh} {a : Nat} {q : Nat × Nat} (h : sh[a]? = some q) : a < sh.length := (List.getElem?_eq_some_iff.mp h).1
theorem am_ws_get (b : Nat) (ex : Nat → Nat) (aC : Nat → ClassId) {sh : am_Sh} (m : am_M) {a : Nat} {q : Nat × Nat} (h : sh[a]? = some q) : (am_ws b ex aC sh m)[a]? = some (am_ad b ex a, am_cell (am_ad b ex) aC m a q) := by
  have hl := am_lt_of h
  simp [am_ws, List.getElem?_map, List.getElem?_range hl, List.getD, h]
theorem am_ws_len (b : Nat) (ex : Nat → Nat) (aC : Nat → ClassId) (sh : am_Sh) (m : am_M) : (am_ws b ex aC sh m).length = sh.length := by simp [am_ws]
theorem am_ad_lo {b : Nat} {ex : Nat → Nat} {a : Nat} (h : a < 1000) : am_ad b ex a = b + a := by simp [am_ad, h]
theorem am_ws_D (b : Nat) (ex : Nat → Nat) (aC : Nat → ClassId) {sh : am_Sh} (m : am_M) (hl : sh.length < 1000) : va_D (fun z => b ≤ z) (am_ws b ex aC sh m) := by
  have key : ∀ (k : Nat) (q : Nat × va_E), (am_ws b ex aC sh m)[k]? = some q → q.1 = b + k ∧ k < sh.length := by
    intro k q hk
    have hlt : k < sh.length := by have := (List.getElem?_eq_some_iff.mp hk).1; rwa [am_ws_len] at this
    simp only [am_ws, List.getElem?_map, List.getElem?_range hlt, Option.map_some, Option.some.injEq] at hk
    rw [← hk]
    exact ⟨am_ad_lo (by omega), hlt⟩
  refine ⟨fun i j p q hi hj hpq => ?_, fun k q hk => ?_⟩
  · have h1 := key i p hi
    have h2 := key j q hj
    omega
  · have h1 := key k q hk
    show b ≤ q.1
    omega
theorem am_ws_upd (b : Nat) (ex : Nat → Nat) (aC : Nat → ClassId) {sh : am_Sh} {m m' : am_M} {a : Nat} {q : Nat × Nat} (h : sh[a]? = some q) (ho : ∀ i, i ≠ a → ∀ q', am_cell (am_ad b ex) aC m' i q' = am_cell (am_ad b ex) aC m i q') : am_ws b ex aC sh m' = (am_ws b ex aC sh m).set a (am_ad b ex a, am_cell (am_ad b ex) aC m' a q) := by
  apply List.ext_getElem?
  intro i
  by_cases hi : i = a
  · subst hi
    rw [am_ws_get b ex aC m' h, List.getElem?_set_self (by rw [am_ws_len]; exact am_lt_of h)]
  · rw [List.getElem?_set_ne (Ne.symm hi)]
    by_cases hl : i < sh.length
    · obtain ⟨q', hq'⟩ : ∃ q', sh[i]? = some q' := ⟨_, List.getElem?_eq_getElem hl⟩
      rw [am_ws_get b ex aC m' hq', am_ws_get b ex aC m hq', ho i hi]
    · rw [List.getElem?_eq_none (by rw [am_ws_len]; omega), List.getElem?_eq_none (by rw [am_ws_len]; omega)]
theorem am_cell_wi (ad : Nat → Nat) (aC : Nat → ClassId) (m : am_M) (a j : Nat) (v : Int) (i : Nat) (hi : i ≠ a) (q : Nat × Nat) : am_cell ad aC (am_wi m a j v) i q = am_cell ad aC m i q := by
  unfold am_cell am_fs am_fv am_wi am_up
  simp only [if_neg hi]
theorem am_cell_wl (ad : Nat → Nat) (aC : Nat → ClassId) (m : am_M) (a j : Nat) (v : Int64) (i : Nat) (hi : i ≠ a) (q : Nat × Nat) : am_cell ad aC (am_wl m a j v) i q = am_cell ad aC m i q := by
  unfold am_cell am_fs am_fv am_wl am_ul
  simp only [if_neg hi]
theorem am_cell_wr (ad : Nat → Nat) (aC : Nat → ClassId) (m : am_M) (a j : Nat) (v : Option Nat) (i : Nat) (hi : i ≠ a) (q : Nat × Nat) : am_cell ad aC (am_wr m a j v) i q = am_cell ad aC m i q := by
  unfold am_cell am_fs am_fv am_wr am_ur
  simp only [if_neg hi]
theorem am_cell_wz (ad : Nat → Nat) (aC : Nat → ClassId) (m : am_M) (a : Nat) (i : Nat) (hi : i ≠ a) (q : Nat × Nat) : am_cell ad aC (am_wz m a) i q = am_cell ad aC m i q := by
  unfold am_cell am_fs am_fv am_wz am_zj am_zk am_zr
  simp only [if_neg hi]
theorem am_fs_get (ad : Nat → Nat) (m : am_M) (i ci : Nat) {n k : Nat} (h : k < n) : (am_fs ad m i ci n)[k]? = some (am_fv ad m i k (am_ty ci k)) := by simp [am_fs, List.getElem?_map, List.getElem?_range h]
theorem am_fs_len (ad : Nat → Nat) (m : am_M) (i ci n : Nat) : (am_fs ad m i ci n).length = n := by simp [am_fs]
theorem am_fs_set (ad : Nat → Nat) (m m' : am_M) (i ci n k : Nat) (v : Value) (hk : k < n) (hv : am_fv ad m' i k (am_ty ci k) = v) (ho : ∀ j, j ≠ k → am_fv ad m' i j (am_ty ci j) = am_fv ad m i j (am_ty ci j)) : am_fs ad m' i ci n = (am_fs ad m i ci n).set k v := by
  apply List.ext_getElem?
  intro j
  by_cases hj : j = k
  · subst hj
    rw [am_fs_get ad m' i ci hk, List.getElem?_set_self (by rw [am_fs_len]; exact hk), hv]
  · rw [List.getElem?_set_ne (Ne.symm hj)]
    by_cases hl : j < n
    · rw [am_fs_get ad m' i ci hl, am_fs_get ad m i ci hl, ho j hj]
    · rw [List.getElem?_eq_none (by rw [am_fs_len]; omega), List.getElem?_eq_none (by rw [am_fs_len]; omega)]
theorem am_cell_obj (ad : Nat → Nat) (aC : Nat → ClassId) (m : am_M) (i ci n : Nat) (h : ci < 100) : am_cell ad aC m i (ci, n) = .inr (ci, am_fs ad m i ci n) := by simp [am_cell, h]
theorem am_cell_int (ad : Nat → Nat) (aC : Nat → ClassId) (m : am_M) (i kd n : Nat) (h : 100 ≤ kd) (h2 : kd < 103) : am_cell ad aC m i (kd, n) = .inl (aC kd, n, .inl (fun j => Int32.ofInt (m.1 i j))) := by simp [am_cell, h2, Nat.not_lt.mpr h]
theorem am_cell_long (ad : Nat → Nat) (aC : Nat → ClassId) (m : am_M) (i n : Nat) : am_cell ad aC m i (103, n) = .inl (aC 103, n, .inr (.inl (m.2.1 i))) := by simp [am_cell]
theorem am_cell_ref (ad : Nat → Nat) (aC : Nat → ClassId) (m : am_M) (i kd n : Nat) (h : 103 < kd) : am_cell ad aC m i (kd, n) = .inl (aC kd, n, .inr (.inr (.inr (.inr fun j => (m.2.2 i j).map ad)))) := by
  simp [am_cell, show ¬ kd < 100 by omega, show ¬ kd < 103 by omega, show ¬ kd = 103 by omega]
/-- an int stored in an object, a reference, a row's place -/
theorem am_ws_put (b : Nat) (ex : Nat → Nat) (aC : Nat → ClassId) {sh : am_Sh} (m : am_M) {a ci n k : Nat} (v : Int) (h : sh[a]? = some (ci, n)) (hci : ci < 100) (hk : k < n) (hty : am_isI (am_ty ci k) = true) : am_ws b ex aC sh (am_wi m a k v) = (am_ws b ex aC sh m).set a (am_ad b ex a, .inr (ci, (am_fs (am_ad b ex) m a ci n).set k (.int (Int32.ofInt v)))) := by
  have e : am_fs (am_ad b ex) (am_wi m a k v) a ci n = (am_fs (am_ad b ex) m a ci n).set k (.int (Int32.ofInt v)) := by
    refine am_fs_set _ _ _ _ _ _ _ _ hk ?_ ?_
    · simp [am_fv, hty, am_wi, am_up]
    · intro j hj
      simp [am_fv, am_wi, am_up, hj]
  rw [am_ws_upd b ex aC h (am_cell_wi _ _ m a k v), am_cell_obj _ _ _ _ _ _ hci, e]
theorem am_ws_putr (b : Nat) (ex : Nat → Nat) (aC : Nat → ClassId) {sh : am_Sh} (m : am_M) {a ci n k : Nat} (v : Nat) (h : sh[a]? = some (ci, n)) (hci : ci < 100) (hk : k < n) (hty : am_isI (am_ty ci k) = false) : am_ws b ex aC sh (am_wr m a k (some v)) = (am_ws b ex aC sh m).set a (am_ad b ex a, .inr (ci, (am_fs (am_ad b ex) m a ci n).set k (.ref (am_ad b ex v)))) := by
  have e : am_fs (am_ad b ex) (am_wr m a k (some v)) a ci n = (am_fs (am_ad b ex) m a ci n).set k (.ref (am_ad b ex v)) := by
    refine am_fs_set _ _ _ _ _ _ _ _ hk ?_ ?_
    · simp [am_fv, hty, am_wr, am_ur, va_rf]
    · intro j hj
      simp [am_fv, am_wr, am_ur, hj]
  rw [am_ws_upd b ex aC h (am_cell_wr _ _ m a k (some v)), am_cell_obj _ _ _ _ _ _ hci, e]
theorem am_ws_ast (b : Nat) (ex : Nat → Nat) (aC : Nat → ClassId) {sh : am_Sh} (m : am_M) {a kd n j : Nat} (v : Int) (h : sh[a]? = some (kd, n)) (h1 : 100 ≤ kd) (h2 : kd < 103) : am_ws b ex aC sh (am_wi m a j v) = (am_ws b ex aC sh m).set a (am_ad b ex a, .inl (aC kd, n, .inl (upd (fun j => Int32.ofInt (m.1 a j)) j (Int32.ofInt v)))) := by
  have e : (fun i => Int32.ofInt ((am_wi m a j v).1 a i)) = upd (fun j => Int32.ofInt (m.1 a j)) j (Int32.ofInt v) := by
    funext i
    by_cases hi : i = j
    · simp [am_wi, am_up, upd, hi]
    · simp [am_wi, am_up, upd, hi]
  rw [am_ws_upd b ex aC h (am_cell_wi _ _ m a j v), am_cell_int _ _ _ _ _ _ h1 h2, e]
theorem am_ws_astl (b : Nat) (ex : Nat → Nat) (aC : Nat → ClassId) {sh : am_Sh} (m : am_M) {a n j : Nat} (v : Int64) (h : sh[a]? = some (103, n)) : am_ws b ex aC sh (am_wl m a j v) = (am_ws b ex aC sh m).set a (am_ad b ex a, .inl (aC 103, n, .inr (.inl (vp_updL (m.2.1 a) j v)))) := by
  have e : (am_wl m a j v).2.1 a = vp_updL (m.2.1 a) j v := by
    funext i
    simp [am_wl, am_ul, vp_updL]
  rw [am_ws_upd b ex aC h (am_cell_wl _ _ m a j v), am_cell_long, e]
theorem am_ws_astr (b : Nat) (ex : Nat → Nat) (aC : Nat → ClassId) {sh : am_Sh} (m : am_M) {a kd n j v : Nat} (h : sh[a]? = some (kd, n)) (h1 : 103 < kd) : am_ws b ex aC sh (am_wr m a j (some v)) = (am_ws b ex aC sh m).set a (am_ad b ex a, .inl (aC kd, n, .inr (.inr (.inr (.inr (va_up (fun i => (m.2.2 a i).map (am_ad b ex)) j (some (am_ad b ex v)))))))) := by
  have e : (fun i => ((am_wr m a j (some v)).2.2 a i).map (am_ad b ex)) = va_up (fun i => (m.2.2 a i).map (am_ad b ex)) j (some (am_ad b ex v)) := by
    funext i
    by_cases hi : i = j
    · simp [am_wr, am_ur, va_up, hi]
    · simp [am_wr, am_ur, va_up, hi]
  rw [am_ws_upd b ex aC h (am_cell_wr _ _ m a j (some v)), am_cell_ref _ _ _ _ _ _ h1, e]
theorem am_ws_new (b : Nat) (ex : Nat → Nat) (aC : Nat → ClassId) (sh : am_Sh) (m : am_M) (q : Nat × Nat) : am_ws b ex aC (sh ++ [q]) (am_wz m sh.length) = am_ws b ex aC sh m ++ [(am_ad b ex sh.length, am_cell (am_ad b ex) aC (am_wz m sh.length) sh.length q)] := by
  apply List.ext_getElem?
  intro i
  by_cases hi : i < sh.length
  · obtain ⟨q', hq'⟩ : ∃ q', sh[i]? = some q' := ⟨_, List.getElem?_eq_getElem hi⟩
    rw [am_ws_get b ex aC _ (show (sh ++ [q])[i]? = some q' by rw [List.getElem?_append_left hi]; exact hq'), List.getElem?_append_left (by rw [am_ws_len]; exact hi), am_ws_get b ex aC m hq', am_cell_wz _ _ _ _ _ (Nat.ne_of_lt hi)]
  · by_cases h2 : i = sh.length
    · subst h2
      rw [am_ws_get b ex aC _ (show (sh ++ [q])[sh.length]? = some q by simp), List.getElem?_append_right (by rw [am_ws_len]; omega), am_ws_len]
      simp
    · rw [List.getElem?_eq_none (by rw [am_ws_len]; simp; omega), List.getElem?_eq_none (by simp [am_ws_len]; omega)]
theorem am_rn_cat (ad : Nat → Nat) (v : am_V) : (am_rn ad v).category = am_cat v := by
  rcases v with v | v | v
  · rfl
  · rfl
  · cases v <;> rfl
theorem am_get_mem : ∀ {lv : am_L} {x : Nat} {v : am_V}, am_get lv x = some v → (x, v) ∈ lv
  | [], x, v, h => by simp [am_get] at h
  | q :: t, x, v, h => by
    obtain ⟨a, w⟩ := q
    simp only [am_get] at h
    cases hb : Nat.beq a x with
    | true =>
      rw [hb] at h
      have := Nat.eq_of_beq_eq_true hb
      subst this
      cases h
      exact List.mem_cons_self
    | false =>
      rw [hb] at h
      exact List.mem_cons_of_mem _ (am_get_mem h)
theorem am_has_get {ad : Nat → Nat} {ls : Array Slot} {nL : Nat} {lv : am_L} (h : lv_has ls nL (am_rl ad lv)) {x : Nat} {v : am_V} (hg : am_get lv x = some v) : ls[x]? = some (.val (am_rn ad v)) := h.2.2 (x, am_rn ad v) (List.mem_map.mpr ⟨(x, v), am_get_mem hg, rfl⟩)
theorem am_has_at {ad : Nat → Nat} {lv : am_L} {x : Nat} {v : am_V} (hg : am_get lv x = some v) : ∃ k : Nat, (am_rl ad lv)[k]? = some (x, am_rn ad v) := List.getElem?_of_mem (List.mem_map.mpr ⟨(x, v), am_get_mem hg, rfl⟩)
theorem am_has_sub {ls : Array Slot} {nL : Nat} {l l' : List (Nat × Value)} (h : lv_has ls nL l) (hs : ∀ q ∈ l', q ∈ l) : lv_has ls nL l' := ⟨h.1, h.2.1, fun q hq => h.2.2 q (hs q hq)⟩
theorem am_nbeq {a b : Nat} (h : Nat.beq a b = false) : a ≠ b := fun e => by
  subst e
  rw [Nat.beq_refl] at h
  cases h
theorem am_mem_del (i : Nat) : ∀ (lv : am_L) (q : Nat × am_V), q ∈ am_del lv i → q ∈ lv ∧ q.1 ≠ i ∧ ¬ (q.1 + 1 = i ∧ am_cat q.2 = 2)
  | [], q, h => by cases h
  | w :: t, q, h => by
    simp only [am_del] at h
    cases hb : (Nat.beq w.1 i || (Nat.beq (w.1 + 1) i && Nat.beq (am_cat w.2) 2)) with
    | true =>
      rw [hb] at h
      obtain ⟨h1, h2⟩ := am_mem_del i t q h
      exact ⟨List.mem_cons_of_mem _ h1, h2⟩
    | false =>
      rw [hb] at h
      rcases List.mem_cons.mp h with h | h
      · subst h
        rw [Bool.or_eq_false_iff, Bool.and_eq_false_iff] at hb
        refine ⟨List.mem_cons_self, am_nbeq hb.1, fun z => ?_⟩
        rcases hb.2 with h2 | h2
        · exact am_nbeq h2 z.1
        · exact am_nbeq h2 z.2
      · obtain ⟨h1, h2⟩ := am_mem_del i t q h
        exact ⟨List.mem_cons_of_mem _ h1, h2⟩
theorem am_mem_drop (i : Nat) : ∀ (lv : am_L) (q : Nat × am_V), q ∈ am_drop lv i → q ∈ lv ∧ q.1 ≠ i
  | [], q, h => by cases h
  | w :: t, q, h => by
    simp only [am_drop] at h
    cases hb : Nat.beq w.1 i with
    | true =>
      rw [hb] at h
      obtain ⟨h1, h2⟩ := am_mem_drop i t q h
      exact ⟨List.mem_cons_of_mem _ h1, h2⟩
    | false =>
      rw [hb] at h
      rcases List.mem_cons.mp h with h | h
      · subst h
        exact ⟨List.mem_cons_self, am_nbeq hb⟩
      · obtain ⟨h1, h2⟩ := am_mem_drop i t q h
        exact ⟨List.mem_cons_of_mem _ h1, h2⟩
theorem am_mem_insert (w : Nat × am_V) : ∀ (lv : am_L) (q : Nat × am_V), q ∈ am_insert lv w → q = w ∨ q ∈ lv
  | [], q, h => by
    simp only [am_insert, List.mem_singleton] at h
    exact Or.inl h
  | x :: t, q, h => by
    simp only [am_insert] at h
    cases hb : Nat.blt w.1 x.1 with
    | true =>
      rw [hb] at h
      rcases List.mem_cons.mp h with h | h
      · exact Or.inl h
      · exact Or.inr h
    | false =>
      rw [hb] at h
      rcases List.mem_cons.mp h with h | h
      · exact Or.inr (by rw [h]; exact List.mem_cons_self)
      · rcases am_mem_insert w t q h with h | h
        · exact Or.inl h
        · exact Or.inr (List.mem_cons_of_mem _ h)
theorem am_mem_keep (ks : List Nat) : ∀ (lv : am_L) (q : Nat × am_V), q ∈ am_keep ks lv → q ∈ lv
  | [], q, h => by cases h
  | w :: t, q, h => by
    simp only [am_keep] at h
    cases hb : ks.any (Nat.beq w.1) with
    | true =>
      rw [hb] at h
      rcases List.mem_cons.mp h with h | h
      · rw [h]; exact List.mem_cons_self
      · exact List.mem_cons_of_mem _ (am_mem_keep ks t q h)
    | false =>
      rw [hb] at h
      exact List.mem_cons_of_mem _ (am_mem_keep ks t q h)
theorem am_has_live {ad : Nat → Nat} {ls : Array Slot} {nL : Nat} {lv : am_L} (o : Option (List Nat)) (h : lv_has ls nL (am_rl ad lv)) : lv_has ls nL (am_rl ad (am_live o lv)) := by
  cases o with
  | none => exact h
  | some ks =>
    refine am_has_sub h (fun q hq => ?_)
    obtain ⟨w, hw, rfl⟩ := List.mem_map.mp hq
    exact List.mem_map.mpr ⟨w, am_mem_keep ks lv w hw, rfl⟩
theorem am_has_set {ad : Nat → Nat} {ls : Array Slot} {nL : Nat} {lv : am_L} {i : Nat} {v : am_V} (h : lv_has ls nL ((i, am_rn ad v) :: (am_rl ad lv).filter (fun q => !(q.1 == i) && !(q.1 + 1 == i && q.2.category == 2)))) : lv_has ls nL (am_rl ad (am_set lv i v)) := by
  refine am_has_sub h (fun q hq => ?_)
  obtain ⟨w, hw, rfl⟩ := List.mem_map.mp hq
  rcases am_mem_insert _ _ _ hw with h | h
  · rw [h]; exact List.mem_cons_self
  · obtain ⟨h1, h2, h3⟩ := am_mem_del _ _ _ h
    refine List.mem_cons_of_mem _ (List.mem_filter.mpr ⟨List.mem_map.mpr ⟨w, h1, rfl⟩, ?_⟩)
    simp only [am_rn_cat]
    simp
    exact ⟨h2, by omega⟩
theorem am_has_set2 {ad : Nat → Nat} {ls : Array Slot} {nL : Nat} {lv : am_L} {i : Nat} {v : am_V} (h : lv_has ls nL ((i, am_rn ad v) :: (am_rl ad lv).filter (fun q => !(q.1 == i) && (!(q.1 == i + 1) && !(q.1 + 1 == i && q.2.category == 2))))) : lv_has ls nL (am_rl ad (am_set (am_drop lv (i + 1)) i v)) := by
  refine am_has_sub h (fun q hq => ?_)
  obtain ⟨w, hw, rfl⟩ := List.mem_map.mp hq
  rcases am_mem_insert _ _ _ hw with h | h
  · rw [h]; exact List.mem_cons_self
  · obtain ⟨h1, h2, h3⟩ := am_mem_del _ _ _ h
    obtain ⟨h4, h5⟩ := am_mem_drop _ _ _ h1
    refine List.mem_cons_of_mem _ (List.mem_filter.mpr ⟨List.mem_map.mpr ⟨w, h4, rfl⟩, ?_⟩)
    simp only [am_rn_cat]
    simp
    exact ⟨h2, h5, by omega⟩
theorem am_cat12 (v : am_V) : am_cat v = 1 ∨ am_cat v = 2 := by
  rcases v with v | v | v <;> simp [am_cat]
theorem am_args (ad : Nat → Nat) : ∀ (as : List am_V) (i : Nat), lv_args i (as.map (am_rn ad)) = am_rl ad (am_largs i as)
  | [], i => rfl
  | v :: t, i => by
    simp only [List.map_cons, lv_args, am_rl, am_largs, am_rn_cat]
    have e : (if am_cat v = 2 then i + 2 else i + 1) = i + am_cat v := by
      rcases am_cat12 v with h | h <;> simp [h]
    rw [e, am_args ad t]
    rfl
theorem am_cats_rn (ad : Nat → Nat) : ∀ st : List am_V, ((st.map (am_rn ad)).map fun v => v.category).sum = am_cats st
  | [] => rfl
  | v :: t => by
    have ih := am_cats_rn ad t
    simp only [List.map_cons, List.sum_cons, am_cats, am_rn_cat] at ih ⊢
    rw [ih]
theorem am_slots_len (ad : Nat → Nat) : ∀ as : List am_V, (lg_sl (as.map (am_rn ad))).length = am_cats as
  | [] => rfl
  | v :: t => by
    have ih := am_slots_len ad t
    simp only [lg_sl, List.map_cons, List.flatMap_cons, List.length_append, am_cats, am_rn_cat] at ih ⊢
    rw [ih]
    rcases am_cat12 v with hc | hc <;> simp [hc]
theorem am_take_inv : ∀ (n : Nat) (st acc : List am_V) {as r : List am_V}, am_take n st acc = some (as, r) → ∃ xs, xs.length = n ∧ st = xs.reverse ++ r ∧ as = xs ++ acc
  | 0, st, acc, as, r, h => by
    simp only [am_take, Option.some.injEq, Prod.mk.injEq] at h
    exact ⟨[], rfl, by simp [h.2], by simp [h.1]⟩
  | n + 1, [], acc, as, r, h => by simp [am_take] at h
  | n + 1, v :: st, acc, as, r, h => by
    simp only [am_take] at h
    obtain ⟨xs, h1, h2, h3⟩ := am_take_inv n st (v :: acc) h
    exact ⟨xs ++ [v], by simp [h1], by simp [h2], by simp [h3]⟩
