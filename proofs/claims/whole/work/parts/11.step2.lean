/-! reading, storing, making: what the rows need -/
section AMI2
variable {nx : Nat} {lv : am_L} {sh : am_Sh} {m : am_M} {st : List am_V} {σ' : am_S} {X : am_X}
theorem am_aldI_inv {kd : Nat} (h : am_go nx lv sh m (am_aldI X kd sh m st) = some (true, .inl σ')) : ∃ j a r, st = .inl j :: .inr (.inr (some a)) :: r ∧ ((∃ n, am_arr sh a kd = some n ∧ am_in j n = true ∧ σ' = (nx, lv, .inl (m.1 a j.toNat) :: r, sh, m)) ∨ (∃ n f, am_ext X a = some (kd, n, f) ∧ am_in j n = true ∧ σ' = (nx, lv, .inl (f j.toNat) :: r, sh, m))) := by
  unfold am_aldI at h
  split at h
  · rename_i j a r
    refine ⟨j, a, r, rfl, ?_⟩
    split at h
    · rename_i n hn
      simp only [am_go, Option.some.injEq, Prod.mk.injEq, Sum.inl.injEq] at h
      exact Or.inl ⟨n, hn, h.1, h.2.symm⟩
    · split at h
      · rename_i k2 n f hx
        cases hb : Nat.beq k2 kd with
        | false => rw [hb] at h; cases h
        | true =>
          rw [hb] at h
          have := Nat.eq_of_beq_eq_true hb
          subst this
          simp only [cond_true, am_go, Option.some.injEq, Prod.mk.injEq, Sum.inl.injEq] at h
          exact Or.inr ⟨n, f, hx, h.1, h.2.symm⟩
      · cases h
  · cases h
theorem am_aldL_inv (h : am_go nx lv sh m (am_aldL sh m st) = some (true, .inl σ')) : ∃ j a r n, st = .inl j :: .inr (.inr (some a)) :: r ∧ am_arr sh a 103 = some n ∧ am_in j n = true ∧ σ' = (nx, lv, .inr (.inl (m.2.1 a j.toNat)) :: r, sh, m) := by
  unfold am_aldL at h
  split at h
  · split at h
    · rename_i n hn
      simp only [am_go, Option.some.injEq, Prod.mk.injEq, Sum.inl.injEq] at h
      exact ⟨_, _, _, n, rfl, hn, h.1, h.2.symm⟩
    · cases h
  · cases h
theorem am_aldA_inv {kd : Nat} (h : am_go nx lv sh m (am_aldA kd sh m st) = some (true, .inl σ')) : ∃ j a r n, st = .inl j :: .inr (.inr (some a)) :: r ∧ am_arr sh a kd = some n ∧ am_in j n = true ∧ σ' = (nx, lv, .inr (.inr (m.2.2 a j.toNat)) :: r, sh, m) := by
  unfold am_aldA at h
  split at h
  · split at h
    · rename_i n hn
      simp only [am_go, Option.some.injEq, Prod.mk.injEq, Sum.inl.injEq] at h
      exact ⟨_, _, _, n, rfl, hn, h.1, h.2.symm⟩
    · cases h
  · cases h
end AMI2
theorem am_cl32 {j : Int} (h0 : 0 ≤ j) (h1 : j ≤ 2147483647) : (Int32.ofInt j).toNatClampNeg = j.toNat := by
  show (Int32.ofInt j).toInt.toNat = j.toNat
  rw [am_ti ⟨by omega, h1⟩]
theorem am_idx {j : Int} {n : Nat} (h : am_in j n = true) (hn : n ≤ 2147483647) : vp_in (Int32.ofInt j) n ∧ (Int32.ofInt j).toNatClampNeg = j.toNat := by
  have h := of_decide_eq_true h
  have e := am_cl32 h.1 (by omega)
  refine ⟨fun q => ?_, e⟩
  rcases q with q | q
  · have := (am_lt32 (x := j) (y := 0) ⟨by omega, by omega⟩ (by decide)).mp q
    omega
  · rw [e] at q
    omega
theorem am_len32 {n : Int} (h0 : 0 ≤ n) (h1 : n ≤ 100000) : (¬ Int32.ofInt n < 0) ∧ (Int32.ofInt n).toNatClampNeg = n.toNat :=
  ⟨fun q => by have := (am_lt32 (x := n) (y := 0) ⟨by omega, by omega⟩ (by decide)).mp q; omega, am_cl32 h0 (by omega)⟩
theorem am_fk_I {ci k ty : Nat} (h : am_fk ci k ty = true) : Nat.blt ty 2 = am_isI (am_ty ci k) := by
  unfold am_fk at h
  split at h <;> first | (rename_i e; rw [e, Nat.eq_of_beq_eq_true h]; rfl) | cases h
theorem am_fk_0 {ci k : Nat} (h : am_fk ci k 0 = true) : am_ty ci k = .int := by
  unfold am_fk at h
  split at h <;> first | (rename_i e; exact e) | (exact absurd h (by decide))
theorem am_fk_1 {ci k : Nat} (h : am_fk ci k 1 = true) : am_ty ci k = .boolean := by
  unfold am_fk at h
  split at h <;> first | (exact absurd h (by decide)) | (rename_i e; exact e)
def am_isR : FieldType → Bool
  | .object _ => true
  | .array _ => true
  | _ => false
theorem am_fk_2 {ci k : Nat} (h : am_fk ci k 2 = true) : am_isR (am_ty ci k) = true := by
  unfold am_fk at h
  split at h <;> first | (exact absurd h (by decide)) | (rename_i e; rw [e]; rfl)
theorem am_nar_ref {ty : FieldType} (h : am_isR ty = true) (a : Nat) : narrow ty (.ref a) = .ref a := by
  cases ty <;> first | rfl | cases h
theorem am_fit_ref {ty : FieldType} (h : am_isR ty = true) (a : Nat) : fits ty (.ref a) = true := by
  cases ty <;> first | rfl | cases h
theorem am_isI_ref {ty : FieldType} (h : am_isR ty = true) : am_isI ty = false := by
  cases ty <;> first | rfl | cases h
theorem am_tyall : (List.range am_cl.length).all (fun ci => match am_cl[ci]? with
    | some q => (List.range q.2.2).all (fun k => am_isI (am_ty ci k) || am_isR (am_ty ci k))
    | none => true) = true := by decide +kernel
theorem am_tyref {ci k : Nat} {q : vw_C} (h : am_cl[ci]? = some q) (hk : k < q.2.2) : (am_isI (am_ty ci k) || am_isR (am_ty ci k)) = true := by
  have hlt := (List.getElem?_eq_some_iff.mp h).1
  have h1 := List.all_eq_true.mp am_tyall ci (List.mem_range.mpr hlt)
  rw [h] at h1
  exact List.all_eq_true.mp h1 k (List.mem_range.mpr hk)
theorem am_fv0 {ad : Nat → Nat} {m : am_M} {i k : Nat} {ty : FieldType} (h : (am_isI ty || am_isR ty) = true) : am_fv ad (am_wz m i) i k ty = defaultValue ty := by
  unfold am_fv am_wz am_zj am_zr
  cases ty <;> first | (simp [am_isI, va_rf, defaultValue]; done) | (simp [am_isI, am_isR] at h)
theorem am_tot_app (sh : am_Sh) (q : Nat × Nat) : am_tot (sh ++ [q]) = am_tot sh + q.2 := by simp [am_tot]
theorem am_cbytes (x : ArrayType) {n : Nat} (h : n ≤ 100000) : n * componentBytes (newarray.typeOf x) ≤ 536870912 := by
  have : componentBytes (newarray.typeOf x) ≤ 8 := by cases x <;> decide
  calc n * componentBytes (newarray.typeOf x) ≤ n * 8 := Nat.mul_le_mul_left _ this
    _ ≤ 536870912 := by omega
theorem am_atyp {aC : Nat → ClassId} {D : va_G} {s : State} (hK : va_K D am_cl (am_tys aC) s) {x : ArrayType} (h : 100 ≤ am_aty x) : s.vm.findClass ("[" ++ (newarray.typeOf x).toString) = some (aC (am_aty x)) := by
  cases x <;> first | exact (hK.2 0 _ rfl).2 | exact (hK.2 1 _ rfl).2 | exact (hK.2 2 _ rfl).2 | exact (hK.2 3 _ rfl).2 | (exact absurd h (by decide))
theorem am_cell0 {ad : Nat → Nat} {aC : Nat → ClassId} {D : va_G} {mem : am_M} {x : ArrayType} {i kd n h : Nat} {H1 : Heap} (h1 : 100 ≤ am_aty x) (he : kd = am_aty x) (e1 : H1[h]? = some (arrV (aC kd) n (fun _ => defaultValue (newarray.typeOf x)))) : va_at D am_cl (h, am_cell ad aC (am_wz mem i) i (kd, n)) H1 := by
  subst he
  cases x <;> first
    | (rw [am_cell_int _ _ _ _ _ _ (by decide) (by decide)]
       show H1[h]? = some (vp_cell _ _)
       rw [vp_cell_i, e1]
       congr 2
       funext j
       simp [am_wz, am_zj, am_zk, defaultValue, newarray.typeOf]
       done)
    | (rw [show am_aty .long = 103 from rfl, am_cell_long]
       show H1[h]? = some (vp_cell _ _)
       rw [vp_cell_l, e1]
       congr 2
       funext j
       simp [am_wz, am_zj, am_zk, defaultValue, newarray.typeOf]
       done)
    | (exact absurd h1 (by decide))
theorem am_cell_arr (ad : Nat → Nat) (aC : Nat → ClassId) (m : am_M) (i kd n : Nat) (h : 100 ≤ kd) : ∃ x : vp_A, am_cell ad aC m i (kd, n) = .inl (aC kd, x) ∧ x.1 = n := by
  unfold am_cell
  rw [if_neg (show ¬ kd < 100 by omega)]
  split
  · exact ⟨_, rfl, rfl⟩
  · split
    · exact ⟨_, rfl, rfl⟩
    · exact ⟨_, rfl, rfl⟩
def am_c9 : vw_C := am_cl.getD 9 ("", fun _ => ("", "", "", false), 0)
def am_c5 : vw_C := am_cl.getD 5 ("", fun _ => ("", "", "", false), 0)
theorem am_cl9 : am_cl[9]? = some am_c9 := rfl
theorem am_cl5 : am_cl[5]? = some am_c5 := rfl
theorem am_offs_get (pc : Nat) : ∀ (os : List Int) (ps : List Nat), am_offs pc os ps = true → ∀ (i : Nat) (o : Int), os[i]? = some o → (pc : Int) + o = (am_ps ps i : Int)
  | [], ps, _, i, o, h => by simp at h
  | o :: os, [], h, _, _, _ => by cases h
  | o :: os, p :: ps, h, i, o', hi => by
    simp only [am_offs, Bool.and_eq_true] at h
    cases i with
    | zero =>
      simp at hi
      subst hi
      exact of_decide_eq_true h.1
    | succ i =>
      simp at hi
      exact am_offs_get pc os ps h.2 i o' hi
theorem am_ps_tail : ∀ (ps : List Nat) (i : Nat), am_ps ps.tail i = am_ps ps (i + 1)
  | [], i => rfl
  | _ :: _, _ => rfl
/-- the constant rows -/
theorem am_ext_cases {X : am_X} {a kd n : Nat} {f : Nat → Int} (h : am_ext X a = some (kd, n, f)) : (a = 1000 ∧ kd = 100 ∧ n = 7 ∧ f = fun j => am_least.getD j 0) ∨ (a = 1001 ∧ kd = 100 ∧ n = 7 ∧ f = fun j => am_most.getD j 0) ∨ (a = 1002 ∧ kd = 100 ∧ n = 7 ∧ f = fun j => am_first.getD j 0) ∨ (a = 1003 ∧ kd = 100 ∧ n = X.1 ∧ f = fun j => (X.2.1 j).toInt) ∨ (2100 ≤ a ∧ a < 2114 ∧ kd = 102 ∧ n = (am_words.getD (a - 2100) []).length ∧ f = fun j => (am_words.getD (a - 2100) []).getD j 0) := by
  unfold am_ext at h
  cases h0 : Nat.blt a 1000 with
  | true => rw [h0] at h; cases h
  | false =>
    rw [h0] at h
    cases h1 : Nat.beq a 1000 with
    | true =>
      rw [h1] at h
      simp only [cond_true, cond_false, Option.some.injEq, Prod.mk.injEq] at h
      exact Or.inl ⟨Nat.eq_of_beq_eq_true h1, h.1.symm, h.2.1.symm, h.2.2.symm⟩
    | false =>
      rw [h1] at h
      cases h2 : Nat.beq a 1001 with
      | true =>
        rw [h2] at h
        simp only [cond_true, cond_false, Option.some.injEq, Prod.mk.injEq] at h
        exact Or.inr (Or.inl ⟨Nat.eq_of_beq_eq_true h2, h.1.symm, h.2.1.symm, h.2.2.symm⟩)
      | false =>
        rw [h2] at h
        cases h3 : Nat.beq a 1002 with
        | true =>
          rw [h3] at h
          simp only [cond_true, cond_false, Option.some.injEq, Prod.mk.injEq] at h
          exact Or.inr (Or.inr (Or.inl ⟨Nat.eq_of_beq_eq_true h3, h.1.symm, h.2.1.symm, h.2.2.symm⟩))
        | false =>
          rw [h3] at h
          cases h4 : Nat.beq a 1003 with
          | true =>
            rw [h4] at h
            simp only [cond_true, cond_false, Option.some.injEq, Prod.mk.injEq] at h
            exact Or.inr (Or.inr (Or.inr (Or.inl ⟨Nat.eq_of_beq_eq_true h4, h.1.symm, h.2.1.symm, h.2.2.symm⟩)))
          | false =>
            rw [h4] at h
            cases h5 : (Nat.ble 2100 a && Nat.blt a 2114) with
            | true =>
              rw [h5] at h
              rw [Bool.and_eq_true] at h5
              simp only [cond_true, cond_false, Option.some.injEq, Prod.mk.injEq] at h
              exact Or.inr (Or.inr (Or.inr (Or.inr ⟨Nat.le_of_ble_eq_true h5.1, am_blt h5.2, h.1.symm, h.2.1.symm, h.2.2.symm⟩)))
            | false => rw [h5] at h; cases h
theorem am_ad_hi {b : Nat} {ex : Nat → Nat} {a : Nat} (h : 1000 ≤ a) : am_ad b ex a = ex a := by
  simp only [am_ad]
  rw [if_neg (by omega)]
theorem am_ext_int {b : Nat} {ex : Nat → Nat} {X : am_X} {U : State} {H : Heap} (hE : am_E b ex X U H) {a n : Nat} {f : Nat → Int} (h : am_ext X a = some (100, n, f)) : ∃ t, am_ad b ex a = t ∧ ((va_T .int t n (fun j => am_o32 (f j)) (am_A b) U H ∧ n ≤ 2147483647) ∨ (va_X t X.1 X.2.1 U H ∧ t = ex 1003 ∧ n = X.1 ∧ f = fun j => (X.2.1 j).toInt)) := by
  obtain ⟨t1, t2, t3⟩ := hE.2.1
  rcases am_ext_cases h with ⟨rfl, -, rfl, rfl⟩ | ⟨rfl, -, rfl, rfl⟩ | ⟨rfl, -, rfl, rfl⟩ | ⟨rfl, -, rfl, rfl⟩ | ⟨-, -, h, -⟩
  · exact ⟨_, rfl, Or.inl ⟨by rw [am_ad_hi (by omega)]; exact t1, by omega⟩⟩
  · exact ⟨_, rfl, Or.inl ⟨by rw [am_ad_hi (by omega)]; exact t2, by omega⟩⟩
  · exact ⟨_, rfl, Or.inl ⟨by rw [am_ad_hi (by omega)]; exact t3, by omega⟩⟩
  · exact ⟨_, rfl, Or.inr ⟨by rw [am_ad_hi (by omega)]; exact hE.2.2.2.2.1.1, am_ad_hi (by omega), rfl, rfl⟩⟩
  · cases h
theorem am_wlen (i : Nat) : am_lens.getD i 0 = (am_words.getD i []).length := by
  unfold am_lens
  rw [List.getD_eq_getElem?_getD, List.getD_eq_getElem?_getD, List.getElem?_map]
  cases am_words[i]? <;> rfl
theorem am_wbyt (i j : Nat) : (am_byts.getD i []).getD j 0 = Int32.ofInt ((am_words.getD i []).getD j 0) := by
  unfold am_byts
  rw [List.getD_eq_getElem?_getD, List.getD_eq_getElem?_getD, List.getD_eq_getElem?_getD, List.getD_eq_getElem?_getD, List.getElem?_map]
  cases am_words[i]? with
  | none => rfl
  | some w =>
    simp only [Option.map_some, Option.getD_some, List.getElem?_map]
    cases w[j]? <;> rfl
theorem am_ext_byte {b : Nat} {ex : Nat → Nat} {X : am_X} {U : State} {H : Heap} (hE : am_E b ex X U H) {a kd n : Nat} {f : Nat → Int} (h : am_ext X a = some (kd, n, f)) (hk : kd ≠ 100) : ∃ t, am_ad b ex a = t ∧ va_T .byte t n (fun j => am_o32 (f j)) (am_A b) U H := by
  rcases am_ext_cases h with ⟨-, h, -, -⟩ | ⟨-, h, -, -⟩ | ⟨-, h, -, -⟩ | ⟨-, h, -, -⟩ | h
  · exact absurd h hk
  · exact absurd h hk
  · exact absurd h hk
  · exact absurd h hk
  · have h1 := h.1
    have h2 := h.2.1
    rw [h.2.2.2.1, h.2.2.2.2]
    have hs := (hE.2.2.1.1 (a - 2100) (by omega)).2.2.2
    dsimp only at hs
    rw [show 2100 + (a - 2100) = a by omega, am_wlen] at hs
    simp only [am_wbyt] at hs
    exact ⟨_, am_ad_hi (by omega), hs⟩
theorem am_wsmall : am_words.all (fun w => Nat.ble w.length 100) = true := by decide
theorem am_ext_small {X : am_X} {a n : Nat} {f : Nat → Int} (h : am_ext X a = some (102, n, f)) : n ≤ 2147483647 := by
  rcases am_ext_cases h with ⟨-, h, -, -⟩ | ⟨-, h, -, -⟩ | ⟨-, h, -, -⟩ | ⟨-, h, -, -⟩ | h
  · cases h
  · cases h
  · cases h
  · cases h
  · rw [h.2.2.2.1, List.getD_eq_getElem?_getD]
    cases hw : am_words[a - 2100]? with
    | none => simp
    | some w =>
      have := Nat.le_of_ble_eq_true (List.all_eq_true.mp am_wsmall w (List.mem_of_getElem? hw))
      simp only [Option.getD_some]
      omega
section AMS2
variable {p : Program} {l : Launch} {e : Env} {R : Room} {s : State} {m : MethodId} {args : Array Value} {below : List Frame} {meth : Method} {c : Code} {Q : State → Prop}
variable {b : Nat} {ex : Nat → Nat} {aC : Nat → ClassId} {D : va_G} {X : am_X} {M : am_Me} {n0 t0 : Nat}
theorem am_s_getfield {pc nx : Nat} {ps : List Nat} {k : Int} {kl : Int64} {lv : am_L} {st : List am_V} {sh : am_Sh} {mem : am_M} {σ' : am_S} {x : Nat} (hC : am_Ctx b ex aC D X M p R s m args meth c) (hd : decode (am_mb M) pc = .ok ((.getfield x), nx - pc)) (hck : am_ckI M pc (.getfield x) ps k kl nx = true) (h : am_ins X (.getfield x) ps k kl nx lv st sh mem = some (true, .inl σ')) (hn : n0 ≤ sh.length ∧ t0 ≤ am_tot sh) (hR : σ'.2.2.2.1.length - n0 ≤ R.cells ∧ am_tot σ'.2.2.2.1 - t0 ≤ R.slots) (hk : am_W p l e R s m args below meth c b ex aC D M n0 t0 Q σ') : am_W p l e R s m args below meth c b ex aC D M n0 t0 Q (pc, lv, st, sh, mem) := by
  obtain ⟨hx, hb, hml, hown, hts, hK, hE, hlk, hrt, hnm, hfr, hok, hbs⟩ := hC
  intro H locs ls hrel
  obtain ⟨hP, hz, hlen, hbig, hS, hl⟩ := hrel
  dsimp only at hP hz hlen hbig hl ⊢
  simp only [am_ins] at h
  unfold am_gf at h
  split at h
  · rename_i a st'
    cases h9 : Nat.beq (am_ps ps 0) 900 with
    | true =>
      rw [h9] at h
      simp only [cond_true] at h
      simp only [am_ckI, h9, cond_true, Bool.and_eq_true] at hck
      have e2 := Nat.eq_of_beq_eq_true hck.2
      subst e2
      rw [show pc + 3 - pc = 3 by omega] at hd
      cases hr : (Nat.ble 2000 a && Nat.blt a 2014) with
      | false => rw [hr] at h; cases h
      | true =>
        rw [hr] at h
        rw [Bool.and_eq_true] at hr
        have q1 := Nat.le_of_ble_eq_true hr.1
        have q2 := am_blt hr.2
        have ea : am_ad b ex a = ex a := by simp only [am_ad]; rw [if_neg (by omega)]
        have ea2 : am_ad b ex (a + 100) = ex (a + 100) := by simp only [am_ad]; rw [if_neg (by omega)]
        obtain ⟨s1, s2, s3, s4⟩ := hE.2.2.1.1 (a - 2000) (by omega)
        dsimp only at s2 s3
        rw [show 2000 + (a - 2000) = a by omega] at s2 s3
        rw [show 2100 + (a - 2000) = a + 100 by omega] at s3
        simp only [List.map_cons, am_rn, Option.map_some, va_rf, ea]
        cases h0 : Nat.beq (am_ps ps 1) 0 with
        | true =>
          rw [h0] at h hck
          simp only [cond_true, am_go, Option.some.injEq, Prod.mk.injEq, Sum.inl.injEq, true_and] at h
          subst h
          have hq := hk H locs ls ⟨hP, hz, hlen, hbig, hS, hl⟩
          simp only [List.map_cons, am_rn, Option.map_some, va_rf, ea2] at hq
          exact vk_getf hx hb s3 hS hown (hts _ (am_wd_in hck.1)) (fun _ z => z) hd hq
        | false =>
          rw [h0] at h hck
          simp only [cond_true, cond_false, am_go, Option.some.injEq, Prod.mk.injEq, Sum.inl.injEq, true_and] at h
          subst h
          have hq := hk H locs ls ⟨hP, hz, hlen, hbig, hS, hl⟩
          simp only [List.map_cons, am_rn] at hq
          exact vk_getf hx hb s2 hS hown (hts _ (am_wd_in hck.1)) (fun _ z => z) hd hq
    | false =>
      rw [h9] at h
      simp only [cond_false] at h
      simp only [am_ckI, h9, cond_false] at hck
      split at hck
      · rename_i q hcl
        obtain ⟨C, T, N⟩ := q
        simp only [Bool.and_eq_true] at hck
        obtain ⟨⟨⟨c1, c2⟩, c3⟩, c4⟩ := hck
        have e2 := Nat.eq_of_beq_eq_true c4
        subst e2
        rw [show pc + 3 - pc = 3 by omega] at hd
        split at h
        · rename_i n hn'
          have hq := am_arr_inv hn'
          have hlt := (List.getElem?_eq_some_iff.mp hcl).1
          rw [am_cl_len] at hlt
          have he := am_ws_get b ex aC mem hq
          rw [am_cell_obj _ _ _ _ _ _ (by omega)] at he
          cases hkn : Nat.blt (am_ps ps 1) n with
          | false => rw [hkn] at h; cases h
          | true =>
            rw [hkn] at h
            have hv := am_fs_get (am_ad b ex) mem a (am_ps ps 0) (am_blt hkn)
            have ei := am_fk_I c3
            cases hI : Nat.blt (am_ps ps 2) 2 with
            | true =>
              rw [hI] at h ei
              simp only [cond_true, am_go, Option.some.injEq, Prod.mk.injEq, Sum.inl.injEq, true_and] at h
              subst h
              unfold am_fv at hv
              rw [if_pos ei.symm] at hv
              exact va_get (D := D) (C := C) (T := T) (N := N) hx hb hts (am_lay hcl) hown hK hP a he hcl (am_ps ps 1) (am_blt c1) (hts _ (am_wd_in c2)) (fun _ z => z) hv hd (hk H locs ls ⟨hP, hz, hlen, hbig, hS, hl⟩)
            | false =>
              rw [hI] at h ei
              simp only [cond_true, cond_false, am_go, Option.some.injEq, Prod.mk.injEq, Sum.inl.injEq, true_and] at h
              subst h
              unfold am_fv at hv
              rw [if_neg (by rw [← ei]; decide)] at hv
              exact va_get (D := D) (C := C) (T := T) (N := N) hx hb hts (am_lay hcl) hown hK hP a he hcl (am_ps ps 1) (am_blt c1) (hts _ (am_wd_in c2)) (fun _ z => z) hv hd (hk H locs ls ⟨hP, hz, hlen, hbig, hS, hl⟩)
        · cases h
      · cases hck
  · cases h
theorem am_s_putfield {pc nx : Nat} {ps : List Nat} {k : Int} {kl : Int64} {lv : am_L} {st : List am_V} {sh : am_Sh} {mem : am_M} {σ' : am_S} {x : Nat} (hC : am_Ctx b ex aC D X M p R s m args meth c) (hd : decode (am_mb M) pc = .ok ((.putfield x), nx - pc)) (hck : am_ckI M pc (.putfield x) ps k kl nx = true) (h : am_ins X (.putfield x) ps k kl nx lv st sh mem = some (true, .inl σ')) (hn : n0 ≤ sh.length ∧ t0 ≤ am_tot sh) (hR : σ'.2.2.2.1.length - n0 ≤ R.cells ∧ am_tot σ'.2.2.2.1 - t0 ≤ R.slots) (hk : am_W p l e R s m args below meth c b ex aC D M n0 t0 Q σ') : am_W p l e R s m args below meth c b ex aC D M n0 t0 Q (pc, lv, st, sh, mem) := by
  obtain ⟨hx, hb, hml, hown, hts, hK, hE, hlk, hrt, hnm, hfr, hok, hbs⟩ := hC
  intro H locs ls hrel
  obtain ⟨hP, hz, hlen, hbig, hS, hl⟩ := hrel
  dsimp only at hP hz hlen hbig hl ⊢
  simp only [am_ins] at h
  simp only [am_ckI] at hck
  split at hck
  · rename_i q hcl
    obtain ⟨C, T, N⟩ := q
    simp only [Bool.and_eq_true] at hck
    obtain ⟨⟨⟨⟨c1, c2⟩, c3⟩, c4⟩, c5⟩ := hck
    have e2 := Nat.eq_of_beq_eq_true c4
    subst e2
    rw [show pc + 3 - pc = 3 by omega] at hd
    have hfin : (T (am_ps ps 1)).2.2.2 = false ∨ (meth.name = "<init>" ∧ (T (am_ps ps 1)).1 = (am_mn M).cls) := by
      rw [Bool.or_eq_true] at c5
      rcases c5 with c5 | c5
      · exact Or.inl (by simpa using c5)
      · have := of_decide_eq_true c5
        exact Or.inr ⟨hnm this.1, this.2⟩
    obtain ⟨ty1, ty2⟩ := am_tyok hcl
    have hDD := am_ws_D b ex aC mem hlen
    split at h
    · rename_i v a st'
      split at h
      · rename_i n hn'
        have hq := am_arr_inv hn'
        have hlt := (List.getElem?_eq_some_iff.mp hcl).1
        rw [am_cl_len] at hlt
        have he := am_ws_get b ex aC mem hq
        rw [am_cell_obj _ _ _ _ _ _ (by omega)] at he
        cases hkn : Nat.blt (am_ps ps 1) n with
        | false => rw [hkn] at h; cases h
        | true =>
          rw [hkn] at h
          simp only [cond_true] at h
          have hkn := am_blt hkn
          cases h0 : Nat.beq (am_ps ps 2) 0 with
          | true =>
            rw [h0] at h
            simp only [cond_true, Option.some.injEq, Prod.mk.injEq, Sum.inl.injEq, true_and] at h
            subst h
            have ety := am_fk_0 (by rw [Nat.eq_of_beq_eq_true h0] at c3; exact c3)
            have hpd := ty1 _ (am_blt c1)
            rw [ety] at hpd
            refine am_putK (D := D) (C := C) (T := T) (N := N) hx hb hts (am_lay hcl) (am_ty (am_ps ps 0)) ty1 ty2 hown hK hP hDD hS a he hcl (am_ps ps 1) (am_blt c1) (hts _ (am_wd_in c2)) hfin hpd rfl rfl (by rw [am_fs_len]; exact hkn) hd (fun H1 locs1 hP1 z1 hS1 => hk H1 locs1 ls ⟨?_, z1.trans hz, hlen, hbig, hS1, hl⟩)
            dsimp only
            rw [am_ws_put b ex aC mem v hq (by omega) hkn (by rw [ety]; rfl)]
            exact hP1
          | false =>
            rw [h0] at h
            cases h1 : Nat.beq (am_ps ps 2) 1 with
            | true =>
              rw [h1] at h
              simp only [cond_true, cond_false, Option.some.injEq, Prod.mk.injEq, Sum.inl.injEq] at h
              obtain ⟨hv, h⟩ := h
              have hv := of_decide_eq_true hv
              subst h
              have ety := am_fk_1 (by rw [Nat.eq_of_beq_eq_true h1] at c3; exact c3)
              have hpd := ty1 _ (am_blt c1)
              rw [ety] at hpd
              refine am_putK (D := D) (C := C) (T := T) (N := N) hx hb hts (am_lay hcl) (am_ty (am_ps ps 0)) ty1 ty2 hown hK hP hDD hS a he hcl (am_ps ps 1) (am_blt c1) (hts _ (am_wd_in c2)) hfin hpd (by rcases hv with rfl | rfl <;> rfl) (by rcases hv with rfl | rfl <;> rfl) (by rw [am_fs_len]; exact hkn) hd (fun H1 locs1 hP1 z1 hS1 => hk H1 locs1 ls ⟨?_, z1.trans hz, hlen, hbig, hS1, hl⟩)
              dsimp only
              rw [am_ws_put b ex aC mem v hq (by omega) hkn (by rw [ety]; rfl)]
              exact hP1
            | false => rw [h1] at h; cases h
      · cases h
    · rename_i v a st'
      split at h
      · rename_i n hn'
        have hq := am_arr_inv hn'
        have hlt := (List.getElem?_eq_some_iff.mp hcl).1
        rw [am_cl_len] at hlt
        have he := am_ws_get b ex aC mem hq
        rw [am_cell_obj _ _ _ _ _ _ (by omega)] at he
        cases hkn : Nat.blt (am_ps ps 1) n with
        | false => rw [hkn] at h; cases h
        | true =>
          rw [hkn] at h
          simp only [cond_true] at h
          have hkn := am_blt hkn
          cases h0 : Nat.beq (am_ps ps 2) 2 with
          | true =>
            rw [h0] at h
            simp only [cond_true, Option.some.injEq, Prod.mk.injEq, Sum.inl.injEq, true_and] at h
            subst h
            have ety := am_fk_2 (by rw [Nat.eq_of_beq_eq_true h0] at c3; exact c3)
            refine am_putK (D := D) (C := C) (T := T) (N := N) hx hb hts (am_lay hcl) (am_ty (am_ps ps 0)) ty1 ty2 hown hK hP hDD hS a he hcl (am_ps ps 1) (am_blt c1) (hts _ (am_wd_in c2)) hfin (ty1 _ (am_blt c1)) (am_nar_ref ety _) (am_fit_ref ety _) (by rw [am_fs_len]; exact hkn) hd (fun H1 locs1 hP1 z1 hS1 => hk H1 locs1 ls ⟨?_, z1.trans hz, hlen, hbig, hS1, hl⟩)
            dsimp only
            rw [am_ws_putr b ex aC mem v hq (by omega) hkn (am_isI_ref ety)]
            exact hP1
          | false => rw [h0] at h; cases h
      · cases h
    · cases h
  · cases hck
theorem am_s_getstatic {pc nx : Nat} {ps : List Nat} {k : Int} {kl : Int64} {lv : am_L} {st : List am_V} {sh : am_Sh} {mem : am_M} {σ' : am_S} {x : Nat} (hC : am_Ctx b ex aC D X M p R s m args meth c) (hd : decode (am_mb M) pc = .ok ((.getstatic x), nx - pc)) (hck : am_ckI M pc (.getstatic x) ps k kl nx = true) (h : am_ins X (.getstatic x) ps k kl nx lv st sh mem = some (true, .inl σ')) (hn : n0 ≤ sh.length ∧ t0 ≤ am_tot sh) (hR : σ'.2.2.2.1.length - n0 ≤ R.cells ∧ am_tot σ'.2.2.2.1 - t0 ≤ R.slots) (hk : am_W p l e R s m args below meth c b ex aC D M n0 t0 Q σ') : am_W p l e R s m args below meth c b ex aC D M n0 t0 Q (pc, lv, st, sh, mem) := by
  obtain ⟨hx, hb, hml, hown, hts, hK, hE, hlk, hrt, hnm, hfr, hok, hbs⟩ := hC
  intro H locs ls hrel
  obtain ⟨hP, hz, hlen, hbig, hS, hl⟩ := hrel
  dsimp only at hP hz hlen hbig hl ⊢
  simp only [am_ckI, Bool.and_eq_true] at hck
  have e2 := Nat.eq_of_beq_eq_true hck.2
  subst e2
  rw [show pc + 3 - pc = 3 by omega] at hd
  have hc := hck.1
  obtain ⟨z1, z2, z3, z4, z5⟩ := hE.1
  have hfl := hE.2.2.2.2.2.2.1
  simp only [am_ins] at h
  have ead : ∀ i, 1000 ≤ i → am_ad b ex i = ex i := fun i hi => by simp only [am_ad]; rw [if_neg (by omega)]
  cases h0 : Nat.beq (am_ps ps 0) 1000 with
  | true =>
    have e0 := Nat.eq_of_beq_eq_true h0
    simp only [e0, Nat.beq_refl, cond_true] at hc
    simp only [e0, show Nat.ble 1000 1000 = true from rfl, cond_true, Option.some.injEq, Prod.mk.injEq, Sum.inl.injEq, true_and] at h
    subst h
    have hq := hk H locs ls ⟨hP, hz, hlen, hbig, hS, hl⟩
    simp only [List.map_cons, am_rn, Option.map_some, va_rf, ead 1000 (by omega)] at hq
    exact va_getsN hx hb z1 hS hown (va_Nw.use rfl (hfl _ _ _ _ _ _ (am_wn_in hc))) (fun _ z => z) hd hq
  | false =>
    rw [h0] at hc
    cases h1 : Nat.beq (am_ps ps 0) 1001 with
    | true =>
      have e0 := Nat.eq_of_beq_eq_true h1
      simp only [e0, cond_true, cond_false, Nat.beq_refl] at hc
      simp only [e0, show Nat.ble 1000 1001 = true from rfl, cond_true, Option.some.injEq, Prod.mk.injEq, Sum.inl.injEq, true_and] at h
      subst h
      have hq := hk H locs ls ⟨hP, hz, hlen, hbig, hS, hl⟩
      simp only [List.map_cons, am_rn, Option.map_some, va_rf, ead 1001 (by omega)] at hq
      exact va_getsN hx hb z2 hS hown (va_Nw.use rfl (hfl _ _ _ _ _ _ (am_wn_in hc))) (fun _ z => z) hd hq
    | false =>
      rw [h1] at hc
      cases h2 : Nat.beq (am_ps ps 0) 1002 with
      | true =>
        have e0 := Nat.eq_of_beq_eq_true h2
        simp only [e0, cond_true, cond_false, Nat.beq_refl] at hc
        simp only [e0, show Nat.ble 1000 1002 = true from rfl, cond_true, Option.some.injEq, Prod.mk.injEq, Sum.inl.injEq, true_and] at h
        subst h
        have hq := hk H locs ls ⟨hP, hz, hlen, hbig, hS, hl⟩
        simp only [List.map_cons, am_rn, Option.map_some, va_rf, ead 1002 (by omega)] at hq
        exact va_getsN hx hb z3 hS hown (va_Nw.use rfl (hfl _ _ _ _ _ _ (am_wn_in hc))) (fun _ z => z) hd hq
      | false =>
        rw [h2] at hc
        cases h3 : Nat.beq (am_ps ps 0) 1 with
        | true =>
          have e0 := Nat.eq_of_beq_eq_true h3
          simp only [e0, cond_true, cond_false, Nat.beq_refl] at hc
          simp only [e0, show Nat.ble 1000 1 = false from rfl, Nat.beq_refl, cond_true, cond_false, Option.some.injEq, Prod.mk.injEq, Sum.inl.injEq, true_and] at h
          subst h
          have hq := hk H locs ls ⟨hP, hz, hlen, hbig, hS, hl⟩
          exact va_gets hx hb z4 hS hown (hts _ (am_wd_in hc)) (fun _ z => z) hd hq
        | false =>
          rw [h3] at hc
          simp only [cond_false, Bool.and_eq_true] at hc
          have e0 := Nat.eq_of_beq_eq_true hc.1
          simp only [e0, show Nat.ble 1000 2 = false from rfl, show Nat.beq 2 1 = false from rfl, cond_false, Option.some.injEq, Prod.mk.injEq, Sum.inl.injEq, true_and] at h
          subst h
          have hq := hk H locs ls ⟨hP, hz, hlen, hbig, hS, hl⟩
          refine va_gets hx hb z5 hS hown (hts _ (am_wd_in hc.2)) (fun _ z => z) hd ?_
          cases hX : X.2.2 with
          | true =>
            simp only [hX, cond_true, List.map_cons, am_rn, Option.map_none, va_rf] at hq ⊢
            exact hq
          | false =>
            simp only [hX, cond_false, List.map_cons, am_rn, Option.map_some, va_rf, ead 3000 (by omega)] at hq ⊢
            exact hq
theorem am_s_iaload {pc nx : Nat} {ps : List Nat} {k : Int} {kl : Int64} {lv : am_L} {st : List am_V} {sh : am_Sh} {mem : am_M} {σ' : am_S} (hC : am_Ctx b ex aC D X M p R s m args meth c) (hd : decode (am_mb M) pc = .ok (.iaload, nx - pc)) (hck : am_ckI M pc .iaload ps k kl nx = true) (h : am_ins X .iaload ps k kl nx lv st sh mem = some (true, .inl σ')) (hn : n0 ≤ sh.length ∧ t0 ≤ am_tot sh) (hR : σ'.2.2.2.1.length - n0 ≤ R.cells ∧ am_tot σ'.2.2.2.1 - t0 ≤ R.slots) (hk : am_W p l e R s m args below meth c b ex aC D M n0 t0 Q σ') : am_W p l e R s m args below meth c b ex aC D M n0 t0 Q (pc, lv, st, sh, mem) := by
  obtain ⟨hx, hb, hml, hown, hts, hK, hE, hlk, hrt, hnm, hfr, hok, hbs⟩ := hC
  intro H locs ls hrel
  obtain ⟨hP, hz, hlen, hbig, hS, hl⟩ := hrel
  dsimp only at hP hz hlen hbig hl ⊢
  have e2 := Nat.eq_of_beq_eq_true hck
  subst e2
  rw [show pc + 1 - pc = 1 by omega] at hd
  simp only [am_ins] at h
  obtain ⟨j, a, r, rfl, hh⟩ := am_aldI_inv h
  rcases hh with ⟨n, hn', hin, rfl⟩ | ⟨n, f, hx', hin, rfl⟩
  · have hq := am_arr_inv hn'
    have he := am_ws_get b ex aC mem hq
    rw [am_cell_int _ _ _ _ _ _ (by omega) (by omega)] at he
    obtain ⟨i1, i2⟩ := am_idx hin (Nat.le_trans (hbig _ (List.mem_of_getElem? hq)) (by omega))
    refine va_iald hx hb hK hP a 0 he rfl i1 hd ?_
    rw [i2]
    exact hk H locs ls ⟨hP, hz, hlen, hbig, hS, hl⟩
  · obtain ⟨t, hT, hX⟩ := am_ext_int hE hx'
    rcases hX with ⟨hX, hXn⟩ | ⟨hX, rfl, rfl, rfl⟩
    · obtain ⟨i1, i2⟩ := am_idx hin hXn
      have hq := hk H locs ls ⟨hP, hz, hlen, hbig, hS, hl⟩
      simp only [List.map_cons, am_rn, Option.map_some, va_rf] at hq ⊢
      rw [hT]
      refine va_ti hx hb hX hS i1 (v := .int (Int32.ofInt (f j.toNat))) ?_ hd hq
      rw [i2]; rfl
    · obtain ⟨i1, i2⟩ := am_idx hin (by have := hE.2.2.2.2.1.2.2; omega)
      have hq := hk H locs ls ⟨hP, hz, hlen, hbig, hS, hl⟩
      simp only [List.map_cons, am_rn, Option.map_some, va_rf, Int32.ofInt_toInt] at hq ⊢
      rw [hT]
      refine va_sld hx hb hX (Nat.lt_of_not_le (fun z => hE.2.2.2.2.1.2.1 (Nat.le_trans hbs z))) hE.2.2.2.2.1.2.1 hS i1 hd ?_
      rw [i2]
      exact hq
theorem am_s_baload {pc nx : Nat} {ps : List Nat} {k : Int} {kl : Int64} {lv : am_L} {st : List am_V} {sh : am_Sh} {mem : am_M} {σ' : am_S} (hC : am_Ctx b ex aC D X M p R s m args meth c) (hd : decode (am_mb M) pc = .ok (.baload, nx - pc)) (hck : am_ckI M pc .baload ps k kl nx = true) (h : am_ins X .baload ps k kl nx lv st sh mem = some (true, .inl σ')) (hn : n0 ≤ sh.length ∧ t0 ≤ am_tot sh) (hR : σ'.2.2.2.1.length - n0 ≤ R.cells ∧ am_tot σ'.2.2.2.1 - t0 ≤ R.slots) (hk : am_W p l e R s m args below meth c b ex aC D M n0 t0 Q σ') : am_W p l e R s m args below meth c b ex aC D M n0 t0 Q (pc, lv, st, sh, mem) := by
  obtain ⟨hx, hb, hml, hown, hts, hK, hE, hlk, hrt, hnm, hfr, hok, hbs⟩ := hC
  intro H locs ls hrel
  obtain ⟨hP, hz, hlen, hbig, hS, hl⟩ := hrel
  dsimp only at hP hz hlen hbig hl ⊢
  simp only [am_ckI, Bool.and_eq_true] at hck
  have e2 := Nat.eq_of_beq_eq_true hck.2
  subst e2
  rw [show pc + 1 - pc = 1 by omega] at hd
  have hkd := hck.1
  rw [Bool.or_eq_true] at hkd
  simp only [am_ins] at h
  obtain ⟨j, a, r, rfl, hh⟩ := am_aldI_inv h
  rcases hh with ⟨n, hn', hin, rfl⟩ | ⟨n, f, hx', hin, rfl⟩
  · have hq := am_arr_inv hn'
    have he := am_ws_get b ex aC mem hq
    obtain ⟨i1, i2⟩ := am_idx hin (Nat.le_trans (hbig _ (List.mem_of_getElem? hq)) (by omega))
    rcases hkd with hkd | hkd
    · have e0 := Nat.eq_of_beq_eq_true hkd
      rw [e0] at he
      rw [am_cell_int _ _ _ _ _ _ (by omega) (by omega)] at he
      refine va_zald hx hb hK hP a 1 he rfl i1 hd ?_
      rw [i2]
      exact hk H locs ls ⟨hP, hz, hlen, hbig, hS, hl⟩
    · have e0 := Nat.eq_of_beq_eq_true hkd
      rw [e0] at he
      rw [am_cell_int _ _ _ _ _ _ (by omega) (by omega)] at he
      refine va_bald hx hb hK hP a 2 he rfl i1 hd ?_
      rw [i2]
      exact hk H locs ls ⟨hP, hz, hlen, hbig, hS, hl⟩
  · have h102 : am_ps ps 0 = 102 := by
      rcases am_ext_cases hx' with ⟨-, z, -, -⟩ | ⟨-, z, -, -⟩ | ⟨-, z, -, -⟩ | ⟨-, z, -, -⟩ | ⟨-, -, z, -⟩ <;> rcases hkd with y | y <;> have := Nat.eq_of_beq_eq_true y <;> omega
    obtain ⟨t, ha, hT⟩ := am_ext_byte hE hx' (by omega)
    rw [h102] at hx'
    have hsz : n ≤ 2147483647 := am_ext_small hx'
    obtain ⟨i1, i2⟩ := am_idx hin hsz
    have hq := hk H locs ls ⟨hP, hz, hlen, hbig, hS, hl⟩
    simp only [List.map_cons, am_rn, Option.map_some, va_rf] at hq ⊢
    rw [ha]
    refine va_tb hx hb hT hS i1 (v := .int (Int32.ofInt (f j.toNat))) ?_ hd hq
    rw [i2]
    rfl
theorem am_s_laload {pc nx : Nat} {ps : List Nat} {k : Int} {kl : Int64} {lv : am_L} {st : List am_V} {sh : am_Sh} {mem : am_M} {σ' : am_S} (hC : am_Ctx b ex aC D X M p R s m args meth c) (hd : decode (am_mb M) pc = .ok (.laload, nx - pc)) (hck : am_ckI M pc .laload ps k kl nx = true) (h : am_ins X .laload ps k kl nx lv st sh mem = some (true, .inl σ')) (hn : n0 ≤ sh.length ∧ t0 ≤ am_tot sh) (hR : σ'.2.2.2.1.length - n0 ≤ R.cells ∧ am_tot σ'.2.2.2.1 - t0 ≤ R.slots) (hk : am_W p l e R s m args below meth c b ex aC D M n0 t0 Q σ') : am_W p l e R s m args below meth c b ex aC D M n0 t0 Q (pc, lv, st, sh, mem) := by
  obtain ⟨hx, hb, hml, hown, hts, hK, hE, hlk, hrt, hnm, hfr, hok, hbs⟩ := hC
  intro H locs ls hrel
  obtain ⟨hP, hz, hlen, hbig, hS, hl⟩ := hrel
  dsimp only at hP hz hlen hbig hl ⊢
  have e2 := Nat.eq_of_beq_eq_true hck
  subst e2
  rw [show pc + 1 - pc = 1 by omega] at hd
  simp only [am_ins] at h
  obtain ⟨j, a, r, n, rfl, hn', hin, rfl⟩ := am_aldL_inv h
  have hq := am_arr_inv hn'
  have he := am_ws_get b ex aC mem hq
  rw [am_cell_long] at he
  obtain ⟨i1, i2⟩ := am_idx hin (Nat.le_trans (hbig _ (List.mem_of_getElem? hq)) (by omega))
  refine va_lald hx hb hK hP a 3 he rfl i1 hd ?_
  rw [i2]
  exact hk H locs ls ⟨hP, hz, hlen, hbig, hS, hl⟩
theorem am_s_aaload {pc nx : Nat} {ps : List Nat} {k : Int} {kl : Int64} {lv : am_L} {st : List am_V} {sh : am_Sh} {mem : am_M} {σ' : am_S} (hC : am_Ctx b ex aC D X M p R s m args meth c) (hd : decode (am_mb M) pc = .ok (.aaload, nx - pc)) (hck : am_ckI M pc .aaload ps k kl nx = true) (h : am_ins X .aaload ps k kl nx lv st sh mem = some (true, .inl σ')) (hn : n0 ≤ sh.length ∧ t0 ≤ am_tot sh) (hR : σ'.2.2.2.1.length - n0 ≤ R.cells ∧ am_tot σ'.2.2.2.1 - t0 ≤ R.slots) (hk : am_W p l e R s m args below meth c b ex aC D M n0 t0 Q σ') : am_W p l e R s m args below meth c b ex aC D M n0 t0 Q (pc, lv, st, sh, mem) := by
  obtain ⟨hx, hb, hml, hown, hts, hK, hE, hlk, hrt, hnm, hfr, hok, hbs⟩ := hC
  intro H locs ls hrel
  obtain ⟨hP, hz, hlen, hbig, hS, hl⟩ := hrel
  dsimp only at hP hz hlen hbig hl ⊢
  simp only [am_ckI, Bool.and_eq_true] at hck
  have e2 := Nat.eq_of_beq_eq_true hck.2
  subst e2
  rw [show pc + 1 - pc = 1 by omega] at hd
  have hkd := hck.1
  rw [Bool.or_eq_true] at hkd
  simp only [am_ins] at h
  obtain ⟨j, a, r, n, rfl, hn', hin, rfl⟩ := am_aldA_inv h
  have hq := am_arr_inv hn'
  have he := am_ws_get b ex aC mem hq
  obtain ⟨i1, i2⟩ := am_idx hin (Nat.le_trans (hbig _ (List.mem_of_getElem? hq)) (by omega))
  rcases hkd with hkd | hkd
  · have e0 := Nat.eq_of_beq_eq_true hkd
    rw [e0] at he
    rw [am_cell_ref _ _ _ _ _ _ (by omega)] at he
    refine va_aldq hx hb hK hP a 4 he rfl i1 hd ?_
    rw [i2]
    exact hk H locs ls ⟨hP, hz, hlen, hbig, hS, hl⟩
  · have e0 := Nat.eq_of_beq_eq_true hkd
    rw [e0] at he
    rw [am_cell_ref _ _ _ _ _ _ (by omega)] at he
    refine va_aldq hx hb hK hP a 5 he rfl i1 hd ?_
    rw [i2]
    exact hk H locs ls ⟨hP, hz, hlen, hbig, hS, hl⟩
theorem am_s_iastore {pc nx : Nat} {ps : List Nat} {k : Int} {kl : Int64} {lv : am_L} {st : List am_V} {sh : am_Sh} {mem : am_M} {σ' : am_S} (hC : am_Ctx b ex aC D X M p R s m args meth c) (hd : decode (am_mb M) pc = .ok (.iastore, nx - pc)) (hck : am_ckI M pc .iastore ps k kl nx = true) (h : am_ins X .iastore ps k kl nx lv st sh mem = some (true, .inl σ')) (hn : n0 ≤ sh.length ∧ t0 ≤ am_tot sh) (hR : σ'.2.2.2.1.length - n0 ≤ R.cells ∧ am_tot σ'.2.2.2.1 - t0 ≤ R.slots) (hk : am_W p l e R s m args below meth c b ex aC D M n0 t0 Q σ') : am_W p l e R s m args below meth c b ex aC D M n0 t0 Q (pc, lv, st, sh, mem) := by
  obtain ⟨hx, hb, hml, hown, hts, hK, hE, hlk, hrt, hnm, hfr, hok, hbs⟩ := hC
  intro H locs ls hrel
  obtain ⟨hP, hz, hlen, hbig, hS, hl⟩ := hrel
  dsimp only at hP hz hlen hbig hl ⊢
  have e2 := Nat.eq_of_beq_eq_true hck
  subst e2
  rw [show pc + 1 - pc = 1 by omega] at hd
  simp only [am_ins] at h
  split at h
  · rename_i v j a r
    split at h
    · rename_i n hn'
      simp only [Option.some.injEq, Prod.mk.injEq, Sum.inl.injEq] at h
      obtain ⟨hin, h⟩ := h
      subst h
      have hq := am_arr_inv hn'
      have he := am_ws_get b ex aC mem hq
      rw [am_cell_int _ _ _ _ _ _ (by omega) (by omega)] at he
      obtain ⟨i1, i2⟩ := am_idx hin (Nat.le_trans (hbig _ (List.mem_of_getElem? hq)) (by omega))
      refine am_iast hx hb hK hP (am_ws_D b ex aC mem hlen) hS a 0 he rfl i1 hd (fun H1 locs1 hP1 z1 hS1 => hk H1 locs1 ls ⟨?_, z1.trans hz, hlen, hbig, hS1, hl⟩)
      dsimp only
      rw [am_ws_ast b ex aC mem v hq (by omega) (by omega), ← i2]
      exact hP1
    · cases h
  · cases h
theorem am_s_bastore {pc nx : Nat} {ps : List Nat} {k : Int} {kl : Int64} {lv : am_L} {st : List am_V} {sh : am_Sh} {mem : am_M} {σ' : am_S} (hC : am_Ctx b ex aC D X M p R s m args meth c) (hd : decode (am_mb M) pc = .ok (.bastore, nx - pc)) (hck : am_ckI M pc .bastore ps k kl nx = true) (h : am_ins X .bastore ps k kl nx lv st sh mem = some (true, .inl σ')) (hn : n0 ≤ sh.length ∧ t0 ≤ am_tot sh) (hR : σ'.2.2.2.1.length - n0 ≤ R.cells ∧ am_tot σ'.2.2.2.1 - t0 ≤ R.slots) (hk : am_W p l e R s m args below meth c b ex aC D M n0 t0 Q σ') : am_W p l e R s m args below meth c b ex aC D M n0 t0 Q (pc, lv, st, sh, mem) := by
  obtain ⟨hx, hb, hml, hown, hts, hK, hE, hlk, hrt, hnm, hfr, hok, hbs⟩ := hC
  intro H locs ls hrel
  obtain ⟨hP, hz, hlen, hbig, hS, hl⟩ := hrel
  dsimp only at hP hz hlen hbig hl ⊢
  simp only [am_ckI, Bool.and_eq_true] at hck
  have e2 := Nat.eq_of_beq_eq_true hck.2
  subst e2
  rw [show pc + 1 - pc = 1 by omega] at hd
  simp only [am_ins] at h
  split at h
  · rename_i v j a r
    cases h0 : Nat.beq (am_ps ps 0) 101 with
    | true =>
      rw [h0] at h
      simp only [cond_true] at h
      split at h
      · rename_i n hn'
        simp only [Option.some.injEq, Prod.mk.injEq, Sum.inl.injEq, Bool.and_eq_true] at h
        obtain ⟨⟨hv, hin⟩, h⟩ := h
        have hv := of_decide_eq_true hv
        subst h
        have hq := am_arr_inv hn'
        have he := am_ws_get b ex aC mem hq
        rw [am_cell_int _ _ _ _ _ _ (by omega) (by omega)] at he
        obtain ⟨i1, i2⟩ := am_idx hin (Nat.le_trans (hbig _ (List.mem_of_getElem? hq)) (by omega))
        refine am_zast hx hb hK hP (am_ws_D b ex aC mem hlen) hS a 1 he rfl i1 hd (fun H1 locs1 hP1 z1 hS1 => hk H1 locs1 ls ⟨?_, z1.trans hz, hlen, hbig, hS1, hl⟩)
        dsimp only
        rw [am_ws_ast b ex aC mem v hq (by omega) (by omega), ← i2]
        have ev : vp_nar .boolean (Int32.ofInt v) = Int32.ofInt v := by rcases hv with rfl | rfl <;> rfl
        rw [ev] at hP1
        exact hP1
      · cases h
    | false =>
      rw [h0] at h
      simp only [cond_false] at h
      split at h
      · rename_i n hn'
        simp only [Option.some.injEq, Prod.mk.injEq, Sum.inl.injEq] at h
        obtain ⟨hin, h⟩ := h
        subst h
        have hq := am_arr_inv hn'
        have he := am_ws_get b ex aC mem hq
        rw [am_cell_int _ _ _ _ _ _ (by omega) (by omega)] at he
        obtain ⟨i1, i2⟩ := am_idx hin (Nat.le_trans (hbig _ (List.mem_of_getElem? hq)) (by omega))
        refine am_bast hx hb hK hP (am_ws_D b ex aC mem hlen) hS a 2 he rfl i1 hd (fun H1 locs1 hP1 z1 hS1 => hk H1 locs1 ls ⟨?_, z1.trans hz, hlen, hbig, hS1, hl⟩)
        dsimp only
        rw [am_ws_ast b ex aC mem _ hq (by omega) (by omega), ← i2]
        rw [vp_nar_byte] at hP1
        have ev : Int32.ofInt (am_i2b v) = (Int32.ofInt v).toInt8.toInt32 := by unfold am_i2b; rw [Int32.ofInt_toInt]
        rw [ev]
        exact hP1
      · cases h
  · cases h
theorem am_s_lastore {pc nx : Nat} {ps : List Nat} {k : Int} {kl : Int64} {lv : am_L} {st : List am_V} {sh : am_Sh} {mem : am_M} {σ' : am_S} (hC : am_Ctx b ex aC D X M p R s m args meth c) (hd : decode (am_mb M) pc = .ok (.lastore, nx - pc)) (hck : am_ckI M pc .lastore ps k kl nx = true) (h : am_ins X .lastore ps k kl nx lv st sh mem = some (true, .inl σ')) (hn : n0 ≤ sh.length ∧ t0 ≤ am_tot sh) (hR : σ'.2.2.2.1.length - n0 ≤ R.cells ∧ am_tot σ'.2.2.2.1 - t0 ≤ R.slots) (hk : am_W p l e R s m args below meth c b ex aC D M n0 t0 Q σ') : am_W p l e R s m args below meth c b ex aC D M n0 t0 Q (pc, lv, st, sh, mem) := by
  obtain ⟨hx, hb, hml, hown, hts, hK, hE, hlk, hrt, hnm, hfr, hok, hbs⟩ := hC
  intro H locs ls hrel
  obtain ⟨hP, hz, hlen, hbig, hS, hl⟩ := hrel
  dsimp only at hP hz hlen hbig hl ⊢
  have e2 := Nat.eq_of_beq_eq_true hck
  subst e2
  rw [show pc + 1 - pc = 1 by omega] at hd
  simp only [am_ins] at h
  split at h
  · rename_i v j a r
    split at h
    · rename_i n hn'
      simp only [Option.some.injEq, Prod.mk.injEq, Sum.inl.injEq] at h
      obtain ⟨hin, h⟩ := h
      subst h
      have hq := am_arr_inv hn'
      have he := am_ws_get b ex aC mem hq
      rw [am_cell_long] at he
      obtain ⟨i1, i2⟩ := am_idx hin (Nat.le_trans (hbig _ (List.mem_of_getElem? hq)) (by omega))
      refine am_last hx hb hK hP (am_ws_D b ex aC mem hlen) hS a 3 he rfl i1 hd (fun H1 locs1 hP1 z1 hS1 => hk H1 locs1 ls ⟨?_, z1.trans hz, hlen, hbig, hS1, hl⟩)
      dsimp only
      rw [am_ws_astl b ex aC mem v hq, ← i2]
      exact hP1
    · cases h
  · cases h
theorem am_s_aastore {pc nx : Nat} {ps : List Nat} {k : Int} {kl : Int64} {lv : am_L} {st : List am_V} {sh : am_Sh} {mem : am_M} {σ' : am_S} (hC : am_Ctx b ex aC D X M p R s m args meth c) (hd : decode (am_mb M) pc = .ok (.aastore, nx - pc)) (hck : am_ckI M pc .aastore ps k kl nx = true) (h : am_ins X .aastore ps k kl nx lv st sh mem = some (true, .inl σ')) (hn : n0 ≤ sh.length ∧ t0 ≤ am_tot sh) (hR : σ'.2.2.2.1.length - n0 ≤ R.cells ∧ am_tot σ'.2.2.2.1 - t0 ≤ R.slots) (hk : am_W p l e R s m args below meth c b ex aC D M n0 t0 Q σ') : am_W p l e R s m args below meth c b ex aC D M n0 t0 Q (pc, lv, st, sh, mem) := by
  obtain ⟨hx, hb, hml, hown, hts, hK, hE, hlk, hrt, hnm, hfr, hok, hbs⟩ := hC
  intro H locs ls hrel
  obtain ⟨hP, hz, hlen, hbig, hS, hl⟩ := hrel
  dsimp only at hP hz hlen hbig hl ⊢
  simp only [am_ckI, Bool.and_eq_true] at hck
  have e2 := Nat.eq_of_beq_eq_true hck.2
  subst e2
  rw [show pc + 1 - pc = 1 by omega] at hd
  have hkd := hck.1
  rw [Bool.or_eq_true, Bool.and_eq_true, Bool.and_eq_true] at hkd
  simp only [am_ins] at h
  split at h
  · rename_i v j a r
    split at h
    · rename_i n nv hn' hv'
      simp only [Option.some.injEq, Prod.mk.injEq, Sum.inl.injEq] at h
      obtain ⟨hin, h⟩ := h
      subst h
      have hq := am_arr_inv hn'
      have hqv := am_arr_inv hv'
      have he := am_ws_get b ex aC mem hq
      have hev := am_ws_get b ex aC mem hqv
      obtain ⟨i1, i2⟩ := am_idx hin (Nat.le_trans (hbig _ (List.mem_of_getElem? hq)) (by omega))
      rcases hkd with hkd | hkd
      · have e0 := Nat.eq_of_beq_eq_true hkd.1
        have e1 := Nat.eq_of_beq_eq_true hkd.2
        rw [e0] at he hq
        rw [e1, am_cell_obj _ _ _ _ _ _ (by omega)] at hev
        rw [am_cell_ref _ _ _ _ _ _ (by omega)] at he
        refine am_astq (r := am_c9) hx hb hK hP (am_ws_D b ex aC mem hlen) hS a 4 v 9 he rfl hev am_cl9 i1 hd (fun H1 locs1 hP1 z1 hS1 => hk H1 locs1 ls ⟨?_, z1.trans hz, hlen, hbig, hS1, hl⟩)
        dsimp only
        rw [am_ws_astr b ex aC mem hq (by omega), ← i2]
        exact hP1
      · have e0 := Nat.eq_of_beq_eq_true hkd.1
        have e1 := Nat.eq_of_beq_eq_true hkd.2
        rw [e0] at he hq
        rw [e1, am_cell_obj _ _ _ _ _ _ (by omega)] at hev
        rw [am_cell_ref _ _ _ _ _ _ (by omega)] at he
        refine am_astq (r := am_c5) hx hb hK hP (am_ws_D b ex aC mem hlen) hS a 5 v 5 he rfl hev am_cl5 i1 hd (fun H1 locs1 hP1 z1 hS1 => hk H1 locs1 ls ⟨?_, z1.trans hz, hlen, hbig, hS1, hl⟩)
        dsimp only
        rw [am_ws_astr b ex aC mem hq (by omega), ← i2]
        exact hP1
    · cases h
  · cases h
theorem am_s_arraylength {pc nx : Nat} {ps : List Nat} {k : Int} {kl : Int64} {lv : am_L} {st : List am_V} {sh : am_Sh} {mem : am_M} {σ' : am_S} (hC : am_Ctx b ex aC D X M p R s m args meth c) (hd : decode (am_mb M) pc = .ok (.arraylength, nx - pc)) (hck : am_ckI M pc .arraylength ps k kl nx = true) (h : am_ins X .arraylength ps k kl nx lv st sh mem = some (true, .inl σ')) (hn : n0 ≤ sh.length ∧ t0 ≤ am_tot sh) (hR : σ'.2.2.2.1.length - n0 ≤ R.cells ∧ am_tot σ'.2.2.2.1 - t0 ≤ R.slots) (hk : am_W p l e R s m args below meth c b ex aC D M n0 t0 Q σ') : am_W p l e R s m args below meth c b ex aC D M n0 t0 Q (pc, lv, st, sh, mem) := by
  obtain ⟨hx, hb, hml, hown, hts, hK, hE, hlk, hrt, hnm, hfr, hok, hbs⟩ := hC
  intro H locs ls hrel
  obtain ⟨hP, hz, hlen, hbig, hS, hl⟩ := hrel
  dsimp only at hP hz hlen hbig hl ⊢
  simp only [am_ckI, Bool.and_eq_true] at hck
  have e2 := Nat.eq_of_beq_eq_true hck.2
  have k1 := Nat.le_of_ble_eq_true hck.1.1
  have k2 := Nat.le_of_ble_eq_true hck.1.2
  subst e2
  rw [show pc + 1 - pc = 1 by omega] at hd
  simp only [am_ins] at h
  unfold am_alen at h
  split at h
  · rename_i a r
    split at h
    · rename_i n hn'
      simp only [am_go, Option.some.injEq, Prod.mk.injEq, Sum.inl.injEq, true_and] at h
      subst h
      have hq := am_arr_inv hn'
      have he := am_ws_get b ex aC mem hq
      have ht : ∃ (t : Nat) (ty : FieldType), (am_tys aC)[t]? = some (aC (am_ps ps 0), ty) := by
        rcases (show am_ps ps 0 = 100 ∨ am_ps ps 0 = 101 ∨ am_ps ps 0 = 102 ∨ am_ps ps 0 = 103 by omega) with z | z | z | z <;> rw [z]
        · exact ⟨0, _, rfl⟩
        · exact ⟨1, _, rfl⟩
        · exact ⟨2, _, rfl⟩
        · exact ⟨3, _, rfl⟩
      obtain ⟨t, ty, ht⟩ := ht
      obtain ⟨x, hxe, hx1⟩ := am_cell_arr (am_ad b ex) aC mem a (am_ps ps 0) n k1
      rw [hxe] at he
      refine va_alen hx hb hK hP a t he ht (v := Int32.ofInt n) ?_ hd (hk H locs ls ⟨hP, hz, hlen, hbig, hS, hl⟩)
      rw [hx1]; rfl
    · split at h
      · rename_i k3 n f hx'
        cases hb2 : Nat.beq k3 (am_ps ps 0) with
        | false => rw [hb2] at h; cases h
        | true =>
          rw [hb2] at h
          have e3 := Nat.eq_of_beq_eq_true hb2
          simp only [cond_true, am_go, Option.some.injEq, Prod.mk.injEq, Sum.inl.injEq, true_and] at h
          subst h
          have hq := hk H locs ls ⟨hP, hz, hlen, hbig, hS, hl⟩
          simp only [List.map_cons, am_rn, Option.map_some, va_rf] at hq ⊢
          by_cases h100 : k3 = 100
          · subst h100
            obtain ⟨t, hT, hX⟩ := am_ext_int hE hx'
            rw [hT]
            rcases hX with ⟨hX, -⟩ | ⟨hX, rfl, rfl, rfl⟩
            · exact va_tlen hx hb hX hS rfl hd hq
            · exact va_slen hx hb hX (Nat.lt_of_not_le (fun z => hE.2.2.2.2.1.2.1 (Nat.le_trans hbs z))) hE.2.2.2.2.1.2.1 hS hd hq
          · obtain ⟨t, ha, hT⟩ := am_ext_byte hE hx' h100
            rw [ha]
            exact va_tlen hx hb hT hS rfl hd hq
      · cases h
  · cases h
theorem am_s_new {pc nx : Nat} {ps : List Nat} {k : Int} {kl : Int64} {lv : am_L} {st : List am_V} {sh : am_Sh} {mem : am_M} {σ' : am_S} {x : Nat} (hC : am_Ctx b ex aC D X M p R s m args meth c) (hd : decode (am_mb M) pc = .ok ((.new x), nx - pc)) (hck : am_ckI M pc (.new x) ps k kl nx = true) (h : am_ins X (.new x) ps k kl nx lv st sh mem = some (true, .inl σ')) (hn : n0 ≤ sh.length ∧ t0 ≤ am_tot sh) (hR : σ'.2.2.2.1.length - n0 ≤ R.cells ∧ am_tot σ'.2.2.2.1 - t0 ≤ R.slots) (hk : am_W p l e R s m args below meth c b ex aC D M n0 t0 Q σ') : am_W p l e R s m args below meth c b ex aC D M n0 t0 Q (pc, lv, st, sh, mem) := by
  obtain ⟨hx, hb, hml, hown, hts, hK, hE, hlk, hrt, hnm, hfr, hok, hbs⟩ := hC
  intro H locs ls hrel
  obtain ⟨hP, hz, hlen, hbig, hS, hl⟩ := hrel
  dsimp only at hP hz hlen hbig hl ⊢
  simp only [am_ckI] at hck
  split at hck
  · rename_i q hcl
    obtain ⟨C, T, N⟩ := q
    simp only [Bool.and_eq_true] at hck
    obtain ⟨⟨⟨⟨c0, c1⟩, c2⟩, c3⟩, c4⟩ := hck
    have e2 := Nat.eq_of_beq_eq_true c4
    have eN := Nat.eq_of_beq_eq_true c0
    try dsimp only at eN c1 c2 c3
    subst e2
    rw [show pc + 3 - pc = 3 by omega] at hd
    have hlt := (List.getElem?_eq_some_iff.mp hcl).1
    rw [am_cl_len] at hlt
    simp only [am_ins] at h
    cases h9 : (Nat.blt sh.length 999 && Nat.ble (am_ps ps 1) 100000) with
    | false => rw [h9] at h; cases h
    | true =>
      rw [h9] at h
      rw [Bool.and_eq_true] at h9
      have h9 := am_blt h9.1
      simp only [cond_true, Option.some.injEq, Prod.mk.injEq, Sum.inl.injEq, true_and] at h
      subst h
      dsimp only at hR
      rw [List.length_append, am_tot_app] at hR
      simp only [List.length_singleton] at hR
      rw [eN] at hR
      have hsm : N ≤ 100000 := Nat.le_of_ble_eq_true (List.all_eq_true.mp am_cl_small _ (List.mem_of_getElem? hcl))
      have hKn := hK.1 (am_ps ps 0) _ hcl
      obtain ⟨ty1, ty2⟩ := am_tyok hcl
      refine W.newcK hx hb hown (hts _ (am_wd_in c1)) (hts _ (am_wd_in c2)) (hts _ (am_wd_in c3)) rfl hd (by omega) (by omega) hKn.2.1 rfl fun H1 kC hkC e1 z1 o1 => ?_
      obtain ⟨hP1, hS1⟩ := am_pushW (x := .inr (am_ps ps 0, am_fs (am_ad b ex) (am_wz mem sh.length) sh.length (am_ps ps 0) N)) hP hS z1 o1 ⟨_, hcl, (u_born (am_ty (am_ps ps 0)) hts (am_lay hcl) hKn hkC e1 ty1).to (fun j hj => by
        rw [vp_V, List.getD_eq_getElem?_getD, am_fs_get _ _ _ _ hj]
        exact (am_fv0 (am_tyref hcl hj)).symm)⟩
      have hq := hk H1 locs ls ⟨?_, by rw [z1, hz, List.length_append]; rfl, by rw [List.length_append]; show sh.length + 1 < 1000; omega, ?_, hS1, hl⟩
      · dsimp only at hq
        rw [List.length_append, am_tot_app, eN] at hq
        simp only [List.map_cons, am_rn, Option.map_some, va_rf, List.length_singleton, am_ad_lo (show sh.length < 1000 by omega), ← hz] at hq
        rw [show sh.length + 1 - n0 = sh.length - n0 + 1 by omega, show am_tot sh + N - t0 = am_tot sh - t0 + N by omega] at hq
        exact hq
      · dsimp only
        rw [am_ws_new, am_cell_obj _ _ _ _ _ _ (by omega), am_ad_lo (show sh.length < 1000 by omega), ← hz, eN]
        exact hP1
      · intro q hq
        rcases List.mem_append.mp hq with z | z
        · exact hbig q z
        · rw [List.mem_singleton.mp z]; dsimp only; omega
  · cases hck
theorem am_s_newarray {pc nx : Nat} {ps : List Nat} {k : Int} {kl : Int64} {lv : am_L} {st : List am_V} {sh : am_Sh} {mem : am_M} {σ' : am_S} {x : ArrayType} (hC : am_Ctx b ex aC D X M p R s m args meth c) (hd : decode (am_mb M) pc = .ok ((.newarray x), nx - pc)) (hck : am_ckI M pc (.newarray x) ps k kl nx = true) (h : am_ins X (.newarray x) ps k kl nx lv st sh mem = some (true, .inl σ')) (hn : n0 ≤ sh.length ∧ t0 ≤ am_tot sh) (hR : σ'.2.2.2.1.length - n0 ≤ R.cells ∧ am_tot σ'.2.2.2.1 - t0 ≤ R.slots) (hk : am_W p l e R s m args below meth c b ex aC D M n0 t0 Q σ') : am_W p l e R s m args below meth c b ex aC D M n0 t0 Q (pc, lv, st, sh, mem) := by
  obtain ⟨hx, hb, hml, hown, hts, hK, hE, hlk, hrt, hnm, hfr, hok, hbs⟩ := hC
  intro H locs ls hrel
  obtain ⟨hP, hz, hlen, hbig, hS, hl⟩ := hrel
  dsimp only at hP hz hlen hbig hl ⊢
  simp only [am_ckI, Bool.and_eq_true] at hck
  obtain ⟨⟨⟨c0, c1⟩, c2⟩, c4⟩ := hck
  have e2 := Nat.eq_of_beq_eq_true c4
  have eA := Nat.eq_of_beq_eq_true c0
  have c1 := Nat.le_of_ble_eq_true c1
  subst e2
  rw [show pc + 2 - pc = 2 by omega] at hd
  simp only [am_ins] at h
  split at h
  · rename_i n r
    cases h9 : Nat.blt sh.length 999 with
    | false => rw [h9] at h; cases h
    | true =>
      rw [h9] at h
      have h9 := am_blt h9
      simp only [cond_true, Option.some.injEq, Prod.mk.injEq, Sum.inl.injEq] at h
      obtain ⟨hg, h⟩ := h
      have hg := of_decide_eq_true hg
      subst h
      dsimp only at hR
      rw [List.length_append, am_tot_app] at hR
      simp only [List.length_singleton] at hR
      obtain ⟨i1, i2⟩ := am_len32 hg.1 hg.2
      refine va_newaK (N := n.toNat) hx hb (hts _ (am_wd_in c2)) rfl hd rfl i1 i2 (am_cbytes x (by omega)) (by omega) (by omega) rfl fun H1 cA e1 z1 o1 hAr hNm => ?_
      have hcA : cA = aC (am_ps ps 0) := by
        have hk5 := am_atyp (aC := aC) hK (by rw [← eA]; exact c1)
        rw [eA]
        exact Option.some.inj (hNm.symm.trans hk5)
      subst hcA
      obtain ⟨hP1, hS1⟩ := am_pushW (x := am_cell (am_ad b ex) aC (am_wz mem sh.length) sh.length (am_ps ps 0, n.toNat)) hP hS z1 o1 (am_cell0 (by rw [← eA]; exact c1) eA e1)
      have hq := hk H1 locs ls ⟨?_, by rw [z1, hz, List.length_append]; rfl, by rw [List.length_append]; show sh.length + 1 < 1000; omega, ?_, hS1, hl⟩
      · dsimp only at hq
        rw [List.length_append, am_tot_app] at hq
        simp only [List.map_cons, am_rn, Option.map_some, va_rf, List.length_singleton, am_ad_lo (show sh.length < 1000 by omega), ← hz] at hq
        rw [show sh.length + 1 - n0 = sh.length - n0 + 1 by omega, show am_tot sh + n.toNat - t0 = am_tot sh - t0 + n.toNat by omega] at hq
        exact hq
      · dsimp only
        rw [am_ws_new, am_ad_lo (show sh.length < 1000 by omega), ← hz]
        exact hP1
      · intro q hq
        rcases List.mem_append.mp hq with z | z
        · exact hbig q z
        · rw [List.mem_singleton.mp z]; dsimp only; omega
  · cases h
theorem am_s_anewarray {pc nx : Nat} {ps : List Nat} {k : Int} {kl : Int64} {lv : am_L} {st : List am_V} {sh : am_Sh} {mem : am_M} {σ' : am_S} {x : Nat} (hC : am_Ctx b ex aC D X M p R s m args meth c) (hd : decode (am_mb M) pc = .ok ((.anewarray x), nx - pc)) (hck : am_ckI M pc (.anewarray x) ps k kl nx = true) (h : am_ins X (.anewarray x) ps k kl nx lv st sh mem = some (true, .inl σ')) (hn : n0 ≤ sh.length ∧ t0 ≤ am_tot sh) (hR : σ'.2.2.2.1.length - n0 ≤ R.cells ∧ am_tot σ'.2.2.2.1 - t0 ≤ R.slots) (hk : am_W p l e R s m args below meth c b ex aC D M n0 t0 Q σ') : am_W p l e R s m args below meth c b ex aC D M n0 t0 Q (pc, lv, st, sh, mem) := by
  obtain ⟨hx, hb, hml, hown, hts, hK, hE, hlk, hrt, hnm, hfr, hok, hbs⟩ := hC
  intro H locs ls hrel
  obtain ⟨hP, hz, hlen, hbig, hS, hl⟩ := hrel
  dsimp only at hP hz hlen hbig hl ⊢
  simp only [am_ckI, Bool.and_eq_true] at hck
  obtain ⟨hck, c4⟩ := hck
  have e2 := Nat.eq_of_beq_eq_true c4
  subst e2
  rw [show pc + 3 - pc = 3 by omega] at hd
  simp only [am_ins] at h
  split at h
  · rename_i n r
    cases h9 : Nat.blt sh.length 999 with
    | false => rw [h9] at h; cases h
    | true =>
      rw [h9] at h
      have h9 := am_blt h9
      simp only [cond_true, Option.some.injEq, Prod.mk.injEq, Sum.inl.injEq] at h
      obtain ⟨hg, h⟩ := h
      have hg := of_decide_eq_true hg
      subst h
      dsimp only at hR
      rw [List.length_append, am_tot_app] at hR
      simp only [List.length_singleton] at hR
      obtain ⟨i1, i2⟩ := am_len32 hg.1 hg.2
      cases h0 : Nat.beq (am_ps ps 0) 104 with
      | true =>
        rw [h0] at hck
        have e0 := Nat.eq_of_beq_eq_true h0
        have c1 := hck
        have hao := hE.2.2.2.2.2.2.2.1
        refine W.anew hx hb hown (hts _ (am_wd_in c1)) (va_AO.use hao) rfl hd rfl i1 (by rw [i2]; omega) (by omega) (by rw [i2]; omega) fun cA kA comp f1 f2 f3 f4 => ?_
        generalize hH1 : H.push ({ cls := cA, slots := Array.replicate (Int32.ofInt n).toNatClampNeg .null, vm := .none } : Cell) = H1
        rw [i2] at hH1
        have z1 : H1.size = H.size + 1 := by rw [← hH1, Array.size_push]
        have e1 : H1[H.size]? = some (arrV cA n.toNat (fun _ => .null)) := by rw [← hH1, Array.getElem?_push_size, ← arrV_new]
        have o1 : ∀ q : Nat, q < H.size → H1[q]? = H[q]? := fun q hq => by rw [← hH1, Array.getElem?_push, if_neg (Nat.ne_of_lt hq)]
        have hcA : cA = aC 104 := by
          obtain ⟨kA', comp', -, -, -, k4⟩ := (hK.2 4 _ rfl).2
          exact Option.some.inj (f1.symm.trans k4)
        subst hcA
        obtain ⟨hP1, hS1⟩ := am_pushW (x := am_cell (am_ad b ex) aC (am_wz mem sh.length) sh.length (104, n.toNat)) hP hS z1 o1 (by
          rw [am_cell_ref _ _ _ _ _ _ (by omega)]
          show H1[H.size]? = some (vp_cell _ _)
          rw [vp_cell_q, e1]
          congr 2
          funext j
          simp [am_wz, am_zr, va_rf])
        have hq := hk H1 locs ls ⟨?_, by rw [z1, hz, List.length_append]; rfl, by rw [List.length_append]; show sh.length + 1 < 1000; omega, ?_, hS1, hl⟩
        · dsimp only at hq
          rw [List.length_append, am_tot_app] at hq
          simp only [List.map_cons, am_rn, Option.map_some, va_rf, List.length_singleton, am_ad_lo (show sh.length < 1000 by omega), ← hz] at hq
          rw [show sh.length + 1 - n0 = sh.length - n0 + 1 by omega, show am_tot sh + n.toNat - t0 = am_tot sh - t0 + n.toNat by omega] at hq
          rw [i2]
          exact hq
        · dsimp only
          rw [am_ws_new, am_ad_lo (show sh.length < 1000 by omega), ← hz, e0]
          exact hP1
        · intro q hq
          rcases List.mem_append.mp hq with z | z
          · exact hbig q z
          · rw [List.mem_singleton.mp z]; dsimp only; omega
      | false =>
        rw [h0] at hck
        simp only [cond_false, Bool.and_eq_true] at hck
        have e0 := Nat.eq_of_beq_eq_true hck.1
        have c1 := hck.2
        have hao := hE.2.2.2.2.2.2.2.2
        refine W.anew hx hb hown (hts _ (am_wd_in c1)) (va_AO.use hao) rfl hd rfl i1 (by rw [i2]; omega) (by omega) (by rw [i2]; omega) fun cA kA comp f1 f2 f3 f4 => ?_
        generalize hH1 : H.push ({ cls := cA, slots := Array.replicate (Int32.ofInt n).toNatClampNeg .null, vm := .none } : Cell) = H1
        rw [i2] at hH1
        have z1 : H1.size = H.size + 1 := by rw [← hH1, Array.size_push]
        have e1 : H1[H.size]? = some (arrV cA n.toNat (fun _ => .null)) := by rw [← hH1, Array.getElem?_push_size, ← arrV_new]
        have o1 : ∀ q : Nat, q < H.size → H1[q]? = H[q]? := fun q hq => by rw [← hH1, Array.getElem?_push, if_neg (Nat.ne_of_lt hq)]
        have hcA : cA = aC 105 := by
          obtain ⟨kA', comp', -, -, -, k4⟩ := (hK.2 5 _ rfl).2
          exact Option.some.inj (f1.symm.trans k4)
        subst hcA
        obtain ⟨hP1, hS1⟩ := am_pushW (x := am_cell (am_ad b ex) aC (am_wz mem sh.length) sh.length (105, n.toNat)) hP hS z1 o1 (by
          rw [am_cell_ref _ _ _ _ _ _ (by omega)]
          show H1[H.size]? = some (vp_cell _ _)
          rw [vp_cell_q, e1]
          congr 2
          funext j
          simp [am_wz, am_zr, va_rf])
        have hq := hk H1 locs ls ⟨?_, by rw [z1, hz, List.length_append]; rfl, by rw [List.length_append]; show sh.length + 1 < 1000; omega, ?_, hS1, hl⟩
        · dsimp only at hq
          rw [List.length_append, am_tot_app] at hq
          simp only [List.map_cons, am_rn, Option.map_some, va_rf, List.length_singleton, am_ad_lo (show sh.length < 1000 by omega), ← hz] at hq
          rw [show sh.length + 1 - n0 = sh.length - n0 + 1 by omega, show am_tot sh + n.toNat - t0 = am_tot sh - t0 + n.toNat by omega] at hq
          rw [i2]
          exact hq
        · dsimp only
          rw [am_ws_new, am_ad_lo (show sh.length < 1000 by omega), ← hz, e0]
          exact hP1
        · intro q hq
          rcases List.mem_append.mp hq with z | z
          · exact hbig q z
          · rw [List.mem_singleton.mp z]; dsimp only; omega
  · cases h
theorem am_s_objinit {pc nx : Nat} {ps : List Nat} {k : Int} {kl : Int64} {lv : am_L} {st : List am_V} {sh : am_Sh} {mem : am_M} {σ' : am_S} {x : Nat} (h9 : Nat.beq (am_ps ps 0) 9999 = true) (hC : am_Ctx b ex aC D X M p R s m args meth c) (hd : decode (am_mb M) pc = .ok ((.invokespecial x), nx - pc)) (hck : am_ckI M pc (.invokespecial x) ps k kl nx = true) (h : am_ins X (.invokespecial x) ps k kl nx lv st sh mem = some (true, .inl σ')) (hn : n0 ≤ sh.length ∧ t0 ≤ am_tot sh) (hR : σ'.2.2.2.1.length - n0 ≤ R.cells ∧ am_tot σ'.2.2.2.1 - t0 ≤ R.slots) (hk : am_W p l e R s m args below meth c b ex aC D M n0 t0 Q σ') : am_W p l e R s m args below meth c b ex aC D M n0 t0 Q (pc, lv, st, sh, mem) := by
  obtain ⟨hx, hb, hml, hown, hts, hK, hE, hlk, hrt, hnm, hfr, hok, hbs⟩ := hC
  intro H locs ls hrel
  obtain ⟨hP, hz, hlen, hbig, hS, hl⟩ := hrel
  dsimp only at hP hz hlen hbig hl ⊢
  simp only [am_ckI, h9, cond_true, Bool.and_eq_true] at hck
  obtain ⟨⟨⟨⟨⟨c1, c2⟩, c3⟩, c4⟩, c5⟩, c6⟩ := hck
  have e2 := Nat.eq_of_beq_eq_true c6
  subst e2
  rw [show pc + 3 - pc = 3 by omega] at hd
  simp only [am_ins, h9, cond_true] at h
  split at h
  · rename_i a r
    cases h8 : Nat.ble (am_cats r) 8 with
    | false => rw [h8] at h; cases h
    | true =>
      rw [h8] at h
      have h8 := Nat.le_of_ble_eq_true h8
      have c4 := Nat.le_of_ble_eq_true c4
      have c5 := Nat.le_of_ble_eq_true c5
      simp only [cond_true, Option.some.injEq, Prod.mk.injEq, Sum.inl.injEq, true_and] at h
      subst h
      refine W.objInit hx hb hown (hts _ (am_wd_in c1)) (hts _ (am_wd_in c2)) (hts _ (am_wd_in c3)) rfl (hl.1.trans hml.symm) rfl hd (by omega) ?_ (hk H locs ls ⟨hP, hz, hlen, hbig, hS, hl⟩)
      show 2 * 0 + _ + 12 ≤ _
      rw [am_cats_rn]
      omega
  · cases h
theorem am_s_tableswitch {pc nx : Nat} {ps : List Nat} {k : Int} {kl : Int64} {lv : am_L} {st : List am_V} {sh : am_Sh} {mem : am_M} {σ' : am_S} {d lo hi : Int} {os : Array Int} (hC : am_Ctx b ex aC D X M p R s m args meth c) (hd : decode (am_mb M) pc = .ok ((.tableswitch d lo hi os), nx - pc)) (hck : am_ckI M pc (.tableswitch d lo hi os) ps k kl nx = true) (h : am_ins X (.tableswitch d lo hi os) ps k kl nx lv st sh mem = some (true, .inl σ')) (hn : n0 ≤ sh.length ∧ t0 ≤ am_tot sh) (hR : σ'.2.2.2.1.length - n0 ≤ R.cells ∧ am_tot σ'.2.2.2.1 - t0 ≤ R.slots) (hk : am_W p l e R s m args below meth c b ex aC D M n0 t0 Q σ') : am_W p l e R s m args below meth c b ex aC D M n0 t0 Q (pc, lv, st, sh, mem) := by
  obtain ⟨hx, hb, hml, hown, hts, hK, hE, hlk, hrt, hnm, hfr, hok, hbs⟩ := hC
  intro H locs ls hrel
  obtain ⟨hP, hz, hlen, hbig, hS, hl⟩ := hrel
  dsimp only at hP hz hlen hbig hl ⊢
  simp only [am_ckI, Bool.and_eq_true] at hck
  obtain ⟨⟨⟨c1, c2⟩, c3⟩, c4⟩ := hck
  have c1 := of_decide_eq_true c1
  have c3 := of_decide_eq_true c3
  simp only [am_ins] at h
  obtain ⟨x, r, rfl, rfl, g1⟩ := am_if_inv (f := am_sw lo hi ps) h
  have hq := hk H locs ls ⟨hP, hz, hlen, hbig, hS, hl⟩
  have ex1 := am_ti g1
  by_cases hx1 : x < lo ∨ hi < x
  · have es : am_sw lo hi ps x = am_ps ps 0 := by unfold am_sw; rw [if_pos hx1]
    rw [es] at hq
    exact lv_tableOut hx hb hd (by rw [ex1]; exact hx1) c1 hq
  · have es : am_sw lo hi ps x = am_ps ps ((x - lo).toNat + 1) := by unfold am_sw; rw [if_neg hx1]
    rw [es] at hq
    have hlt : (x - lo).toNat < os.toList.length := by omega
    obtain ⟨o, ho⟩ : ∃ o, os.toList[(x - lo).toNat]? = some o := ⟨_, List.getElem?_eq_getElem hlt⟩
    have ho2 := am_offs_get pc _ _ c4 _ o ho
    rw [am_ps_tail] at ho2
    refine lv_tableIn hx hb hd (by rw [ex1]; omega) (by rw [ex1]; omega) (off := o) ?_ ho2 hq
    rw [ex1, ← Array.getElem?_toList]
    exact ho
end AMS2
