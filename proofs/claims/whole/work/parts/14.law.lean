theorem am_law_ret {X : am_X} {i : Instr} {ps : List Nat} {k : Int} {kl : Int64} {pc nx : Nat} {lv : am_L} {st : List am_V} {sh : am_Sh} {mem : am_M} {r : am_R} (h : am_ins X i ps k kl nx lv st sh mem = some (true, .inr (.inr r))) (hck : am_ckI M_UpRiverLaw_law pc i ps k kl nx = true) (hr : r.1 = some (.inl 1)) : ∃ v : Unit, st = [.inl 1] ∧ i = .ireturn ∧ nx = pc + 1 := by
  cases i with
  | ireturn =>
    simp only [am_ckI, Bool.and_eq_true] at hck
    have e2 := Nat.eq_of_beq_eq_true hck.2
    simp only [am_ins] at h
    split at h
    · rename_i v
      refine ⟨(), ?_, rfl, e2⟩
      simp only [Bool.cond_eq_ite] at h
      split at h
      · simp only [Option.some.injEq, Prod.mk.injEq, Sum.inr.injEq, true_and] at h
        rw [← h] at hr
        cases hr; rfl
      · split at h
        · simp only [Option.some.injEq, Prod.mk.injEq, Sum.inr.injEq] at h
          rw [← h.2] at hr
          cases hr; rfl
        · simp only [Option.some.injEq, Prod.mk.injEq, Sum.inr.injEq] at h
          rw [← h.2] at hr
          cases hr; rfl
    · cases h
  | lreturn =>
    simp only [am_ins] at h
    split at h
    · simp only [Option.some.injEq, Prod.mk.injEq, Sum.inr.injEq, true_and] at h
      rw [← h] at hr
      cases hr
    · cases h
  | areturn =>
    simp only [am_ins] at h
    split at h
    · simp only [Option.some.injEq, Prod.mk.injEq, Sum.inr.injEq, true_and] at h
      rw [← h] at hr
      cases hr
    · cases h
  | return_ =>
    simp only [am_ins] at h
    split at h
    · simp only [Option.some.injEq, Prod.mk.injEq, Sum.inr.injEq, true_and] at h
      rw [← h] at hr
      cases hr
    · cases h
  | _ =>
    exfalso
    simp only [am_ins, Bool.cond_eq_ite] at h <;> first
    | (cases h; done)
    | exact am_go_ni h
    | ((repeat' (first | (cases h; done) | split at h)) <;> first | (cases h; done) | (simp at h; done))
/-! THE CLAIM OUT OF ONE WALK OF THE LAW'S BODY. Your part is whole_start (and what it stands on); all else here is the same for every law, but numbers. -/
def R_law : String := "UpRiverLaw"
def lw_P (b : Addr) (xs : List Int32) (args : Array Value) (s : State) : Prop := args = #[.ref b] ∧ s.IntsAt b xs ∧ xs.length ≤ 3072 ∧ (Jvm.Cond.and given_1 narrow_1).before args s = true
def lw_Q (_ : Array Value) (s : State) (o : Outcome) (t : State) : Prop := o = .returned (some (.int 1)) ∧ Framed s o t [] 600000 7302250
def lw_Z (below : List Frame) (a : Array Value) (s : State) : State → Prop := fun t => ∃ o, t.status = .running ∧ Ended t below o ∧ lw_Q a s o t
/-- the law's own end, with 1 on the stack, nothing written that was there before, its room as the claim has it -/
theorem lw_ret {p : Program} {l : Launch} {e : Env} {s : State} {m : MethodId} {below : List Frame} {meth : Method} {c : Code} {b : Nat} (hx : p.tables.exec = Jvm.exec) (hb : c.code = code) (hr : meth.sig.returnType = ret) (hlocks : meth.locks = false) {pc : Nat} {H : Heap} {ls : Array Slot} (hdg : decode code pc = .ok (.ireturn, 1)) : W p l e room_1 s m #[Value.ref b] below meth c H [] 600000 7302250 (lw_Z below #[Value.ref b] s) (F0 m pc ls [.int 1]) := by
  intro T hT X
  obtain ⟨fs, hret, hrun, hended, hW, hframe⟩ := X.leave (v := some (.int 1)) (hlocks := hlocks) (fun h => by rw [hr] at h; cases h)
  have hmeth' : T.vm.method? m = some meth := X.method'
  refine ⟨T.setFrames fs, ?_, .returned (some (.int 1)), hrun, hended, rfl, ⟨_, rfl⟩, hW, hframe⟩
  jvm_step X.here [X.here.top, hx, hb, hdg, hmeth', hr, ret, narrow_b1]
  (try refine ⟨rfl, ?_⟩); (try refine ⟨rfl, ?_⟩)
  first | (intro acts; rw [hret _ acts rfl rfl rfl]) | rw [hret _ _ rfl rfl rfl]
  exact Steps.refl _
/-- what holds at the law's entry: the machine, the code, the tables' words (any of lw_tbl by 'hts w (by decide +kernel)'), the script of L ints xs at the cell b, what the Statement gives of the start (any of its parts by flat_of_before) -/
def lw_At (p : Program) (s : State) (m : MethodId) (meth : Method) (c : Code) (b L : Nat) (xs : Nat → Int32) : Prop :=
  p.tables.exec = Jvm.exec ∧ c.code = code ∧ meth.sig.returnType = ret ∧ c.maxLocals = 4 ∧ s.vm.findClass R_law = some m.cls ∧ (∀ w ∈ lw_tbl, w.before #[Value.ref b] s = true) ∧ va_X b L xs s s.heap ∧ b < s.heap.size ∧ meth.locks = false ∧ (Jvm.Cond.and given_1 narrow_1).before #[Value.ref b] s = true
/-! what the law's start gives -/
theorem am_wlk {args : Array Value} {s : State} (hts : ∀ w ∈ lw_tbl, w.before args s = true) (i : Nat) {w : Cond} (h : am_wn i w = true) : w.before args s = true := hts w (am_wn_in h)
def am_instix : List Nat := [235, 274, 85, 107, 326, 380, 355, 293, 91, 229, 77, 1008]
theorem am_inst0 : (List.zip am_cl am_instix).all (fun q => am_wn q.2 (.instantiable q.1.1 q.1.2.2)) = true ∧ am_instix.length = am_cl.length := by decide +kernel
theorem am_classes {args : Array Value} {s : State} (hts : ∀ w ∈ lw_tbl, w.before args s = true) : ∃ D : va_G, ∀ (c : Nat) (q : vw_C), am_cl[c]? = some q → u_Kn s q.1 q.2.1 q.2.2 (D.1 c) (D.2 c) := by
  have h0 : ∀ c : Nat, ∃ z : ClassId × (Nat → Nat), ∀ q : vw_C, am_cl[c]? = some q → u_Kn s q.1 q.2.1 q.2.2 z.1 z.2 := by
    intro c
    cases hc : am_cl[c]? with
    | none => exact ⟨(0, fun _ => 0), fun q h => by cases h⟩
    | some q =>
      obtain ⟨h1, h2⟩ := am_inst0
      have hlt := (List.getElem?_eq_some_iff.mp hc).1
      obtain ⟨ix, hix⟩ : ∃ ix, am_instix[c]? = some ix := ⟨_, List.getElem?_eq_getElem (by omega)⟩
      have hz : (List.zip am_cl am_instix)[c]? = some (q, ix) := by rw [List.getElem?_zip_eq_some]; exact ⟨hc, hix⟩
      have h3 := List.all_eq_true.mp h1 (q, ix) (List.mem_of_getElem? hz)
      obtain ⟨cC, iS, hk⟩ := u_known hts (fun w hw => (List.mem_filter.mp (am_lay hc w hw)).1) (am_wlk hts ix h3)
      exact ⟨(cC, iS), fun q' h => by cases h; exact hk⟩
  obtain ⟨f, hf⟩ := Classical.axiomOfChoice h0
  exact ⟨(fun c => (f c).1, fun c => (f c).2), fun c q h => hf c q h⟩
theorem am_arrays {args : Array Value} {s : State} (hts : ∀ w ∈ lw_tbl, w.before args s = true) : ∃ aC : Nat → ClassId, ∀ (k : Nat) (q : ClassId × FieldType), (am_tys aC)[k]? = some q → ArrOfT s q.1 q.2 ∧ va_RA s q.1 q.2 := by
  obtain ⟨c0, k0, m0, a0, b0, d0⟩ := Cond.arrayClass_spec (am_wlk hts 185 (w := .arrayClass .int) (by decide +kernel))
  obtain ⟨c1, k1, m1, a1, b1, d1⟩ := Cond.arrayClass_spec (am_wlk hts 184 (w := .arrayClass .boolean) (by decide +kernel))
  obtain ⟨c2, k2, m2, a2, b2, d2⟩ := Cond.arrayClass_spec (am_wlk hts 105 (w := .arrayClass .byte) (by decide +kernel))
  obtain ⟨c3, k3, m3, a3, b3, d3⟩ := Cond.arrayClass_spec (am_wlk hts 186 (w := .arrayClass .long) (by decide +kernel))
  obtain ⟨m4, c4, k4, a4, -, b4, d4, e4⟩ := Cond.arrayOver_spec (am_wlk hts 322 (w := .arrayOver (.object "UpRiver$Voyage")) (by decide +kernel))
  obtain ⟨m5, c5, k5, a5, -, b5, d5, e5⟩ := Cond.arrayOver_spec (am_wlk hts 324 (w := .arrayOver (.object "UpRiver$Sheet")) (by decide +kernel))
  refine ⟨fun i => if i = 100 then c0 else if i = 101 then c1 else if i = 102 then c2 else if i = 103 then c3 else if i = 104 then c4 else c5, fun k q h => ?_⟩
  have hlt := (List.getElem?_eq_some_iff.mp h).1
  have hk : k = 0 ∨ k = 1 ∨ k = 2 ∨ k = 3 ∨ k = 4 ∨ k = 5 := by
    have : k < 6 := hlt
    omega
  rcases hk with rfl | rfl | rfl | rfl | rfl | rfl
  · cases h; exact ⟨fun n z => ⟨fun k h => (by cases h), k0, b0, m0, d0⟩, a0⟩
  · cases h; exact ⟨fun n z => ⟨fun k h => (by cases h), k1, b1, m1, d1⟩, a1⟩
  · cases h; exact ⟨fun n z => ⟨fun k h => (by cases h), k2, b2, m2, d2⟩, a2⟩
  · cases h; exact ⟨fun n z => ⟨fun k h => (by cases h), k3, b3, m3, d3⟩, a3⟩
  · cases h; exact ⟨fun n z => ⟨fun k h => (by cases h), k4, b4, m4, d4⟩, k4, m4, b4, d4, a4, e4⟩
  · cases h; exact ⟨fun n z => ⟨fun k h => (by cases h), k5, b5, m5, d5⟩, k5, m5, b5, d5, a5, e5⟩
abbrev am_pre : Cond := Jvm.Cond.and given_1 narrow_1
theorem am_f1 : ∀ i : Nat, i < 14 → Cond.exactly (.string "UpRiver$Reader" (am_strix.getD i (0, "")).1) "java/lang/String" ∈ flatC am_pre := by decide +kernel
theorem am_f2 : ∀ i : Nat, i < 14 → Cond.eq (.field (.string "UpRiver$Reader" (am_strix.getD i (0, "")).1) "java/lang/String" "coder" "B") (.int 0) ∈ flatC am_pre := by decide +kernel
theorem am_f3 : ∀ i : Nat, i < 14 → Cond.arrayOf (.field (.string "UpRiver$Reader" (am_strix.getD i (0, "")).1) "java/lang/String" "value" "[B") .byte ∈ flatC am_pre := by decide +kernel
theorem am_f4 : ∀ i : Nat, i < 14 → Cond.eq (.length (.field (.string "UpRiver$Reader" (am_strix.getD i (0, "")).1) "java/lang/String" "value" "[B")) (.int (Int32.ofNat (am_lens.getD i 0))) ∈ flatC am_pre := by decide +kernel
theorem am_f5 : ∀ i : Nat, i < 14 → ∀ j : Nat, j < am_lens.getD i 0 → Cond.eq (.elem (.field (.string "UpRiver$Reader" (am_strix.getD i (0, "")).1) "java/lang/String" "value" "[B") (.int (Int32.ofNat j))) (.int ((am_byts.getD i []).getD j 0)) ∈ flatC am_pre := by decide +kernel
theorem am_f6 : ∀ i : Nat, i < 14 → ∀ j : Nat, j < 14 → i < j → Cond.not (Cond.eq (.string "UpRiver$Reader" (am_strix.getD i (0, "")).1) (.string "UpRiver$Reader" (am_strix.getD j (0, "")).1)) ∈ flatC am_pre := by decide +kernel
theorem am_f7 : ∀ i : Nat, i < 14 → am_wn (489 + i) (.stringRef "UpRiver$Reader" (am_strix.getD i (0, "")).1 (am_strix.getD i (0, "")).2) = true := by decide +kernel
theorem am_stat {s : State} {args : Array Value} {b : Nat} (hb : s.heap.size = b) (hts : ∀ w ∈ lw_tbl, w.before args s = true) (hg : am_pre.before args s = true) (n : String) (i : Nat) (vs : List Int) (hw : am_wn i (.laysStatic "UpRiver" n "[I") = true) (hlen : vs.length = 7) (h1 : Cond.arrayOf (.static "UpRiver" n "[I") .int ∈ flatC am_pre) (h2 : Cond.eq (.length (.static "UpRiver" n "[I")) (.int 7) ∈ flatC am_pre) (h3 : ∀ j : Nat, j < 7 → Cond.eq (.elem (.static "UpRiver" n "[I") (.int (Int32.ofNat j))) (.int (Int32.ofInt (vs.getD j 0))) ∈ flatC am_pre) :
    ∃ t : Nat, va_Z "UpRiver" n "[I" (.ref t) (am_A b) s s.heap ∧ va_T .int t 7 (fun j => am_o32 (vs.getD j 0)) (am_A b) s s.heap := by
  have hs := flat_of_before _ hg
  have hA : ∀ a : Nat, a < s.heap.size → ¬ am_A b a := fun a h1 h2 => absurd (show b ≤ a from h2) (by omega)
  obtain ⟨t, ht, hT⟩ := va_Tof (f := fun j => am_o32 (vs.getD j 0)) (A := am_A b) (by decide) (hs _ h1) (va_eqt (hs _ h2)) (fun j hj => va_eqt (hs _ (h3 j hj))) hA
  exact ⟨t, va_Zref (am_wlk hts i hw) (am_wlk hts 59 (w := .initialized "UpRiver") (by decide +kernel)) ht hA, hT⟩
set_option maxRecDepth 100000 in
theorem am_start_E {s : State} {b0 L : Nat} {xs : Nat → Int32} (hL : L ≤ 3072) (hts : ∀ w ∈ lw_tbl, w.before #[Value.ref b0] s = true) (hX : va_X b0 L xs s s.heap) (hbl : b0 < s.heap.size) (hg : am_pre.before #[Value.ref b0] s = true) : ∃ (ex : Nat → Nat) (fm : Bool), ex 1003 = b0 ∧ am_E s.heap.size ex (L, xs, fm) s s.heap := by
  have hs := flat_of_before _ hg
  have hA : ∀ a : Nat, a < s.heap.size → ¬ am_A s.heap.size a := fun a h1 h2 => absurd (show s.heap.size ≤ a from h2) (by omega)
  obtain ⟨t1, z1, y1⟩ := am_stat rfl hts hg "RULE_LEAST" 567 am_least (by decide +kernel) rfl (by decide +kernel) (by decide +kernel) (by decide +kernel)
  obtain ⟨t2, z2, y2⟩ := am_stat rfl hts hg "RULE_MOST" 573 am_most (by decide +kernel) rfl (by decide +kernel) (by decide +kernel) (by decide +kernel)
  obtain ⟨t3, z3, y3⟩ := am_stat rfl hts hg "RULE_AT_FIRST" 117 am_first (by decide +kernel) rfl (by decide +kernel) (by decide +kernel) (by decide +kernel)
  have z4 : va_Z "java/lang/String" "COMPACT_STRINGS" "Z" (.int 1) (am_A s.heap.size) s s.heap := va_Zof (am_wlk hts 516 (w := .laysStatic "java/lang/String" "COMPACT_STRINGS" "Z") (by decide +kernel)) (am_wlk hts 71 (w := .initialized "java/lang/String") (by decide +kernel)) (va_eqi (hs _ (by decide +kernel))) hA
  have z5 : va_Zq "jdk/internal/util/Preconditions" "SIOOBE_FORMATTER" "Ljava/util/function/BiFunction;" (am_A s.heap.size) s s.heap := va_Zqof (am_wlk hts 532 (w := .laysStatic "jdk/internal/util/Preconditions" "SIOOBE_FORMATTER" "Ljava/util/function/BiFunction;") (by decide +kernel)) (am_wlk hts 73 (w := .initialized "jdk/internal/util/Preconditions") (by decide +kernel)) (hs _ (by decide +kernel)) hA
  obtain ⟨adK, adV, hS, hev⟩ := vk_Sof (args := #[Value.ref b0]) (s := s) (N := 14) (tm := fun i => .string "UpRiver$Reader" (am_strix.getD i (0, "")).1) (len := am_lens) (byt := am_byts) (A := am_A s.heap.size) (by decide) (fun i hi => hs _ (am_f1 i hi)) (fun i hi => hs _ (am_f2 i hi)) (fun i hi => hs _ (am_f3 i hi)) (fun i hi => hs _ (am_f4 i hi)) (fun i hi j hj => hs _ (am_f5 i hi j hj)) (fun i j hi hj hij => by
    rcases Nat.lt_or_gt_of_ne hij with z | z
    · exact Or.inl (hs _ (am_f6 i hi j hj z))
    · exact Or.inr (hs _ (am_f6 j hj i hi z))) hA
  have hex : ∃ (t5 : Nat) (fm : Bool), va_Z "jdk/internal/util/Preconditions" "SIOOBE_FORMATTER" "Ljava/util/function/BiFunction;" (bif fm then .null else .ref t5) (am_A s.heap.size) s s.heap := by
    rcases z5 with z | ⟨t, z⟩
    · exact ⟨0, true, z⟩
    · exact ⟨t, false, z⟩
  obtain ⟨t5, fm, z5⟩ := hex
  refine ⟨fun i => if i = 1000 then t1 else if i = 1001 then t2 else if i = 1002 then t3 else if i = 1003 then b0 else if i = 3000 then t5 else if i < 2100 then adK (i - 2000) else adV (i - 2100), fm, rfl, ⟨z1, z2, z3, z4, z5⟩, ⟨y1, y2, y3⟩, ?_, ?_, ⟨hX, hA b0 hbl, by show L < 2147483648; omega⟩, ?_, ?_, va_AO.of (am_wlk hts 322 (by decide +kernel)), va_AO.of (am_wlk hts 324 (by decide +kernel))⟩
  · have e1 : ∀ i : Nat, i < 14 → (if 2000 + i = 1000 then t1 else if 2000 + i = 1001 then t2 else if 2000 + i = 1002 then t3 else if 2000 + i = 1003 then b0 else if 2000 + i = 3000 then t5 else if 2000 + i < 2100 then adK (2000 + i - 2000) else adV (2000 + i - 2100)) = adK i := by
      intro i hi
      rw [if_neg (by omega), if_neg (by omega), if_neg (by omega), if_neg (by omega), if_neg (by omega), if_pos (by omega), show 2000 + i - 2000 = i by omega]
    have e2 : ∀ i : Nat, i < 14 → (if 2100 + i = 1000 then t1 else if 2100 + i = 1001 then t2 else if 2100 + i = 1002 then t3 else if 2100 + i = 1003 then b0 else if 2100 + i = 3000 then t5 else if 2100 + i < 2100 then adK (2100 + i - 2000) else adV (2100 + i - 2100)) = adV i := by
      intro i hi
      rw [if_neg (by omega), if_neg (by omega), if_neg (by omega), if_neg (by omega), if_neg (by omega), if_neg (by omega), show 2100 + i - 2100 = i by omega]
    refine ⟨fun i hi => ?_, fun i j hi hj h => ?_⟩
    · dsimp only
      rw [e1 i hi, e2 i hi]
      exact hS.1 i hi
    · dsimp only at h
      rw [e1 i hi, e1 j hj] at h
      exact hS.2 i j hi hj h
  · intro i hi
    dsimp only
    rw [if_neg (by omega), if_neg (by omega), if_neg (by omega), if_neg (by omega), if_neg (by omega), if_pos (by omega), show 2000 + i - 2000 = i by omega]
    exact vk_R.of (am_wlk hts _ (am_f7 i hi)) (hev i hi)
  · intro o i y h hin
    exact va_Nw.of rfl (hts _ hin)
  · intro o i r n d h hin
    exact va_Nw.of rfl (hts _ hin)
def am_m0 : am_M := (fun _ _ => 0, fun _ _ => 0, fun _ _ => none)
/-- the law's walk out of one run of the abstract machine -/
theorem am_whole (hoks : ∀ {k : Nat} {M : am_Me}, am_nth am_ms k = some M → am_ok M = true) (hokl : am_ok M_UpRiverLaw_law = true) (hrun : ∀ X : am_X, X.1 ≤ 3072 → ∃ (n : Nat) (r : am_R), am_exec X n T_UpRiverLaw_law (0, [(0, .inr (.inr (some 1003)))], [], [], am_m0) = some r ∧ r.1 = some (.inl 1) ∧ r.2.1.length ≤ 600000 ∧ am_tot r.2.1 ≤ 7302250)
    {p : Program} {e : Env} {s : State} {m : MethodId} {below : List Frame} {meth : Method} {c : Code} (l : Launch) {b L : Nat} {xs : Nat → Int32} (hL : L ≤ 3072) (C0 : lw_At p s m meth c b L xs) : W p l e room_1 s m #[Value.ref b] below meth c s.heap [] 0 0 (lw_Z below #[Value.ref b] s) (entryFrame m ([Value.ref b] : List Value).toArray 4) := by
  obtain ⟨hx, hb, hr, hml, hown, hts, hX, hbl, hlocks, hgv⟩ := C0
  obtain ⟨D, hD⟩ := am_classes hts
  obtain ⟨aC, hA⟩ := am_arrays hts
  obtain ⟨ex, fm, hex, hE⟩ := am_start_E hL hts hX hbl hgv
  obtain ⟨n, r, hrun, hr1, hc1, hc2⟩ := hrun (L, xs, fm) hL
  have hK : va_K D am_cl (am_tys aC) s := ⟨hD, hA⟩
  have hC : am_Ctx s.heap.size ex aC D (L, xs, fm) M_UpRiverLaw_law p room_1 s m #[Value.ref b] meth c :=
    ⟨hx, hb, hml, hown, fun w hw => hts w (List.mem_filter.mp hw).1, hK, hE, hlocks, hr, fun h => absurd h (by decide), ⟨Nat.le_refl _, Nat.le_refl _⟩, hokl, Nat.le_refl _⟩
  have hret : ∀ σ : am_S, am_step (L, xs, fm) (am_mt M_UpRiverLaw_law) σ = some (true, .inr (.inr r)) → am_W p l e room_1 s m #[Value.ref b] below meth c s.heap.size ex aC D M_UpRiverLaw_law 0 0 (lw_Z below #[Value.ref b] s) σ := by
    intro σ hs H locs ls hrel
    obtain ⟨g1, g2, g3, g4, g5, g6⟩ := hrel
    unfold am_step at hs
    split at hs
    · rename_i q1 i ps k kl nx live hlook
      obtain ⟨-, hd, hck⟩ := am_row hokl hlook
      obtain ⟨v, hst, hi, hnx⟩ := am_law_ret hs hck hr1
      subst hi
      rw [hst]
      rw [show nx - σ.1 = 1 by omega] at hd
      refine va_forget (fun q hq => g5.2.2 q hq) ?_
      obtain ⟨t, ht⟩ := am_ins_sh hs
      dsimp only [am_osh] at ht
      have hl1 : σ.2.2.2.1.length ≤ r.2.1.length := by rw [ht, List.length_append]; omega
      have hl2 : am_tot σ.2.2.2.1 ≤ am_tot r.2.1 := by rw [ht, am_tot_apps]; omega
      refine W.widen (k := 600000) (n := 7302250) (by omega) (by omega) ?_
      exact lw_ret hx hb hr hlocks hd
    · cases hs
  have hW := am_body (l := l) (e := e) (below := below) (n0 := 0) (t0 := 0) hC r hret ⟨by show r.2.1.length - 0 ≤ 600000; omega, by show am_tot r.2.1 - 0 ≤ 7302250; omega⟩ n (fun k _ => am_met_all hoks k) _ hrun (Nat.zero_le _) (Nat.zero_le _)
  have hl := lv_entry ([Value.ref b]) (n := 4) (Nat.le_of_ble_eq_true rfl)
  rw [lg_entry_eq]
  have hP0 : va_P D am_cl (am_ws s.heap.size ex aC [] am_m0) s.heap := fun k q h => by simp [am_ws] at h
  have e0 : am_rl (am_ad s.heap.size ex) [(0, Sum.inr (Sum.inr (some 1003)))] = lv_args 0 [Value.ref b] := by
    simp only [am_rl, List.map_cons, List.map_nil, am_rn, Option.map_some, va_rf, am_ad_hi (show 1000 ≤ 1003 by omega), hex]
    rfl
  rw [← e0] at hl
  have hbig0 : ∀ q ∈ ([] : am_Sh), q.2 ≤ 100000 := fun q h => absurd h List.not_mem_nil
  have hfin := hW s.heap [] _ ⟨hP0, rfl, Nat.le_of_ble_eq_true rfl, hbig0, va_S.rf, hl⟩
  exact hfin
