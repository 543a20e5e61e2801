/-! a method's body: what holds of it and of its machine, how a state of the abstract machine stands for one of the machine -/
abbrev am_A (b : Nat) : Nat → Prop := fun z => b ≤ z
def am_tys (aC : Nat → ClassId) : List (ClassId × FieldType) := [(aC 100, .int), (aC 101, .boolean), (aC 102, .byte), (aC 103, .long), (aC 104, .object "UpRiver$Voyage"), (aC 105, .object "UpRiver$Sheet")]
def am_o32 (x : Int) : Value := .int (Int32.ofInt x)
def am_lens : List Nat := am_words.map fun w => w.length
def am_byts : List (List Int32) := am_words.map fun w => w.map Int32.ofInt
/-- the cells outside: constant rows, the names, the script; words of nest mates -/
def am_E (b : Nat) (ex : Nat → Nat) (X : am_X) (U : State) (H : Heap) : Prop :=
  (va_Z "UpRiver" "RULE_LEAST" "[I" (.ref (ex 1000)) (am_A b) U H ∧ va_Z "UpRiver" "RULE_MOST" "[I" (.ref (ex 1001)) (am_A b) U H ∧ va_Z "UpRiver" "RULE_AT_FIRST" "[I" (.ref (ex 1002)) (am_A b) U H ∧ va_Z "java/lang/String" "COMPACT_STRINGS" "Z" (.int 1) (am_A b) U H ∧ va_Z "jdk/internal/util/Preconditions" "SIOOBE_FORMATTER" "Ljava/util/function/BiFunction;" (bif X.2.2 then .null else .ref (ex 3000)) (am_A b) U H)
  ∧ (va_T .int (ex 1000) 7 (fun j => am_o32 (am_least.getD j 0)) (am_A b) U H ∧ va_T .int (ex 1001) 7 (fun j => am_o32 (am_most.getD j 0)) (am_A b) U H ∧ va_T .int (ex 1002) 7 (fun j => am_o32 (am_first.getD j 0)) (am_A b) U H)
  ∧ vk_S 14 am_lens am_byts (fun i => ex (2000 + i)) (fun i => ex (2100 + i)) (am_A b) U H
  ∧ (∀ i : Nat, i < 14 → vk_R "UpRiver$Reader" (am_strix.getD i (0, "")).1 (am_strix.getD i (0, "")).2 (ex (2000 + i)) U)
  ∧ (va_X (ex 1003) X.1 X.2.1 U H ∧ ¬ am_A b (ex 1003) ∧ X.1 < 2147483648)
  ∧ (∀ (o : String) (i : Nat) (y : MethodName) (h : String), Cond.methodLinkNest o i y h ∈ lw_tbl → va_Nw (.methodLinkNest o i y h) U)
  ∧ (∀ (o : String) (i : Nat) (r n d h : String), Cond.fieldLinkNest o i r n d h ∈ lw_tbl → va_Nw (.fieldLinkNest o i r n d h) U)
  ∧ va_AO "UpRiver$Voyage" U ∧ va_AO "UpRiver$Sheet" U
theorem am_E.warm {b : Nat} {ex : Nat → Nat} {X : am_X} {s U : State} {H : Heap} (hW : s.WarmedH U.vm) (h : am_E b ex X s H) : am_E b ex X U H := by
  obtain ⟨⟨z1, z2, z3, z4, z5⟩, ⟨t1, t2, t3⟩, hs, hr, ⟨x1, x2, x3⟩, hm, hf, a1, a2⟩ := h
  exact ⟨⟨z1.moved hW.alike, z2.moved hW.alike, z3.moved hW.alike, z4.moved hW.alike, z5.moved hW.alike⟩, ⟨t1.moved hW.alike, t2.moved hW.alike, t3.moved hW.alike⟩, hs.moved hW.alike, fun i hi => (hr i hi).warm hW, ⟨x1.moved hW.alike, x2, x3⟩, fun o i y hh hin => (hm o i y hh hin).warmM hW, fun o i r n d hh hin => (hf o i r n d hh hin).warmF hW, a1.moved hW.alike, a2.moved hW.alike⟩
theorem am_E.kept {b : Nat} {ex : Nat → Nat} {X : am_X} {U : State} {H H1 : Heap} (h : am_E b ex X U H) (hq : ∀ a : Nat, a < H.size → ¬ am_A b a → H1[a]? = H[a]?) : am_E b ex X U H1 := by
  obtain ⟨⟨z1, z2, z3, z4, z5⟩, ⟨t1, t2, t3⟩, hs, hr, ⟨x1, x2, x3⟩, hm, hf, a1, a2⟩ := h
  refine ⟨⟨z1.kept hq, z2.kept hq, z3.kept hq, z4.kept hq, z5.kept hq⟩, ⟨t1.kept hq, t2.kept hq, t3.kept hq⟩, hs.kept hq, hr, ⟨x1.kept (hq _ ?_ x2), x2, x3⟩, hm, hf, a1, a2⟩
  obtain ⟨scr, h1, -⟩ := x1
  exact (Array.getElem?_eq_some_iff.mp h1).1
theorem am_E.vm {b : Nat} {ex : Nat → Nat} {X : am_X} {s U : State} {H : Heap} (hv : U.vm = s.vm) (h : am_E b ex X s H) : am_E b ex X U H := by
  have hal : s.vm.Alike U.vm := by rw [hv]; exact Vm.Alike.refl _
  obtain ⟨⟨z1, z2, z3, z4, z5⟩, ⟨t1, t2, t3⟩, hs, hr, ⟨x1, x2, x3⟩, hm, hf, a1, a2⟩ := h
  exact ⟨⟨z1.moved hal, z2.moved hal, z3.moved hal, z4.moved hal, z5.moved hal⟩, ⟨t1.moved hal, t2.moved hal, t3.moved hal⟩, hs.moved hal, fun i hi => (hr i hi).same hv, ⟨x1.moved hal, x2, x3⟩, fun o i y hh hin => va_Nw.same rfl hv.symm (hm o i y hh hin), fun o i r n d hh hin => va_Nw.same rfl hv.symm (hf o i r n d hh hin), a1.moved hal, a2.moved hal⟩
def am_Ctx (b : Nat) (ex : Nat → Nat) (aC : Nat → ClassId) (D : va_G) (X : am_X) (M : am_Me) (p : Program) (R : Room) (s : State) (m : MethodId) (args : Array Value) (meth : Method) (c : Code) : Prop :=
  p.tables.exec = Jvm.exec ∧ c.code = am_mb M ∧ c.maxLocals = am_mL M ∧ s.vm.findClass (am_mn M).cls = some m.cls ∧ (∀ w ∈ am_good, w.before args s = true) ∧ va_K D am_cl (am_tys aC) s ∧ am_E b ex X s s.heap ∧ meth.locks = false ∧ meth.sig.returnType = am_mr M ∧ ((am_mn M).name = "<init>" → meth.name = "<init>") ∧ (am_mf M ≤ R.frames ∧ am_ml M ≤ R.locals) ∧ am_ok M = true ∧ b ≤ s.heap.size
def am_Rel (b : Nat) (ex : Nat → Nat) (aC : Nat → ClassId) (D : va_G) (M : am_Me) (s : State) (lv : am_L) (sh : am_Sh) (mem : am_M) (H : Heap) (locs : List Loc) (ls : Array Slot) : Prop :=
  va_P D am_cl (am_ws b ex aC sh mem) H ∧ H.size = b + sh.length ∧ sh.length < 1000 ∧ (∀ q ∈ sh, q.2 ≤ 100000) ∧ va_S (am_A b) s.heap H locs ∧ lv_has ls (am_mL M) (am_rl (am_ad b ex) lv)
/-- the fields' words and types, by class -/
def am_layix : List (List Nat) := [[260, 262, 264, 266, 268, 270], [285, 287, 289], [203, 205, 207, 209, 211, 213, 215, 217, 219, 221, 223, 225], [163, 165, 167, 169, 171, 173, 175, 177, 179, 181], [339, 341, 343, 345, 347, 349, 351], [389, 391, 393], [367, 369, 371, 373], [301, 303], [100, 102], [313, 315, 317, 319], [406, 408, 410, 412, 414, 416, 418, 420, 422, 424], [1074, 1076, 1078, 1080, 1082, 1084, 1086, 1088, 1090, 1092, 1094, 1096, 1098, 1100, 1102, 1104, 1106, 1108, 1110, 1112, 1114, 1116, 1118, 1120, 1122, 1124, 1126, 1128, 1130, 1132, 1134, 1136, 1138, 1140, 1142, 1144, 1146, 1148, 1150, 1152, 1154, 1156]]
def am_layck (q : vw_C) (ix : List Nat) : Bool := decide (u_ws q.1 q.2.1 q.2.2 = ix.filterMap (fun i => lw_tbl[i]?)) && (u_ws q.1 q.2.1 q.2.2).all goodWord
theorem am_lay0 : (List.zip am_cl am_layix).all (fun q => am_layck q.1 q.2) = true ∧ am_layix.length = am_cl.length := by decide +kernel
theorem am_lay {ci : Nat} {q : vw_C} (h : am_cl[ci]? = some q) : ∀ w ∈ u_ws q.1 q.2.1 q.2.2, w ∈ am_good := by
  obtain ⟨h1, h2⟩ := am_lay0
  have hlt := (List.getElem?_eq_some_iff.mp h).1
  obtain ⟨ix, hix⟩ : ∃ ix, am_layix[ci]? = some ix := ⟨_, List.getElem?_eq_getElem (by omega)⟩
  have hz : (List.zip am_cl am_layix)[ci]? = some (q, ix) := by rw [List.getElem?_zip_eq_some]; exact ⟨h, hix⟩
  have h3 := List.all_eq_true.mp h1 (q, ix) (List.mem_of_getElem? hz)
  unfold am_layck at h3
  rw [Bool.and_eq_true] at h3
  intro w hw
  refine List.mem_filter.mpr ⟨?_, List.all_eq_true.mp h3.2 w hw⟩
  have h4 := of_decide_eq_true h3.1
  dsimp only at h4 hw
  rw [h4] at hw
  obtain ⟨i, -, hi⟩ := List.mem_filterMap.mp hw
  exact List.mem_of_getElem? hi
theorem am_tyck : (List.range am_cl.length).all (fun ci => match am_cl[ci]? with
    | some q => (List.range q.2.2).all (fun k => decide (parseFieldDescriptor (q.2.1 k).2.2.1 = some (am_ty ci k))) && (List.range q.2.2).all (fun a => (List.range q.2.2).all (fun b => Nat.beq a b || decide ((q.2.1 a).2.1 ≠ (q.2.1 b).2.1)))
    | none => true) = true := by decide +kernel
theorem am_tyok {ci : Nat} {q : vw_C} (h : am_cl[ci]? = some q) : (∀ k, k < q.2.2 → parseFieldDescriptor (q.2.1 k).2.2.1 = some (am_ty ci k)) ∧ ∀ a, a < q.2.2 → ∀ b, b < q.2.2 → a ≠ b → (q.2.1 a).2.1 ≠ (q.2.1 b).2.1 := by
  have hlt := (List.getElem?_eq_some_iff.mp h).1
  have h1 := List.all_eq_true.mp am_tyck ci (List.mem_range.mpr hlt)
  rw [h] at h1
  dsimp only at h1
  rw [Bool.and_eq_true] at h1
  refine ⟨fun k hk => of_decide_eq_true (List.all_eq_true.mp h1.1 k (List.mem_range.mpr hk)), fun a ha b hb hab => ?_⟩
  have h2 := List.all_eq_true.mp (List.all_eq_true.mp h1.2 a (List.mem_range.mpr ha)) b (List.mem_range.mpr hb)
  rw [Bool.or_eq_true] at h2
  rcases h2 with h2 | h2
  · exact absurd (Nat.eq_of_beq_eq_true h2) hab
  · exact of_decide_eq_true h2
theorem am_cl_len : am_cl.length = 12 := by decide +kernel
theorem am_cl_small : am_cl.all (fun q => Nat.ble q.2.2 100000) = true := by decide +kernel
