/-! THE ABSTRACT MACHINE: an interpreter over worlds whose cells are numbered, ints as Int (with guards where an Int32 could differ); what it answers, the machine answers (part 05). -/
abbrev am_V : Type := Int ⊕ (Int64 ⊕ Option Nat)
abbrev am_J : Type := Nat → Nat → Int
abbrev am_K : Type := Nat → Nat → Int64
abbrev am_M : Type := am_J × am_K × (Nat → Nat → Option Nat)
abbrev am_Sh : Type := List (Nat × Nat)
abbrev am_Row : Type := Nat × Instr × List Nat × Int × Int64 × Nat × Option (List Nat)
abbrev am_L : Type := List (Nat × am_V)
abbrev am_S : Type := Nat × am_L × List am_V × am_Sh × am_M
abbrev am_C : Type := Nat × List am_V × Nat × Nat × Nat × am_S
abbrev am_R : Type := Option am_V × am_Sh × am_M
abbrev am_O : Type := am_S ⊕ (am_C ⊕ am_R)
abbrev am_X : Type := Nat × (Nat → Int32) × Bool
abbrev am_i32 (x : Int) : Prop := -2147483648 ≤ x ∧ x ≤ 2147483647
/-- writing an int, a long, a reference; a new cell -/
def am_up (J : am_J) (i j : Nat) (v : Int) : am_J := fun a b => if a = i then (if b = j then v else J a b) else J a b
def am_ul (K : am_K) (i j : Nat) (v : Int64) : am_K := fun a b => if a = i then (if b = j then v else K a b) else K a b
def am_wi (m : am_M) (i j : Nat) (v : Int) : am_M := (am_up m.1 i j v, m.2)
def am_wl (m : am_M) (i j : Nat) (v : Int64) : am_M := (m.1, am_ul m.2.1 i j v, m.2.2)
def am_ur (R : Nat → Nat → Option Nat) (i j : Nat) (v : Option Nat) : Nat → Nat → Option Nat := fun a b => if a = i then (if b = j then v else R a b) else R a b
def am_wr (m : am_M) (i j : Nat) (v : Option Nat) : am_M := (m.1, m.2.1, am_ur m.2.2 i j v)
def am_zj (J : am_J) (i : Nat) : am_J := fun a b => if a = i then 0 else J a b
def am_zk (K : am_K) (i : Nat) : am_K := fun a b => if a = i then 0 else K a b
def am_zr (R : Nat → Nat → Option Nat) (i : Nat) : Nat → Nat → Option Nat := fun a b => if a = i then none else R a b
def am_wz (m : am_M) (i : Nat) : am_M := (am_zj m.1 i, am_zk m.2.1 i, am_zr m.2.2 i)
def am_look : List am_Row → Nat → Option am_Row
  | [], _ => none
  | r :: t, pc => bif Nat.beq r.1 pc then some r else am_look t pc
def am_get : am_L → Nat → Option am_V
  | [], _ => none
  | q :: t, k => bif Nat.beq q.1 k then some q.2 else am_get t k
def am_cat : am_V → Nat
  | .inr (.inl _) => 2
  | _ => 1
/-- a store: what it takes away, then in the order of the places -/
def am_del : am_L → Nat → am_L
  | [], _ => []
  | q :: t, i => bif Nat.beq q.1 i || (Nat.beq (q.1 + 1) i && Nat.beq (am_cat q.2) 2) then am_del t i else q :: am_del t i
def am_insert : am_L → Nat × am_V → am_L
  | [], w => [w]
  | q :: t, w => bif Nat.blt w.1 q.1 then w :: q :: t else q :: am_insert t w
def am_drop : am_L → Nat → am_L
  | [], _ => []
  | q :: t, i => bif Nat.beq q.1 i then am_drop t i else q :: am_drop t i
def am_set (lv : am_L) (i : Nat) (v : am_V) : am_L := am_insert (am_del lv i) (i, v)
def am_keep (ks : List Nat) : am_L → am_L
  | [] => []
  | q :: t => bif ks.any (Nat.beq q.1) then q :: am_keep ks t else am_keep ks t
def am_live (o : Option (List Nat)) (lv : am_L) : am_L := match o with
  | none => lv
  | some ks => am_keep ks lv
def am_ps : List Nat → Nat → Nat
  | [], _ => 0
  | a :: _, 0 => a
  | _ :: t, k + 1 => am_ps t k
def am_at : am_Sh → Nat → Option (Nat × Nat)
  | [], _ => none
  | q :: _, 0 => some q
  | _ :: t, k + 1 => am_at t k
/-- the length of a cell of a kind -/
def am_arr (sh : am_Sh) (a kd : Nat) : Option Nat := match am_at sh a with
  | some q => bif Nat.beq q.1 kd then some q.2 else none
  | none => none
def am_tot (sh : am_Sh) : Nat := (sh.map fun q => q.2).sum
/-- the rows that nobody writes: the rules' bounds, the script, the bytes of the names -/
def am_least : List Int := [2, 5, 1, 1, 0, 1, 1]
def am_most : List Int := [8, 120, 20, 8, 8, 9, 300]
def am_first : List Int := [6, 30, 6, 4, 2, 2, 300]
def am_words : List (List Int) := [[114, 101, 97, 99, 104, 101, 115], [98, 101, 97, 116], [100, 114, 97, 117, 103, 104, 116], [112, 111, 105, 110, 116], [115, 104, 105, 102, 116], [116, 117, 114, 110], [100, 97, 114, 107], [98, 97, 110, 107], [100, 101, 101, 112], [101, 100, 100, 121], [108, 101, 101], [119, 105, 110, 100], [116, 105, 100, 101], [104, 105, 103, 104]]
def am_ext (X : am_X) (a : Nat) : Option (Nat × Nat × (Nat → Int)) :=
  bif Nat.blt a 1000 then none else
  bif Nat.beq a 1000 then some (100, 7, fun j => am_least.getD j 0) else
  bif Nat.beq a 1001 then some (100, 7, fun j => am_most.getD j 0) else
  bif Nat.beq a 1002 then some (100, 7, fun j => am_first.getD j 0) else
  bif Nat.beq a 1003 then some (100, X.1, fun j => (X.2.1 j).toInt) else
  bif Nat.ble 2100 a && Nat.blt a 2114 then some (102, (am_words.getD (a - 2100) []).length, fun j => (am_words.getD (a - 2100) []).getD j 0) else none
/-- division and its rest, cut towards 0 (the divisor is above 0) -/
def am_dv (x y : Int) : Int := if 0 ≤ x then x / y else -((-x) / y)
def am_rm (x y : Int) : Int := if 0 ≤ x then x % y else -((-x) % y)
def am_bit (f : Int32 → Int32 → Int32) (x y : Int) : Int := (f (Int32.ofInt x) (Int32.ofInt y)).toInt
def am_i2b (x : Int) : Int := (Int32.ofInt x).toInt8.toInt32.toInt
def am_i2s (x : Int) : Int := (Int32.ofInt x).toInt16.toInt32.toInt
def am_i2c (x : Int) : Int := ((Int32.ofInt x).toUInt32 % 65536).toInt32.toInt
def am_i2l (x : Int) : Int64 := (Int32.ofInt x).toInt64
def am_l2i (x : Int64) : Int := x.toInt32.toInt
def am_lcmp (x y : Int64) : Int := if y < x then 1 else if x = y then 0 else -1
def am_and (x y : Int) : Int := am_bit (fun a b => a &&& b) x y
def am_or (x y : Int) : Int := am_bit (fun a b => a ||| b) x y
def am_xor (x y : Int) : Int := am_bit (fun a b => a ^^^ b) x y
def am_shl (x y : Int) : Int := am_bit (fun a b => a <<< (b &&& 31)) x y
def am_shr (x y : Int) : Int := am_bit (fun a b => a >>> (b &&& 31)) x y
def am_lshl (a : Int64) (b : Int) : Int64 := a <<< ((Int32.ofInt b).toInt64 &&& 63)
def am_lshr (a : Int64) (b : Int) : Int64 := a >>> ((Int32.ofInt b).toInt64 &&& 63)
def am_lushr (a : Int64) (b : Int) : Int64 := (a.toUInt64 >>> ((Int32.ofInt b).toInt64.toUInt64 &&& Int64.toUInt64 63)).toInt64
abbrev am_G : Type := Bool × am_O
def am_go (nx : Nat) (lv : am_L) (sh : am_Sh) (m : am_M) : Option (Bool × List am_V) → Option am_G
  | some (g, st) => some (g, .inl (nx, lv, st, sh, m))
  | none => none
def am_ldI (lv : am_L) (x : Nat) (st : List am_V) : Option (Bool × List am_V) := match am_get lv x with
  | some (.inl v) => some (true, .inl v :: st)
  | _ => none
def am_ldL (lv : am_L) (x : Nat) (st : List am_V) : Option (Bool × List am_V) := match am_get lv x with
  | some (.inr (.inl v)) => some (true, .inr (.inl v) :: st)
  | _ => none
def am_ldA (lv : am_L) (x : Nat) (st : List am_V) : Option (Bool × List am_V) := match am_get lv x with
  | some (.inr (.inr (some v))) => some (true, .inr (.inr (some v)) :: st)
  | _ => none
def am_b2 (f : Int → Int → Int) : List am_V → Option (Bool × List am_V)
  | .inl b :: .inl a :: st => some (true, .inl (f a b) :: st)
  | _ => none
def am_d2 (f : Int → Int → Int) : List am_V → Option (Bool × List am_V)
  | .inl b :: .inl a :: st => some (decide (0 < b ∧ am_i32 b) && decide (am_i32 a), .inl (f a b) :: st)
  | _ => none
def am_u1 (f : Int → Int) : List am_V → Option (Bool × List am_V)
  | .inl a :: st => some (true, .inl (f a) :: st)
  | _ => none
def am_bl (f : Int64 → Int64 → Int64) : List am_V → Option (Bool × List am_V)
  | .inr (.inl b) :: .inr (.inl a) :: st => some (true, .inr (.inl (f a b)) :: st)
  | _ => none
def am_sl (f : Int64 → Int → Int64) : List am_V → Option (Bool × List am_V)
  | .inl b :: .inr (.inl a) :: st => some (true, .inr (.inl (f a b)) :: st)
  | _ => none
def am_il : List am_V → Option (Bool × List am_V)
  | .inl a :: st => some (true, .inr (.inl (am_i2l a)) :: st)
  | _ => none
def am_li : List am_V → Option (Bool × List am_V)
  | .inr (.inl a) :: st => some (true, .inl (am_l2i a) :: st)
  | _ => none
def am_lc : List am_V → Option (Bool × List am_V)
  | .inr (.inl b) :: .inr (.inl a) :: st => some (true, .inl (am_lcmp a b) :: st)
  | _ => none
def am_dup : List am_V → Option (Bool × List am_V)
  | v :: st => bif Nat.beq (am_cat v) 1 then some (true, v :: v :: st) else none
  | _ => none
def am_dup2 : List am_V → Option (Bool × List am_V)
  | v :: w :: st => bif Nat.beq (am_cat v) 1 && Nat.beq (am_cat w) 1 then some (true, v :: w :: v :: w :: st) else none
  | _ => none
def am_pop : List am_V → Option (Bool × List am_V)
  | v :: st => bif Nat.beq (am_cat v) 1 then some (true, st) else none
  | _ => none
def am_cb (c : ClassFile.Cond) (a b : Int) : Bool := match c with
  | .eq => decide (a = b)
  | .ne => !decide (a = b)
  | .lt => decide (a < b)
  | .ge => !decide (a < b)
  | .gt => decide (b < a)
  | .le => !decide (b < a)
def am_sw (lo hi : Int) (ps : List Nat) (x : Int) : Nat := if x < lo ∨ hi < x then am_ps ps 0 else am_ps ps ((x - lo).toNat + 1)
def am_take : Nat → List am_V → List am_V → Option (List am_V × List am_V)
  | 0, st, acc => some (acc, st)
  | n + 1, v :: st, acc => am_take n st (v :: acc)
  | _ + 1, [], _ => none
def am_cats : List am_V → Nat
  | [] => 0
  | v :: st => am_cat v + am_cats st
def am_in (j : Int) (n : Nat) : Bool := decide (0 ≤ j ∧ j < (n : Int))
/-- reading a place of a row of ints (kd 100), booleans (101), bytes (102) -/
def am_aldI (X : am_X) (kd : Nat) (sh : am_Sh) (m : am_M) : List am_V → Option (Bool × List am_V)
  | .inl j :: .inr (.inr (some a)) :: st => match am_arr sh a kd with
    | some n => some (am_in j n, .inl (m.1 a j.toNat) :: st)
    | none => match am_ext X a with
      | some (k2, n, f) => bif Nat.beq k2 kd then some (am_in j n, .inl (f j.toNat) :: st) else none
      | none => none
  | _ => none
def am_aldL (sh : am_Sh) (m : am_M) : List am_V → Option (Bool × List am_V)
  | .inl j :: .inr (.inr (some a)) :: st => match am_arr sh a 103 with
    | some n => some (am_in j n, .inr (.inl (m.2.1 a j.toNat)) :: st)
    | none => none
  | _ => none
def am_aldA (kd : Nat) (sh : am_Sh) (m : am_M) : List am_V → Option (Bool × List am_V)
  | .inl j :: .inr (.inr (some a)) :: st => match am_arr sh a kd with
    | some n => some (am_in j n, .inr (.inr (m.2.2 a j.toNat)) :: st)
    | none => none
  | _ => none
def am_alen (X : am_X) (kd : Nat) (sh : am_Sh) : List am_V → Option (Bool × List am_V)
  | .inr (.inr (some a)) :: st => match am_arr sh a kd with
    | some n => some (true, .inl (n : Int) :: st)
    | none => match am_ext X a with
      | some (k2, n, _) => bif Nat.beq k2 kd then some (true, .inl (n : Int) :: st) else none
      | none => none
  | _ => none
def am_gf (ps : List Nat) (sh : am_Sh) (m : am_M) : List am_V → Option (Bool × List am_V)
  | .inr (.inr (some a)) :: st => bif Nat.beq (am_ps ps 0) 900 then
      (bif Nat.ble 2000 a && Nat.blt a 2014 then (bif Nat.beq (am_ps ps 1) 0 then some (true, .inr (.inr (some (a + 100))) :: st) else some (true, .inl 0 :: st)) else none)
    else match am_arr sh a (am_ps ps 0) with
      | some n => bif Nat.blt (am_ps ps 1) n then (bif Nat.blt (am_ps ps 2) 2 then some (true, .inl (m.1 a (am_ps ps 1)) :: st) else some (true, .inr (.inr (m.2.2 a (am_ps ps 1))) :: st)) else none
      | none => none
  | _ => none
def am_ins (X : am_X) (i : Instr) (ps : List Nat) (k : Int) (kl : Int64) (nx : Nat) (lv : am_L) (st : List am_V) (sh : am_Sh) (m : am_M) : Option am_G :=
  match i with
  | .iconst _ => some (true, .inl (nx, lv, .inl k :: st, sh, m))
  | .bipush _ => some (true, .inl (nx, lv, .inl k :: st, sh, m))
  | .sipush _ => some (true, .inl (nx, lv, .inl k :: st, sh, m))
  | .lconst _ => some (true, .inl (nx, lv, .inr (.inl kl) :: st, sh, m))
  | .ldc2_w _ => some (true, .inl (nx, lv, .inr (.inl kl) :: st, sh, m))
  | .ldc _ => some (true, .inl (nx, lv, .inr (.inr (some (am_ps ps 0))) :: st, sh, m))
  | .iload _ => am_go nx lv sh m (am_ldI lv (am_ps ps 0) st)
  | .iload_n _ => am_go nx lv sh m (am_ldI lv (am_ps ps 0) st)
  | .lload _ => am_go nx lv sh m (am_ldL lv (am_ps ps 0) st)
  | .lload_n _ => am_go nx lv sh m (am_ldL lv (am_ps ps 0) st)
  | .aload _ => am_go nx lv sh m (am_ldA lv (am_ps ps 0) st)
  | .aload_n _ => am_go nx lv sh m (am_ldA lv (am_ps ps 0) st)
  | .istore _ => match st with
    | .inl v :: st => some (true, .inl (nx, am_set lv (am_ps ps 0) (.inl v), st, sh, m))
    | _ => none
  | .istore_n _ => match st with
    | .inl v :: st => some (true, .inl (nx, am_set lv (am_ps ps 0) (.inl v), st, sh, m))
    | _ => none
  | .lstore _ => match st with
    | .inr (.inl v) :: st => some (true, .inl (nx, am_set (am_drop lv (am_ps ps 0 + 1)) (am_ps ps 0) (.inr (.inl v)), st, sh, m))
    | _ => none
  | .lstore_n _ => match st with
    | .inr (.inl v) :: st => some (true, .inl (nx, am_set (am_drop lv (am_ps ps 0 + 1)) (am_ps ps 0) (.inr (.inl v)), st, sh, m))
    | _ => none
  | .astore _ => match st with
    | .inr (.inr (some v)) :: st => some (true, .inl (nx, am_set lv (am_ps ps 0) (.inr (.inr (some v))), st, sh, m))
    | _ => none
  | .astore_n _ => match st with
    | .inr (.inr (some v)) :: st => some (true, .inl (nx, am_set lv (am_ps ps 0) (.inr (.inr (some v))), st, sh, m))
    | _ => none
  | .iinc _ _ => match am_get lv (am_ps ps 0) with
    | some (.inl v) => some (true, .inl (nx, am_set lv (am_ps ps 0) (.inl (v + k)), st, sh, m))
    | _ => none
  | .iadd => am_go nx lv sh m (am_b2 (fun a b => a + b) st)
  | .isub => am_go nx lv sh m (am_b2 (fun a b => a - b) st)
  | .imul => am_go nx lv sh m (am_b2 (fun a b => a * b) st)
  | .iand => am_go nx lv sh m (am_b2 am_and st)
  | .ior => am_go nx lv sh m (am_b2 am_or st)
  | .ixor => am_go nx lv sh m (am_b2 am_xor st)
  | .ishl => am_go nx lv sh m (am_b2 am_shl st)
  | .ishr => am_go nx lv sh m (am_b2 am_shr st)
  | .idiv => am_go nx lv sh m (am_d2 am_dv st)
  | .irem => am_go nx lv sh m (am_d2 am_rm st)
  | .ineg => am_go nx lv sh m (am_u1 (fun a => -a) st)
  | .i2b => am_go nx lv sh m (am_u1 am_i2b st)
  | .i2s => am_go nx lv sh m (am_u1 am_i2s st)
  | .i2c => am_go nx lv sh m (am_u1 am_i2c st)
  | .ladd => am_go nx lv sh m (am_bl (fun a b => a + b) st)
  | .lsub => am_go nx lv sh m (am_bl (fun a b => a - b) st)
  | .lmul => am_go nx lv sh m (am_bl (fun a b => a * b) st)
  | .land => am_go nx lv sh m (am_bl (fun a b => a &&& b) st)
  | .lor => am_go nx lv sh m (am_bl (fun a b => a ||| b) st)
  | .lshl => am_go nx lv sh m (am_sl am_lshl st)
  | .lshr => am_go nx lv sh m (am_sl am_lshr st)
  | .lushr => am_go nx lv sh m (am_sl am_lushr st)
  | .i2l => am_go nx lv sh m (am_il st)
  | .l2i => am_go nx lv sh m (am_li st)
  | .lcmp => am_go nx lv sh m (am_lc st)
  | .dup => am_go nx lv sh m (am_dup st)
  | .dup2 => am_go nx lv sh m (am_dup2 st)
  | .pop => am_go nx lv sh m (am_pop st)
  | .goto _ => some (true, .inl (am_ps ps 0, lv, st, sh, m))
  | .ifCond c _ => match st with
    | .inl a :: st => some (decide (am_i32 a), .inl (bif am_cb c a 0 then am_ps ps 0 else nx, lv, st, sh, m))
    | _ => none
  | .if_icmp c _ => match st with
    | .inl b :: .inl a :: st => some (decide (am_i32 b) && decide (am_i32 a), .inl (bif am_cb c a b then am_ps ps 0 else nx, lv, st, sh, m))
    | _ => none
  | .tableswitch _ lo hi _ => match st with
    | .inl a :: st => some (decide (am_i32 a), .inl (am_sw lo hi ps a, lv, st, sh, m))
    | _ => none
  | .getfield _ => am_go nx lv sh m (am_gf ps sh m st)
  | .getstatic _ => bif Nat.ble 1000 (am_ps ps 0) then some (true, .inl (nx, lv, .inr (.inr (some (am_ps ps 0))) :: st, sh, m)) else bif Nat.beq (am_ps ps 0) 1 then some (true, .inl (nx, lv, .inl 1 :: st, sh, m)) else some (true, .inl (nx, lv, (.inr (.inr (bif X.2.2 then none else some 3000))) :: st, sh, m))
  | .putfield _ => match st with
    | .inl v :: .inr (.inr (some a)) :: st => match am_arr sh a (am_ps ps 0) with
      | some n => bif Nat.blt (am_ps ps 1) n then (bif Nat.beq (am_ps ps 2) 0 then some (true, .inl (nx, lv, st, sh, am_wi m a (am_ps ps 1) v)) else bif Nat.beq (am_ps ps 2) 1 then some (decide (v = 0 ∨ v = 1), .inl (nx, lv, st, sh, am_wi m a (am_ps ps 1) v)) else none) else none
      | none => none
    | .inr (.inr (some v)) :: .inr (.inr (some a)) :: st => match am_arr sh a (am_ps ps 0) with
      | some n => bif Nat.blt (am_ps ps 1) n then (bif Nat.beq (am_ps ps 2) 2 then some (true, .inl (nx, lv, st, sh, am_wr m a (am_ps ps 1) (some v))) else none) else none
      | none => none
    | _ => none
  | .iaload => am_go nx lv sh m (am_aldI X 100 sh m st)
  | .baload => am_go nx lv sh m (am_aldI X (am_ps ps 0) sh m st)
  | .laload => am_go nx lv sh m (am_aldL sh m st)
  | .aaload => am_go nx lv sh m (am_aldA (am_ps ps 0) sh m st)
  | .iastore => match st with
    | .inl v :: .inl j :: .inr (.inr (some a)) :: st => match am_arr sh a 100 with
      | some n => some (am_in j n, .inl (nx, lv, st, sh, am_wi m a j.toNat v))
      | none => none
    | _ => none
  | .bastore => match st with
    | .inl v :: .inl j :: .inr (.inr (some a)) :: st => bif Nat.beq (am_ps ps 0) 101 then (match am_arr sh a 101 with
        | some n => some (decide (v = 0 ∨ v = 1) && am_in j n, .inl (nx, lv, st, sh, am_wi m a j.toNat v))
        | none => none) else (match am_arr sh a 102 with
        | some n => some (am_in j n, .inl (nx, lv, st, sh, am_wi m a j.toNat (am_i2b v)))
        | none => none)
    | _ => none
  | .lastore => match st with
    | .inr (.inl v) :: .inl j :: .inr (.inr (some a)) :: st => match am_arr sh a 103 with
      | some n => some (am_in j n, .inl (nx, lv, st, sh, am_wl m a j.toNat v))
      | none => none
    | _ => none
  | .aastore => match st with
    | .inr (.inr (some v)) :: .inl j :: .inr (.inr (some a)) :: st => match am_arr sh a (am_ps ps 0), am_arr sh v (am_ps ps 1) with
      | some n, some _ => some (am_in j n, .inl (nx, lv, st, sh, am_wr m a j.toNat (some v)))
      | _, _ => none
    | _ => none
  | .arraylength => am_go nx lv sh m (am_alen X (am_ps ps 0) sh st)
  | .new _ => bif Nat.blt sh.length 999 && Nat.ble (am_ps ps 1) 100000 then some (true, .inl (nx, lv, .inr (.inr (some sh.length)) :: st, sh ++ [(am_ps ps 0, am_ps ps 1)], am_wz m sh.length)) else none
  | .newarray _ => match st with
    | .inl n :: st => bif Nat.blt sh.length 999 then some (decide (0 ≤ n ∧ n ≤ 100000), .inl (nx, lv, .inr (.inr (some sh.length)) :: st, sh ++ [(am_ps ps 0, n.toNat)], am_wz m sh.length)) else none
    | _ => none
  | .anewarray _ => match st with
    | .inl n :: st => bif Nat.blt sh.length 999 then some (decide (0 ≤ n ∧ n ≤ 100000), .inl (nx, lv, .inr (.inr (some sh.length)) :: st, sh ++ [(am_ps ps 0, n.toNat)], am_wz m sh.length)) else none
    | _ => none
  | .invokevirtual _ => match am_take (am_ps ps 1) st [] with
    | some (.inr (.inr (some a)) :: as, st) => bif Nat.ble (am_cats st) 8 && Nat.ble (am_cats (.inr (.inr (some a)) :: as)) (am_ps ps 2) then
        (bif Nat.beq (am_ps ps 5) 900 then (bif Nat.ble 2000 a && Nat.blt a 2014 then some (true, .inr (.inl (am_ps ps 0, .inr (.inr (some a)) :: as, am_ps ps 2, am_ps ps 3, am_ps ps 4, nx, lv, st, sh, m))) else none)
         else match am_arr sh a (am_ps ps 5) with
          | some _ => some (true, .inr (.inl (am_ps ps 0, .inr (.inr (some a)) :: as, am_ps ps 2, am_ps ps 3, am_ps ps 4, nx, lv, st, sh, m)))
          | none => none) else none
    | _ => none
  | .invokespecial _ => bif Nat.beq (am_ps ps 0) 9999 then (match st with
      | .inr (.inr (some _)) :: st => bif Nat.ble (am_cats st) 8 then some (true, .inl (nx, lv, st, sh, m)) else none
      | _ => none) else match am_take (am_ps ps 1) st [] with
    | some (.inr (.inr (some a)) :: as, st) => bif Nat.ble (am_cats st) 8 && Nat.ble (am_cats (.inr (.inr (some a)) :: as)) (am_ps ps 2) then some (true, .inr (.inl (am_ps ps 0, .inr (.inr (some a)) :: as, am_ps ps 2, am_ps ps 3, am_ps ps 4, nx, lv, st, sh, m))) else none
    | _ => none
  | .invokestatic _ => match am_take (am_ps ps 1) st [] with
    | some (as, st) => bif Nat.ble (am_cats st) 8 && Nat.ble (am_cats as) (am_ps ps 2) then some (true, .inr (.inl (am_ps ps 0, as, am_ps ps 2, am_ps ps 3, am_ps ps 4, nx, lv, st, sh, m))) else none
    | none => none
  | .ireturn => match st with
    | [.inl v] => bif Nat.beq (am_ps ps 0) 0 then some (true, .inr (.inr (some (.inl v), sh, m))) else bif Nat.beq (am_ps ps 0) 1 then some (decide (v = 0 ∨ v = 1), .inr (.inr (some (.inl v), sh, m))) else some (decide (0 ≤ v ∧ v < 128), .inr (.inr (some (.inl v), sh, m)))
    | _ => none
  | .lreturn => match st with
    | [.inr (.inl v)] => some (true, .inr (.inr (some (.inr (.inl v)), sh, m)))
    | _ => none
  | .areturn => match st with
    | [.inr (.inr (some v))] => some (true, .inr (.inr (some (.inr (.inr (some v))), sh, m)))
    | _ => none
  | .return_ => match st with
    | [] => some (true, .inr (.inr (none, sh, m)))
    | _ => none
  | _ => none
def am_step (X : am_X) (T : List am_Row) (σ : am_S) : Option am_G := match am_look T σ.1 with
  | some (_, i, ps, k, kl, nx, live) => am_ins X i ps k kl nx (am_live live σ.2.1) σ.2.2.1 σ.2.2.2.1 σ.2.2.2.2
  | none => none
