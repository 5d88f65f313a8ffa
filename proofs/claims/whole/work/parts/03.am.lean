/-! ===== THE SMALL MACHINE (am_): memory as functions, methods by number; run by fuel and depth. Part 04 and on: what it does, the real machine does. ===== -/
abbrev am_L : Type := Nat ⊕ (Nat × Nat)
abbrev am_Rl : Type := List ((Nat × Nat) × Nat)
abbrev am_M : Type := List am_L × (Nat → Nat → Int32) × (Nat → Nat → Int64) × am_Rl × (Nat → Option Nat)
abbrev am_Lo : Type := List (Nat × Value)
def am_row (k : Nat) : am_R := am_mt.getD k ((⟨"", "", ""⟩, ⟨#[]⟩), (0, none), (0, 0, 0), (0, 0, 0, 0))
def am_y (k : Nat) : MethodName := (am_row k).1.1
def am_by (k : Nat) : ByteArray := if k = 264 then code else match lw_tbl[(am_row k).2.2.2.1]? with
  | some (.code _ b _ _) => b
  | _ => ⟨#[]⟩
def am_ml (k : Nat) : Nat := (am_row k).2.1.1
def am_rt (k : Nat) : Option FieldType := (am_row k).2.1.2
def am_np (k : Nat) : Nat := (am_row k).2.2.1.1
def am_kd (k : Nat) : Nat := (am_row k).2.2.1.2.1
def am_rc (k : Nat) : Nat := (am_row k).2.2.1.2.2
def am_ty (c j : Nat) : FieldType := (am_tyL.getD c []).getD j .int
def am_nf (c : Nat) : Nat := (am_tyL.getD c []).length
def am_sin (j : Nat) : Int32 := am_sinL.getD j 0
def am_at (k pc : Nat) : Option (Instr × Nat × Nat × Nat) := ((am_cd.getD k []).find? (fun q => q.1 == pc)).map (fun q => q.2)
def am_sI (I : Nat → Nat → Int32) (a : Nat) (f : Nat → Int32) : Nat → Nat → Int32 := fun b => if b = a then f else I b
def am_sL (I : Nat → Nat → Int64) (a : Nat) (f : Nat → Int64) : Nat → Nat → Int64 := fun b => if b = a then f else I b
/-- the references: a list of places and what they hold; but for one field (class 0, place 0), which is held apart -/
def am_rl (R : am_Rl) (a j : Nat) : Option Nat := (R.find? (fun q => q.1.1 == a && q.1.2 == j)).map (fun q => q.2)
def am_rf (M : am_M) (c a j : Nat) : Option Nat := if c = 0 ∧ j = 0 then M.2.2.2.2 a else am_rl M.2.2.2.1 a j
/-- the memory with ints, longs, references of one cell anew -/
def am_uI (M : am_M) (a : Nat) (f : Nat → Int32) : am_M := (M.1, am_sI M.2.1 a f, M.2.2.1, M.2.2.2)
def am_uL (M : am_M) (a : Nat) (f : Nat → Int64) : am_M := (M.1, M.2.1, am_sL M.2.2.1 a f, M.2.2.2)
def am_uR (M : am_M) (a j b : Nat) : am_M := (M.1, M.2.1, M.2.2.1, ((a, j), b) :: M.2.2.2.1, M.2.2.2.2)
def am_uA (M : am_M) (a b : Nat) : am_M := (M.1, M.2.1, M.2.2.1, M.2.2.2.1, fun x => if x = a then some b else M.2.2.2.2 x)
/-- one cell more, all of it 0 -/
def am_new (M : am_M) (x : am_L) : am_M := (M.1 ++ [x], am_sI M.2.1 M.1.length (fun _ => 0), am_sL M.2.2.1 M.1.length (fun _ => 0), M.2.2.2.1.filter (fun q => !(q.1.1 == M.1.length)), fun y => if y = M.1.length then none else M.2.2.2.2 y)
/-- a field's value -/
def am_gv (M : am_M) (c a j : Nat) : Value := match am_ty c j with
  | .long => .long (M.2.2.1 a j)
  | .object _ => va_rf (am_rf M c a j)
  | .array _ => va_rf (am_rf M c a j)
  | _ => .int (M.2.1 a j)
/-- a field's value set -/
def am_sv (M : am_M) (c a j : Nat) (v : Value) : Option am_M := match am_ty c j, v with
  | .long, .long x => some (am_uL M a (vp_updL (M.2.2.1 a) j x))
  | .object _, .ref b => some (if c = 0 ∧ j = 0 then am_uA M a b else am_uR M a j b)
  | .array _, .ref b => some (if c = 0 ∧ j = 0 then am_uA M a b else am_uR M a j b)
  | .int, .int x => some (am_uI M a (upd (M.2.1 a) j x))
  | .boolean, .int x => if x = 0 ∨ x = 1 then some (am_uI M a (upd (M.2.1 a) j x)) else none
  | _, _ => none
def am_len (ins : Instr) (a1 : Nat) : Nat := match ins with
  | .aload _ | .iload _ | .lload _ | .istore _ | .lstore _ | .astore _ | .bipush _ | .ldc _ | .newarray _ => 2
  | .sipush _ | .ldc_w _ | .ldc2_w _ | .iinc _ _ | .getfield _ | .putfield _ | .getstatic _ | .invokevirtual _ | .invokestatic _ | .invokespecial _ | .new _ | .anewarray _ | .goto _ | .ifCond _ _ | .if_icmp _ _ => 3
  | .tableswitch _ _ _ _ => a1
  | .lookupswitch _ _ => a1
  | _ => 1
/-- what works on the operand stack alone -/
def am_p (ins : Instr) (a1 a2 : Nat) (st : List Value) : Option (List Value) := match ins, st with
  | .iconst n, st => some (.int (Int32.ofInt n) :: st)
  | .bipush n, st => some (.int (Int8.ofInt n).toInt32 :: st)
  | .sipush n, st => some (.int (Int16.ofInt n).toInt32 :: st)
  | .lconst n, st => some (.long (Int64.ofNat n.val) :: st)
  | .ldc _, st => if a1 = 0 then some (.int (Int32.ofNat a2) :: st) else if a1 = 1 then some (.float (UInt32.ofNat a2) :: st) else none
  | .ldc_w _, st => if a1 = 0 then some (.int (Int32.ofNat a2) :: st) else if a1 = 1 then some (.float (UInt32.ofNat a2) :: st) else none
  | .ldc2_w _, st => some (.long (Int64.ofNat a2) :: st)
  | .iadd, .int y :: .int x :: st => some (.int (x + y) :: st)
  | .isub, .int y :: .int x :: st => some (.int (x - y) :: st)
  | .imul, .int y :: .int x :: st => some (.int (x * y) :: st)
  | .iand, .int y :: .int x :: st => some (.int (x &&& y) :: st)
  | .ior, .int y :: .int x :: st => some (.int (x ||| y) :: st)
  | .ishl, .int y :: .int x :: st => some (.int (x <<< (y &&& 31)) :: st)
  | .ishr, .int y :: .int x :: st => some (.int (x >>> (y &&& 31)) :: st)
  | .iushr, .int y :: .int x :: st => some (.int (x.toUInt32 >>> (y.toUInt32 &&& Int32.toUInt32 31)).toInt32 :: st)
  | .idiv, .int y :: .int x :: st => if y = 0 then none else some (.int (x / y) :: st)
  | .irem, .int y :: .int x :: st => if y = 0 then none else some (.int (x - x / y * y) :: st)
  | .ineg, .int x :: st => some (.int (-x) :: st)
  | .ladd, .long y :: .long x :: st => some (.long (x + y) :: st)
  | .lsub, .long y :: .long x :: st => some (.long (x - y) :: st)
  | .lmul, .long y :: .long x :: st => some (.long (x * y) :: st)
  | .land, .long y :: .long x :: st => some (.long (x &&& y) :: st)
  | .lor, .long y :: .long x :: st => some (.long (x ||| y) :: st)
  | .lshl, .int y :: .long x :: st => some (.long (x <<< (y.toInt64 &&& 63)) :: st)
  | .lshr, .int y :: .long x :: st => some (.long (x >>> (y.toInt64 &&& 63)) :: st)
  | .ldiv, .long y :: .long x :: st => if y = 0 then none else some (.long (x / y) :: st)
  | .lrem, .long y :: .long x :: st => if y = 0 then none else some (.long (x - x / y * y) :: st)
  | .lneg, .long x :: st => some (.long (-x) :: st)
  | .lcmp, .long y :: .long x :: st => some (.int (lg_cmp x y) :: st)
  | .i2l, .int x :: st => some (.long x.toInt64 :: st)
  | .l2i, .long x :: st => some (.int x.toInt32 :: st)
  | .i2b, .int x :: st => some (.int x.toInt8.toInt32 :: st)
  | .i2c, .int x :: st => some (.int (x.toUInt32 % 65536).toInt32 :: st)
  | .pop, v :: st => if v.category = 1 then some st else none
  | .dup, v :: st => if v.category = 1 then some (v :: v :: st) else none
  | .dup2, v :: w :: st => if v.category = 1 ∧ w.category = 1 then some (v :: w :: v :: w :: st) else none
  | _, _ => none
def am_lk (lo : am_Lo) (i : Nat) : Option Value := (lo.find? (fun q => q.1 == i)).map (fun q => q.2)
def am_s1 (lo : am_Lo) (i : Nat) (v : Value) : am_Lo := (i, v) :: lo.filter (fun q => !(q.1 == i) && !(q.1 + 1 == i && q.2.category == 2))
def am_s2 (lo : am_Lo) (i : Nat) (v : Value) : am_Lo := (i, v) :: lo.filter (fun q => !(q.1 == i) && (!(q.1 == i + 1) && !(q.1 + 1 == i && q.2.category == 2)))
def am_ldI (lo : am_Lo) (i : Nat) (st : List Value) : Option (am_Lo × List Value) := match am_lk lo i with
  | some (.int x) => some (lo, .int x :: st)
  | _ => none
def am_ldL (lo : am_Lo) (i : Nat) (st : List Value) : Option (am_Lo × List Value) := match am_lk lo i with
  | some (.long x) => some (lo, .long x :: st)
  | _ => none
def am_ldA (lo : am_Lo) (i : Nat) (st : List Value) : Option (am_Lo × List Value) := match am_lk lo i with
  | some (.ref a) => some (lo, .ref a :: st)
  | some (.float u) => some (lo, .float u :: st)
  | _ => none
def am_stI (ml : Nat) (lo : am_Lo) (i : Nat) (st : List Value) : Option (am_Lo × List Value) := match st with
  | .int x :: st => if i < ml then some (am_s1 lo i (.int x), st) else none
  | _ => none
def am_stL (ml : Nat) (lo : am_Lo) (i : Nat) (st : List Value) : Option (am_Lo × List Value) := match st with
  | .long x :: st => if i + 1 < ml then some (am_s2 lo i (.long x), st) else none
  | _ => none
def am_stA (ml : Nat) (lo : am_Lo) (i : Nat) (st : List Value) : Option (am_Lo × List Value) := match st with
  | .ref x :: st => if i < ml then some (am_s1 lo i (.ref x), st) else none
  | _ => none
/-- loads and stores of locals -/
def am_l (ml : Nat) (ins : Instr) (lo : am_Lo) (st : List Value) : Option (am_Lo × List Value) := match ins with
  | .iload i => am_ldI lo i st
  | .iload_n i => am_ldI lo i.val st
  | .lload i => am_ldL lo i st
  | .lload_n i => am_ldL lo i.val st
  | .aload i => am_ldA lo i st
  | .aload_n i => am_ldA lo i.val st
  | .istore i => am_stI ml lo i st
  | .istore_n i => am_stI ml lo i.val st
  | .lstore i => am_stL ml lo i st
  | .lstore_n i => am_stL ml lo i.val st
  | .astore i => am_stA ml lo i st
  | .astore_n i => am_stA ml lo i.val st
  | .iinc i n => match am_lk lo i with
    | some (.int x) => if i < ml then some (am_s1 lo i (.int (x + Int32.ofInt n)), st) else none
    | _ => none
  | _ => none
def am_j (pc : Nat) (off : Int) (st : List Value) : Option (Nat × List Value) := if 0 ≤ (pc : Int) + off then some (((pc : Int) + off).toNat, st) else none
def am_cj (b : Bool) (pc : Nat) (off : Int) (st : List Value) : Option (Nat × List Value) := if 0 ≤ (pc : Int) + off then some (if b = true then ((pc : Int) + off).toNat else pc + 3, st) else none
/-- jumps -/
def am_b (ins : Instr) (pc : Nat) (st : List Value) : Option (Nat × List Value) := match ins, st with
  | .goto off, st => am_j pc off st
  | .ifCond .eq off, .int x :: st => am_cj (decide (x = 0)) pc off st
  | .ifCond .ne off, .int x :: st => am_cj (decide (¬ x = 0)) pc off st
  | .ifCond .lt off, .int x :: st => am_cj (decide (x < 0)) pc off st
  | .ifCond .ge off, .int x :: st => am_cj (decide (0 ≤ x)) pc off st
  | .ifCond .gt off, .int x :: st => am_cj (decide (0 < x)) pc off st
  | .ifCond .le off, .int x :: st => am_cj (decide (x ≤ 0)) pc off st
  | .if_icmp .eq off, .int y :: .int x :: st => am_cj (decide (x = y)) pc off st
  | .if_icmp .ne off, .int y :: .int x :: st => am_cj (decide (¬ x = y)) pc off st
  | .if_icmp .lt off, .int y :: .int x :: st => am_cj (decide (x < y)) pc off st
  | .if_icmp .ge off, .int y :: .int x :: st => am_cj (decide (y ≤ x)) pc off st
  | .if_icmp .gt off, .int y :: .int x :: st => am_cj (decide (y < x)) pc off st
  | .if_icmp .le off, .int y :: .int x :: st => am_cj (decide (x ≤ y)) pc off st
  | .tableswitch dflt lo hi offs, .int x :: st => if x.toInt < lo ∨ hi < x.toInt then am_j pc dflt st else match offs[(x.toInt - lo).toNat]? with
    | some off => am_j pc off st
    | none => none
  | .lookupswitch dflt ps, .int x :: st => if (ps.toList.zip (ps.toList.drop 1)).all (fun (a, next) => a.1 < next.1) = true then am_j pc (Op.lookupswitch.offset ps.toList dflt x.toInt) st else none
  | _, _ => none
/-- arrays that nobody writes: 0 the sines, 2000 the script, 1001 and on the bytes of the texts -/
def am_ext (L : Nat) (xs : Nat → Int32) (h : Nat) : Option (Nat × Nat × (Nat → Int32)) :=
  if h = 0 then some (0, 91, am_sin) else if h = 2000 then some (0, L, xs)
  else if 1001 ≤ h ∧ h < 1029 then some (2, am_slen.getD (h - 1001) 0, fun j => (am_sbyt.getD (h - 1001) []).getD j 0) else none
def am_cat (st : List Value) : Nat := (st.map fun v => v.category).sum
/-- a copy of a row -/
def am_cp (st : List Value) (M : am_M) : Option (List Value × am_M) := match st with
  | .int n :: .int dp :: .ref b :: .int sp :: .ref a :: st => if am_cat st ≤ 8 ∧ ¬ sp < 0 ∧ ¬ dp < 0 ∧ ¬ n < 0 then (match M.1[a]?, M.1[b]? with
    | some (.inr (0, na)), some (.inr (0, nb)) => if sp.toNatClampNeg + n.toNatClampNeg ≤ na ∧ dp.toNatClampNeg + n.toNatClampNeg ≤ nb then some (st, am_uI M b (va_cpy (M.2.1 a) (M.2.1 b) sp.toNatClampNeg dp.toNatClampNeg n.toNatClampNeg)) else none
    | some (.inr (1, na)), some (.inr (1, nb)) => if sp.toNatClampNeg + n.toNatClampNeg ≤ na ∧ dp.toNatClampNeg + n.toNatClampNeg ≤ nb then some (st, am_uL M b (va_cpy (M.2.2.1 a) (M.2.2.1 b) sp.toNatClampNeg dp.toNatClampNeg n.toNatClampNeg)) else none
    | _, _ => none) else none
  | _ => none
def am_mi2 (f : Int32 → Int32 → Int32) (st : List Value) (M : am_M) : Option (List Value × am_M) := match st with
  | .int y :: .int x :: st => if am_cat st ≤ 8 then some (.int (f x y) :: st, M) else none
  | _ => none
def am_mi1 (f : Int32 → Int32) (st : List Value) (M : am_M) : Option (List Value × am_M) := match st with
  | .int x :: st => if am_cat st ≤ 8 then some (.int (f x) :: st, M) else none
  | _ => none
def am_ml2 (f : Int64 → Int64 → Int64) (st : List Value) (M : am_M) : Option (List Value × am_M) := match st with
  | .long y :: .long x :: st => if am_cat st ≤ 8 then some (.long (f x y) :: st, M) else none
  | _ => none
/-- the library's own: copy, max, min, abs -/
def am_is (a1 : Nat) (st : List Value) (M : am_M) : Option (List Value × am_M) :=
  if a1 = 1000 then am_cp st M else if a1 = 1002 then am_mi2 (fun x y => if x < y then y else x) st M else if a1 = 1003 then am_mi2 (fun x y => if y < x then y else x) st M
  else if a1 = 1004 then am_mi1 (fun x => if 0 ≤ x then x else 0 - x) st M else if a1 = 1005 then am_ml2 (fun x y => if y < x then x else y) st M else if a1 = 1006 then am_ml2 (fun x y => if y < x then y else x) st M else none
/-- what reads and writes cells; d: is there room for one frame more -/
def am_m (L : Nat) (xs : Nat → Int32) (d : Nat) (ins : Instr) (a1 a2 : Nat) (st : List Value) (M : am_M) : Option (List Value × am_M) := match ins, st with
  | .getfield _, .ref a :: st => match M.1[a]? with
    | some (.inl c) => if c = a1 ∧ a2 < am_nf a1 then some (am_gv M a1 a a2 :: st, M) else none
    | _ => none
  | .getfield _, .float u :: st => if a1 = 100 ∧ 1 ≤ u.toNat ∧ u.toNat < 29 then (if a2 = 0 then some (.float (UInt32.ofNat (u.toNat + 1000)) :: st, M) else if a2 = 1 then some (.int 0 :: st, M) else none) else none
  | .putfield _, v :: .ref a :: st => match M.1[a]? with
    | some (.inl c) => if c = a1 ∧ a2 < am_nf a1 then (match am_sv M a1 a a2 v with
      | some M1 => some (st, M1)
      | none => none) else none
    | _ => none
  | .getstatic _, st => if a1 = 0 then some (.float 0 :: st, M) else if a1 = 1 then some (.int 1 :: st, M) else if a1 = 2 then some (.float 3000 :: st, M) else none
  | .iaload, .int i :: .ref a :: st => match M.1[a]? with
    | some (.inr (0, n)) => if ¬ (i < 0 ∨ n ≤ i.toNatClampNeg) then some (.int (M.2.1 a i.toNatClampNeg) :: st, M) else none
    | _ => none
  | .iaload, .int i :: .float u :: st => match am_ext L xs u.toNat with
    | some (0, n, f) => if ¬ (i < 0 ∨ n ≤ i.toNatClampNeg) then some (.int (f i.toNatClampNeg) :: st, M) else none
    | _ => none
  | .baload, .int i :: .ref a :: st => match M.1[a]? with
    | some (.inr (2, n)) => if ¬ (i < 0 ∨ n ≤ i.toNatClampNeg) then some (.int (M.2.1 a i.toNatClampNeg) :: st, M) else none
    | some (.inr (3, n)) => if ¬ (i < 0 ∨ n ≤ i.toNatClampNeg) then some (.int (M.2.1 a i.toNatClampNeg) :: st, M) else none
    | _ => none
  | .baload, .int i :: .float u :: st => match am_ext L xs u.toNat with
    | some (2, n, f) => if ¬ (i < 0 ∨ n ≤ i.toNatClampNeg) then some (.int (f i.toNatClampNeg) :: st, M) else none
    | _ => none
  | .laload, .int i :: .ref a :: st => match M.1[a]? with
    | some (.inr (1, n)) => if ¬ (i < 0 ∨ n ≤ i.toNatClampNeg) then some (.long (M.2.2.1 a i.toNatClampNeg) :: st, M) else none
    | _ => none
  | .aaload, .int i :: .ref a :: st => match M.1[a]? with
    | some (.inr (4, n)) => if ¬ (i < 0 ∨ n ≤ i.toNatClampNeg) then some (va_rf (am_rl M.2.2.2.1 a i.toNatClampNeg) :: st, M) else none
    | some (.inr (5, n)) => if ¬ (i < 0 ∨ n ≤ i.toNatClampNeg) then some (va_rf (am_rl M.2.2.2.1 a i.toNatClampNeg) :: st, M) else none
    | _ => none
  | .iastore, .int x :: .int i :: .ref a :: st => match M.1[a]? with
    | some (.inr (0, n)) => if ¬ (i < 0 ∨ n ≤ i.toNatClampNeg) then some (st, am_uI M a (upd (M.2.1 a) i.toNatClampNeg x)) else none
    | _ => none
  | .bastore, .int x :: .int i :: .ref a :: st => match M.1[a]? with
    | some (.inr (2, n)) => if ¬ (i < 0 ∨ n ≤ i.toNatClampNeg) then some (st, am_uI M a (upd (M.2.1 a) i.toNatClampNeg (vp_nar .byte x))) else none
    | some (.inr (3, n)) => if ¬ (i < 0 ∨ n ≤ i.toNatClampNeg) then some (st, am_uI M a (upd (M.2.1 a) i.toNatClampNeg (vp_nar .boolean x))) else none
    | _ => none
  | .lastore, .long x :: .int i :: .ref a :: st => match M.1[a]? with
    | some (.inr (1, n)) => if ¬ (i < 0 ∨ n ≤ i.toNatClampNeg) then some (st, am_uL M a (vp_updL (M.2.2.1 a) i.toNatClampNeg x)) else none
    | _ => none
  | .aastore, .ref b :: .int i :: .ref a :: st => match M.1[a]?, M.1[b]? with
    | some (.inr (4, n)), some (.inl 10) => if ¬ (i < 0 ∨ n ≤ i.toNatClampNeg) then some (st, am_uR M a i.toNatClampNeg b) else none
    | some (.inr (5, n)), some (.inl 7) => if ¬ (i < 0 ∨ n ≤ i.toNatClampNeg) then some (st, am_uR M a i.toNatClampNeg b) else none
    | _, _ => none
  | .arraylength, .ref a :: st => match M.1[a]? with
    | some (.inr (t, n)) => if t < 6 then some (.int (Int32.ofNat n) :: st, M) else none
    | _ => none
  | .arraylength, .float u :: st => match am_ext L xs u.toNat with
    | some (_, n, _) => some (.int (Int32.ofNat n) :: st, M)
    | none => none
  | .new _, st => if a1 < 13 then some (.ref M.1.length :: st, am_new M (.inl a1)) else none
  | .newarray .int, .int n :: st => if ¬ n < 0 ∧ n.toNatClampNeg ≤ 60000 then some (.ref M.1.length :: st, am_new M (.inr (0, n.toNatClampNeg))) else none
  | .newarray .long, .int n :: st => if ¬ n < 0 ∧ n.toNatClampNeg ≤ 60000 then some (.ref M.1.length :: st, am_new M (.inr (1, n.toNatClampNeg))) else none
  | .newarray .byte, .int n :: st => if ¬ n < 0 ∧ n.toNatClampNeg ≤ 60000 then some (.ref M.1.length :: st, am_new M (.inr (2, n.toNatClampNeg))) else none
  | .newarray .boolean, .int n :: st => if ¬ n < 0 ∧ n.toNatClampNeg ≤ 60000 then some (.ref M.1.length :: st, am_new M (.inr (3, n.toNatClampNeg))) else none
  | .anewarray _, .int n :: st => if (a1 = 4 ∨ a1 = 5) ∧ ¬ n < 0 ∧ n.toNatClampNeg ≤ 60000 then some (.ref M.1.length :: st, am_new M (.inr (a1, n.toNatClampNeg))) else none
  | .invokespecial _, .ref _ :: st => if a1 = 1001 ∧ 0 < d ∧ am_cat st ≤ 8 then some (st, M) else none
  | .invokestatic _, st => if 0 < d then am_is a1 st M else none
  | _, _ => none
/-- the ends -/
def am_r (rt : Option FieldType) (ins : Instr) (st : List Value) : Option (Option Value) := match ins, st with
  | .ireturn, [.int v] => match rt with
    | some ty => if narrow ty (.int v) = .int v then some (some (.int v)) else none
    | none => none
  | .lreturn, [.long v] => if rt = some .long then some (some (.long v)) else none
  | .areturn, [.ref a] => match rt with
    | some (.object _) => some (some (.ref a))
    | _ => none
  | .areturn, [.float u] => match rt with
    | some (.object _) => some (some (.float u))
    | _ => none
  | .return_, [] => if rt = none then some none else none
  | _, _ => none
/-- is the first argument an object of the called method's class -/
def am_rec (M : am_M) (j : Nat) (as : List Value) : Bool := match as with
  | .ref b :: _ => decide (M.1[b]? = some (.inl (am_rc j)) ∧ am_rc j < 13)
  | .float u :: _ => decide (am_rc j = 100 ∧ 1 ≤ u.toNat ∧ u.toNat < 29)
  | _ => false
/-- the calls: whom, with what, what is left -/
def am_c (ins : Instr) (a1 a2 : Nat) (st : List Value) (M : am_M) : Option (Nat × List Value × List Value) := match ins with
  | .invokevirtual _ => if a1 < 265 ∧ a2 ≤ st.length ∧ am_cat (st.drop a2) ≤ 8 ∧ am_cat (st.take a2) ≤ am_ml a1 ∧ am_kd a1 = 0 ∧ am_rec M a1 (st.take a2).reverse = true then some (a1, (st.take a2).reverse, st.drop a2) else none
  | .invokestatic _ => if a1 < 265 ∧ a2 ≤ st.length ∧ am_cat (st.drop a2) ≤ 8 ∧ am_cat (st.take a2) ≤ am_ml a1 ∧ am_kd a1 = 1 then some (a1, (st.take a2).reverse, st.drop a2) else none
  | .invokespecial _ => if a1 < 265 ∧ a2 ≤ st.length ∧ am_cat (st.drop a2) ≤ 8 ∧ am_cat (st.take a2) ≤ am_ml a1 ∧ am_kd a1 = 2 ∧ am_rec M a1 (st.take a2).reverse = true then some (a1, (st.take a2).reverse, st.drop a2) else none
  | _ => none
/-- the run: fuel, depth, method, place, locals, stack, memory -/
def am_run (L : Nat) (xs : Nat → Int32) : Nat → Nat → Nat → Nat → am_Lo → List Value → am_M → Option (Option Value × am_M)
  | 0, _, _, _, _, _, _ => none
  | n + 1, d, k, pc, lo, st, M => match am_at k pc with
    | none => none
    | some (ins, a1, a2, _) => match am_p ins a1 a2 st with
      | some st' => am_run L xs n d k (pc + am_len ins a1) lo st' M
      | none => match am_l (am_ml k) ins lo st with
        | some (lo', st') => am_run L xs n d k (pc + am_len ins a1) lo' st' M
        | none => match am_b ins pc st with
          | some (pc', st') => am_run L xs n d k pc' lo st' M
          | none => match am_m L xs d ins a1 a2 st M with
            | some (st', M') => am_run L xs n d k (pc + am_len ins a1) lo st' M'
            | none => match am_r (am_rt k) ins st with
              | some v => some (v, M)
              | none => match am_c ins a1 a2 st M with
                | none => none
                | some (j, as, rest) => match d with
                  | 0 => none
                  | d' + 1 => match am_run L xs n d' j 0 (lv_args 0 as) [] M with
                    | none => none
                    | some (r, M1) => am_run L xs n (d' + 1) k (pc + 3) lo (r.toList ++ rest) M1
