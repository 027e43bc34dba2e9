/-! ===== THE SMALL MACHINE: one method's body at a time over numbered cells; a call is a function f (method, arguments, state) ===== -/
/-- cells, slots in all; of a cell its kind, its length; its references, ints, longs by place -/
abbrev am_S : Type := Nat × Nat × (Nat → Nat) × (Nat → Nat) × (Nat → Nat → Option Nat) × (Nat → Nat → Int32) × (Nat → Nat → Int64)
abbrev am_R : Type := Option (Option Value × am_S)
def am_n (S : am_S) : Nat := S.1
def am_w (S : am_S) : Nat := S.2.1
def am_c (S : am_S) : Nat → Nat := S.2.2.1
def am_l (S : am_S) : Nat → Nat := S.2.2.2.1
def am_r (S : am_S) : Nat → Nat → Option Nat := S.2.2.2.2.1
def am_i (S : am_S) : Nat → Nat → Int32 := S.2.2.2.2.2.1
def am_j (S : am_S) : Nat → Nat → Int64 := S.2.2.2.2.2.2
def am_up {α : Type} (f : Nat → α) (k : Nat) (v : α) : Nat → α := fun j => if j = k then v else f j
def am_wi (S : am_S) (a : Nat) (g : Nat → Int32) : am_S := (am_n S, am_w S, am_c S, am_l S, am_r S, am_up (am_i S) a g, am_j S)
def am_wj (S : am_S) (a : Nat) (g : Nat → Int64) : am_S := (am_n S, am_w S, am_c S, am_l S, am_r S, am_i S, am_up (am_j S) a g)
def am_wr (S : am_S) (a : Nat) (g : Nat → Option Nat) : am_S := (am_n S, am_w S, am_c S, am_l S, am_up (am_r S) a g, am_i S, am_j S)
def am_pi (S : am_S) (a k : Nat) (v : Int32) : am_S := am_wi S a (am_up (am_i S a) k v)
def am_pj (S : am_S) (a k : Nat) (v : Int64) : am_S := am_wj S a (am_up (am_j S a) k v)
def am_pr (S : am_S) (a k : Nat) (v : Nat) : am_S := am_wr S a (am_up (am_r S a) k (some v))
def am_cp (S : am_S) (a b sp dp n : Nat) : am_S := am_wi S b (va_cpy (am_i S a) (am_i S b) sp dp n)
/-- a new cell of kind c with n places -/
def am_mk (S : am_S) (c n : Nat) : am_S := (am_n S + 1, am_w S + n, am_up (am_c S) (am_n S) c, am_up (am_l S) (am_n S) n, am_up (am_r S) (am_n S) (fun _ => none), am_up (am_i S) (am_n S) (fun _ => 0), am_up (am_j S) (am_n S) (fun _ => 0))
/-- k new rows of kind c with n places each, held by the cell a from place p on -/
def am_rows (a c n : Nat) : Nat → Nat → am_S → am_S
  | 0, _, S => S
  | k + 1, p, S => am_rows a c n k (p + 1) (am_pr (am_mk S c n) a p (am_n S))
/-- the locals: by place; what isn't known is null -/
def am_nth : List Value → Nat → Value
  | [], _ => .null
  | a :: _, 0 => a
  | _ :: l, k + 1 => am_nth l k
def am_un (v : Value) : Value := match v with
  | .long _ => .null
  | .double _ => .null
  | v => v
def am_s1 : List Value → Nat → Value → List Value
  | [], _, _ => []
  | _ :: l, 0, v => v :: l
  | a :: l, 1, v => am_un a :: am_s1 l 0 v
  | a :: l, k + 2, v => a :: am_s1 l (k + 1) v
def am_s2 : List Value → Nat → Value → List Value
  | [], _, _ => []
  | [a], _, _ => [a]
  | _ :: _ :: l, 0, v => v :: .null :: l
  | a :: b :: l, 1, v => am_un a :: am_s2 (b :: l) 0 v
  | a :: b :: l, k + 2, v => a :: am_s2 (b :: l) (k + 1) v
def am_k1 : List Value → Nat → List Value
  | [], _ => []
  | _ :: l, 0 => .null :: l
  | a :: l, k + 1 => a :: am_k1 l k
def am_kl : List Nat → List Value → List Value
  | [], l => l
  | k :: ks, l => am_kl ks (am_k1 l k)
def am_cat : List Value → Nat
  | [] => 0
  | v :: l => v.category + am_cat l
/-- what a call gives, by what it answers -/
def am_bV (o : am_R) (k : am_S → am_R) : am_R := match o with
  | some (none, S) => k S
  | _ => none
def am_bI (o : am_R) (k : Int32 → am_S → am_R) : am_R := match o with
  | some (some (.int x), S) => k x S
  | _ => none
def am_bJ (o : am_R) (k : Int64 → am_S → am_R) : am_R := match o with
  | some (some (.long x), S) => k x S
  | _ => none
def am_bA (o : am_R) (k : Nat → am_S → am_R) : am_R := match o with
  | some (some (.ref x), S) => k x S
  | _ => none
def am_bq (o : Option Nat) (k : Nat → am_R) : am_R := match o with
  | some x => k x
  | none => none
def am_lt (v : am_S) (k : am_S → am_R) : am_R := k v
def am_br (c : Jvm.ClassFile.Cond) (x y : Int32) (a b : am_R) : am_R := match c with
  | .eq => if x = y then a else b
  | .ne => if x = y then b else a
  | .lt => if x < y then a else b
  | .ge => if x < y then b else a
  | .gt => if y < x then a else b
  | .le => if y < x then b else a
def am_sw (x : Int32) (d : am_R) (K : Nat → am_R) : Nat → List Int → am_R
  | _, [] => d
  | lo, t :: ts => if x = nI lo then K t.toNat else am_sw x d K (lo + 1) ts
def am_lk (x : Int32) (d : am_R) (K : Nat → am_R) : List (Int × Int) → am_R
  | [] => d
  | t :: ts => if x = nI t.1.toNat then K t.2.toNat else am_lk x d K ts
def am_inc (x : Int32) (c : Int) : Int32 := match c with
  | .ofNat k => x + nI k
  | .negSucc k => x - nI (k + 1)
/-- every reference is to a cell that is there, or to one that always is -/
def am_okl (n : Nat) : List Value → Bool
  | [] => true
  | .ref r :: l => (Nat.blt r n || Nat.ble 2000000 r) && am_okl n l
  | _ :: l => am_okl n l
def am_gd (S : am_S) (lo st : List Value) : Bool := Nat.blt (am_n S) 1000 && (am_okl (am_n S) lo && am_okl (am_n S) st)

/-- one instruction (written with our own numbers: a place in the method's list for a jump, (kind * 64 + field) * 4 + type for a field, a method's number for a call): where it goes on, or what it answers; none: it doesn't go on -/
def am_stp (f : Nat → List Value → am_S → am_R) (K : Nat → List Value → List Value → am_S → am_R) (ins : Instr) (i : Nat) (lo st : List Value) (S : am_S) : am_R :=
  match ins with
  | .iconst v => K (i + 1) lo (.int (nI v.toNat) :: st) S
  | .bipush v => K (i + 1) lo (.int (Int32.ofInt v) :: st) S
  | .goto_w v => K (i + 1) lo (.long (lN v.toNat) :: st) S
  | .jsr_w v => K (i + 1) lo (.long (Int64.ofInt v) :: st) S
  | .ldc k => K (i + 1) lo (.ref (4000000 + k) :: st) S
  | .getstatic k => K (i + 1) lo (.ref (2000000 + k) :: st) S
  | .iload k => (match am_nth lo k with | .int x => K (i + 1) lo (.int x :: st) S | _ => none)
  | .lload k => (match am_nth lo k with | .long x => K (i + 1) lo (.long x :: st) S | _ => none)
  | .aload k => (match am_nth lo k with | .ref x => K (i + 1) lo (.ref x :: st) S | _ => none)
  | .istore k => (match st with | .int x :: st => K (i + 1) (am_s1 lo k (.int x)) st S | _ => none)
  | .lstore k => (match st with | .long x :: st => K (i + 1) (am_s2 lo k (.long x)) st S | _ => none)
  | .astore k => (match st with | .ref x :: st => K (i + 1) (am_s1 lo k (.ref x)) st S | _ => none)
  | .iinc k c => (match am_nth lo k with | .int x => K (i + 1) (am_s1 lo k (.int (am_inc x c))) st S | _ => none)
  | .iadd => (match st with | .int y :: .int x :: st => K (i + 1) lo (.int (x + y) :: st) S | _ => none)
  | .isub => (match st with | .int y :: .int x :: st => K (i + 1) lo (.int (x - y) :: st) S | _ => none)
  | .imul => (match st with | .int y :: .int x :: st => K (i + 1) lo (.int (x * y) :: st) S | _ => none)
  | .iand => (match st with | .int y :: .int x :: st => K (i + 1) lo (.int (x &&& y) :: st) S | _ => none)
  | .ior => (match st with | .int y :: .int x :: st => K (i + 1) lo (.int (x ||| y) :: st) S | _ => none)
  | .ixor => (match st with | .int y :: .int x :: st => K (i + 1) lo (.int (x ^^^ y) :: st) S | _ => none)
  | .ishl => (match st with | .int y :: .int x :: st => K (i + 1) lo (.int (x <<< (y &&& 31)) :: st) S | _ => none)
  | .ishr => (match st with | .int y :: .int x :: st => K (i + 1) lo (.int (x >>> (y &&& 31)) :: st) S | _ => none)
  | .iushr => (match st with | .int y :: .int x :: st => K (i + 1) lo (.int (x.toUInt32 >>> (y &&& 31).toUInt32).toInt32 :: st) S | _ => none)
  | .idiv => (match st with | .int y :: .int x :: st => (if y = 0 then none else K (i + 1) lo (.int (x / y) :: st) S) | _ => none)
  | .irem => (match st with | .int y :: .int x :: st => (if y = 0 then none else K (i + 1) lo (.int (x - x / y * y) :: st) S) | _ => none)
  | .ladd => (match st with | .long y :: .long x :: st => K (i + 1) lo (.long (x + y) :: st) S | _ => none)
  | .lsub => (match st with | .long y :: .long x :: st => K (i + 1) lo (.long (x - y) :: st) S | _ => none)
  | .lmul => (match st with | .long y :: .long x :: st => K (i + 1) lo (.long (x * y) :: st) S | _ => none)
  | .i2f => (match st with | .long y :: .long x :: st => (if am_cat st ≤ 8 then K (i + 1) lo (.long (if y < x then x else y) :: st) S else none) | _ => none)
  | .i2d => (match st with | .long y :: .long x :: st => (if am_cat st ≤ 8 then K (i + 1) lo (.long (if y < x then y else x) :: st) S else none) | _ => none)
  | .land => (match st with | .long y :: .long x :: st => K (i + 1) lo (.long (x &&& y) :: st) S | _ => none)
  | .lor => (match st with | .long y :: .long x :: st => K (i + 1) lo (.long (x ||| y) :: st) S | _ => none)
  | .lneg => (match st with | .long x :: st => K (i + 1) lo (.long (0 - x) :: st) S | _ => none)
  | .ldiv => (match st with | .long y :: .long x :: st => (if y = 0 then none else K (i + 1) lo (.long (x / y) :: st) S) | _ => none)
  | .lrem => (match st with | .long y :: .long x :: st => (if y = 0 then none else K (i + 1) lo (.long (x - x / y * y) :: st) S) | _ => none)
  | .lshl => (match st with | .int y :: .long x :: st => K (i + 1) lo (.long (x <<< (y.toInt64 &&& 63)) :: st) S | _ => none)
  | .lshr => (match st with | .int y :: .long x :: st => K (i + 1) lo (.long (x >>> (y.toInt64 &&& 63)) :: st) S | _ => none)
  | .lushr => (match st with | .int y :: .long x :: st => K (i + 1) lo (.long (x.toUInt64 >>> (y.toInt64 &&& 63).toUInt64).toInt64 :: st) S | _ => none)
  | .lcmp => (match st with | .long y :: .long x :: st => K (i + 1) lo (.int (lg_cmp x y) :: st) S | _ => none)
  | .i2l => (match st with | .int x :: st => K (i + 1) lo (.long x.toInt64 :: st) S | _ => none)
  | .l2i => (match st with | .long x :: st => K (i + 1) lo (.int x.toInt32 :: st) S | _ => none)
  | .i2b => (match st with | .int x :: st => K (i + 1) lo (.int x.toInt8.toInt32 :: st) S | _ => none)
  | .i2s => (match st with | .int x :: st => K (i + 1) lo (.int x.toInt16.toInt32 :: st) S | _ => none)
  | .dup => (match st with | v :: st => (if v.category = 1 then K (i + 1) lo (v :: v :: st) S else none) | _ => none)
  | .dup2 => (match st with | v :: w :: st => (if v.category = 1 ∧ w.category = 1 then K (i + 1) lo (v :: w :: v :: w :: st) S else none) | _ => none)
  | .pop => (match st with | v :: st => (if v.category = 1 then K (i + 1) lo st S else none) | _ => none)
  | .goto t => K t.toNat lo st S
  | .if_icmp c t => (match st with | .int y :: .int x :: st => am_br c x y (K t.toNat lo st S) (K (i + 1) lo st S) | _ => none)
  | .ifCond c t => (match st with | .int x :: st => am_br c x 0 (K t.toNat lo st S) (K (i + 1) lo st S) | _ => none)
  | .tableswitch d l _ ts => (match st with | .int x :: st => am_sw x (K d.toNat lo st S) (fun t => K t lo st S) l.toNat ts.toList | _ => none)
  | .lookupswitch d ps => (match st with | .int x :: st => am_lk x (K d.toNat lo st S) (fun t => K t lo st S) ps.toList | _ => none)
  | .getfield k => (match st with
    | .ref a :: st => (if am_c S a = k / 256 then (match k % 4 with
      | 0 => K (i + 1) lo (.int (am_i S a (k / 4 % 64)) :: st) S
      | 1 => K (i + 1) lo (.long (am_j S a (k / 4 % 64)) :: st) S
      | _ => am_bq (am_r S a (k / 4 % 64)) fun r => K (i + 1) lo (.ref r :: st) S) else none)
    | _ => none)
  | .putfield k => (match st with
    | .int x :: .ref a :: st => (if am_c S a = k / 256 then (match k % 4 with
      | 0 => K (i + 1) lo st (am_pi S a (k / 4 % 64) x)
      | 3 => (if x = 0 ∨ x = 1 then K (i + 1) lo st (am_pi S a (k / 4 % 64) x) else none)
      | _ => none) else none)
    | .long x :: .ref a :: st => (if am_c S a = k / 256 then (match k % 4 with
      | 1 => K (i + 1) lo st (am_pj S a (k / 4 % 64) x)
      | _ => none) else none)
    | .ref x :: .ref a :: st => (if am_c S a = k / 256 then (match k % 4 with
      | 2 => (if am_c S x < 900 then K (i + 1) lo st (am_pr S a (k / 4 % 64) x) else none)
      | _ => none) else none)
    | _ => none)
  | .iaload => (match st with | .int x :: .ref a :: st => (if am_c S a = 100 then (if x < 0 ∨ am_l S a ≤ x.toNatClampNeg then none else K (i + 1) lo (.int (am_i S a x.toNatClampNeg) :: st) S) else none) | _ => none)
  | .baload => (match st with | .int x :: .ref a :: st => (if am_c S a = 101 then (if x < 0 ∨ am_l S a ≤ x.toNatClampNeg then none else K (i + 1) lo (.int (am_i S a x.toNatClampNeg) :: st) S) else none) | _ => none)
  | .laload => (match st with | .int x :: .ref a :: st => (if am_c S a = 102 then (if x < 0 ∨ am_l S a ≤ x.toNatClampNeg then none else K (i + 1) lo (.long (am_j S a x.toNatClampNeg) :: st) S) else none) | _ => none)
  | .aaload => (match st with | .int x :: .ref a :: st => (if 103 ≤ am_c S a ∧ am_c S a < 200 then (if x < 0 ∨ am_l S a ≤ x.toNatClampNeg then none else am_bq (am_r S a x.toNatClampNeg) fun r => K (i + 1) lo (.ref r :: st) S) else none) | _ => none)
  | .saload => (match st with | .int x :: .ref a :: st => (if am_c S a = 998 then (if x < 0 ∨ (am_i S (a + 1000000) 0).toNatClampNeg ≤ x.toNatClampNeg then none else K (i + 1) lo (.int (am_i S a x.toNatClampNeg) :: st) S) else none) | _ => none)
  | .iastore => (match st with | .int v :: .int x :: .ref a :: st => (if am_c S a = 100 then (if x < 0 ∨ am_l S a ≤ x.toNatClampNeg then none else K (i + 1) lo st (am_pi S a x.toNatClampNeg v)) else none) | _ => none)
  | .bastore => (match st with | .int v :: .int x :: .ref a :: st => (if am_c S a = 101 then (if x < 0 ∨ am_l S a ≤ x.toNatClampNeg then none else K (i + 1) lo st (am_pi S a x.toNatClampNeg v.toInt8.toInt32)) else none) | _ => none)
  | .lastore => (match st with | .long v :: .int x :: .ref a :: st => (if am_c S a = 102 then (if x < 0 ∨ am_l S a ≤ x.toNatClampNeg then none else K (i + 1) lo st (am_pj S a x.toNatClampNeg v)) else none) | _ => none)
  | .aastore => (match st with | .ref v :: .int x :: .ref a :: st => (if am_c S a = 103 + am_c S v ∧ am_c S v < 50 then (if x < 0 ∨ am_l S a ≤ x.toNatClampNeg then none else K (i + 1) lo st (am_pr S a x.toNatClampNeg v)) else none) | _ => none)
  | .arraylength => (match st with | .ref a :: st => (if 100 ≤ am_c S a ∧ am_c S a < 200 then K (i + 1) lo (.int (nI (am_l S a)) :: st) S else none) | _ => none)
  | .sastore => (match st with | .ref a :: st => (if am_c S a = 998 then K (i + 1) lo (.int (am_i S (a + 1000000) 0) :: st) S else none) | _ => none)
  | .new k => (if am_gd S lo st = true then K (i + 1) lo (.ref (am_n S) :: st) (am_mk S (k / 64) (k % 64)) else none)
  | .newarray t => (match st with
    | .int x :: st => (if x < 0 ∨ 1000 < x.toNatClampNeg ∨ am_gd S lo st = false then none else (match t with
      | .int => K (i + 1) lo (.ref (am_n S) :: st) (am_mk S 100 x.toNatClampNeg)
      | .byte => K (i + 1) lo (.ref (am_n S) :: st) (am_mk S 101 x.toNatClampNeg)
      | .long => K (i + 1) lo (.ref (am_n S) :: st) (am_mk S 102 x.toNatClampNeg)
      | _ => none))
    | _ => none)
  | .anewarray k => (match st with | .int x :: st => (if x < 0 ∨ 1000 < x.toNatClampNeg ∨ am_gd S lo st = false then none else K (i + 1) lo (.ref (am_n S) :: st) (am_mk S (103 + k) x.toNatClampNeg)) | _ => none)
  | .multianewarray k _ => (match st with
    | .int y :: .int x :: st => (if x < 0 ∨ 100 < x.toNatClampNeg ∨ y < 0 ∨ 1000 < y.toNatClampNeg ∨ am_gd S lo st = false then none else (match k with
      | 0 => K (i + 1) lo (.ref (am_n S) :: st) (am_rows (am_n S) 100 y.toNatClampNeg x.toNatClampNeg 0 (am_mk S 180 x.toNatClampNeg))
      | 1 => K (i + 1) lo (.ref (am_n S) :: st) (am_rows (am_n S) 102 y.toNatClampNeg x.toNatClampNeg 0 (am_mk S 182 x.toNatClampNeg))
      | _ => none))
    | _ => none)
  | .monitorenter => (match st with | .ref _ :: st => (if am_cat st ≤ 8 then K (i + 1) lo st S else none) | _ => none)
  | .monitorexit => (match st with
    | .int n :: .int dp :: .ref b :: .int sp :: .ref a :: st => (if am_cat st ≤ 8 ∧ am_c S a = 100 ∧ am_c S b = 100 then
      (if sp < 0 ∨ dp < 0 ∨ n < 0 ∨ am_l S a < sp.toNatClampNeg + n.toNatClampNeg ∨ am_l S b < dp.toNatClampNeg + n.toNatClampNeg then none
      else K (i + 1) lo st (am_cp S a b sp.toNatClampNeg dp.toNatClampNeg n.toNatClampNeg)) else none)
    | _ => none)
  | .caload => (match st with | .int x :: .ref a :: st => (if am_cat st ≤ 8 ∧ am_c S a = 997 then (if x < 0 ∨ (am_i S (a + 1000000) 0).toNatClampNeg ≤ x.toNatClampNeg then none else K (i + 1) lo (.int (am_i S a x.toNatClampNeg) :: st) S) else none) | _ => none)
  | .castore => (match st with | .ref a :: st => (if am_cat st ≤ 8 ∧ am_c S a = 997 then K (i + 1) lo (.int (am_i S (a + 1000000) 0) :: st) S else none) | _ => none)
  | .invokestatic y => (if am_cat (st.drop (pg_sg y).1) ≤ 8 ∧ (st.take (pg_sg y).1).length = (pg_sg y).1 then (match (pg_sg y).2 with
      | 0 => am_bV (f y (st.take (pg_sg y).1).reverse S) fun S => K (i + 1) lo (st.drop (pg_sg y).1) S
      | 1 => am_bI (f y (st.take (pg_sg y).1).reverse S) fun x S => K (i + 1) lo (.int x :: st.drop (pg_sg y).1) S
      | 2 => am_bJ (f y (st.take (pg_sg y).1).reverse S) fun x S => K (i + 1) lo (.long x :: st.drop (pg_sg y).1) S
      | _ => am_bA (f y (st.take (pg_sg y).1).reverse S) fun x S => K (i + 1) lo (.ref x :: st.drop (pg_sg y).1) S) else none)
  | .invokespecial y => (if am_gd S lo (st.drop (pg_sg y).1) = true ∧ am_cat (st.drop (pg_sg y).1) ≤ 8 ∧ (st.take (pg_sg y).1).length = (pg_sg y).1 ∧ (pg_sg y).2 = 0 then am_bV (f y (st.take (pg_sg y).1).reverse S) (fun S => K (i + 1) lo (st.drop (pg_sg y).1) S) else none)
  | .ireturn => (match st with | [.int x] => some (some (.int x), S) | _ => none)
  | .freturn => (match st with | [.int x] => (if x = 0 ∨ x = 1 then some (some (.int x), S) else none) | _ => none)
  | .lreturn => (match st with | [.long x] => some (some (.long x), S) | _ => none)
  | .areturn => (match st with | [.ref x] => (if 2000000 ≤ x then some (some (.ref x), S) else none) | _ => none)
  | .return_ => (match st with | [] => some (none, S) | _ => none)
  | _ => none

/-! ===== a method's run: by steps (am_run), without end (am_X), from cut to cut (am_Xs) ===== -/
def am_kil (m i : Nat) (lo : List Value) : List Value := match pg_ct m i with
  | some ks => am_kl ks lo
  | none => lo
def am_run (f : Nat → List Value → am_S → am_R) (m : Nat) : Nat → Nat → List Value → List Value → am_S → am_R
  | 0, _, _, _, _ => none
  | n + 1, i, lo, st, S => am_stp f (am_run f m n) (pg_cd m i) i (am_kil m i lo) st S
noncomputable def am_X (f : Nat → List Value → am_S → am_R) (m i : Nat) (lo st : List Value) (S : am_S) : am_R :=
  @dite _ (∃ (r : Option Value × am_S) (n : Nat), am_run f m n i lo st S = some r) (Classical.propDecidable _) (fun h => some (Classical.choose h)) (fun _ => none)
noncomputable def am_Xs (f : Nat → List Value → am_S → am_R) (m : Nat) : Nat → Nat → List Value → List Value → am_S → am_R
  | 0, i, lo, st, S => am_X f m i lo st S
  | n + 1, i, lo, st, S => match pg_ct m i with
    | some ks => am_X f m i (am_kl ks lo) st S
    | none => am_stp f (am_Xs f m n) (pg_cd m i) i lo st S
/-- the locals at a method's start -/
def am_spr : List Value → List Value
  | [] => []
  | .long x :: l => .long x :: .null :: am_spr l
  | v :: l => v :: am_spr l
def am_pad : Nat → List Value → List Value
  | 0, l => l
  | n + 1, [] => .null :: am_pad n []
  | n + 1, a :: l => a :: am_pad n l
def am_ent (y : Nat) (args : List Value) : List Value := am_pad (pg_mx y) (am_spr args)
/-- a call, d calls deep at most -/
noncomputable def am_call : Nat → Nat → List Value → am_S → am_R
  | 0, _, _, _ => none
  | d + 1, y, args, S => am_X (am_call d) y 0 (am_ent y args) [] S

/-! ===== am_X goes on by steps ===== -/
/-- what a gives, the row as gives too, from some place on -/
def am_Cn (a : am_R) (as : Nat → am_R) : Prop := ∀ r, a = some r → ∃ n, as n = some r
theorem am_Cn.no {as : Nat → am_R} : am_Cn none as := fun r h => by cases h
theorem am_Cn.yes {x : am_R} : am_Cn x (fun _ => x) := fun r h => ⟨0, h⟩
theorem am_Cn.ite {c : Prop} [Decidable c] {a b : am_R} {as bs : Nat → am_R} (ha : am_Cn a as) (hb : am_Cn b bs) : am_Cn (if c then a else b) (fun n => if c then as n else bs n) := by
  intro r h
  by_cases hc : c
  · simp only [if_pos hc] at h ⊢
    exact ha r h
  · simp only [if_neg hc] at h ⊢
    exact hb r h
theorem am_Cn.bV {o : am_R} {k : am_S → am_R} {ks : Nat → am_S → am_R} (h : ∀ S, am_Cn (k S) (fun n => ks n S)) : am_Cn (am_bV o k) (fun n => am_bV o (ks n)) := by
  rcases o with _ | ⟨_ | v, S⟩
  · exact am_Cn.no
  · exact h S
  · exact am_Cn.no
theorem am_Cn.bI {o : am_R} {k : Int32 → am_S → am_R} {ks : Nat → Int32 → am_S → am_R} (h : ∀ x S, am_Cn (k x S) (fun n => ks n x S)) : am_Cn (am_bI o k) (fun n => am_bI o (ks n)) := by
  rcases o with _ | ⟨_ | v, S⟩
  · exact am_Cn.no
  · exact am_Cn.no
  · cases v <;> first | exact h _ S | exact am_Cn.no
theorem am_Cn.bJ {o : am_R} {k : Int64 → am_S → am_R} {ks : Nat → Int64 → am_S → am_R} (h : ∀ x S, am_Cn (k x S) (fun n => ks n x S)) : am_Cn (am_bJ o k) (fun n => am_bJ o (ks n)) := by
  rcases o with _ | ⟨_ | v, S⟩
  · exact am_Cn.no
  · exact am_Cn.no
  · cases v <;> first | exact h _ S | exact am_Cn.no
theorem am_Cn.bA {o : am_R} {k : Nat → am_S → am_R} {ks : Nat → Nat → am_S → am_R} (h : ∀ x S, am_Cn (k x S) (fun n => ks n x S)) : am_Cn (am_bA o k) (fun n => am_bA o (ks n)) := by
  rcases o with _ | ⟨_ | v, S⟩
  · exact am_Cn.no
  · exact am_Cn.no
  · cases v <;> first | exact h _ S | exact am_Cn.no
theorem am_Cn.bq {o : Option Nat} {k : Nat → am_R} {ks : Nat → Nat → am_R} (h : ∀ x, am_Cn (k x) (fun n => ks n x)) : am_Cn (am_bq o k) (fun n => am_bq o (ks n)) := by
  rcases o with _ | v
  · exact am_Cn.no
  · exact h v
theorem am_Cn.br {c : Jvm.ClassFile.Cond} {x y : Int32} {a b : am_R} {as bs : Nat → am_R} (ha : am_Cn a as) (hb : am_Cn b bs) : am_Cn (am_br c x y a b) (fun n => am_br c x y (as n) (bs n)) := by
  cases c
  · exact am_Cn.ite ha hb
  · exact am_Cn.ite hb ha
  · exact am_Cn.ite ha hb
  · exact am_Cn.ite hb ha
  · exact am_Cn.ite ha hb
  · exact am_Cn.ite hb ha
theorem am_Cn.sw {x : Int32} {d : am_R} {ds : Nat → am_R} {K : Nat → am_R} {Ks : Nat → Nat → am_R} (hd : am_Cn d ds) (hK : ∀ t, am_Cn (K t) (fun n => Ks n t)) : ∀ (ts : List Int) (lo : Nat), am_Cn (am_sw x d K lo ts) (fun n => am_sw x (ds n) (Ks n) lo ts)
  | [], _ => hd
  | t :: ts, lo => am_Cn.ite (hK _) (am_Cn.sw hd hK ts (lo + 1))
theorem am_Cn.lk {x : Int32} {d : am_R} {ds : Nat → am_R} {K : Nat → am_R} {Ks : Nat → Nat → am_R} (hd : am_Cn d ds) (hK : ∀ t, am_Cn (K t) (fun n => Ks n t)) : ∀ (ts : List (Int × Int)), am_Cn (am_lk x d K ts) (fun n => am_lk x (ds n) (Ks n) ts)
  | [] => hd
  | t :: ts => am_Cn.ite (hK _) (am_Cn.lk hd hK ts)
theorem am_cont {f : Nat → List Value → am_S → am_R} {K : Nat → List Value → List Value → am_S → am_R} {Ks : Nat → Nat → List Value → List Value → am_S → am_R} (hK : ∀ i lo st S, am_Cn (K i lo st S) (fun n => Ks n i lo st S)) (ins : Instr) (i : Nat) (lo st : List Value) (S : am_S) :
    am_Cn (am_stp f K ins i lo st S) (fun n => am_stp f (Ks n) ins i lo st S) := by
  cases ins
  case getfield k =>
    rcases st with _ | ⟨v, st⟩
    · exact am_Cn.no
    · cases v
      case ref a =>
        refine am_Cn.ite ?_ am_Cn.no
        generalize k % 4 = q
        rcases q with _ | _ | q
        · exact hK _ _ _ _
        · exact hK _ _ _ _
        · exact am_Cn.bq fun _ => hK _ _ _ _
      all_goals exact am_Cn.no
  case putfield k =>
    rcases st with _ | ⟨v, _ | ⟨w, st⟩⟩
    · exact am_Cn.no
    · cases v <;> exact am_Cn.no
    · cases v
      case int x =>
        cases w
        case ref a =>
          refine am_Cn.ite ?_ am_Cn.no
          generalize k % 4 = q
          rcases q with _ | _ | _ | _ | q
          · exact hK _ _ _ _
          · exact am_Cn.no
          · exact am_Cn.no
          · exact am_Cn.ite (hK _ _ _ _) am_Cn.no
          · exact am_Cn.no
        all_goals exact am_Cn.no
      case long x =>
        cases w
        case ref a =>
          refine am_Cn.ite ?_ am_Cn.no
          generalize k % 4 = q
          rcases q with _ | _ | q
          · exact am_Cn.no
          · exact hK _ _ _ _
          · exact am_Cn.no
        all_goals exact am_Cn.no
      case ref x =>
        cases w
        case ref a =>
          refine am_Cn.ite ?_ am_Cn.no
          generalize k % 4 = q
          rcases q with _ | _ | _ | q
          · exact am_Cn.no
          · exact am_Cn.no
          · exact am_Cn.ite (hK _ _ _ _) am_Cn.no
          · exact am_Cn.no
        all_goals exact am_Cn.no
      all_goals exact am_Cn.no
  case newarray t =>
    rcases st with _ | ⟨v, st⟩
    · exact am_Cn.no
    · cases v
      case int x =>
        refine am_Cn.ite am_Cn.no ?_
        cases t <;> first | exact hK _ _ _ _ | exact am_Cn.no
      all_goals exact am_Cn.no
  case multianewarray k e =>
    rcases st with _ | ⟨v, _ | ⟨w, st⟩⟩
    · exact am_Cn.no
    · cases v <;> exact am_Cn.no
    · cases v
      case int y =>
        cases w
        case int x =>
          refine am_Cn.ite am_Cn.no ?_
          rcases k with _ | _ | k
          · exact hK _ _ _ _
          · exact hK _ _ _ _
          · exact am_Cn.no
        all_goals exact am_Cn.no
      all_goals exact am_Cn.no
  case invokestatic y =>
    refine am_Cn.ite ?_ am_Cn.no
    generalize (pg_sg y).2 = q
    rcases q with _ | _ | _ | q
    · exact am_Cn.bV fun _ => hK _ _ _ _
    · exact am_Cn.bI fun _ _ => hK _ _ _ _
    · exact am_Cn.bJ fun _ _ => hK _ _ _ _
    · exact am_Cn.bA fun _ _ => hK _ _ _ _
  case invokespecial y => exact am_Cn.ite (am_Cn.bV fun _ => hK _ _ _ _) am_Cn.no
  case ireturn => exact am_Cn.yes
  case freturn => exact am_Cn.yes
  case lreturn => exact am_Cn.yes
  case areturn => exact am_Cn.yes
  case return_ => exact am_Cn.yes
  case new k => exact am_Cn.ite (hK _ _ _ _) am_Cn.no
  case iload k =>
    have e : ∀ v, am_nth lo k = v → am_Cn (am_stp f K (.iload k) i lo st S) (fun n => am_stp f (Ks n) (.iload k) i lo st S) := by
      intro v hv
      simp only [am_stp, hv]
      cases v <;> first | exact hK _ _ _ _ | exact am_Cn.no
    exact e _ rfl
  case lload k =>
    have e : ∀ v, am_nth lo k = v → am_Cn (am_stp f K (.lload k) i lo st S) (fun n => am_stp f (Ks n) (.lload k) i lo st S) := by
      intro v hv
      simp only [am_stp, hv]
      cases v <;> first | exact hK _ _ _ _ | exact am_Cn.no
    exact e _ rfl
  case aload k =>
    have e : ∀ v, am_nth lo k = v → am_Cn (am_stp f K (.aload k) i lo st S) (fun n => am_stp f (Ks n) (.aload k) i lo st S) := by
      intro v hv
      simp only [am_stp, hv]
      cases v <;> first | exact hK _ _ _ _ | exact am_Cn.no
    exact e _ rfl
  case iinc k c =>
    have e : ∀ v, am_nth lo k = v → am_Cn (am_stp f K (.iinc k c) i lo st S) (fun n => am_stp f (Ks n) (.iinc k c) i lo st S) := by
      intro v hv
      simp only [am_stp, hv]
      cases v <;> first | exact hK _ _ _ _ | exact am_Cn.no
    exact e _ rfl
  all_goals first
    | exact am_Cn.no
    | exact hK _ _ _ _
    | exact am_Cn.yes
    | skip
  all_goals (rcases st with _ | ⟨v1, st⟩ <;> first | exact am_Cn.no | skip)
  all_goals (first | exact am_Cn.ite (hK _ _ _ _) am_Cn.no | (cases v1 <;> first | exact am_Cn.no | exact hK _ _ _ _ | exact am_Cn.yes | exact am_Cn.br (hK _ _ _ _) (hK _ _ _ _) | exact am_Cn.sw (hK _ _ _ _) (fun _ => hK _ _ _ _) _ _ | exact am_Cn.lk (hK _ _ _ _) (fun _ => hK _ _ _ _) _ | exact am_Cn.ite (hK _ _ _ _) am_Cn.no | exact am_Cn.ite am_Cn.no (hK _ _ _ _) | skip) | skip)
  all_goals (rcases st with _ | ⟨v2, st⟩ <;> first | exact am_Cn.no | skip)
  all_goals (first | exact am_Cn.ite (hK _ _ _ _) am_Cn.no | (cases v2 <;> first | exact am_Cn.no | exact hK _ _ _ _ | exact am_Cn.br (hK _ _ _ _) (hK _ _ _ _) | exact am_Cn.ite (hK _ _ _ _) am_Cn.no | exact am_Cn.ite am_Cn.no (hK _ _ _ _) | exact am_Cn.ite (am_Cn.ite am_Cn.no (hK _ _ _ _)) am_Cn.no | exact am_Cn.ite (am_Cn.ite am_Cn.no (am_Cn.bq fun _ => hK _ _ _ _)) am_Cn.no | skip) | skip)
  all_goals (rcases st with _ | ⟨v3, st⟩ <;> first | exact am_Cn.no | skip)
  all_goals (cases v3 <;> first | exact am_Cn.no | exact am_Cn.ite (am_Cn.ite am_Cn.no (hK _ _ _ _)) am_Cn.no | skip)
  all_goals (rcases st with _ | ⟨v4, st⟩ <;> first | exact am_Cn.no | skip)
  all_goals (cases v4 <;> first | exact am_Cn.no | skip)
  all_goals (rcases st with _ | ⟨v5, st⟩ <;> first | exact am_Cn.no | skip)
  all_goals (cases v5 <;> first | exact am_Cn.no | exact am_Cn.ite (am_Cn.ite am_Cn.no (hK _ _ _ _)) am_Cn.no)

theorem am_run_mono1 {f : Nat → List Value → am_S → am_R} {m : Nat} : ∀ (n i : Nat) (lo st : List Value) (S : am_S) (r : Option Value × am_S), am_run f m n i lo st S = some r → am_run f m (n + 1) i lo st S = some r
  | 0, _, _, _, _, _, h => by cases h
  | n + 1, i, lo, st, S, r, h => by
    obtain ⟨_, h2⟩ := am_cont (K := am_run f m n) (Ks := fun _ => am_run f m (n + 1)) (fun i lo st S r h => ⟨0, am_run_mono1 n i lo st S r h⟩) _ _ _ _ _ r h
    exact h2
theorem am_run_mono {f : Nat → List Value → am_S → am_R} {m n k i : Nat} {lo st : List Value} {S : am_S} {r : Option Value × am_S} (h : am_run f m n i lo st S = some r) (hk : n ≤ k) : am_run f m k i lo st S = some r := by
  induction hk with
  | refl => exact h
  | step _ ih => exact am_run_mono1 _ _ _ _ _ _ ih
theorem am_X_of {f : Nat → List Value → am_S → am_R} {m n i : Nat} {lo st : List Value} {S : am_S} {r : Option Value × am_S} (h : am_run f m n i lo st S = some r) : am_X f m i lo st S = some r := by
  have he : ∃ (r : Option Value × am_S) (n : Nat), am_run f m n i lo st S = some r := ⟨r, n, h⟩
  unfold am_X
  rw [dif_pos he]
  obtain ⟨n', h'⟩ := Classical.choose_spec he
  have h1 := am_run_mono h (Nat.le_max_left n n')
  have h2 := am_run_mono h' (Nat.le_max_right n n')
  exact h2.symm.trans h1
theorem am_X_to {f : Nat → List Value → am_S → am_R} {m i : Nat} {lo st : List Value} {S : am_S} {r : Option Value × am_S} (h : am_X f m i lo st S = some r) : ∃ n, am_run f m n i lo st S = some r := by
  unfold am_X at h
  by_cases he : ∃ (r : Option Value × am_S) (n : Nat), am_run f m n i lo st S = some r
  · rw [dif_pos he] at h
    obtain ⟨n', h'⟩ := Classical.choose_spec he
    cases h
    exact ⟨n', h'⟩
  · rw [dif_neg he] at h
    cases h
theorem am_X_eq (f : Nat → List Value → am_S → am_R) (m i : Nat) (lo st : List Value) (S : am_S) : am_X f m i lo st S = am_stp f (am_X f m) (pg_cd m i) i (am_kil m i lo) st S := by
  cases h : am_stp f (am_X f m) (pg_cd m i) i (am_kil m i lo) st S with
  | some r =>
    obtain ⟨n, h2⟩ := am_cont (K := am_X f m) (Ks := am_run f m) (fun i lo st S r h => am_X_to h) _ _ _ _ _ r h
    exact am_X_of (n := n + 1) h2
  | none =>
    cases h3 : am_X f m i lo st S with
    | none => rfl
    | some r =>
      obtain ⟨n, h4⟩ := am_X_to h3
      cases n with
      | zero => cases h4
      | succ n =>
        obtain ⟨_, h5⟩ := am_cont (K := am_run f m n) (Ks := fun _ => am_X f m) (fun i lo st S r h => ⟨0, am_X_of h⟩) _ _ _ _ _ r h4
        rw [h] at h5
        cases h5
theorem am_kl_kl (ks : List Nat) (lo : List Value) : am_kl ks (am_kl ks lo) = am_kl ks lo := by
  have c1 : ∀ (l : List Value) (a b : Nat), am_k1 (am_k1 l a) b = am_k1 (am_k1 l b) a := by
    intro l
    induction l with
    | nil => intro a b; rfl
    | cons v l ih =>
      intro a b
      rcases a with _ | a <;> rcases b with _ | b
      · rfl
      · rfl
      · rfl
      · show v :: am_k1 (am_k1 l a) b = v :: am_k1 (am_k1 l b) a
        rw [ih]
  have c2 : ∀ (l : List Value) (a : Nat), am_k1 (am_k1 l a) a = am_k1 l a := by
    intro l
    induction l with
    | nil => intro a; rfl
    | cons v l ih =>
      intro a
      rcases a with _ | a
      · rfl
      · show v :: am_k1 (am_k1 l a) a = v :: am_k1 l a
        rw [ih]
  have c3 : ∀ (ks : List Nat) (l : List Value) (a : Nat), am_kl ks (am_k1 l a) = am_k1 (am_kl ks l) a := by
    intro ks
    induction ks with
    | nil => intro l a; rfl
    | cons k ks ih =>
      intro l a
      show am_kl ks (am_k1 (am_k1 l a) k) = am_k1 (am_kl ks (am_k1 l k)) a
      rw [c1, ih]
  induction ks generalizing lo with
  | nil => rfl
  | cons k ks ih =>
    show am_kl ks (am_k1 (am_kl ks (am_k1 lo k)) k) = am_kl ks (am_k1 lo k)
    rw [c3, ih, ← c3, c2]
theorem am_X_kl {f : Nat → List Value → am_S → am_R} {m i : Nat} {ks : List Nat} (hc : pg_ct m i = some ks) (lo st : List Value) (S : am_S) : am_X f m i (am_kl ks lo) st S = am_X f m i lo st S := by
  rw [am_X_eq, am_X_eq f m i lo]
  unfold am_kil
  rw [hc]
  show am_stp _ _ _ _ (am_kl ks (am_kl ks lo)) _ _ = am_stp _ _ _ _ (am_kl ks lo) _ _
  rw [am_kl_kl]
theorem am_Xs_eq (f : Nat → List Value → am_S → am_R) (m : Nat) : ∀ n, am_Xs f m n = am_X f m
  | 0 => rfl
  | n + 1 => by
    funext i lo st S
    cases hc : pg_ct m i with
    | some ks =>
      have e : am_Xs f m (n + 1) i lo st S = am_X f m i (am_kl ks lo) st S := by
        show (match pg_ct m i with | some ks => am_X f m i (am_kl ks lo) st S | none => _) = _
        rw [hc]
      rw [e, am_X_kl hc]
    | none =>
      have e : am_Xs f m (n + 1) i lo st S = am_stp f (am_Xs f m n) (pg_cd m i) i lo st S := by
        show (match pg_ct m i with | some ks => am_X f m i (am_kl ks lo) st S | none => _) = _
        rw [hc]
      rw [e, am_Xs_eq f m n, am_X_eq f m i]
      unfold am_kil
      rw [hc]
theorem am_blk (k : Nat) (f : Nat → List Value → am_S → am_R) (m i : Nat) (lo st : List Value) (S : am_S) : am_X f m i lo st S = am_stp f (am_Xs f m k) (pg_cd m i) i (am_kil m i lo) st S := by
  rw [am_Xs_eq]
  exact am_X_eq f m i lo st S
