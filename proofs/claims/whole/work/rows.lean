section
/-! THE ABSTRACT MACHINE: the part of the JVM that the methods (constructors apart) use, over mathematical integers and a store of numbered cells. Sound over W by part 03. -/
/-- a value: int, long, a cell's number, a row (of a cell of rows), a string constant's number -/
abbrev AV : Type := Int ⊕ Int ⊕ Nat ⊕ (Nat × Int) ⊕ Nat
abbrev aI (z : Int) : AV := .inl z
abbrev aL (z : Int) : AV := .inr (.inl z)
abbrev aP (k : Nat) : AV := .inr (.inr (.inl k))
abbrev aR (k : Nat) (i : Int) : AV := .inr (.inr (.inr (.inl (k, i))))
abbrev aS (k : Nat) : AV := .inr (.inr (.inr (.inr k)))
/-- the store: cell, place -/
abbrev AM : Type := Nat → Int → Int
def am_up (M : AM) (k : Nat) (i z : Int) : AM := fun k' i' => if k' = k ∧ i' = i then z else M k' i'
/-- a cell's kind: object (class, fields: 0 int, 1 boolean, k + 2 the cell k); array (0 int, 1 boolean, 2 char, 3 long; length); rows (number, length, first row's cell); a row (of which, which, length); constants -/
abbrev AK : Type := (Nat × List Nat) ⊕ (Nat × Nat) ⊕ (Nat × Nat × Nat) ⊕ (Nat × Nat × Nat) ⊕ List Int
abbrev kO (ci : Nat) (fs : List Nat) : AK := .inl (ci, fs)
abbrev kA (ty n : Nat) : AK := .inr (.inl (ty, n))
abbrev kR (n len base : Nat) : AK := .inr (.inr (.inl (n, len, base)))
abbrev kW (k r len : Nat) : AK := .inr (.inr (.inr (.inl (k, r, len))))
abbrev kC (cs : List Int) : AK := .inr (.inr (.inr (.inr cs)))
-- int arithmetic
def a_add (a b : Int) : Int := (Int32.ofInt a + Int32.ofInt b).toInt
def a_sub (a b : Int) : Int := (Int32.ofInt a - Int32.ofInt b).toInt
def a_mul (a b : Int) : Int := (Int32.ofInt a * Int32.ofInt b).toInt
def a_div (a b : Int) : Int := (Int32.ofInt a / Int32.ofInt b).toInt
def a_rem (a b : Int) : Int := (Int32.ofInt a - Int32.ofInt a / Int32.ofInt b * Int32.ofInt b).toInt
def a_neg (a : Int) : Int := (-(Int32.ofInt a)).toInt
def a_and (a b : Int) : Int := (Int32.ofInt a &&& Int32.ofInt b).toInt
def a_or (a b : Int) : Int := (Int32.ofInt a ||| Int32.ofInt b).toInt
def a_xor (a b : Int) : Int := (Int32.ofInt a ^^^ Int32.ofInt b).toInt
def a_shl (a b : Int) : Int := (Int32.ofInt a <<< (Int32.ofInt b &&& 31)).toInt
def a_shr (a b : Int) : Int := (Int32.ofInt a >>> (Int32.ofInt b &&& 31)).toInt
def a_ushr (a b : Int) : Int := ((Int32.ofInt a).toUInt32 >>> ((Int32.ofInt b).toUInt32 &&& Int32.toUInt32 31)).toInt32.toInt
def a_i2c (a : Int) : Int := ((Int32.ofInt a).toUInt32 % 65536).toInt32.toInt
def a_i2l (a : Int) : Int := (Int32.ofInt a).toInt64.toInt
-- long arithmetic
def a_l2i (a : Int) : Int := (Int64.ofInt a).toInt32.toInt
def a_ladd (a b : Int) : Int := (Int64.ofInt a + Int64.ofInt b).toInt
def a_lsub (a b : Int) : Int := (Int64.ofInt a - Int64.ofInt b).toInt
def a_land (a b : Int) : Int := (Int64.ofInt a &&& Int64.ofInt b).toInt
def a_lor (a b : Int) : Int := (Int64.ofInt a ||| Int64.ofInt b).toInt
def a_lxor (a b : Int) : Int := (Int64.ofInt a ^^^ Int64.ofInt b).toInt
def a_lshl (a b : Int) : Int := (Int64.ofInt a <<< ((Int32.ofInt b).toInt64 &&& 63)).toInt
def a_lshr (a b : Int) : Int := (Int64.ofInt a >>> ((Int32.ofInt b).toInt64 &&& 63)).toInt
def a_lushr (a b : Int) : Int := ((Int64.ofInt a).toUInt64 >>> ((Int32.ofInt b).toInt64.toUInt64 &&& Int64.toUInt64 63)).toInt64.toInt
def a_cmp (a b : Int) : Int := if b < a then 1 else if a = b then 0 else -1
-- locals: none is what nobody may read
abbrev AL : Type := List (Option AV)
def al_kill (ls : AL) (i : Nat) : AL := match i with
  | 0 => ls
  | j + 1 => match ls[j]? with
    | some (some (.inr (.inl _))) => ls.set j none
    | _ => ls
def al_set1 (ls : AL) (i : Nat) (v : AV) : AL := (al_kill ls i).set i (some v)
def al_set2 (ls : AL) (i : Nat) (v : AV) : AL := ((al_kill ls i).set i (some v)).set (i + 1) none
def av_cat (v : AV) : Nat := match v with
  | .inr (.inl _) => 2
  | _ => 1
def av_cats (st : List AV) : Nat := match st with
  | [] => 0
  | v :: r => av_cat v + av_cats r
/-- the locals with which a method begins -/
def al_args : Nat → List AV → AL
  | n, [] => List.replicate n none
  | n, v :: vs => match v with
    | .inr (.inl _) => some v :: none :: al_args (n - 2) vs
    | _ => some v :: al_args (n - 1) vs
/-- what stands beside an instruction in the table: a number, two places -/
abbrev AX : Type := Int × Nat × Nat
abbrev AB : Type := List (Jvm.ClassFile.Instr × AX)
/-- a program: cells' kinds; of a method: class, size of the locals, kind of its answer (0 none, 1 int, 2 boolean, 3 char), 1 where it has a receiver; its blocks; string constants -/
abbrev AG : Type := (Nat → AK) × (Nat → Nat × Nat × Nat × Nat) × (Nat → Nat → AB) × (Nat → List Int)
section AMS
variable (G : AG)
def a_fld (M : AM) (c k : Nat) (fs : List Nat) : Option AV := match fs[k]? with
  | none => none
  | some 0 => some (aI (M c k))
  | some 1 => some (aI (M c k))
  | some (j + 2) => some (aP j)
def a_tsw (nx : Nat → Prop) (pc : Nat) (a : Int) : Int → List Int → Prop
  | _, [] => True
  | lo, o :: os => (a = lo → nx ((pc : Int) + o).toNat) ∧ a_tsw nx pc a (lo + 1) os
def a_lsw (nx : Nat → Prop) (pc : Nat) (a d : Int) : List (Int × Int) → Prop
  | [] => nx ((pc : Int) + d).toNat
  | q :: r => (a = q.1 → nx ((pc : Int) + q.2).toNat) ∧ (a ≠ q.1 → a_lsw nx pc a d r)
def a_cnd (c : Jvm.ClassFile.Cond) (a b : Int) (A B : Prop) : Prop := match c with
  | .eq => (a = b → A) ∧ (a ≠ b → B)
  | .ne => (a ≠ b → A) ∧ (a = b → B)
  | .lt => (a < b → A) ∧ (b ≤ a → B)
  | .ge => (b ≤ a → A) ∧ (a < b → B)
  | .gt => (b < a → A) ∧ (a ≤ b → B)
  | .le => (a ≤ b → A) ∧ (b < a → B)
def a_bin (i : Jvm.ClassFile.Instr) : Option (Int → Int → Int) := match i with
  | .iadd => some a_add
  | .isub => some a_sub
  | .imul => some a_mul
  | .iand => some a_and
  | .ior => some a_or
  | .ixor => some a_xor
  | .ishl => some a_shl
  | .ishr => some a_shr
  | .iushr => some a_ushr
  | _ => none
def a_binL (i : Jvm.ClassFile.Instr) : Option (Int → Int → Int) := match i with
  | .ladd => some a_ladd
  | .lsub => some a_lsub
  | .land => some a_land
  | .lor => some a_lor
  | .lxor => some a_lxor
  | _ => none
def a_shL (i : Jvm.ClassFile.Instr) : Option (Int → Int → Int) := match i with
  | .lshl => some a_lshl
  | .lshr => some a_lshr
  | .lushr => some a_lushr
  | _ => none
/-- one step: where 'run y as M K' says that the method y, begun so, ends with K; and 'nx pc rest ls st M' what is asked of the next state ([] for rest: at a block's begin) -/
def a_step (run : Nat → List AV → AM → (Option AV → AM → Prop) → Prop) (nx : Nat → AB → AL → List AV → AM → Prop) (rk : Nat) (Q : Option AV → AM → Prop) (pc : Nat) (ins : Jvm.ClassFile.Instr) (x : AX) (rs : AB) (ls : AL) (st : List AV) (M : AM) : Prop :=
  match ins with
  | .iconst n => nx (pc + 1) rs ls (aI n :: st) M
  | .bipush n => nx (pc + 2) rs ls (aI n :: st) M
  | .sipush n => nx (pc + 3) rs ls (aI n :: st) M
  | .lconst n => nx (pc + 1) rs ls (aL (n : Nat) :: st) M
  | .ldc _ => match x with
    | (z, 0, _) => nx (pc + 2) rs ls (aI z :: st) M
    | (_, 1, k) => nx (pc + 2) rs ls (aS k :: st) M
    | _ => False
  | .ldc_w _ => nx (pc + 3) rs ls (aI x.1 :: st) M
  | .ldc2_w _ => nx (pc + 3) rs ls (aL x.1 :: st) M
  | .iload_n k => match ls[(k : Nat)]? with
    | some (some (.inl z)) => nx (pc + 1) rs ls (aI z :: st) M
    | _ => False
  | .iload k => match ls[k]? with
    | some (some (.inl z)) => nx (pc + 2) rs ls (aI z :: st) M
    | _ => False
  | .lload_n k => match ls[(k : Nat)]? with
    | some (some (.inr (.inl z))) => nx (pc + 1) rs ls (aL z :: st) M
    | _ => False
  | .lload k => match ls[k]? with
    | some (some (.inr (.inl z))) => nx (pc + 2) rs ls (aL z :: st) M
    | _ => False
  | .aload_n k => match ls[(k : Nat)]? with
    | some (some (.inr (.inr v))) => nx (pc + 1) rs ls (.inr (.inr v) :: st) M
    | _ => False
  | .aload k => match ls[k]? with
    | some (some (.inr (.inr v))) => nx (pc + 2) rs ls (.inr (.inr v) :: st) M
    | _ => False
  | .istore_n k => match st with
    | .inl z :: st => nx (pc + 1) rs (al_set1 ls k (aI z)) st M
    | _ => False
  | .istore k => match st with
    | .inl z :: st => nx (pc + 2) rs (al_set1 ls k (aI z)) st M
    | _ => False
  | .lstore_n k => match st with
    | .inr (.inl z) :: st => nx (pc + 1) rs (al_set2 ls k (aL z)) st M
    | _ => False
  | .lstore k => match st with
    | .inr (.inl z) :: st => nx (pc + 2) rs (al_set2 ls k (aL z)) st M
    | _ => False
  | .astore_n k => match st with
    | .inr (.inr v) :: st => nx (pc + 1) rs (al_set1 ls k (.inr (.inr v))) st M
    | _ => False
  | .astore k => match st with
    | .inr (.inr v) :: st => nx (pc + 2) rs (al_set1 ls k (.inr (.inr v))) st M
    | _ => False
  | .iinc k n => match ls[k]? with
    | some (some (.inl z)) => nx (pc + 3) rs (al_set1 ls k (aI (a_add z n))) st M
    | _ => False
  | .dup => match st with
    | v :: st => cond (Nat.beq (av_cat v) 1) (nx (pc + 1) rs ls (v :: v :: st) M) False
    | _ => False
  | .dup_x1 => match st with
    | v :: w :: st => cond (Nat.beq (av_cat v) 1 && Nat.beq (av_cat w) 1) (nx (pc + 1) rs ls (v :: w :: v :: st) M) False
    | _ => False
  | .dup2 => match st with
    | v :: w :: st => cond (Nat.beq (av_cat v) 1 && Nat.beq (av_cat w) 1) (nx (pc + 1) rs ls (v :: w :: v :: w :: st) M) False
    | _ => False
  | .pop => match st with
    | v :: st => cond (Nat.beq (av_cat v) 1) (nx (pc + 1) rs ls st M) False
    | _ => False
  | .ineg => match st with
    | .inl a :: st => nx (pc + 1) rs ls (aI (a_neg a) :: st) M
    | _ => False
  | .idiv => match st with
    | .inl b :: .inl a :: st => b ≠ 0 ∧ nx (pc + 1) rs ls (aI (a_div a b) :: st) M
    | _ => False
  | .irem => match st with
    | .inl b :: .inl a :: st => b ≠ 0 ∧ nx (pc + 1) rs ls (aI (a_rem a b) :: st) M
    | _ => False
  | .i2l => match st with
    | .inl a :: st => nx (pc + 1) rs ls (aL a :: st) M
    | _ => False
  | .l2i => match st with
    | .inr (.inl a) :: st => nx (pc + 1) rs ls (aI (a_l2i a) :: st) M
    | _ => False
  | .i2c => match st with
    | .inl a :: st => nx (pc + 1) rs ls (aI (a_i2c a) :: st) M
    | _ => False
  | .lcmp => match st with
    | .inr (.inl b) :: .inr (.inl a) :: st => nx (pc + 1) rs ls (aI (a_cmp a b) :: st) M
    | _ => False
  | .goto o => nx ((pc : Int) + o).toNat [] ls st M
  | .if_icmp c o => match st with
    | .inl b :: .inl a :: st => a_cnd c a b (nx ((pc : Int) + o).toNat [] ls st M) (nx (pc + 3) rs ls st M)
    | _ => False
  | .ifCond c o => match st with
    | .inl a :: st => a_cnd c a 0 (nx ((pc : Int) + o).toNat [] ls st M) (nx (pc + 3) rs ls st M)
    | _ => False
  | .tableswitch d lo hi offs => match st with
    | .inl a :: st => a_tsw (fun t => nx t [] ls st M) pc a lo offs.toList ∧ (a < lo ∨ hi < a → nx ((pc : Int) + d).toNat [] ls st M)
    | _ => False
  | .lookupswitch d ps => match st with
    | .inl a :: st => a_lsw (fun t => nx t [] ls st M) pc a d ps.toList
    | _ => False
  | .getfield _ => match st with
    | .inr (.inr (.inl c)) :: st => match G.1 c with
      | .inl (ci, fs) => cond (Nat.beq ci x.2.1) (match a_fld M c x.2.2 fs with
        | some v => nx (pc + 3) rs ls (v :: st) M
        | none => False) False
      | _ => False
    | _ => False
  | .putfield _ => match st with
    | .inl z :: .inr (.inr (.inl c)) :: st => match G.1 c with
      | .inl (ci, fs) => cond (Nat.beq ci x.2.1) (match fs[x.2.2]? with
        | some 0 => nx (pc + 3) rs ls st (am_up M c x.2.2 z)
        | some 1 => (z = 0 ∨ z = 1) ∧ nx (pc + 3) rs ls st (am_up M c x.2.2 z)
        | _ => False) False
      | _ => False
    | _ => False
  | .getstatic _ => nx (pc + 3) rs ls (aP x.2.1 :: st) M
  | .arraylength => match st with
    | .inr (.inr (.inl c)) :: st => match G.1 c with
      | .inr (.inl (_, n)) => nx (pc + 1) rs ls (aI n :: st) M
      | _ => False
    | _ => False
  | .iaload => match st with
    | .inl i :: .inr (.inr (.inl c)) :: st => match G.1 c with
      | .inr (.inl (0, n)) => (0 ≤ i ∧ i < n) ∧ nx (pc + 1) rs ls (aI (M c i) :: st) M
      | .inr (.inr (.inr (.inr cs))) => (0 ≤ i ∧ i < cs.length) ∧ nx (pc + 1) rs ls (aI (cs.getD i.toNat 0) :: st) M
      | _ => False
    | .inl i :: .inr (.inr (.inr (.inl (c, r)))) :: st => match G.1 c with
      | .inr (.inr (.inl (_, len, _))) => (0 ≤ i ∧ i < len) ∧ nx (pc + 1) rs ls (aI (M c (r * len + i)) :: st) M
      | _ => False
    | _ => False
  | .aaload => match st with
    | .inl i :: .inr (.inr (.inl c)) :: st => match G.1 c with
      | .inr (.inr (.inl (n, _, _))) => (0 ≤ i ∧ i < n) ∧ nx (pc + 1) rs ls (aR c i :: st) M
      | _ => False
    | _ => False
  | .baload => match st with
    | .inl i :: .inr (.inr (.inl c)) :: st => match G.1 c with
      | .inr (.inl (1, n)) => (0 ≤ i ∧ i < n) ∧ nx (pc + 1) rs ls (aI (M c i) :: st) M
      | _ => False
    | _ => False
  | .caload => match st with
    | .inl i :: .inr (.inr (.inl c)) :: st => match G.1 c with
      | .inr (.inl (2, n)) => (0 ≤ i ∧ i < n) ∧ nx (pc + 1) rs ls (aI (M c i) :: st) M
      | _ => False
    | _ => False
  | .laload => match st with
    | .inl i :: .inr (.inr (.inl c)) :: st => match G.1 c with
      | .inr (.inl (3, n)) => (0 ≤ i ∧ i < n) ∧ nx (pc + 1) rs ls (aL (M c i) :: st) M
      | _ => False
    | _ => False
  | .iastore => match st with
    | .inl z :: .inl i :: .inr (.inr (.inl c)) :: st => match G.1 c with
      | .inr (.inl (0, n)) => (0 ≤ i ∧ i < n) ∧ nx (pc + 1) rs ls st (am_up M c i z)
      | _ => False
    | .inl z :: .inl i :: .inr (.inr (.inr (.inl (c, r)))) :: st => match G.1 c with
      | .inr (.inr (.inl (_, len, _))) => (0 ≤ i ∧ i < len) ∧ nx (pc + 1) rs ls st (am_up M c (r * len + i) z)
      | _ => False
    | _ => False
  | .bastore => match st with
    | .inl z :: .inl i :: .inr (.inr (.inl c)) :: st => match G.1 c with
      | .inr (.inl (1, n)) => (0 ≤ i ∧ i < n) ∧ (z = 0 ∨ z = 1) ∧ nx (pc + 1) rs ls st (am_up M c i z)
      | _ => False
    | _ => False
  | .castore => match st with
    | .inl z :: .inl i :: .inr (.inr (.inl c)) :: st => match G.1 c with
      | .inr (.inl (2, n)) => (0 ≤ i ∧ i < n) ∧ (0 ≤ z ∧ z < 65536) ∧ nx (pc + 1) rs ls st (am_up M c i z)
      | _ => False
    | _ => False
  | .lastore => match st with
    | .inr (.inl z) :: .inl i :: .inr (.inr (.inl c)) :: st => match G.1 c with
      | .inr (.inl (3, n)) => (0 ≤ i ∧ i < n) ∧ nx (pc + 1) rs ls st (am_up M c i z)
      | _ => False
    | _ => False
  | .invokestatic _ => cond (Nat.ble x.2.2 st.length && Nat.ble (av_cats (st.drop x.2.2)) 8 && Nat.beq (G.2.1 x.2.1).2.2.2 0) (run x.2.1 (st.take x.2.2).reverse M (fun r M' => nx (pc + 3) rs ls (r.toList ++ st.drop x.2.2) M')) False
  | .invokevirtual _ => match x.1 with
    | 0 => match st[x.2.2]? with
      | some (.inr (.inr (.inl c))) => match G.1 c with
        | .inl (ci, _) => cond (Nat.beq ci (G.2.1 x.2.1).1 && Nat.ble (av_cats (st.drop (x.2.2 + 1))) 8 && Nat.beq (G.2.1 x.2.1).2.2.2 1) (run x.2.1 (aP c :: (st.take x.2.2).reverse) M (fun r M' => nx (pc + 3) rs ls (r.toList ++ st.drop (x.2.2 + 1)) M')) False
        | _ => False
      | _ => False
    | 1 => match st with
      | .inr (.inr (.inr (.inr k))) :: st => cond (Nat.ble (av_cats st) 8) (nx (pc + 3) rs ls (aI (G.2.2.2 k).length :: st) M) False
      | _ => False
    | 2 => match st with
      | .inl i :: .inr (.inr (.inr (.inr k))) :: st => cond (Nat.ble (av_cats st) 8) ((0 ≤ i ∧ i < (G.2.2.2 k).length) ∧ nx (pc + 3) rs ls (aI ((G.2.2.2 k).getD i.toNat 0) :: st) M) False
      | _ => False
    | _ => False
  | .ireturn => match st with
    | [.inl z] => match rk with
      | 1 => Q (some (aI z)) M
      | 2 => (z = 0 ∨ z = 1) ∧ Q (some (aI z)) M
      | 3 => (0 ≤ z ∧ z < 65536) ∧ Q (some (aI z)) M
      | _ => False
    | _ => False
  | .return_ => match st with
    | [] => match rk with
      | 0 => Q none M
      | _ => False
    | _ => False
  | ins => match a_bin ins with
    | some f => match st with
      | .inl b :: .inl a :: st => nx (pc + 1) rs ls (aI (f a b) :: st) M
      | _ => False
    | none => match a_binL ins with
      | some f => match st with
        | .inr (.inl b) :: .inr (.inl a) :: st => nx (pc + 1) rs ls (aL (f a b) :: st) M
        | _ => False
      | none => match a_shL ins with
        | some f => match st with
          | .inl b :: .inr (.inl a) :: st => nx (pc + 1) rs ls (aL (f a b) :: st) M
          | _ => False
        | none => False
end AMS
/-- within n steps and d calls deep the method y, at pc, with 'rs' of its block before it, ends with Q -/
def a_run (G : AG) : Nat → Nat → Nat → Nat → AB → AL → List AV → AM → (Option AV → AM → Prop) → Prop
  | 0, _, _, _, _, _, _, _, _ => False
  | n + 1, d, y, pc, rs, ls, st, M, Q => match rs with
    | [] => a_run G n d y pc (G.2.2.1 y pc) ls st M Q
    | (ins, x) :: rs => a_step G (fun y' as M' K => match d with
        | 0 => False
        | d + 1 => cond (Nat.ble (av_cats as) (G.2.1 y').2.1) (a_run G n d y' 0 [] (al_args (G.2.1 y').2.1 as) [] M' K) False)
      (fun pc' rs' ls' st' M' => a_run G n d y pc' rs' ls' st' M' Q) (G.2.1 y).2.2.1 Q pc ins x rs ls st M
end
section
/-! THE ABSTRACT MACHINE IS SOUND: what it runs, the methods run. First the worlds. -/
def aR32 (z : Int) : Prop := -2147483648 ≤ z ∧ z < 2147483648
def aR64 (z : Int) : Prop := -9223372036854775808 ≤ z ∧ z < 9223372036854775808
theorem aR32_of (x : Int32) : aR32 x.toInt := by
  have h1 := Int32.minValue_le_toInt x
  have h2 := Int32.toInt_lt x
  simp [aR32, Int32.minValue] at *
  omega
theorem aR64_of (x : Int64) : aR64 x.toInt := by
  have h1 := Int64.minValue_le_toInt x
  have h2 := Int64.toInt_lt x
  simp [aR64, Int64.minValue] at *
  omega
theorem a32_t {z : Int} (h : aR32 z) : (Int32.ofInt z).toInt = z := Int32.toInt_ofInt_of_le h.1 h.2
theorem a64_t {z : Int} (h : aR64 z) : (Int64.ofInt z).toInt = z := Int64.toInt_ofInt_of_le h.1 h.2
theorem a32_o (x : Int32) : Int32.ofInt x.toInt = x := Int32.ofInt_toInt x
theorem a64_o (x : Int64) : Int64.ofInt x.toInt = x := Int64.ofInt_toInt x
theorem a32_lt {a b : Int} (ha : aR32 a) (hb : aR32 b) : Int32.ofInt a < Int32.ofInt b ↔ a < b := by rw [Int32.lt_iff_toInt_lt, a32_t ha, a32_t hb]
theorem a32_le {a b : Int} (ha : aR32 a) (hb : aR32 b) : Int32.ofInt a ≤ Int32.ofInt b ↔ a ≤ b := by rw [Int32.le_iff_toInt_le, a32_t ha, a32_t hb]
theorem a32_eq {a b : Int} (ha : aR32 a) (hb : aR32 b) : Int32.ofInt a = Int32.ofInt b ↔ a = b := by rw [← Int32.toInt_inj, a32_t ha, a32_t hb]
theorem a64_lt {a b : Int} (ha : aR64 a) (hb : aR64 b) : Int64.ofInt a < Int64.ofInt b ↔ a < b := by rw [Int64.lt_iff_toInt_lt, a64_t ha, a64_t hb]
theorem a64_eq {a b : Int} (ha : aR64 a) (hb : aR64 b) : Int64.ofInt a = Int64.ofInt b ↔ a = b := by rw [← Int64.toInt_inj, a64_t ha, a64_t hb]
/-- an index that is within -/
theorem a32_ix {i : Int} {n : Nat} (h0 : 0 ≤ i) (h1 : i < n) (hr : aR32 i) : vp_in (Int32.ofInt i) n ∧ (Int32.ofInt i).toNatClampNeg = i.toNat := by
  have e : (Int32.ofInt i).toInt = i := a32_t hr
  refine ⟨vp_in_iff.mpr (by rw [e]; exact ⟨h0, h1⟩), ?_⟩
  rw [← Int32.toNat_toInt, e]
section AW
variable (G : AG) (ad : Nat → Nat) (cA : Nat → ClassId) (nc : Nat)
def a_isL (q : Nat) : Bool := match G.1 q with
  | .inr (.inl (3, _)) => true
  | _ => false
/-- the values of an object's fields, from the place j on -/
def aw_fv (M : AM) (q : Nat) : Nat → List Nat → List Value
  | _, [] => []
  | j, f :: fs => (match f with
    | k + 2 => .ref (ad k)
    | _ => .int (Int32.ofInt (M q j))) :: aw_fv M q (j + 1) fs
def aw_e (M : AM) (q : Nat) : va_E := match G.1 q with
  | .inl (ci, fs) => .inr (ci, aw_fv ad M q 0 fs)
  | .inr (.inl (3, n)) => .inl (cA 3, n, .inr (.inl (fun j => Int64.ofInt (M q j))))
  | .inr (.inl (t, n)) => .inl (cA t, n, .inl (fun j => Int32.ofInt (M q j)))
  | .inr (.inr (.inl (n, _, base))) => .inl (cA 4, n, .inr (.inr (.inr (.inr (fun i => if i < n then some (ad (base + i)) else none)))))
  | .inr (.inr (.inr (.inl (k, r, len)))) => .inl (cA 0, len, .inl (fun j => if j < len then Int32.ofInt (M k (r * len + j)) else 0))
  | .inr (.inr (.inr (.inr _))) => .inr (0, [])
/-- the world that a store stands for -/
def aw (M : AM) : va_W := (List.range nc).map fun q => (ad q, aw_e G ad cA M q)
/-- the kinds fit each other -/
def aGW : Prop := (∀ q k r len, G.1 q = kW k r len → ∃ n base, G.1 k = kR n len base ∧ q = base + r ∧ r < n) ∧ (∀ k n len base, G.1 k = kR n len base → ∀ r, r < n → base + r < nc ∧ G.1 (base + r) = kW k r len) ∧ (∀ q, nc ≤ q → ∃ cs, G.1 q = kC cs) ∧ (∀ q cs, G.1 q = kC cs → ∀ z ∈ cs, aR32 z)
def a_rb (k : Nat) : Nat := match G.1 k with
  | .inr (.inr (.inl (_, _, b))) => b
  | _ => 0
/-- a value as the JVM has it -/
def acv (v : AV) : Value := match v with
  | .inl z => .int (Int32.ofInt z)
  | .inr (.inl z) => .long (Int64.ofInt z)
  | .inr (.inr (.inl k)) => .ref (ad k)
  | .inr (.inr (.inr (.inl (k, i)))) => .ref (ad (a_rb G k + i.toNat))
  | .inr (.inr (.inr (.inr k))) => .ref (ad (5000 + k))
def aOKV (ns : Nat) (v : AV) : Prop := match v with
  | .inl z => aR32 z
  | .inr (.inl z) => aR64 z
  | .inr (.inr (.inl _)) => True
  | .inr (.inr (.inr (.inl (k, i)))) => ∃ n len base, G.1 k = kR n len base ∧ 0 ≤ i ∧ i < n
  | .inr (.inr (.inr (.inr k))) => k < ns
def aOKM (M : AM) : Prop := ∀ q i, (a_isL G q = true → aR64 (M q i)) ∧ (a_isL G q = false → aR32 (M q i))
variable {G ad cA nc}
theorem aw_at {M : AM} {q : Nat} (h : q < nc) : (aw G ad cA nc M)[q]? = some (ad q, aw_e G ad cA M q) := by simp [aw, h]
theorem aw_in {q : Nat} (hG : aGW G nc) (h : ∀ cs, G.1 q ≠ kC cs) : q < nc := by
  rcases Nat.lt_or_ge q nc with h1 | h1
  · exact h1
  · obtain ⟨cs, h2⟩ := hG.2.2.1 q h1
    exact absurd h2 (h cs)
theorem aw_fv_get {M : AM} {q : Nat} : ∀ (fs : List Nat) (j k : Nat), (aw_fv ad M q j fs)[k]? = match fs[k]? with
    | none => none
    | some (c + 2) => some (.ref (ad c))
    | some _ => some (.int (Int32.ofInt (M q ((j + k : Nat) : Int)))) := by
  intro fs
  induction fs with
  | nil => intro j k; simp [aw_fv]
  | cons f fs ih =>
    intro j k
    cases k with
    | zero => cases f with
      | zero => simp [aw_fv]
      | succ f => cases f <;> simp [aw_fv]
    | succ k =>
      simp only [aw_fv, List.getElem?_cons_succ, ih]
      rw [show j + 1 + k = j + (k + 1) by omega]
theorem aw_fv_len {M : AM} {q : Nat} : ∀ (fs : List Nat) (j : Nat), (aw_fv ad M q j fs).length = fs.length := by
  intro fs
  induction fs with
  | nil => intro j; rfl
  | cons f fs ih => intro j; simp [aw_fv, ih]
/-- a store written in one place is a world written in one cell -/
theorem aw_set {M : AM} {k q : Nat} {i z : Int} (h : ∀ q', q' < nc → q' ≠ q → aw_e G ad cA (am_up M k i z) q' = aw_e G ad cA M q') : aw G ad cA nc (am_up M k i z) = (aw G ad cA nc M).set q (ad q, aw_e G ad cA (am_up M k i z) q) := by
  apply List.ext_getElem?
  intro j
  by_cases hj : j < nc
  · rw [aw_at hj, List.getElem?_set]
    by_cases e : q = j
    · subst e
      simp [aw, hj]
    · rw [if_neg e, aw_at hj, h j hj (fun x => e x.symm)]
  · rw [List.getElem?_eq_none (by simp [aw]; omega), List.getElem?_eq_none (by simp [aw]; omega)]
theorem aw_other {M : AM} {k : Nat} {i z : Int} {q : Nat} (hG : aGW G nc) (hk : ∀ n len base, G.1 k ≠ kR n len base) (hq : q ≠ k) : aw_e G ad cA (am_up M k i z) q = aw_e G ad cA M q := by
  unfold aw_e
  split
  next ci fs e =>
    congr 2
    apply List.ext_getElem?
    intro j
    rw [aw_fv_get, aw_fv_get]
    simp [am_up, hq]
  next n e => simp [am_up, hq]
  next t n _ e => simp [am_up, hq]
  next n _ base e => rfl
  next k' r len e =>
    obtain ⟨n, base, e2, -⟩ := hG.1 q k' r len e
    have hne : k' ≠ k := fun x => hk n len base (x ▸ e2)
    simp [am_up, hne]
  next => rfl
theorem aw_otherR {M : AM} {k n len base r : Nat} {j z : Int} {q : Nat} (hG : aGW G nc) (hk : G.1 k = kR n len base) (hr : r < n) (h0 : 0 ≤ j) (h1 : j < len) (hq : q ≠ base + r) : aw_e G ad cA (am_up M k (r * len + j) z) q = aw_e G ad cA M q := by
  unfold aw_e
  split
  next ci fs e =>
    have hne : q ≠ k := fun x => by rw [x, hk] at e; cases e
    congr 2
    apply List.ext_getElem?
    intro j
    rw [aw_fv_get, aw_fv_get]
    simp [am_up, hne]
  next m e =>
    have hne : q ≠ k := fun x => by rw [x, hk] at e; cases e
    simp [am_up, hne]
  next t m _ e =>
    have hne : q ≠ k := fun x => by rw [x, hk] at e; cases e
    simp [am_up, hne]
  next m _ b e => rfl
  next k' r' len' e =>
    obtain ⟨n', b', e2, e3, e4⟩ := hG.1 q k' r' len' e
    by_cases hkk : k' = k
    · subst hkk
      rw [hk] at e2
      cases e2
      have hrr : r' ≠ r := fun x => hq (by rw [e3, x])
      congr 4
      funext j'
      by_cases hj : j' < len
      · rw [if_pos hj, if_pos hj]
        have : ¬ ((r' : Int) * len + j' = r * len + j) := by
          intro x
          have h4 : ((r' : Int) - r) * len = j - j' := by rw [Int.sub_mul]; omega
          rcases Int.lt_or_gt_of_ne (show (r' : Int) ≠ r by omega) with g | g
          · have : ((r' : Int) - r) * len ≤ -1 * len := Int.mul_le_mul_of_nonneg_right (by omega) (by omega)
            omega
          · have : 1 * (len : Int) ≤ ((r' : Int) - r) * len := Int.mul_le_mul_of_nonneg_right (by omega) (by omega)
            omega
        simp [am_up, this]
      · rw [if_neg hj, if_neg hj]
    · simp [am_up, hkk]
  next => rfl
theorem aOKM_up {M : AM} {k : Nat} {i z : Int} (h : aOKM G M) (hz : (a_isL G k = true → aR64 z) ∧ (a_isL G k = false → aR32 z)) : aOKM G (am_up M k i z) := by
  intro q j
  unfold am_up
  by_cases hc : q = k ∧ j = i
  · rw [if_pos hc, hc.1]; exact hz
  · rw [if_neg hc]; exact h q j
end AW
end
section
/-! THE ABSTRACT MACHINE IS SOUND, second: locals, the words, one method's walk. -/
/-- the locals hold what the abstract ones say -/
def aLoc (cv : AV → Value) (lsC : Array Slot) (nL : Nat) (ls : AL) : Prop := lsC.size = nL ∧ lv_wf lsC ∧ ∀ (i : Nat) (v : AV), ls[i]? = some (some v) → lsC[i]? = some (.val (cv v))
/-- the same as the kit's rows ask for it -/
def al_prs (cv : AV → Value) (ls : AL) : List (Nat × Value) := (List.range ls.length).filterMap fun i => match ls[i]? with
  | some (some v) => some (i, cv v)
  | _ => none
theorem al_mem {cv : AV → Value} {ls : AL} {i : Nat} {w : Value} : (i, w) ∈ al_prs cv ls ↔ ∃ v, ls[i]? = some (some v) ∧ w = cv v := by
  unfold al_prs
  rw [List.mem_filterMap]
  constructor
  · rintro ⟨j, -, h⟩
    split at h
    next v e => cases h; exact ⟨v, e, rfl⟩
    next => cases h
  · rintro ⟨v, h, rfl⟩
    refine ⟨i, List.mem_range.mpr (List.getElem?_eq_some_iff.mp h).1, ?_⟩
    rw [h]
theorem al_has {cv : AV → Value} {lsC : Array Slot} {nL : Nat} {ls : AL} (h : aLoc cv lsC nL ls) : lv_has lsC nL (al_prs cv ls) := by
  refine ⟨h.1, h.2.1, fun q hq => ?_⟩
  obtain ⟨v, h1, h2⟩ := al_mem.mp (show (q.1, q.2) ∈ _ from hq)
  rw [h2]
  exact h.2.2 q.1 v h1
theorem al_kill_get {ls : AL} {i j : Nat} {w : AV} (h : (al_kill ls i)[j]? = some (some w)) : ls[j]? = some (some w) ∧ ¬ (j + 1 = i ∧ ∃ z, w = aL z) := by
  unfold al_kill at h
  split at h
  · exact ⟨h, fun x => by omega⟩
  next k =>
    split at h
    next z e =>
      rw [List.getElem?_set] at h
      split at h
      · split at h <;> cases h
      next hne => exact ⟨h, fun x => hne (by omega)⟩
    next hn =>
      refine ⟨h, fun x => ?_⟩
      obtain ⟨x1, z, x2⟩ := x
      have : j = k := by omega
      subst this
      subst x2
      exact hn z h
theorem acv_cat {G : AG} {ad : Nat → Nat} {v : AV} : (acv G ad v).category = 2 ↔ ∃ z, v = aL z := by
  rcases v with z | z | k | ⟨k, i⟩ | k <;> simp [acv, Value.category]
theorem acv_catN {G : AG} {ad : Nat → Nat} (v : AV) : (acv G ad v).category = av_cat v := by
  rcases v with z | z | k | ⟨k, i⟩ | k <;> rfl
theorem acv_cats {G : AG} {ad : Nat → Nat} (st : List AV) : ((st.map (acv G ad)).map fun v => v.category).sum = av_cats st := by
  induction st with
  | nil => rfl
  | cons v r ih => simp only [List.map_cons, List.sum_cons, av_cats]; rw [acv_catN, ← ih]
theorem al_store1 {G : AG} {ad : Nat → Nat} {lsC : Array Slot} {nL i : Nat} {ls : AL} {v : AV} (h : lv_has lsC nL ((i, acv G ad v) :: (al_prs (acv G ad) ls).filter (fun q => !(q.1 == i) && !(q.1 + 1 == i && q.2.category == 2)))) : aLoc (acv G ad) lsC nL (al_set1 ls i v) := by
  refine ⟨h.1, h.2.1, fun j w hj => ?_⟩
  unfold al_set1 at hj
  rw [List.getElem?_set] at hj
  split at hj
  next e =>
    subst e
    split at hj
    · cases hj
      exact h.2.2 (i, acv G ad v) List.mem_cons_self
    · cases hj
  next e =>
    obtain ⟨h1, h2⟩ := al_kill_get hj
    refine h.2.2 (j, acv G ad w) (List.mem_cons_of_mem _ (List.mem_filter.mpr ⟨al_mem.mpr ⟨w, h1, rfl⟩, ?_⟩))
    have e2 : (j == i) = false := by simp; omega
    by_cases hji : j + 1 = i
    · have : ¬ (acv G ad w).category = 2 := fun x => h2 ⟨hji, acv_cat.mp x⟩
      simp [e2, this]
    · simp [e2, hji]
theorem al_store2 {G : AG} {ad : Nat → Nat} {lsC : Array Slot} {nL i : Nat} {ls : AL} {v : AV} (h : lv_has lsC nL ((i, acv G ad v) :: (al_prs (acv G ad) ls).filter (fun q => !(q.1 == i) && (!(q.1 == i + 1) && !(q.1 + 1 == i && q.2.category == 2))))) : aLoc (acv G ad) lsC nL (al_set2 ls i v) := by
  refine ⟨h.1, h.2.1, fun j w hj => ?_⟩
  unfold al_set2 at hj
  rw [List.getElem?_set] at hj
  split at hj
  next e => split at hj <;> cases hj
  next e0 =>
  rw [List.getElem?_set] at hj
  split at hj
  next e =>
    subst e
    split at hj
    · cases hj
      exact h.2.2 (i, acv G ad v) List.mem_cons_self
    · cases hj
  next e =>
    obtain ⟨h1, h2⟩ := al_kill_get hj
    refine h.2.2 (j, acv G ad w) (List.mem_cons_of_mem _ (List.mem_filter.mpr ⟨al_mem.mpr ⟨w, h1, rfl⟩, ?_⟩))
    have e2 : (j == i) = false := by simp; omega
    have e3 : (j == i + 1) = false := by simp; omega
    by_cases hji : j + 1 = i
    · have : ¬ (acv G ad w).category = 2 := fun x => h2 ⟨hji, acv_cat.mp x⟩
      simp [e2, e3, this]
    · simp [e2, e3, hji]
/-- which values the locals have is kept by a store -/
theorem al_set1_ok {P : AV → Prop} {ls : AL} {i : Nat} {v : AV} (h : ∀ w, some w ∈ ls → P w) (hv : P v) : ∀ w, some w ∈ al_set1 ls i v → P w := by
  intro w hw
  obtain ⟨j, hj⟩ := List.getElem?_of_mem hw
  unfold al_set1 at hj
  rw [List.getElem?_set] at hj
  split at hj
  · split at hj
    · cases hj; exact hv
    · cases hj
  · exact h w (List.mem_of_getElem? (al_kill_get hj).1)
theorem al_set2_ok {P : AV → Prop} {ls : AL} {i : Nat} {v : AV} (h : ∀ w, some w ∈ ls → P w) (hv : P v) : ∀ w, some w ∈ al_set2 ls i v → P w := by
  intro w hw
  obtain ⟨j, hj⟩ := List.getElem?_of_mem hw
  unfold al_set2 at hj
  rw [List.getElem?_set] at hj
  split at hj
  · split at hj <;> cases hj
  · rw [List.getElem?_set] at hj
    split at hj
    · split at hj
      · cases hj; exact hv
      · cases hj
    · exact h w (List.mem_of_getElem? (al_kill_get hj).1)
/-- the locals at the begin -/
theorem al_args_ok {P : AV → Prop} : ∀ (vs : List AV) (n : Nat), (∀ v ∈ vs, P v) → ∀ w, some w ∈ al_args n vs → P w := by
  intro vs
  induction vs with
  | nil => intro n _ w hw; have := List.eq_of_mem_replicate hw; cases this
  | cons v vs ih =>
    intro n hv w hw
    unfold al_args at hw
    split at hw
    · rcases List.mem_cons.mp hw with h | h
      · cases h; exact hv _ List.mem_cons_self
      · rcases List.mem_cons.mp h with h | h
        · cases h
        · exact ih _ (fun u hu => hv u (List.mem_cons_of_mem _ hu)) w h
    · rcases List.mem_cons.mp hw with h | h
      · cases h; exact hv _ List.mem_cons_self
      · exact ih _ (fun u hu => hv u (List.mem_cons_of_mem _ hu)) w h
theorem al_args_get {G : AG} {ad : Nat → Nat} : ∀ (vs : List AV) (n k i : Nat) (w : AV), (al_args n vs)[i]? = some (some w) → (k + i, acv G ad w) ∈ lv_args k (vs.map (acv G ad)) := by
  intro vs
  induction vs with
  | nil => intro n k i w h; have := List.eq_of_mem_replicate (List.mem_of_getElem? (show (List.replicate n none)[i]? = some (some w) from h)); cases this
  | cons v vs ih =>
    intro n k i w h
    rw [List.map_cons]
    unfold lv_args
    unfold al_args at h
    split at h
    next z =>
      rw [if_pos (show (acv G ad (Sum.inr (Sum.inl z))).category = 2 from rfl)]
      match i, h with
      | 0, h => cases h; exact List.mem_cons_self
      | 1, h => cases h
      | i + 2, h => rw [show k + (i + 2) = k + 2 + i by omega]; exact List.mem_cons_of_mem _ (ih _ _ _ _ h)
    next hn =>
      rw [if_neg (fun x => by obtain ⟨z, hz⟩ := acv_cat.mp x; exact hn z hz)]
      match i, h with
      | 0, h => cases h; exact List.mem_cons_self
      | i + 1, h => rw [show k + (i + 1) = k + 1 + i by omega]; exact List.mem_cons_of_mem _ (ih _ _ _ _ h)
theorem al_sl {G : AG} {ad : Nat → Nat} (vs : List AV) : (lg_sl (vs.map (acv G ad))).length = av_cats vs := by
  induction vs with
  | nil => rfl
  | cons v vs ih =>
    have e : lg_sl ((v :: vs).map (acv G ad)) = (if (acv G ad v).category = 2 then [.val (acv G ad v), .second] else [.val (acv G ad v)]) ++ lg_sl (vs.map (acv G ad)) := by simp [lg_sl]
    rw [e, List.length_append, ih]
    rcases v with z | z | k | ⟨k, i⟩ | k <;> simp [acv, Value.category, av_cats, av_cat]
theorem al_entry {G : AG} {ad : Nat → Nat} {vs : List AV} {n : Nat} (h : av_cats vs ≤ n) : aLoc (acv G ad) ((lg_sl (vs.map (acv G ad)) ++ List.replicate (n - (lg_sl (vs.map (acv G ad))).length) Slot.unset).toArray) n (al_args n vs) := by
  have h1 := lv_entry (vs.map (acv G ad)) (n := n) (by rw [al_sl]; exact h)
  refine ⟨h1.1, h1.2.1, fun i w hi => ?_⟩
  have h2 := al_args_get (G := G) (ad := ad) vs n 0 i w hi
  rw [Nat.zero_add] at h2
  exact h1.2.2 _ h2
end
