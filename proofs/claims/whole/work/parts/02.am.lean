/-! THE ABSTRACT MACHINE: the part of the JVM that the methods (constructors apart) use, over mathematical integers and a store of numbered cells. Sound over W by part 03. -/
/-- a value: int, long, a cell's number, a row (of a cell of rows), a string constant's number -/
abbrev AV : Type := Int ⊕ Int ⊕ Nat ⊕ (Nat × Int) ⊕ Nat
abbrev aI (z : Int) : AV := .inl z
abbrev aL (z : Int) : AV := .inr (.inl z)
abbrev aP (k : Nat) : AV := .inr (.inr (.inl k))
abbrev aR (k : Nat) (i : Int) : AV := .inr (.inr (.inr (.inl (k, i))))
abbrev aS (k : Nat) : AV := .inr (.inr (.inr (.inr k)))
/-- the store: cell, place -/
abbrev AM : Type := Nat → Int → Int
def am_up (M : AM) (k : Nat) (i z : Int) : AM := fun k' i' => if k' = k ∧ i' = i then z else M k' i'
/-- a cell's kind: object (class, fields: 0 int, 1 boolean, k + 2 the cell k); array (0 int, 1 boolean, 2 char, 3 long; length); rows (number, length, first row's cell); a row (of which, which, length); constants -/
abbrev AK : Type := (Nat × List Nat) ⊕ (Nat × Nat) ⊕ (Nat × Nat × Nat) ⊕ (Nat × Nat × Nat) ⊕ List Int
abbrev kO (ci : Nat) (fs : List Nat) : AK := .inl (ci, fs)
abbrev kA (ty n : Nat) : AK := .inr (.inl (ty, n))
abbrev kR (n len base : Nat) : AK := .inr (.inr (.inl (n, len, base)))
abbrev kW (k r len : Nat) : AK := .inr (.inr (.inr (.inl (k, r, len))))
abbrev kC (cs : List Int) : AK := .inr (.inr (.inr (.inr cs)))
-- int arithmetic
def a_add (a b : Int) : Int := (Int32.ofInt a + Int32.ofInt b).toInt
def a_sub (a b : Int) : Int := (Int32.ofInt a - Int32.ofInt b).toInt
def a_mul (a b : Int) : Int := (Int32.ofInt a * Int32.ofInt b).toInt
def a_div (a b : Int) : Int := (Int32.ofInt a / Int32.ofInt b).toInt
def a_rem (a b : Int) : Int := (Int32.ofInt a - Int32.ofInt a / Int32.ofInt b * Int32.ofInt b).toInt
def a_neg (a : Int) : Int := (-(Int32.ofInt a)).toInt
def a_and (a b : Int) : Int := (Int32.ofInt a &&& Int32.ofInt b).toInt
def a_or (a b : Int) : Int := (Int32.ofInt a ||| Int32.ofInt b).toInt
def a_xor (a b : Int) : Int := (Int32.ofInt a ^^^ Int32.ofInt b).toInt
def a_shl (a b : Int) : Int := (Int32.ofInt a <<< (Int32.ofInt b &&& 31)).toInt
def a_shr (a b : Int) : Int := (Int32.ofInt a >>> (Int32.ofInt b &&& 31)).toInt
def a_ushr (a b : Int) : Int := ((Int32.ofInt a).toUInt32 >>> ((Int32.ofInt b).toUInt32 &&& Int32.toUInt32 31)).toInt32.toInt
def a_i2c (a : Int) : Int := ((Int32.ofInt a).toUInt32 % 65536).toInt32.toInt
def a_i2l (a : Int) : Int := (Int32.ofInt a).toInt64.toInt
-- long arithmetic
def a_l2i (a : Int) : Int := (Int64.ofInt a).toInt32.toInt
def a_ladd (a b : Int) : Int := (Int64.ofInt a + Int64.ofInt b).toInt
def a_lsub (a b : Int) : Int := (Int64.ofInt a - Int64.ofInt b).toInt
def a_land (a b : Int) : Int := (Int64.ofInt a &&& Int64.ofInt b).toInt
def a_lor (a b : Int) : Int := (Int64.ofInt a ||| Int64.ofInt b).toInt
def a_lxor (a b : Int) : Int := (Int64.ofInt a ^^^ Int64.ofInt b).toInt
def a_lshl (a b : Int) : Int := (Int64.ofInt a <<< ((Int32.ofInt b).toInt64 &&& 63)).toInt
def a_lshr (a b : Int) : Int := (Int64.ofInt a >>> ((Int32.ofInt b).toInt64 &&& 63)).toInt
def a_lushr (a b : Int) : Int := ((Int64.ofInt a).toUInt64 >>> ((Int32.ofInt b).toInt64.toUInt64 &&& Int64.toUInt64 63)).toInt64.toInt
def a_cmp (a b : Int) : Int := if b < a then 1 else if a = b then 0 else -1
-- locals: none is what nobody may read
abbrev AL : Type := List (Option AV)
def al_kill (ls : AL) (i : Nat) : AL := match i with
  | 0 => ls
  | j + 1 => match ls[j]? with
    | some (some (.inr (.inl _))) => ls.set j none
    | _ => ls
def al_set1 (ls : AL) (i : Nat) (v : AV) : AL := (al_kill ls i).set i (some v)
def al_set2 (ls : AL) (i : Nat) (v : AV) : AL := ((al_kill ls i).set i (some v)).set (i + 1) none
def av_cat (v : AV) : Nat := match v with
  | .inr (.inl _) => 2
  | _ => 1
def av_cats (st : List AV) : Nat := match st with
  | [] => 0
  | v :: r => av_cat v + av_cats r
/-- the locals with which a method begins -/
def al_args : Nat → List AV → AL
  | n, [] => List.replicate n none
  | n, v :: vs => match v with
    | .inr (.inl _) => some v :: none :: al_args (n - 2) vs
    | _ => some v :: al_args (n - 1) vs
/-- what stands beside an instruction in the table: a number, two places -/
abbrev AX : Type := Int × Nat × Nat
abbrev AB : Type := List (Jvm.ClassFile.Instr × AX)
/-- a program: cells' kinds; of a method: class, size of the locals, kind of its answer (0 none, 1 int, 2 boolean, 3 char), 1 where it has a receiver; its blocks; string constants -/
abbrev AG : Type := (Nat → AK) × (Nat → Nat × Nat × Nat × Nat) × (Nat → Nat → AB) × (Nat → List Int)
section AMS
variable (G : AG)
def a_fld (M : AM) (c k : Nat) (fs : List Nat) : Option AV := match fs[k]? with
  | none => none
  | some 0 => some (aI (M c k))
  | some 1 => some (aI (M c k))
  | some (j + 2) => some (aP j)
def a_tsw (nx : Nat → Prop) (pc : Nat) (a : Int) : Int → List Int → Prop
  | _, [] => True
  | lo, o :: os => (a = lo → nx ((pc : Int) + o).toNat) ∧ a_tsw nx pc a (lo + 1) os
def a_lsw (nx : Nat → Prop) (pc : Nat) (a d : Int) : List (Int × Int) → Prop
  | [] => nx ((pc : Int) + d).toNat
  | q :: r => (a = q.1 → nx ((pc : Int) + q.2).toNat) ∧ (a ≠ q.1 → a_lsw nx pc a d r)
def a_cnd (c : Jvm.ClassFile.Cond) (a b : Int) (A B : Prop) : Prop := match c with
  | .eq => (a = b → A) ∧ (a ≠ b → B)
  | .ne => (a ≠ b → A) ∧ (a = b → B)
  | .lt => (a < b → A) ∧ (b ≤ a → B)
  | .ge => (b ≤ a → A) ∧ (a < b → B)
  | .gt => (b < a → A) ∧ (a ≤ b → B)
  | .le => (a ≤ b → A) ∧ (b < a → B)
def a_bin (i : Jvm.ClassFile.Instr) : Option (Int → Int → Int) := match i with
  | .iadd => some a_add
  | .isub => some a_sub
  | .imul => some a_mul
  | .iand => some a_and
  | .ior => some a_or
  | .ixor => some a_xor
  | .ishl => some a_shl
  | .ishr => some a_shr
  | .iushr => some a_ushr
  | _ => none
def a_binL (i : Jvm.ClassFile.Instr) : Option (Int → Int → Int) := match i with
  | .ladd => some a_ladd
  | .lsub => some a_lsub
  | .land => some a_land
  | .lor => some a_lor
  | .lxor => some a_lxor
  | _ => none
def a_shL (i : Jvm.ClassFile.Instr) : Option (Int → Int → Int) := match i with
  | .lshl => some a_lshl
  | .lshr => some a_lshr
  | .lushr => some a_lushr
  | _ => none
/-- one step: where 'run y as M K' says that the method y, begun so, ends with K; and 'nx pc rest ls st M' what is asked of the next state ([] for rest: at a block's begin) -/
def a_step (run : Nat → List AV → AM → (Option AV → AM → Prop) → Prop) (nx : Nat → AB → AL → List AV → AM → Prop) (rk : Nat) (Q : Option AV → AM → Prop) (pc : Nat) (ins : Jvm.ClassFile.Instr) (x : AX) (rs : AB) (ls : AL) (st : List AV) (M : AM) : Prop :=
  match ins with
  | .iconst n => nx (pc + 1) rs ls (aI n :: st) M
  | .bipush n => nx (pc + 2) rs ls (aI n :: st) M
  | .sipush n => nx (pc + 3) rs ls (aI n :: st) M
  | .lconst n => nx (pc + 1) rs ls (aL (n : Nat) :: st) M
  | .ldc _ => match x with
    | (z, 0, _) => nx (pc + 2) rs ls (aI z :: st) M
    | (_, 1, k) => nx (pc + 2) rs ls (aS k :: st) M
    | _ => False
  | .ldc_w _ => nx (pc + 3) rs ls (aI x.1 :: st) M
  | .ldc2_w _ => nx (pc + 3) rs ls (aL x.1 :: st) M
  | .iload_n k => match ls[(k : Nat)]? with
    | some (some (.inl z)) => nx (pc + 1) rs ls (aI z :: st) M
    | _ => False
  | .iload k => match ls[k]? with
    | some (some (.inl z)) => nx (pc + 2) rs ls (aI z :: st) M
    | _ => False
  | .lload_n k => match ls[(k : Nat)]? with
    | some (some (.inr (.inl z))) => nx (pc + 1) rs ls (aL z :: st) M
    | _ => False
  | .lload k => match ls[k]? with
    | some (some (.inr (.inl z))) => nx (pc + 2) rs ls (aL z :: st) M
    | _ => False
  | .aload_n k => match ls[(k : Nat)]? with
    | some (some (.inr (.inr v))) => nx (pc + 1) rs ls (.inr (.inr v) :: st) M
    | _ => False
  | .aload k => match ls[k]? with
    | some (some (.inr (.inr v))) => nx (pc + 2) rs ls (.inr (.inr v) :: st) M
    | _ => False
  | .istore_n k => match st with
    | .inl z :: st => nx (pc + 1) rs (al_set1 ls k (aI z)) st M
    | _ => False
  | .istore k => match st with
    | .inl z :: st => nx (pc + 2) rs (al_set1 ls k (aI z)) st M
    | _ => False
  | .lstore_n k => match st with
    | .inr (.inl z) :: st => nx (pc + 1) rs (al_set2 ls k (aL z)) st M
    | _ => False
  | .lstore k => match st with
    | .inr (.inl z) :: st => nx (pc + 2) rs (al_set2 ls k (aL z)) st M
    | _ => False
  | .astore_n k => match st with
    | .inr (.inr v) :: st => nx (pc + 1) rs (al_set1 ls k (.inr (.inr v))) st M
    | _ => False
  | .astore k => match st with
    | .inr (.inr v) :: st => nx (pc + 2) rs (al_set1 ls k (.inr (.inr v))) st M
    | _ => False
  | .iinc k n => match ls[k]? with
    | some (some (.inl z)) => nx (pc + 3) rs (al_set1 ls k (aI (a_add z n))) st M
    | _ => False
  | .dup => match st with
    | v :: st => cond (Nat.beq (av_cat v) 1) (nx (pc + 1) rs ls (v :: v :: st) M) False
    | _ => False
  | .dup_x1 => match st with
    | v :: w :: st => cond (Nat.beq (av_cat v) 1 && Nat.beq (av_cat w) 1) (nx (pc + 1) rs ls (v :: w :: v :: st) M) False
    | _ => False
  | .dup2 => match st with
    | v :: w :: st => cond (Nat.beq (av_cat v) 1 && Nat.beq (av_cat w) 1) (nx (pc + 1) rs ls (v :: w :: v :: w :: st) M) False
    | _ => False
  | .pop => match st with
    | v :: st => cond (Nat.beq (av_cat v) 1) (nx (pc + 1) rs ls st M) False
    | _ => False
  | .ineg => match st with
    | .inl a :: st => nx (pc + 1) rs ls (aI (a_neg a) :: st) M
    | _ => False
  | .idiv => match st with
    | .inl b :: .inl a :: st => b ≠ 0 ∧ nx (pc + 1) rs ls (aI (a_div a b) :: st) M
    | _ => False
  | .irem => match st with
    | .inl b :: .inl a :: st => b ≠ 0 ∧ nx (pc + 1) rs ls (aI (a_rem a b) :: st) M
    | _ => False
  | .i2l => match st with
    | .inl a :: st => nx (pc + 1) rs ls (aL a :: st) M
    | _ => False
  | .l2i => match st with
    | .inr (.inl a) :: st => nx (pc + 1) rs ls (aI (a_l2i a) :: st) M
    | _ => False
  | .i2c => match st with
    | .inl a :: st => nx (pc + 1) rs ls (aI (a_i2c a) :: st) M
    | _ => False
  | .lcmp => match st with
    | .inr (.inl b) :: .inr (.inl a) :: st => nx (pc + 1) rs ls (aI (a_cmp a b) :: st) M
    | _ => False
  | .goto o => nx ((pc : Int) + o).toNat [] ls st M
  | .if_icmp c o => match st with
    | .inl b :: .inl a :: st => a_cnd c a b (nx ((pc : Int) + o).toNat [] ls st M) (nx (pc + 3) rs ls st M)
    | _ => False
  | .ifCond c o => match st with
    | .inl a :: st => a_cnd c a 0 (nx ((pc : Int) + o).toNat [] ls st M) (nx (pc + 3) rs ls st M)
    | _ => False
  | .tableswitch d lo hi offs => match st with
    | .inl a :: st => a_tsw (fun t => nx t [] ls st M) pc a lo offs.toList ∧ (a < lo ∨ hi < a → nx ((pc : Int) + d).toNat [] ls st M)
    | _ => False
  | .lookupswitch d ps => match st with
    | .inl a :: st => a_lsw (fun t => nx t [] ls st M) pc a d ps.toList
    | _ => False
  | .getfield _ => match st with
    | .inr (.inr (.inl c)) :: st => match G.1 c with
      | .inl (ci, fs) => cond (Nat.beq ci x.2.1) (match a_fld M c x.2.2 fs with
        | some v => nx (pc + 3) rs ls (v :: st) M
        | none => False) False
      | _ => False
    | _ => False
  | .putfield _ => match st with
    | .inl z :: .inr (.inr (.inl c)) :: st => match G.1 c with
      | .inl (ci, fs) => cond (Nat.beq ci x.2.1) (match fs[x.2.2]? with
        | some 0 => nx (pc + 3) rs ls st (am_up M c x.2.2 z)
        | some 1 => (z = 0 ∨ z = 1) ∧ nx (pc + 3) rs ls st (am_up M c x.2.2 z)
        | _ => False) False
      | _ => False
    | _ => False
  | .getstatic _ => nx (pc + 3) rs ls (aP x.2.1 :: st) M
  | .arraylength => match st with
    | .inr (.inr (.inl c)) :: st => match G.1 c with
      | .inr (.inl (_, n)) => nx (pc + 1) rs ls (aI n :: st) M
      | _ => False
    | _ => False
  | .iaload => match st with
    | .inl i :: .inr (.inr (.inl c)) :: st => match G.1 c with
      | .inr (.inl (0, n)) => (0 ≤ i ∧ i < n) ∧ nx (pc + 1) rs ls (aI (M c i) :: st) M
      | .inr (.inr (.inr (.inr cs))) => (0 ≤ i ∧ i < cs.length) ∧ nx (pc + 1) rs ls (aI (cs.getD i.toNat 0) :: st) M
      | _ => False
    | .inl i :: .inr (.inr (.inr (.inl (c, r)))) :: st => match G.1 c with
      | .inr (.inr (.inl (_, len, _))) => (0 ≤ i ∧ i < len) ∧ nx (pc + 1) rs ls (aI (M c (r * len + i)) :: st) M
      | _ => False
    | _ => False
  | .aaload => match st with
    | .inl i :: .inr (.inr (.inl c)) :: st => match G.1 c with
      | .inr (.inr (.inl (n, _, _))) => (0 ≤ i ∧ i < n) ∧ nx (pc + 1) rs ls (aR c i :: st) M
      | _ => False
    | _ => False
  | .baload => match st with
    | .inl i :: .inr (.inr (.inl c)) :: st => match G.1 c with
      | .inr (.inl (1, n)) => (0 ≤ i ∧ i < n) ∧ nx (pc + 1) rs ls (aI (M c i) :: st) M
      | _ => False
    | _ => False
  | .caload => match st with
    | .inl i :: .inr (.inr (.inl c)) :: st => match G.1 c with
      | .inr (.inl (2, n)) => (0 ≤ i ∧ i < n) ∧ nx (pc + 1) rs ls (aI (M c i) :: st) M
      | _ => False
    | _ => False
  | .laload => match st with
    | .inl i :: .inr (.inr (.inl c)) :: st => match G.1 c with
      | .inr (.inl (3, n)) => (0 ≤ i ∧ i < n) ∧ nx (pc + 1) rs ls (aL (M c i) :: st) M
      | _ => False
    | _ => False
  | .iastore => match st with
    | .inl z :: .inl i :: .inr (.inr (.inl c)) :: st => match G.1 c with
      | .inr (.inl (0, n)) => (0 ≤ i ∧ i < n) ∧ nx (pc + 1) rs ls st (am_up M c i z)
      | _ => False
    | .inl z :: .inl i :: .inr (.inr (.inr (.inl (c, r)))) :: st => match G.1 c with
      | .inr (.inr (.inl (_, len, _))) => (0 ≤ i ∧ i < len) ∧ nx (pc + 1) rs ls st (am_up M c (r * len + i) z)
      | _ => False
    | _ => False
  | .bastore => match st with
    | .inl z :: .inl i :: .inr (.inr (.inl c)) :: st => match G.1 c with
      | .inr (.inl (1, n)) => (0 ≤ i ∧ i < n) ∧ (z = 0 ∨ z = 1) ∧ nx (pc + 1) rs ls st (am_up M c i z)
      | _ => False
    | _ => False
  | .castore => match st with
    | .inl z :: .inl i :: .inr (.inr (.inl c)) :: st => match G.1 c with
      | .inr (.inl (2, n)) => (0 ≤ i ∧ i < n) ∧ (0 ≤ z ∧ z < 65536) ∧ nx (pc + 1) rs ls st (am_up M c i z)
      | _ => False
    | _ => False
  | .lastore => match st with
    | .inr (.inl z) :: .inl i :: .inr (.inr (.inl c)) :: st => match G.1 c with
      | .inr (.inl (3, n)) => (0 ≤ i ∧ i < n) ∧ nx (pc + 1) rs ls st (am_up M c i z)
      | _ => False
    | _ => False
  | .invokestatic _ => match x.1 with
    | 0 => cond (Nat.ble x.2.2 st.length && Nat.ble (av_cats (st.drop x.2.2)) 8 && Nat.beq (G.2.1 x.2.1).2.2.2 0) (run x.2.1 (st.take x.2.2).reverse M (fun r M' => nx (pc + 3) rs ls (r.toList ++ st.drop x.2.2) M')) False
    | 1 => match st with
      | .inl a :: st => cond (Nat.ble (av_cats st) 8) (nx (pc + 3) rs ls (aI (if a < 0 then a_neg a else a) :: st) M) False
      | _ => False
    | 2 => match st with
      | .inl b :: .inl a :: st => cond (Nat.ble (av_cats st) 8) (nx (pc + 3) rs ls (aI (if b ≤ a then a else b) :: st) M) False
      | _ => False
    | 3 => match st with
      | .inl b :: .inl a :: st => cond (Nat.ble (av_cats st) 8) (nx (pc + 3) rs ls (aI (if a ≤ b then a else b) :: st) M) False
      | _ => False
    | _ => False
  | .invokevirtual _ => match x.1 with
    | 0 => match st[x.2.2]? with
      | some (.inr (.inr (.inl c))) => match G.1 c with
        | .inl (ci, _) => cond (Nat.beq ci (G.2.1 x.2.1).1 && Nat.ble (av_cats (st.drop (x.2.2 + 1))) 8 && Nat.beq (G.2.1 x.2.1).2.2.2 1) (run x.2.1 (aP c :: (st.take x.2.2).reverse) M (fun r M' => nx (pc + 3) rs ls (r.toList ++ st.drop (x.2.2 + 1)) M')) False
        | _ => False
      | _ => False
    | 1 => match st with
      | .inr (.inr (.inr (.inr k))) :: st => cond (Nat.ble (av_cats st) 8) (nx (pc + 3) rs ls (aI (G.2.2.2 k).length :: st) M) False
      | _ => False
    | 2 => match st with
      | .inl i :: .inr (.inr (.inr (.inr k))) :: st => cond (Nat.ble (av_cats st) 8) ((0 ≤ i ∧ i < (G.2.2.2 k).length) ∧ nx (pc + 3) rs ls (aI ((G.2.2.2 k).getD i.toNat 0) :: st) M) False
      | _ => False
    | _ => False
  | .ireturn => match st with
    | [.inl z] => match rk with
      | 1 => Q (some (aI z)) M
      | 2 => (z = 0 ∨ z = 1) ∧ Q (some (aI z)) M
      | 3 => (0 ≤ z ∧ z < 65536) ∧ Q (some (aI z)) M
      | _ => False
    | _ => False
  | .return_ => match st with
    | [] => match rk with
      | 0 => Q none M
      | _ => False
    | _ => False
  | ins => match a_bin ins with
    | some f => match st with
      | .inl b :: .inl a :: st => nx (pc + 1) rs ls (aI (f a b) :: st) M
      | _ => False
    | none => match a_binL ins with
      | some f => match st with
        | .inr (.inl b) :: .inr (.inl a) :: st => nx (pc + 1) rs ls (aL (f a b) :: st) M
        | _ => False
      | none => match a_shL ins with
        | some f => match st with
          | .inl b :: .inr (.inl a) :: st => nx (pc + 1) rs ls (aL (f a b) :: st) M
          | _ => False
        | none => False
end AMS
/-- a predicate that is kept by what the machine does: by a weaker end, at a block's begin, by a step (backwards) -/
def a_Mono (R : Nat → Nat → Nat → AB → AL → List AV → AM → (Option AV → AM → Prop) → Prop) : Prop := ∀ d y pc rs ls st M Q Q', (∀ r M', Q r M' → Q' r M') → R d y pc rs ls st M Q → R d y pc rs ls st M Q'
def a_Nil (G : AG) (R : Nat → Nat → Nat → AB → AL → List AV → AM → (Option AV → AM → Prop) → Prop) : Prop := ∀ d y pc ls st M Q, R d y pc (G.2.2.1 y pc) ls st M Q → R d y pc [] ls st M Q
/-- the method y' called d deep: by R, one less deep -/
def a_Kof (G : AG) (R : Nat → Nat → Nat → AB → AL → List AV → AM → (Option AV → AM → Prop) → Prop) (d y' : Nat) (as : List AV) (M : AM) (K : Option AV → AM → Prop) : Prop := ∃ d', d = d' + 1 ∧ av_cats as ≤ (G.2.1 y').2.1 ∧ R d' y' 0 [] (al_args (G.2.1 y').2.1 as) [] M K
def a_Stp (G : AG) (R : Nat → Nat → Nat → AB → AL → List AV → AM → (Option AV → AM → Prop) → Prop) : Prop := ∀ d y pc ins x rs ls st M Q, a_step G (a_Kof G R d) (fun pc' rs' ls' st' M' => R d y pc' rs' ls' st' M' Q) (G.2.1 y).2.2.1 Q pc ins x rs ls st M → R d y pc ((ins, x) :: rs) ls st M Q
/-- THE MACHINE: the method y, at pc with 'rs' of its block before it, ends with Q, not more than d calls deep -/
def aE (G : AG) (d y pc : Nat) (rs : AB) (ls : AL) (st : List AV) (M : AM) (Q : Option AV → AM → Prop) : Prop := ∀ R, a_Mono R → a_Nil G R → a_Stp G R → R d y pc rs ls st M Q
