/-! THE ABSTRACT MACHINE IS SOUND, third: the words of the tables, the step. -/
section SND
variable (G : AG) (ad : Nat → Nat) (cA : Nat → ClassId) (nc ns nm ncl : Nat) (D : va_G) (cl : List vw_C)
variable (cn : Nat → String) (yn : Nat → MethodName) (bc : Nat → ByteArray) (tf : Nat → u_T × Nat × (Nat → FieldType)) (AW AN : List Cond)
variable (zs : List ((String × String × String) × Nat)) (sk : Nat → String × Nat × String) (XS : State → Heap → Prop)
def aTys : List (ClassId × FieldType) := [(cA 0, .int), (cA 1, .boolean), (cA 2, .char), (cA 3, .long), (cA 4, .array .int)]
def aF : Nat → Prop := fun a => ∃ q, q < nc ∧ a = ad q
def aRty (k : Nat) : Option FieldType := match k with
  | 1 => some .int
  | 2 => some .boolean
  | 3 => some .char
  | _ => none
def aRoom (d : Nat) : Room := { frames := 10 + d, cells := 0, slots := 0, locals := 100 * (10 + d) }
abbrev aMx (y : Nat) : Nat := (G.2.1 y).2.1
abbrev aOw (y : Nat) : String := cn (G.2.1 y).1
def aWs (y : Nat) : List Cond := Cond.code (yn y) (bc y) (aMx G y) (aRty (G.2.1 y).2.2.1) :: AW
def aX (s : State) : Prop := va_K D cl (aTys cA) s ∧ (∀ q cs, G.1 q = kC cs → cs ≠ [] → va_T .int (ad q) cs.length (fun j => .int (Int32.ofInt (cs.getD j 0))) (aF ad nc) s s.heap) ∧ (∀ z ∈ zs, va_Z z.1.1 z.1.2.1 z.1.2.2 (.ref (ad z.2)) (aF ad nc) s s.heap) ∧ (∀ w ∈ AN, va_Nw w s) ∧ (∀ k, k < ns → vk_R (sk k).1 (sk k).2.1 (sk k).2.2 (ad (5000 + k)) s) ∧ XS s s.heap
def aPc (as : List AV) (M : AM) : Array Value → State → Prop := va_Pc (as.map (acv G ad)) (fun U => va_P D cl (aw G ad cA nc M) U.heap ∧ aX G ad cA nc ns D cl AN zs sk XS U)
def aQc (Q : Option AV → AM → Prop) : Array Value → State → Outcome → State → Prop := fun _ st oc t => (∃ (r : Option AV) (M' : AM), oc = .returned (r.map (acv G ad)) ∧ Q r M' ∧ (∀ v, r = some v → aOKV G ns v) ∧ aOKM G M' ∧ va_P D cl (aw G ad cA nc M') t.heap) ∧ va_F (aF ad nc) st t
def aCtx (d y : Nat) (p : Program) (s : State) (m : MethodId) (args : Array Value) (meth : Method) (c : Code) : Prop :=
  p.tables.exec = Jvm.exec ∧ c.code = bc y ∧ meth.sig.returnType = aRty (G.2.1 y).2.2.1 ∧ c.maxLocals = aMx G y ∧ s.vm.findClass (aOw G cn y) = some m.cls ∧ (∀ w ∈ AW, w.before args s = true) ∧ meth.locks = false ∧ aX G ad cA nc ns D cl AN zs sk XS s
/-- what the tables must say for one instruction -/
def okF (y i : Nat) (x : AX) : Prop := x.2.1 < ncl ∧ x.2.2 < (tf x.2.1).2.1 ∧ Cond.fieldLink (aOw G cn y) i ((tf x.2.1).1 x.2.2).1 ((tf x.2.1).1 x.2.2).2.1 ((tf x.2.1).1 x.2.2).2.2.1 ∈ AW
def aLenN : MethodName := ⟨"java/lang/String", "length", "()I"⟩
def aChrN : MethodName := ⟨"java/lang/String", "charAt", "(I)C"⟩
def okI (y : Nat) (ins : Jvm.ClassFile.Instr) (x : AX) : Prop := match ins with
  | .iconst n => aR32 n
  | .bipush n => -128 ≤ n ∧ n < 128
  | .sipush n => -32768 ≤ n ∧ n < 32768
  | .iinc k n => aR32 n ∧ k < aMx G y
  | .ldc i => match x with
    | (z, 0, _) => aR32 z ∧ Cond.constant (aOw G cn y) i (Int32.ofInt z) ∈ AW
    | (_, 1, k) => k < ns ∧ (sk k).1 = aOw G cn y ∧ (sk k).2.1 = i
    | _ => True
  | .ldc_w i => aR32 x.1 ∧ Cond.constant (aOw G cn y) i (Int32.ofInt x.1) ∈ AW
  | .ldc2_w i => aR64 x.1 ∧ Cond.constantLong (aOw G cn y) i (Int64.ofInt x.1) ∈ AW
  | .istore_n k => (k : Nat) < aMx G y
  | .istore k => k < aMx G y
  | .astore_n k => (k : Nat) < aMx G y
  | .astore k => k < aMx G y
  | .lstore_n k => (k : Nat) + 1 < aMx G y
  | .lstore k => k + 1 < aMx G y
  | .getfield i => okF G ncl cn tf AW y i x
  | .putfield i => okF G ncl cn tf AW y i x ∧ ((tf x.2.1).1 x.2.2).2.2.2 = false
  | .getstatic i => ∃ C n d, ((C, n, d), x.2.1) ∈ zs ∧ Cond.fieldLink (aOw G cn y) i C n d ∈ AW
  | .invokestatic i => match x.1 with
    | 0 => x.2.1 < nm ∧ (parseMethodDescriptor (yn x.2.1).desc).map (fun d => d.parameters.length) = some x.2.2 ∧ ((Cond.methodLink (aOw G cn y) i (yn x.2.1) ∈ AW) ∨ ∃ host, Cond.methodLinkNest (aOw G cn y) i (yn x.2.1) host ∈ AN)
    | 1 => Cond.methodLink (aOw G cn y) i Lib.Math.abs.name ∈ AW ∧ Cond.static Lib.Math.abs.name ∈ AW ∧ Cond.initialized "java/lang/Math" ∈ AW ∧ Cond.code Lib.Math.abs.name Lib.Math.abs.code 1 (some .int) ∈ AW
    | 2 => Cond.methodLink (aOw G cn y) i Lib.Math.max.name ∈ AW ∧ Cond.static Lib.Math.max.name ∈ AW ∧ Cond.initialized "java/lang/Math" ∈ AW ∧ Cond.code Lib.Math.max.name Lib.Math.max.code 2 (some .int) ∈ AW
    | 3 => Cond.methodLink (aOw G cn y) i Lib.Math.min.name ∈ AW ∧ Cond.static Lib.Math.min.name ∈ AW ∧ Cond.initialized "java/lang/Math" ∈ AW ∧ Cond.code Lib.Math.min.name Lib.Math.min.code 2 (some .int) ∈ AW
    | _ => True
  | .invokevirtual i => match x.1 with
    | 0 => x.2.1 < nm ∧ (parseMethodDescriptor (yn x.2.1).desc).map (fun d => d.parameters.length) = some x.2.2 ∧ Cond.methodLink (aOw G cn y) i (yn x.2.1) ∈ AW
    | 1 => Cond.methodLink (aOw G cn y) i aLenN ∈ AW
    | 2 => Cond.methodLink (aOw G cn y) i aChrN ∈ AW
    | _ => True
  | .tableswitch _ lo hi offs => hi - lo + 1 = offs.size ∧ aR32 lo ∧ aR32 hi
  | .lookupswitch _ ps => (ps.toList.zip (ps.toList.drop 1)).all (fun (a, next) => a.1 < next.1) = true
  | _ => True
def a_len (i : Jvm.ClassFile.Instr) : Nat := match i with
  | .bipush _ => 2
  | .sipush _ => 3
  | .ldc _ => 2
  | .ldc_w _ => 3
  | .ldc2_w _ => 3
  | .iload _ => 2
  | .lload _ => 2
  | .aload _ => 2
  | .istore _ => 2
  | .lstore _ => 2
  | .astore _ => 2
  | .iinc _ _ => 3
  | .if_icmp _ _ => 3
  | .ifCond _ _ => 3
  | .goto _ => 3
  | .getfield _ => 3
  | .putfield _ => 3
  | .getstatic _ => 3
  | .invokestatic _ => 3
  | .invokevirtual _ => 3
  | _ => 1
/-- a jump goes to a place, not ahead of the first -/
def okJ (pc : Nat) (ins : Jvm.ClassFile.Instr) : Prop := match ins with
  | .goto o => 0 ≤ (pc : Int) + o
  | .if_icmp _ o => 0 ≤ (pc : Int) + o
  | .ifCond _ o => 0 ≤ (pc : Int) + o
  | .tableswitch d _ _ offs => 0 ≤ (pc : Int) + d ∧ ∀ o ∈ offs.toList, 0 ≤ (pc : Int) + o
  | .lookupswitch d ps => 0 ≤ (pc : Int) + d ∧ ∀ q ∈ ps.toList, 0 ≤ (pc : Int) + q.2
  | _ => True
def okD (y pc : Nat) (ins : Jvm.ClassFile.Instr) : Prop := match ins with
  | .tableswitch _ _ _ _ => ∃ n, decode (bc y) pc = .ok (ins, n)
  | .lookupswitch _ _ => ∃ n, decode (bc y) pc = .ok (ins, n)
  | _ => decode (bc y) pc = .ok (ins, a_len ins)
/-- a block's rest, from pc on -/
def okL (y : Nat) : Nat → AB → Prop
  | _, [] => True
  | pc, (ins, x) :: rs => okD bc y pc ins ∧ okJ pc ins ∧ okI G ns nm ncl cn yn tf AW AN zs sk y ins x ∧ okL y (pc + a_len ins) rs
/-- the facts of the tables -/
def aTab : Prop := aGW G nc ∧ (∀ i j, i < nc → j < nc → ad i = ad j → i = j) ∧
  (∀ ci, ci < ncl → cl[ci]? = some (cn ci, (tf ci).1, (tf ci).2.1) ∧ (∀ w ∈ u_ws (cn ci) (tf ci).1 (tf ci).2.1, w ∈ AW) ∧ (∀ k, k < (tf ci).2.1 → parseFieldDescriptor ((tf ci).1 k).2.2.1 = some ((tf ci).2.2 k)) ∧ (∀ a, a < (tf ci).2.1 → ∀ b, b < (tf ci).2.1 → a ≠ b → ((tf ci).1 a).2.1 ≠ ((tf ci).1 b).2.1)) ∧
  (∀ q ci fs, G.1 q = kO ci fs → ci < ncl ∧ fs.length = (tf ci).2.1 ∧ ∀ k, (fs[k]? = some 0 → (tf ci).2.2 k = .int) ∧ (fs[k]? = some 1 → (tf ci).2.2 k = .boolean)) ∧
  (∀ y, y < nm → Cond.code (yn y) (bc y) (aMx G y) (aRty (G.2.1 y).2.2.1) ∈ AW ∧ Cond.initialized (yn y).cls ∈ AW ∧ (yn y).cls = aOw G cn y ∧ plainName (yn y).cls = true ∧ ((yn y).cls ≠ "java/lang/invoke/MethodHandle" ∧ (yn y).cls ≠ "java/lang/invoke/VarHandle") ∧ aMx G y ≤ 80 ∧ ((G.2.1 y).2.2.2 = 1 → (G.2.1 y).1 < ncl ∧ Cond.instanceMethod (yn y) ∈ AW ∧ Cond.selects (aOw G cn y) (yn y) (yn y) ∈ AW) ∧ ((G.2.1 y).2.2.2 = 0 → Cond.static (yn y) ∈ AW)) ∧
  (∀ w ∈ AW, goodWord w = true) ∧ (∀ w ∈ AN, ∃ a i x h, w = .methodLinkNest a i x h) ∧
  (∀ y pc, y < nm → okL G ns nm ncl cn yn bc tf AW AN zs sk y pc (G.2.2.1 y pc)) ∧
  (∀ {u U : State} {H : Heap}, u.vm.Alike U.vm → XS u H → XS U H) ∧ (∀ {U : State} {H H1 : Heap}, XS U H → (∀ a : Nat, a < H.size → ¬ aF ad nc a → H1[a]? = H[a]?) → XS U H1)
end SND
