/-! what a program decides of the tables: one Boolean a method -/
def a_find (pc : Nat) : List (Nat × AB) → AB
  | [] => []
  | (q, b) :: r => cond (Nat.beq pc q) b (a_find pc r)
theorem a_find_all {P : Nat → AB → Prop} {pc : Nat} (h0 : P pc []) : ∀ (L : List (Nat × AB)), (∀ e ∈ L, P e.1 e.2) → P pc (a_find pc L)
  | [], _ => h0
  | (q, b) :: r, h => by
    unfold a_find
    cases e : Nat.beq pc q
    · exact a_find_all h0 r (fun x hx => h x (List.mem_cons_of_mem _ hx))
    · have : pc = q := Nat.eq_of_beq_eq_true e
      subst this
      exact h _ List.mem_cons_self
/-- the words that are good for a callee -/
def aAW : List Cond := lw_tbl.filter goodWord
theorem aAW_good : ∀ w ∈ aAW, goodWord w = true := fun w h => (List.mem_filter.mp h).2
theorem aAW_tbl : ∀ w ∈ aAW, w ∈ lw_tbl := fun w h => (List.mem_filter.mp h).1
def ck_w (i : Nat) (w : Cond) : Bool := match lw_tbl[i]? with
  | some v => decide (v = w) && goodWord w
  | none => false
theorem ck_w_ok {i : Nat} {w : Cond} (h : ck_w i w = true) : w ∈ aAW := by
  unfold ck_w at h
  split at h
  next v e =>
    rw [Bool.and_eq_true, decide_eq_true_eq] at h
    exact List.mem_filter.mpr ⟨h.1 ▸ List.mem_of_getElem? e, h.2⟩
  next => cases h
theorem ck_ma : Cond.static Lib.Math.abs.name ∈ aAW ∧ Cond.code Lib.Math.abs.name Lib.Math.abs.code 1 (some .int) ∈ aAW := ⟨ck_w_ok (i := 804) (by decide +kernel), ck_w_ok (i := 805) (by decide +kernel)⟩
theorem ck_mx : Cond.static Lib.Math.max.name ∈ aAW ∧ Cond.code Lib.Math.max.name Lib.Math.max.code 2 (some .int) ∈ aAW := ⟨ck_w_ok (i := 807) (by decide +kernel), ck_w_ok (i := 808) (by decide +kernel)⟩
theorem ck_mn : Cond.static Lib.Math.min.name ∈ aAW ∧ Cond.code Lib.Math.min.name Lib.Math.min.code 2 (some .int) ∈ aAW := ⟨ck_w_ok (i := 858) (by decide +kernel), ck_w_ok (i := 859) (by decide +kernel)⟩
theorem ck_mi : Cond.initialized "java/lang/Math" ∈ aAW := ck_w_ok (i := 132) (by decide +kernel)
def ck_r32 (z : Int) : Bool := decide (-2147483648 ≤ z) && decide (z < 2147483648)
def ck_r64 (z : Int) : Bool := decide (-9223372036854775808 ≤ z) && decide (z < 9223372036854775808)
theorem ck_r32_ok {z : Int} (h : ck_r32 z = true) : aR32 z := by
  simpa [ck_r32, aR32] using h
theorem ck_r64_ok {z : Int} (h : ck_r64 z = true) : aR64 z := by
  simpa [ck_r64, aR64] using h
section CK
variable (G : AG) (ns nm ncl : Nat) (cn : Nat → String) (yn : Nat → MethodName) (bc : Nat → ByteArray) (tf : Nat → u_T × Nat × (Nat → FieldType)) (AN : List Cond)
variable (zs : List ((String × String × String) × Nat)) (sk : Nat → String × Nat × String) (ar : Nat → Nat)
def ck_F (y j : Nat) (x : AX) (i : Nat) : Bool := Nat.blt x.2.1 ncl && Nat.blt x.2.2 (tf x.2.1).2.1 && ck_w i (Cond.fieldLink (aOw G cn y) j ((tf x.2.1).1 x.2.2).1 ((tf x.2.1).1 x.2.2).2.1 ((tf x.2.1).1 x.2.2).2.2.1)
def ck_N (y j : Nat) (n : MethodName) (i : Nat) : Bool := match AN[i]? with
  | some (.methodLinkNest a b c _) => decide (a = aOw G cn y) && Nat.beq b j && decide (c = n)
  | _ => false
def ck_Z (y j q : Nat) (i : Nat) : List ((String × String × String) × Nat) → Bool
  | [] => false
  | z :: r => cond (Nat.beq z.2 q) (ck_w i (Cond.fieldLink (aOw G cn y) j z.1.1 z.1.2.1 z.1.2.2)) (ck_Z y j q i r)
def ck_I (y : Nat) (ins : Jvm.ClassFile.Instr) (x : AX) (i : Nat) : Bool := match ins with
  | .iconst n => ck_r32 n
  | .bipush n => decide (-128 ≤ n) && decide (n < 128)
  | .sipush n => decide (-32768 ≤ n) && decide (n < 32768)
  | .iinc k n => ck_r32 n && Nat.blt k (aMx G y)
  | .ldc j => match x with
    | (z, 0, _) => ck_r32 z && ck_w i (Cond.constant (aOw G cn y) j (Int32.ofInt z))
    | (_, 1, k) => Nat.blt k ns && decide ((sk k).1 = aOw G cn y) && Nat.beq (sk k).2.1 j
    | _ => true
  | .ldc_w j => ck_r32 x.1 && ck_w i (Cond.constant (aOw G cn y) j (Int32.ofInt x.1))
  | .ldc2_w j => ck_r64 x.1 && ck_w i (Cond.constantLong (aOw G cn y) j (Int64.ofInt x.1))
  | .istore_n k => Nat.blt k (aMx G y)
  | .istore k => Nat.blt k (aMx G y)
  | .astore_n k => Nat.blt k (aMx G y)
  | .astore k => Nat.blt k (aMx G y)
  | .lstore_n k => Nat.blt (k + 1) (aMx G y)
  | .lstore k => Nat.blt (k + 1) (aMx G y)
  | .getfield j => ck_F G ncl cn tf y j x i
  | .putfield j => ck_F G ncl cn tf y j x i && !((tf x.2.1).1 x.2.2).2.2.2
  | .getstatic j => ck_Z G cn y j x.2.1 i zs
  | .invokestatic j => match x.1 with
    | 0 => Nat.blt x.2.1 nm && Nat.beq x.2.2 (ar x.2.1) && cond (Nat.blt i 100000) (ck_w i (Cond.methodLink (aOw G cn y) j (yn x.2.1))) (ck_N G cn AN y j (yn x.2.1) (i - 100000))
    | 1 => ck_w i (Cond.methodLink (aOw G cn y) j Lib.Math.abs.name)
    | 2 => ck_w i (Cond.methodLink (aOw G cn y) j Lib.Math.max.name)
    | 3 => ck_w i (Cond.methodLink (aOw G cn y) j Lib.Math.min.name)
    | _ => true
  | .invokevirtual j => match x.1 with
    | 0 => Nat.blt x.2.1 nm && Nat.beq x.2.2 (ar x.2.1) && ck_w i (Cond.methodLink (aOw G cn y) j (yn x.2.1))
    | 1 => ck_w i (Cond.methodLink (aOw G cn y) j aLenN)
    | 2 => ck_w i (Cond.methodLink (aOw G cn y) j aChrN)
    | _ => true
  | .tableswitch _ lo hi offs => decide (hi - lo + 1 = offs.size) && ck_r32 lo && ck_r32 hi
  | .lookupswitch _ ps => (ps.toList.zip (ps.toList.drop 1)).all (fun (a, next) => a.1 < next.1)
  | _ => true
def ck_J (pc : Nat) (ins : Jvm.ClassFile.Instr) : Bool := match ins with
  | .goto o => decide (0 ≤ (pc : Int) + o)
  | .if_icmp _ o => decide (0 ≤ (pc : Int) + o)
  | .ifCond _ o => decide (0 ≤ (pc : Int) + o)
  | .tableswitch d _ _ offs => decide (0 ≤ (pc : Int) + d) && offs.toList.all (fun o => decide (0 ≤ (pc : Int) + o))
  | .lookupswitch d ps => decide (0 ≤ (pc : Int) + d) && ps.toList.all (fun q => decide (0 ≤ (pc : Int) + q.2))
  | _ => true
def ck_sw (ins : Jvm.ClassFile.Instr) : Bool := match ins with
  | .tableswitch _ _ _ _ => true
  | .lookupswitch _ _ => true
  | _ => false
def ck_D (y pc : Nat) (ins : Jvm.ClassFile.Instr) : Bool := match decode (bc y) pc with
  | .ok (i, n) => decide (i = ins) && (ck_sw ins || Nat.beq n (a_len ins))
  | _ => false
def ck_L (y : Nat) : Nat → AB → List Nat → Bool
  | _, [], _ => true
  | _, _ :: _, [] => false
  | pc, (ins, x) :: rs, i :: is => ck_D bc y pc ins && ck_J pc ins && ck_I G ns nm ncl cn yn tf AN zs sk ar y ins x i && ck_L y (pc + a_len ins) rs is
def ck_B (y : Nat) : List (Nat × AB) → List (List Nat) → Bool
  | [], _ => true
  | _ :: _, [] => false
  | (pc, b) :: r, i :: is => ck_L G ns nm ncl cn yn bc tf AN zs sk ar y pc b i && ck_B y r is
variable {G ns nm ncl cn yn bc tf AN zs sk ar}
theorem ck_F_ok {y j i : Nat} {x : AX} (h : ck_F G ncl cn tf y j x i = true) : okF G ncl cn tf aAW y j x := by
  unfold ck_F at h
  rw [Bool.and_eq_true, Bool.and_eq_true] at h
  exact ⟨Nat.le_of_ble_eq_true h.1.1, Nat.le_of_ble_eq_true h.1.2, ck_w_ok h.2⟩
theorem ck_Z_ok {y j q i : Nat} : ∀ (z : List ((String × String × String) × Nat)), ck_Z G cn y j q i z = true → ∃ C n d, ((C, n, d), q) ∈ z ∧ Cond.fieldLink (aOw G cn y) j C n d ∈ aAW
  | [], h => by cases h
  | z :: r, h => by
    unfold ck_Z at h
    cases e : Nat.beq z.2 q
    · rw [e] at h
      obtain ⟨C, n, d, h1, h2⟩ := ck_Z_ok r h
      exact ⟨C, n, d, List.mem_cons_of_mem _ h1, h2⟩
    · rw [e] at h
      have := Nat.eq_of_beq_eq_true e
      subst this
      exact ⟨z.1.1, z.1.2.1, z.1.2.2, List.mem_cons_self, ck_w_ok h⟩
theorem ck_N_ok {y j i : Nat} {n : MethodName} (h : ck_N G cn AN y j n i = true) : ∃ host, Cond.methodLinkNest (aOw G cn y) j n host ∈ AN := by
  unfold ck_N at h
  split at h
  next a b c d e =>
    rw [Bool.and_eq_true, Bool.and_eq_true, decide_eq_true_eq, decide_eq_true_eq] at h
    obtain ⟨⟨h1, h2⟩, h3⟩ := h
    have h2 := Nat.eq_of_beq_eq_true h2
    subst h1; subst h2; subst h3
    exact ⟨d, List.mem_of_getElem? e⟩
  next => cases h
theorem ck_I_ok (har : ∀ y, y < nm → (parseMethodDescriptor (yn y).desc).map (fun d => d.parameters.length) = some (ar y)) {y i : Nat} {ins : Jvm.ClassFile.Instr} {x : AX} (h : ck_I G ns nm ncl cn yn tf AN zs sk ar y ins x i = true) : okI G ns nm ncl cn yn tf aAW AN zs sk y ins x := by
  have lt : ∀ {a b : Nat}, Nat.blt a b = true → a < b := fun h => Nat.le_of_ble_eq_true h
  cases ins <;> try exact trivial
  case iconst n => exact ck_r32_ok h
  case bipush n => simpa [ck_I, okI] using h
  case sipush n => simpa [ck_I, okI] using h
  case iinc k n =>
    simp only [ck_I, Bool.and_eq_true] at h
    exact ⟨ck_r32_ok h.1, lt h.2⟩
  case ldc j =>
    simp only [ck_I] at h
    simp only [okI]
    split at h
    next z k =>
      rw [Bool.and_eq_true] at h
      exact ⟨ck_r32_ok h.1, ck_w_ok h.2⟩
    next z k =>
      rw [Bool.and_eq_true, Bool.and_eq_true, decide_eq_true_eq] at h
      exact ⟨lt h.1.1, h.1.2, Nat.eq_of_beq_eq_true h.2⟩
    next h1 h2 => split <;> first | trivial | (exfalso; first | exact h1 _ _ rfl | exact h2 _ _ rfl)
  case ldc_w j =>
    simp only [ck_I, Bool.and_eq_true] at h
    exact ⟨ck_r32_ok h.1, ck_w_ok h.2⟩
  case ldc2_w j =>
    simp only [ck_I, Bool.and_eq_true] at h
    exact ⟨ck_r64_ok h.1, ck_w_ok h.2⟩
  case istore_n k => exact lt h
  case istore k => exact lt h
  case astore_n k => exact lt h
  case astore k => exact lt h
  case lstore_n k => exact lt h
  case lstore k => exact lt h
  case getfield j => exact ck_F_ok h
  case putfield j =>
    simp only [ck_I, Bool.and_eq_true] at h
    exact ⟨ck_F_ok h.1, by simpa using h.2⟩
  case getstatic j => exact ck_Z_ok zs h
  case invokestatic j =>
    simp only [ck_I] at h
    simp only [okI]
    split at h
    next e0 =>
      simp only [e0]
      rw [Bool.and_eq_true, Bool.and_eq_true] at h
      obtain ⟨⟨h1, h2⟩, h3⟩ := h
      refine ⟨lt h1, by rw [har _ (lt h1), Nat.eq_of_beq_eq_true h2], ?_⟩
      cases e : Nat.blt i 100000
      · rw [e] at h3; exact Or.inr (ck_N_ok h3)
      · rw [e] at h3; exact Or.inl (ck_w_ok h3)
    next e0 => simp only [e0]; exact ⟨ck_w_ok h, ck_ma.1, ck_mi, ck_ma.2⟩
    next e0 => simp only [e0]; exact ⟨ck_w_ok h, ck_mx.1, ck_mi, ck_mx.2⟩
    next e0 => simp only [e0]; exact ⟨ck_w_ok h, ck_mn.1, ck_mi, ck_mn.2⟩
    next h0 h1 h2 h3 =>
      split
      next e => exact (h0 e).elim
      next e => exact (h1 e).elim
      next e => exact (h2 e).elim
      next e => exact (h3 e).elim
      next => trivial
  case invokevirtual j =>
    simp only [ck_I] at h
    simp only [okI]
    split at h
    next e =>
      simp only [e]
      rw [Bool.and_eq_true, Bool.and_eq_true] at h
      exact ⟨lt h.1.1, by rw [har _ (lt h.1.1), Nat.eq_of_beq_eq_true h.1.2], ck_w_ok h.2⟩
    next e => simp only [e]; exact ck_w_ok h
    next e => simp only [e]; exact ck_w_ok h
    next h0 h1 h2 => split <;> first | trivial | (exfalso; first | exact h0 ‹_› | exact h1 ‹_› | exact h2 ‹_›)
  case tableswitch d lo hi offs =>
    simp only [ck_I, Bool.and_eq_true, decide_eq_true_eq] at h
    exact ⟨h.1.1, ck_r32_ok h.1.2, ck_r32_ok h.2⟩
  case lookupswitch d ps => exact h
theorem ck_J_ok {pc : Nat} {ins : Jvm.ClassFile.Instr} (h : ck_J pc ins = true) : okJ pc ins := by
  cases ins
  case tableswitch d lo hi offs =>
    simp only [ck_J, Bool.and_eq_true, decide_eq_true_eq, List.all_eq_true] at h
    exact h
  case lookupswitch d ps =>
    simp only [ck_J, Bool.and_eq_true, decide_eq_true_eq, List.all_eq_true] at h
    exact h
  all_goals first | exact trivial | (simpa [ck_J, okJ] using h)
theorem ck_D_ok {y pc : Nat} {ins : Jvm.ClassFile.Instr} (h : ck_D bc y pc ins = true) : okD bc y pc ins := by
  unfold ck_D at h
  split at h
  next i n e =>
    rw [Bool.and_eq_true, decide_eq_true_eq, Bool.or_eq_true] at h
    obtain ⟨h1, h2⟩ := h
    subst h1
    cases i <;> first
      | exact ⟨n, e⟩
      | (rcases h2 with h2 | h2
         · cases h2
         · rw [Nat.eq_of_beq_eq_true h2] at e; exact e)
  next => cases h
theorem ck_L_ok (har : ∀ y, y < nm → (parseMethodDescriptor (yn y).desc).map (fun d => d.parameters.length) = some (ar y)) {y : Nat} : ∀ (b : AB) (pc : Nat) (is : List Nat), ck_L G ns nm ncl cn yn bc tf AN zs sk ar y pc b is = true → okL G ns nm ncl cn yn bc tf aAW AN zs sk y pc b
  | [], _, _, _ => trivial
  | _ :: _, _, [], h => by cases h
  | (ins, x) :: rs, pc, i :: is, h => by
    unfold ck_L at h
    rw [Bool.and_eq_true, Bool.and_eq_true, Bool.and_eq_true] at h
    exact ⟨ck_D_ok h.1.1.1, ck_J_ok h.1.1.2, ck_I_ok har h.1.2, ck_L_ok har rs _ is h.2⟩
theorem ck_B_ok (har : ∀ y, y < nm → (parseMethodDescriptor (yn y).desc).map (fun d => d.parameters.length) = some (ar y)) {y : Nat} : ∀ (L : List (Nat × AB)) (is : List (List Nat)), ck_B G ns nm ncl cn yn bc tf AN zs sk ar y L is = true → ∀ e ∈ L, okL G ns nm ncl cn yn bc tf aAW AN zs sk y e.1 e.2
  | [], _, _ => fun e he => by cases he
  | _ :: _, [], h => by cases h
  | (pc, b) :: r, i :: is, h => by
    unfold ck_B at h
    rw [Bool.and_eq_true] at h
    intro e he
    rcases List.mem_cons.mp he with q | q
    · rw [q]; exact ck_L_ok har _ _ _ h.1
    · exact ck_B_ok har r is h.2 e q
end CK
