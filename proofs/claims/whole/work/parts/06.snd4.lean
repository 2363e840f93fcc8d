/-! THE ABSTRACT MACHINE IS SOUND, fourth: one step. -/
theorem a_i8 {n : Int} (h : -128 ≤ n ∧ n < 128) : (Int8.ofInt n).toInt32 = Int32.ofInt n := by
  apply Int32.toInt_inj.mp
  rw [Int8.toInt_toInt32, Int8.toInt_ofInt_of_le (by omega) (by omega), Int32.toInt_ofInt_of_le (by omega) (by omega)]
theorem a_i16 {n : Int} (h : -32768 ≤ n ∧ n < 32768) : (Int16.ofInt n).toInt32 = Int32.ofInt n := by
  apply Int32.toInt_inj.mp
  rw [Int16.toInt_toInt32, Int16.toInt_ofInt_of_le (by omega) (by omega), Int32.toInt_ofInt_of_le (by omega) (by omega)]
theorem a_cond {b : Bool} {A : Prop} (h : cond b A False) : b = true ∧ A := by
  cases b
  · exact h.elim
  · exact ⟨rfl, h⟩
theorem a_st1 {P : AV → Prop} {v : AV} {st : List AV} (h : ∀ w ∈ v :: st, P w) : P v ∧ ∀ w ∈ st, P w := List.forall_mem_cons.mp h
theorem a_stc {P : AV → Prop} {v : AV} {st : List AV} (h : P v) (h2 : ∀ w ∈ st, P w) : ∀ w ∈ v :: st, P w := List.forall_mem_cons.mpr ⟨h, h2⟩
/-- which instructions: calls; over the heap and ends; all others -/
def a_kc (i : Jvm.ClassFile.Instr) : Bool := match i with | .invokestatic _ => true | .invokevirtual _ => true | _ => false
def a_kh (i : Jvm.ClassFile.Instr) : Bool := match i with | .getfield _ => true | .putfield _ => true | .getstatic _ => true | .arraylength => true | .iaload => true | .aaload => true | .baload => true | .caload => true | .laload => true | .iastore => true | .bastore => true | .castore => true | .lastore => true | .ireturn => true | .return_ => true | .ldc _ => true | _ => false
def a_kl (i : Jvm.ClassFile.Instr) : Bool := match i with | .getfield _ => false | .putfield _ => false | .getstatic _ => false | .arraylength => false | .iaload => false | .aaload => false | .baload => false | .caload => false | .laload => false | .iastore => false | .bastore => false | .castore => false | .lastore => false | .invokestatic _ => false | .invokevirtual _ => false | .ireturn => false | .return_ => false | .ldc _ => false | _ => true
section ST
variable {G : AG} {ad : Nat → Nat} {cA : Nat → ClassId} {nc ns nm ncl : Nat} {D : va_G} {cl : List vw_C}
variable {cn : Nat → String} {yn : Nat → MethodName} {bc : Nat → ByteArray} {tf : Nat → u_T × Nat × (Nat → FieldType)} {AW AN : List Cond}
variable {zs : List ((String × String × String) × Nat)} {sk : Nat → String × Nat × String} {XS : State → Heap → Prop}
variable {p : Program} {l : Launch} {e : Env} {R : Room} {s : State} {m : MethodId} {args : Array Value} {below : List Frame} {meth : Method} {c : Code} {H : Heap} {locs : List Loc} {cells slots : Nat} {QQ : State → Prop} {lsC : Array Slot}
theorem a_top {pc : Nat} {x y : Int32} {rest : List Value} (h : x = y) (k : W p l e R s m args below meth c H locs cells slots QQ (F0 m pc lsC (.int x :: rest))) : W p l e R s m args below meth c H locs cells slots QQ (F0 m pc lsC (.int y :: rest)) := h ▸ k
theorem a_topL {pc : Nat} {x y : Int64} {rest : List Value} (h : x = y) (k : W p l e R s m args below meth c H locs cells slots QQ (F0 m pc lsC (.long x :: rest))) : W p l e R s m args below meth c H locs cells slots QQ (F0 m pc lsC (.long y :: rest)) := h ▸ k
/-- what stands at a place of a method's walk -/
def aInv (G : AG) (ad : Nat → Nat) (cA : Nat → ClassId) (nc ns : Nat) (D : va_G) (cl : List vw_C) (y : Nat) (ls : AL) (st : List AV) (M : AM) (s : State) (H : Heap) (locs : List Loc) (lsC : Array Slot) : Prop :=
  aLoc (acv G ad) lsC (aMx G y) ls ∧ (∀ v ∈ st, aOKV G ns v) ∧ (∀ v, some v ∈ ls → aOKV G ns v) ∧ aOKM G M ∧ va_P D cl (aw G ad cA nc M) H ∧ va_S (aF ad nc) s.heap H locs
theorem aD_of (hT : ∀ i j, i < nc → j < nc → ad i = ad j → i = j) (M : AM) : va_D (aF ad nc) (aw G ad cA nc M) := by
  have key : ∀ (i : Nat) (p : Nat × va_E), (aw G ad cA nc M)[i]? = some p → i < nc ∧ p.1 = ad i := fun i p h => by
    have hi : i < nc := by have := (List.getElem?_eq_some_iff.mp h).1; simpa [aw] using this
    rw [aw_at hi] at h
    cases h
    exact ⟨hi, rfl⟩
  refine ⟨fun i j p q hp hq hpq => ?_, fun k q hq => ?_⟩
  · obtain ⟨h1, h2⟩ := key i p hp
    obtain ⟨h3, h4⟩ := key j q hq
    exact hT i j h1 h3 (by rw [← h2, ← h4]; exact hpq)
  · obtain ⟨h1, h2⟩ := key k q hq
    exact ⟨k, h1, h2⟩
theorem aw_eO {M : AM} {q ci : Nat} {fs : List Nat} (h : G.1 q = .inl (ci, fs)) : aw_e G ad cA M q = .inr (ci, aw_fv ad M q 0 fs) := by simp only [aw_e, h]
theorem aw_eL {M : AM} {q n : Nat} (h : G.1 q = kA 3 n) : aw_e G ad cA M q = .inl (cA 3, n, .inr (.inl (fun j => Int64.ofInt (M q j)))) := by simp only [aw_e, h]
theorem aw_eA {M : AM} {q t n : Nat} (h : G.1 q = kA t n) (ht : t ≠ 3) : aw_e G ad cA M q = .inl (cA t, n, .inl (fun j => Int32.ofInt (M q j))) := by
  unfold aw_e
  rw [h]
  split
  next e => cases e
  next e => cases e; exact absurd rfl ht
  next e => cases e; rfl
  next e => cases e
  next e => cases e
  next e => cases e
theorem aw_eR {M : AM} {q n len base : Nat} (h : G.1 q = kR n len base) : aw_e G ad cA M q = .inl (cA 4, n, .inr (.inr (.inr (.inr (fun i => if i < n then some (ad (base + i)) else none))))) := by simp only [aw_e, h]
theorem aw_eW {M : AM} {q k r len : Nat} (h : G.1 q = kW k r len) : aw_e G ad cA M q = .inl (cA 0, len, .inl (fun j => if j < len then Int32.ofInt (M k (r * len + j)) else 0)) := by simp only [aw_e, h]
theorem a_isLf {q : Nat} (h : ∀ n, G.1 q ≠ kA 3 n) : a_isL G q = false := by
  unfold a_isL
  split
  next n e => exact absurd e (h n)
  next => rfl
theorem aOKM_i {M : AM} (h : aOKM G M) {q : Nat} (hq : ∀ n, G.1 q ≠ kA 3 n) (i : Int) : aR32 (M q i) := (h q i).2 (a_isLf hq)
theorem aOKM_l {M : AM} (h : aOKM G M) {q n : Nat} (hq : G.1 q = kA 3 n) (i : Int) : aR64 (M q i) := (h q i).1 (by simp only [a_isL, hq])
theorem aOKM_upi {M : AM} {k : Nat} {i z : Int} (h : aOKM G M) (hk : ∀ n, G.1 k ≠ kA 3 n) (hz : aR32 z) : aOKM G (am_up M k i z) := aOKM_up h ⟨fun x => (by rw [a_isLf hk] at x; cases x), fun _ => hz⟩
theorem aOKM_upl {M : AM} {k n : Nat} {i z : Int} (h : aOKM G M) (hk : G.1 k = kA 3 n) (hz : aR64 z) : aOKM G (am_up M k i z) := aOKM_up h ⟨fun _ => hz, fun x => by simp only [a_isL, hk] at x; cases x⟩
end ST
