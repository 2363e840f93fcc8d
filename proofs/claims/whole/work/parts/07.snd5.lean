theorem a_w64 {a : Int} (h : aR32 a) : (Int32.ofInt a).toInt64 = Int64.ofInt a := by
  apply Int64.toInt_inj.mp
  rw [Int32.toInt_toInt64, a32_t h, a64_t ⟨by have := h.1; omega, by have := h.2; omega⟩]
theorem a_cmpR (a b : Int) : aR32 (a_cmp a b) := by
  unfold a_cmp
  split
  · exact ⟨by decide, by decide⟩
  · split <;> exact ⟨by decide, by decide⟩
theorem a_lgc {a b : Int} (ha : aR64 a) (hb : aR64 b) : Int32.ofInt (a_cmp a b) = lg_cmp (Int64.ofInt a) (Int64.ofInt b) := by
  unfold a_cmp lg_cmp
  by_cases h1 : b < a
  · rw [if_pos h1, if_pos ((a64_lt hb ha).mpr h1)]; rfl
  · rw [if_neg h1, if_neg (fun z => h1 ((a64_lt hb ha).mp z))]
    by_cases h2 : a = b
    · rw [if_pos h2, if_pos ((a64_eq ha hb).mpr h2)]; rfl
    · rw [if_neg h2, if_neg (fun z => h2 ((a64_eq ha hb).mp z))]; rfl
theorem a_tsw_at (nx : Nat → Prop) (pc : Nat) (a : Int) : ∀ (os : List Int) (j : Nat) (lo o : Int), a_tsw nx pc a lo os → os[j]? = some o → a = lo + j → nx ((pc : Int) + o).toNat := by
  intro os
  induction os with
  | nil => intro j lo o _ h; simp at h
  | cons q os ih =>
    intro j lo o h hj ha
    cases j with
    | zero => simp at hj; subst hj; exact h.1 (by omega)
    | succ j => exact ih j (lo + 1) o h.2 (by simpa using hj) (by omega)
theorem a_lsw_at (nx : Nat → Prop) (pc : Nat) (a d : Int) : ∀ (ps : List (Int × Int)), a_lsw nx pc a d ps → 0 ≤ (pc : Int) + d → (∀ q ∈ ps, 0 ≤ (pc : Int) + q.2) → ∃ o, Op.lookupswitch.offset ps d a = o ∧ 0 ≤ (pc : Int) + o ∧ nx ((pc : Int) + o).toNat := by
  intro ps
  induction ps with
  | nil => intro h h0 _; exact ⟨d, rfl, h0, h⟩
  | cons q r ih =>
    intro h h0 hq
    obtain ⟨k, o⟩ := q
    rw [Op.lookupswitch.offset_cons]
    by_cases hk : a = k
    · exact ⟨o, by rw [if_pos (by first | exact hk | exact hk.symm)], hq _ List.mem_cons_self, h.1 hk⟩
    · obtain ⟨o2, g1, g2⟩ := ih (h.2 hk) h0 (fun z hz => hq z (List.mem_cons_of_mem _ hz))
      exact ⟨o2, by rw [if_neg (by first | exact hk | exact (fun z => hk z.symm))]; exact g1, g2⟩
section SP
variable {G : AG} {ad : Nat → Nat} {cA : Nat → ClassId} {nc ns nm ncl : Nat} {D : va_G} {cl : List vw_C}
variable {cn : Nat → String} {yn : Nat → MethodName} {bc : Nat → ByteArray} {tf : Nat → u_T × Nat × (Nat → FieldType)} {AW AN : List Cond}
variable {zs : List ((String × String × String) × Nat)} {sk : Nat → String × Nat × String} {XS : State → Heap → Prop}
variable {p : Program} {l : Launch} {e : Env} {s : State} {m : MethodId} {args : Array Value} {below : List Frame} {meth : Method} {c : Code} {H : Heap} {locs : List Loc} {lsC : Array Slot} {d y : Nat} {Q : Option AV → AM → Prop}
/-- the walk's goal -/
abbrev aWl (G : AG) (ad : Nat → Nat) (cA : Nat → ClassId) (nc ns : Nat) (D : va_G) (cl : List vw_C) (d : Nat) (Q : Option AV → AM → Prop) (p : Program) (l : Launch) (e : Env) (s : State) (m : MethodId) (args : Array Value) (below : List Frame) (meth : Method) (c : Code) (H : Heap) (locs : List Loc) (lsC : Array Slot) (pc : Nat) (st : List Value) : Prop :=
  W p l e (aRoom d) s m args below meth c H locs 0 0 (MQ below (aQc G ad cA nc ns D cl Q) args s 0 0 (aF ad nc)) (F0 m pc lsC st)
/-- the next places of the walk are known -/
abbrev aIH (G : AG) (ad : Nat → Nat) (cA : Nat → ClassId) (nc ns nm ncl : Nat) (D : va_G) (cl : List vw_C) (cn : Nat → String) (yn : Nat → MethodName) (bc : Nat → ByteArray) (tf : Nat → u_T × Nat × (Nat → FieldType)) (AW AN : List Cond) (zs : List ((String × String × String) × Nat)) (sk : Nat → String × Nat × String) (d y : Nat) (Q : Option AV → AM → Prop) (p : Program) (l : Launch) (e : Env) (s : State) (m : MethodId) (args : Array Value) (below : List Frame) (meth : Method) (c : Code) (nx : Nat → AB → AL → List AV → AM → Prop) : Prop :=
  ∀ pc rs ls st M, nx pc rs ls st M → okL G ns nm ncl cn yn bc tf AW AN zs sk y pc rs → ∀ H locs lsC, aInv G ad cA nc ns D cl y ls st M s H locs lsC → aWl G ad cA nc ns D cl d Q p l e s m args below meth c H locs lsC pc (st.map (acv G ad))
theorem a_jump {pc : Nat} {o : Int} (h : 0 ≤ (pc : Int) + o) : (pc : Int) + o = ((((pc : Int) + o).toNat : Nat) : Int) := (Int.toNat_of_nonneg h).symm
set_option maxHeartbeats 4000000 in
/-- instructions that leave the heap alone -/
theorem a_step_l {run : Nat → List AV → AM → (Option AV → AM → Prop) → Prop} {nx : Nat → AB → AL → List AV → AM → Prop} {pc : Nat} {ins : Jvm.ClassFile.Instr} {x : AX} {rs : AB} {ls : AL} {st : List AV} {M : AM}
    (hC : aCtx G ad cA nc ns D cl cn bc AW AN zs sk XS d y p s m args meth c) (hI : aInv G ad cA nc ns D cl y ls st M s H locs lsC)
    (hD : okD bc y pc ins) (hJ : okJ pc ins) (hO : okI G ns nm ncl cn yn tf AW AN zs sk y ins x) (hrs : okL G ns nm ncl cn yn bc tf AW AN zs sk y (pc + a_len ins) rs)
    (IH : aIH G ad cA nc ns nm ncl D cl cn yn bc tf AW AN zs sk d y Q p l e s m args below meth c nx)
    (hk : a_kl ins = true)
    (h : a_step G run nx (G.2.1 y).2.2.1 Q pc ins x rs ls st M) : aWl G ad cA nc ns D cl d Q p l e s m args below meth c H locs lsC pc (st.map (acv G ad)) := by
  obtain ⟨hx, hb, hr, hml, hown, hts, hlk, hX⟩ := id hC
  obtain ⟨hL, hst, hls, hM, hP, hS⟩ := id hI
  unfold a_step at h
  cases ins
  case iconst n => exact lv_iconst (v := Int32.ofInt n) hx hb hD rfl (IH _ _ _ _ _ h hrs _ _ _ ⟨hL, a_stc hO hst, hls, hM, hP, hS⟩)
  case bipush n => exact lv_bipush (v := Int32.ofInt n) hx hb hD (a_i8 hO) (IH _ _ _ _ _ h hrs _ _ _ ⟨hL, a_stc ⟨by have := hO.1; omega, by have := hO.2; omega⟩ hst, hls, hM, hP, hS⟩)
  case sipush n => exact lv_sipush (v := Int32.ofInt n) hx hb hD (a_i16 hO) (IH _ _ _ _ _ h hrs _ _ _ ⟨hL, a_stc ⟨by have := hO.1; omega, by have := hO.2; omega⟩ hst, hls, hM, hP, hS⟩)
  case lconst n => exact lv_lconst (v := Int64.ofInt (n : Nat)) hx hb hD (by match n with | 0 => rfl | 1 => rfl) (IH _ _ _ _ _ h hrs _ _ _ ⟨hL, a_stc ⟨by omega, by omega⟩ hst, hls, hM, hP, hS⟩)
  case ldc_w i => exact lv_ldcw hx hb hown (hts _ hO.2) hD (IH _ _ _ _ _ h hrs _ _ _ ⟨hL, a_stc hO.1 hst, hls, hM, hP, hS⟩)
  case ldc2_w i => exact lv_ldc2 hx hb hown (hts _ hO.2) hD (IH _ _ _ _ _ h hrs _ _ _ ⟨hL, a_stc hO.1 hst, hls, hM, hP, hS⟩)
  case iload_n k =>
    dsimp only at h
    split at h
    next z ez => exact lv_iload_n hx hb hD rfl (hL.2.2 _ _ ez) (IH _ _ _ _ _ h hrs _ _ _ ⟨hL, a_stc (hls _ (List.mem_of_getElem? ez)) hst, hls, hM, hP, hS⟩)
    next => exact h.elim
  case iload k =>
    dsimp only at h
    split at h
    next z ez => exact lv_iload hx hb hD (hL.2.2 _ _ ez) (IH _ _ _ _ _ h hrs _ _ _ ⟨hL, a_stc (hls _ (List.mem_of_getElem? ez)) hst, hls, hM, hP, hS⟩)
    next => exact h.elim
  case lload_n k =>
    dsimp only at h
    split at h
    next z ez => exact lv_lload_n hx hb hD rfl (hL.2.2 _ _ ez) (IH _ _ _ _ _ h hrs _ _ _ ⟨hL, a_stc (hls _ (List.mem_of_getElem? ez)) hst, hls, hM, hP, hS⟩)
    next => exact h.elim
  case lload k =>
    dsimp only at h
    split at h
    next z ez => exact lv_lload hx hb hD (hL.2.2 _ _ ez) (IH _ _ _ _ _ h hrs _ _ _ ⟨hL, a_stc (hls _ (List.mem_of_getElem? ez)) hst, hls, hM, hP, hS⟩)
    next => exact h.elim
  case aload_n k =>
    dsimp only at h
    split at h
    next v ez =>
      have k1 := IH _ _ _ _ _ h hrs _ _ _ ⟨hL, a_stc (hls _ (List.mem_of_getElem? ez)) hst, hls, hM, hP, hS⟩
      have k2 := hL.2.2 _ _ ez
      rcases v with a | ⟨a, i⟩ | a <;> exact lv_aload_n hx hb hD rfl k2 k1
    next => exact h.elim
  case aload k =>
    dsimp only at h
    split at h
    next v ez =>
      have k1 := IH _ _ _ _ _ h hrs _ _ _ ⟨hL, a_stc (hls _ (List.mem_of_getElem? ez)) hst, hls, hM, hP, hS⟩
      have k2 := hL.2.2 _ _ ez
      rcases v with a | ⟨a, i⟩ | a <;> exact lv_aload hx hb hD k2 k1
    next => exact h.elim
  case istore_n k =>
    dsimp only at h
    split at h
    next z st => exact lv_istore_n hx hb hD rfl (al_has hL) hO rfl (fun lsC' h' => IH _ _ _ _ _ h hrs _ _ _ ⟨al_store1 (v := aI z) h', (a_st1 hst).2, al_set1_ok hls (a_st1 hst).1, hM, hP, hS⟩)
    next => exact h.elim
  case istore k =>
    dsimp only at h
    split at h
    next z st => exact lv_istore hx hb hD (al_has hL) hO rfl (fun lsC' h' => IH _ _ _ _ _ h hrs _ _ _ ⟨al_store1 (v := aI z) h', (a_st1 hst).2, al_set1_ok hls (a_st1 hst).1, hM, hP, hS⟩)
    next => exact h.elim
  case lstore_n k =>
    dsimp only at h
    split at h
    next z st => exact lv_lstore_n hx hb hD rfl (al_has hL) hO rfl (fun lsC' h' => IH _ _ _ _ _ h hrs _ _ _ ⟨al_store2 (v := aL z) h', (a_st1 hst).2, al_set2_ok hls (a_st1 hst).1, hM, hP, hS⟩)
    next => exact h.elim
  case lstore k =>
    dsimp only at h
    split at h
    next z st => exact lv_lstore hx hb hD (al_has hL) hO rfl (fun lsC' h' => IH _ _ _ _ _ h hrs _ _ _ ⟨al_store2 (v := aL z) h', (a_st1 hst).2, al_set2_ok hls (a_st1 hst).1, hM, hP, hS⟩)
    next => exact h.elim
  case astore_n k =>
    dsimp only at h
    split at h
    next v st =>
      rcases v with a | ⟨a, i⟩ | a
      · exact lv_astore_n hx hb hD rfl (al_has hL) hO rfl (fun lsC' h' => IH _ _ _ _ _ h hrs _ _ _ ⟨al_store1 (v := aP a) h', (a_st1 hst).2, al_set1_ok hls (a_st1 hst).1, hM, hP, hS⟩)
      · exact lv_astore_n hx hb hD rfl (al_has hL) hO rfl (fun lsC' h' => IH _ _ _ _ _ h hrs _ _ _ ⟨al_store1 (v := aR a i) h', (a_st1 hst).2, al_set1_ok hls (a_st1 hst).1, hM, hP, hS⟩)
      · exact lv_astore_n hx hb hD rfl (al_has hL) hO rfl (fun lsC' h' => IH _ _ _ _ _ h hrs _ _ _ ⟨al_store1 (v := aS a) h', (a_st1 hst).2, al_set1_ok hls (a_st1 hst).1, hM, hP, hS⟩)
    next => exact h.elim
  case astore k =>
    dsimp only at h
    split at h
    next v st =>
      rcases v with a | ⟨a, i⟩ | a
      · exact lv_astore hx hb hD (al_has hL) hO rfl (fun lsC' h' => IH _ _ _ _ _ h hrs _ _ _ ⟨al_store1 (v := aP a) h', (a_st1 hst).2, al_set1_ok hls (a_st1 hst).1, hM, hP, hS⟩)
      · exact lv_astore hx hb hD (al_has hL) hO rfl (fun lsC' h' => IH _ _ _ _ _ h hrs _ _ _ ⟨al_store1 (v := aR a i) h', (a_st1 hst).2, al_set1_ok hls (a_st1 hst).1, hM, hP, hS⟩)
      · exact lv_astore hx hb hD (al_has hL) hO rfl (fun lsC' h' => IH _ _ _ _ _ h hrs _ _ _ ⟨al_store1 (v := aS a) h', (a_st1 hst).2, al_set1_ok hls (a_st1 hst).1, hM, hP, hS⟩)
    next => exact h.elim
  case iinc k n =>
    dsimp only at h
    split at h
    next z ez =>
      obtain ⟨j, hj⟩ := List.getElem?_of_mem (al_mem (cv := acv G ad).mpr ⟨_, ez, rfl⟩)
      exact lv_iinc (v := Int32.ofInt (a_add z n)) hx hb hD (al_has hL) hj (a32_o _).symm hO.2 rfl (fun lsC' h' => IH _ _ _ _ _ h hrs _ _ _ ⟨al_store1 (v := aI (a_add z n)) h', hst, al_set1_ok hls (aR32_of _), hM, hP, hS⟩)
    next => exact h.elim
  case dup =>
    dsimp only at h
    split at h
    next v st =>
      obtain ⟨h1, h⟩ := a_cond h
      exact lv_dup hx hb hD ((acv_catN v).trans (Nat.eq_of_beq_eq_true h1)) (IH _ _ _ _ _ h hrs _ _ _ ⟨hL, a_stc (a_st1 hst).1 hst, hls, hM, hP, hS⟩)
    next => exact h.elim
  case dup_x1 =>
    dsimp only at h
    split at h
    next v w st =>
      obtain ⟨h1, h⟩ := a_cond h
      rw [Bool.and_eq_true] at h1
      exact lv_dup_x1 hx hb hD ((acv_catN v).trans (Nat.eq_of_beq_eq_true h1.1)) ((acv_catN w).trans (Nat.eq_of_beq_eq_true h1.2)) (IH _ _ _ _ _ h hrs _ _ _ ⟨hL, a_stc (a_st1 hst).1 (a_stc (a_st1 (a_st1 hst).2).1 (a_stc (a_st1 hst).1 (a_st1 (a_st1 hst).2).2)), hls, hM, hP, hS⟩)
    next => exact h.elim
  case dup2 =>
    dsimp only at h
    split at h
    next v w st =>
      obtain ⟨h1, h⟩ := a_cond h
      rw [Bool.and_eq_true] at h1
      exact lv_dup2_11 hx hb hD ((acv_catN v).trans (Nat.eq_of_beq_eq_true h1.1)) ((acv_catN w).trans (Nat.eq_of_beq_eq_true h1.2)) (IH _ _ _ _ _ h hrs _ _ _ ⟨hL, a_stc (a_st1 hst).1 (a_stc (a_st1 (a_st1 hst).2).1 hst), hls, hM, hP, hS⟩)
    next => exact h.elim
  case pop =>
    dsimp only at h
    split at h
    next v st =>
      obtain ⟨h1, h⟩ := a_cond h
      exact lv_pop hx hb hD ((acv_catN v).trans (Nat.eq_of_beq_eq_true h1)) (IH _ _ _ _ _ h hrs _ _ _ ⟨hL, (a_st1 hst).2, hls, hM, hP, hS⟩)
    next => exact h.elim
  case ineg =>
    dsimp only at h
    split at h
    next a st => exact lv_ineg hx hb hD (a_top (a32_o _) (IH _ _ _ _ _ h hrs _ _ _ ⟨hL, a_stc (aR32_of _) (a_st1 hst).2, hls, hM, hP, hS⟩))
    next => exact h.elim
  case idiv =>
    dsimp only at h
    split at h
    next b a st =>
      exact lv_idiv hx hb hD (fun q => h.1 ((a32_eq (a_st1 hst).1 ⟨by decide, by decide⟩).mp q)) (a_top (a32_o _) (IH _ _ _ _ _ h.2 hrs _ _ _ ⟨hL, a_stc (aR32_of _) (a_st1 (a_st1 hst).2).2, hls, hM, hP, hS⟩))
    next => exact h.elim
  case irem =>
    dsimp only at h
    split at h
    next b a st =>
      exact lv_irem hx hb hD (fun q => h.1 ((a32_eq (a_st1 hst).1 ⟨by decide, by decide⟩).mp q)) (a_top (a32_o _) (IH _ _ _ _ _ h.2 hrs _ _ _ ⟨hL, a_stc (aR32_of _) (a_st1 (a_st1 hst).2).2, hls, hM, hP, hS⟩))
    next => exact h.elim
  case i2l =>
    dsimp only at h
    split at h
    next a st =>
      have ha := (a_st1 hst).1
      exact lv_i2l (v := Int64.ofInt a) hx hb hD (a_w64 ha) (IH _ _ _ _ _ h hrs _ _ _ ⟨hL, a_stc ⟨by have := ha.1; omega, by have := ha.2; omega⟩ (a_st1 hst).2, hls, hM, hP, hS⟩)
    next => exact h.elim
  case l2i =>
    dsimp only at h
    split at h
    next a st => exact lv_l2i hx hb hD (a32_o _).symm (IH _ _ _ _ _ h hrs _ _ _ ⟨hL, a_stc (aR32_of _) (a_st1 hst).2, hls, hM, hP, hS⟩)
    next => exact h.elim
  case i2c =>
    dsimp only at h
    split at h
    next a st => exact lv_i2c hx hb hD (a32_o _).symm (IH _ _ _ _ _ h hrs _ _ _ ⟨hL, a_stc (aR32_of _) (a_st1 hst).2, hls, hM, hP, hS⟩)
    next => exact h.elim
  case lcmp =>
    dsimp only at h
    split at h
    next b a st =>
      exact W.lcmp hx hb hD (a_top (a_lgc (a_st1 (a_st1 hst).2).1 (a_st1 hst).1) (IH _ _ _ _ _ h hrs _ _ _ ⟨hL, a_stc (a_cmpR a b) (a_st1 (a_st1 hst).2).2, hls, hM, hP, hS⟩))
    next => exact h.elim
  case goto o => exact lv_goto hx hb hD (a_jump hJ) (IH _ _ _ _ _ h trivial _ _ _ ⟨hL, hst, hls, hM, hP, hS⟩)
  case if_icmp cc o =>
    dsimp only at h
    split at h
    next b a st =>
      have hb1 := (a_st1 hst).1
      have ha1 := (a_st1 (a_st1 hst).2).1
      have K1 := fun hh => IH ((pc : Int) + o).toNat [] ls st M hh trivial H locs lsC ⟨hL, (a_st1 (a_st1 hst).2).2, hls, hM, hP, hS⟩
      have K2 := fun hh => IH (pc + 3) rs ls st M hh hrs H locs lsC ⟨hL, (a_st1 (a_st1 hst).2).2, hls, hM, hP, hS⟩
      cases cc <;> dsimp only [a_cnd] at h
      · exact lv_icmp_eq hx hb hD (a_jump hJ) (fun q => K1 (h.1 ((a32_eq ha1 hb1).mp q))) (fun q => K2 (h.2 (fun z => q ((a32_eq ha1 hb1).mpr z))))
      · exact lv_icmp_ne hx hb hD (a_jump hJ) (fun q => K1 (h.1 (fun z => q ((a32_eq ha1 hb1).mpr z)))) (fun q => K2 (h.2 ((a32_eq ha1 hb1).mp q)))
      · exact lv_icmp_lt hx hb hD (a_jump hJ) (fun q => K1 (h.1 ((a32_lt ha1 hb1).mp q))) (fun q => K2 (h.2 (Int.not_lt.mp (fun z => q ((a32_lt ha1 hb1).mpr z)))))
      · exact lv_icmp_ge hx hb hD (a_jump hJ) (fun q => K1 (h.1 ((a32_le hb1 ha1).mp q))) (fun q => K2 (h.2 (Int.not_le.mp (fun z => q ((a32_le hb1 ha1).mpr z)))))
      · exact lv_icmp_gt hx hb hD (a_jump hJ) (fun q => K1 (h.1 ((a32_lt hb1 ha1).mp q))) (fun q => K2 (h.2 (Int.not_lt.mp (fun z => q ((a32_lt hb1 ha1).mpr z)))))
      · exact lv_icmp_le hx hb hD (a_jump hJ) (fun q => K1 (h.1 ((a32_le ha1 hb1).mp q))) (fun q => K2 (h.2 (Int.not_le.mp (fun z => q ((a32_le ha1 hb1).mpr z)))))
    next => exact h.elim
  case ifCond cc o =>
    dsimp only at h
    split at h
    next a st =>
      have hb1 : aR32 0 := ⟨by decide, by decide⟩
      have ha1 := (a_st1 hst).1
      have K1 := fun hh => IH ((pc : Int) + o).toNat [] ls st M hh trivial H locs lsC ⟨hL, (a_st1 hst).2, hls, hM, hP, hS⟩
      have K2 := fun hh => IH (pc + 3) rs ls st M hh hrs H locs lsC ⟨hL, (a_st1 hst).2, hls, hM, hP, hS⟩
      cases cc <;> dsimp only [a_cnd] at h
      · exact lv_if_eq hx hb hD (a_jump hJ) (fun q => K1 (h.1 ((a32_eq ha1 hb1).mp q))) (fun q => K2 (h.2 (fun z => q ((a32_eq ha1 hb1).mpr z))))
      · exact lv_if_ne hx hb hD (a_jump hJ) (fun q => K1 (h.1 (fun z => q ((a32_eq ha1 hb1).mpr z)))) (fun q => K2 (h.2 ((a32_eq ha1 hb1).mp q)))
      · exact lv_if_lt hx hb hD (a_jump hJ) (fun q => K1 (h.1 ((a32_lt ha1 hb1).mp q))) (fun q => K2 (h.2 (Int.not_lt.mp (fun z => q ((a32_lt ha1 hb1).mpr z)))))
      · exact lv_if_ge hx hb hD (a_jump hJ) (fun q => K1 (h.1 ((a32_le hb1 ha1).mp q))) (fun q => K2 (h.2 (Int.not_le.mp (fun z => q ((a32_le hb1 ha1).mpr z)))))
      · exact lv_if_gt hx hb hD (a_jump hJ) (fun q => K1 (h.1 ((a32_lt hb1 ha1).mp q))) (fun q => K2 (h.2 (Int.not_lt.mp (fun z => q ((a32_lt hb1 ha1).mpr z)))))
      · exact lv_if_le hx hb hD (a_jump hJ) (fun q => K1 (h.1 ((a32_le ha1 hb1).mp q))) (fun q => K2 (h.2 (Int.not_le.mp (fun z => q ((a32_le ha1 hb1).mpr z)))))
    next => exact h.elim
  case tableswitch d0 lo hi offs =>
    dsimp only at h
    split at h
    next a st =>
      obtain ⟨n, hD⟩ := hD
      have ha1 : (Int32.ofInt a).toInt = a := a32_t (a_st1 hst).1
      by_cases h1 : a < lo ∨ hi < a
      · exact lv_tableOut hx hb hD (by rw [ha1]; exact h1) (a_jump hJ.1) (IH _ _ _ _ _ (h.2 h1) trivial _ _ _ ⟨hL, (a_st1 hst).2, hls, hM, hP, hS⟩)
      · have hlt : (a - lo).toNat < offs.size := by have := hO.1; omega
        have hoff : offs[(a - lo).toNat]? = some offs[(a - lo).toNat] := by simp [hlt]
        refine lv_tableIn hx hb hD (by rw [ha1]; omega) (by rw [ha1]; omega) (off := offs[(a - lo).toNat]) (by rw [ha1]; exact hoff) (a_jump (hJ.2 _ (by simp))) ?_
        refine IH _ _ _ _ _ (a_tsw_at _ _ _ _ (a - lo).toNat _ _ h.1 (by simp [hlt]) (by omega)) trivial _ _ _ ⟨hL, (a_st1 hst).2, hls, hM, hP, hS⟩
    next => exact h.elim
  case lookupswitch d0 ps =>
    dsimp only at h
    split at h
    next a st =>
      obtain ⟨n, hD⟩ := hD
      have ha1 : (Int32.ofInt a).toInt = a := a32_t (a_st1 hst).1
      obtain ⟨o, g1, g2, g3⟩ := a_lsw_at _ pc a d0 ps.toList h hJ.1 hJ.2
      exact lv_lookup hx hb hD hO (by rw [ha1]; exact g1) (a_jump g2) (IH _ _ _ _ _ g3 trivial _ _ _ ⟨hL, (a_st1 hst).2, hls, hM, hP, hS⟩)
    next => exact h.elim
  case iadd =>
    dsimp only [a_bin, a_binL, a_shL] at h
    split at h
    next b a st => exact lv_iadd hx hb hD (a_top (a32_o _) (IH _ _ _ _ _ h hrs _ _ _ ⟨hL, a_stc (aR32_of _) (a_st1 (a_st1 hst).2).2, hls, hM, hP, hS⟩))
    next => exact h.elim
  case isub =>
    dsimp only [a_bin, a_binL, a_shL] at h
    split at h
    next b a st => exact lv_isub hx hb hD (a_top (a32_o _) (IH _ _ _ _ _ h hrs _ _ _ ⟨hL, a_stc (aR32_of _) (a_st1 (a_st1 hst).2).2, hls, hM, hP, hS⟩))
    next => exact h.elim
  case imul =>
    dsimp only [a_bin, a_binL, a_shL] at h
    split at h
    next b a st => exact lv_imul hx hb hD (a_top (a32_o _) (IH _ _ _ _ _ h hrs _ _ _ ⟨hL, a_stc (aR32_of _) (a_st1 (a_st1 hst).2).2, hls, hM, hP, hS⟩))
    next => exact h.elim
  case iand =>
    dsimp only [a_bin, a_binL, a_shL] at h
    split at h
    next b a st => exact lv_iand hx hb hD (a_top (a32_o _) (IH _ _ _ _ _ h hrs _ _ _ ⟨hL, a_stc (aR32_of _) (a_st1 (a_st1 hst).2).2, hls, hM, hP, hS⟩))
    next => exact h.elim
  case ior =>
    dsimp only [a_bin, a_binL, a_shL] at h
    split at h
    next b a st => exact lv_ior hx hb hD (a_top (a32_o _) (IH _ _ _ _ _ h hrs _ _ _ ⟨hL, a_stc (aR32_of _) (a_st1 (a_st1 hst).2).2, hls, hM, hP, hS⟩))
    next => exact h.elim
  case ixor =>
    dsimp only [a_bin, a_binL, a_shL] at h
    split at h
    next b a st => exact lv_ixor hx hb hD (a_top (a32_o _) (IH _ _ _ _ _ h hrs _ _ _ ⟨hL, a_stc (aR32_of _) (a_st1 (a_st1 hst).2).2, hls, hM, hP, hS⟩))
    next => exact h.elim
  case ishl =>
    dsimp only [a_bin, a_binL, a_shL] at h
    split at h
    next b a st => exact lv_ishl hx hb hD (a_top (a32_o _) (IH _ _ _ _ _ h hrs _ _ _ ⟨hL, a_stc (aR32_of _) (a_st1 (a_st1 hst).2).2, hls, hM, hP, hS⟩))
    next => exact h.elim
  case ishr =>
    dsimp only [a_bin, a_binL, a_shL] at h
    split at h
    next b a st => exact lv_ishr hx hb hD (a_top (a32_o _) (IH _ _ _ _ _ h hrs _ _ _ ⟨hL, a_stc (aR32_of _) (a_st1 (a_st1 hst).2).2, hls, hM, hP, hS⟩))
    next => exact h.elim
  case ladd =>
    dsimp only [a_bin, a_binL, a_shL] at h
    split at h
    next b a st => exact lv_ladd hx hb hD (a_topL (a64_o _) (IH _ _ _ _ _ h hrs _ _ _ ⟨hL, a_stc (aR64_of _) (a_st1 (a_st1 hst).2).2, hls, hM, hP, hS⟩))
    next => exact h.elim
  case lsub =>
    dsimp only [a_bin, a_binL, a_shL] at h
    split at h
    next b a st => exact lv_lsub hx hb hD (a_topL (a64_o _) (IH _ _ _ _ _ h hrs _ _ _ ⟨hL, a_stc (aR64_of _) (a_st1 (a_st1 hst).2).2, hls, hM, hP, hS⟩))
    next => exact h.elim
  case land =>
    dsimp only [a_bin, a_binL, a_shL] at h
    split at h
    next b a st => exact lv_land hx hb hD (a_topL (a64_o _) (IH _ _ _ _ _ h hrs _ _ _ ⟨hL, a_stc (aR64_of _) (a_st1 (a_st1 hst).2).2, hls, hM, hP, hS⟩))
    next => exact h.elim
  case lor =>
    dsimp only [a_bin, a_binL, a_shL] at h
    split at h
    next b a st => exact lv_lor hx hb hD (a_topL (a64_o _) (IH _ _ _ _ _ h hrs _ _ _ ⟨hL, a_stc (aR64_of _) (a_st1 (a_st1 hst).2).2, hls, hM, hP, hS⟩))
    next => exact h.elim
  case lxor =>
    dsimp only [a_bin, a_binL, a_shL] at h
    split at h
    next b a st => exact lv_lxor hx hb hD (a_topL (a64_o _) (IH _ _ _ _ _ h hrs _ _ _ ⟨hL, a_stc (aR64_of _) (a_st1 (a_st1 hst).2).2, hls, hM, hP, hS⟩))
    next => exact h.elim
  case iushr =>
    dsimp only [a_bin, a_binL, a_shL] at h
    split at h
    next b a st => exact lv_iushr hx hb hD (a32_o _).symm (IH _ _ _ _ _ h hrs _ _ _ ⟨hL, a_stc (aR32_of _) (a_st1 (a_st1 hst).2).2, hls, hM, hP, hS⟩)
    next => exact h.elim
  case lshl =>
    dsimp only [a_bin, a_binL, a_shL] at h
    split at h
    next b a st => exact lv_lshl hx hb hD (a64_o _).symm (IH _ _ _ _ _ h hrs _ _ _ ⟨hL, a_stc (aR64_of _) (a_st1 (a_st1 hst).2).2, hls, hM, hP, hS⟩)
    next => exact h.elim
  case lshr =>
    dsimp only [a_bin, a_binL, a_shL] at h
    split at h
    next b a st => exact lv_lshr hx hb hD (a64_o _).symm (IH _ _ _ _ _ h hrs _ _ _ ⟨hL, a_stc (aR64_of _) (a_st1 (a_st1 hst).2).2, hls, hM, hP, hS⟩)
    next => exact h.elim
  case lushr =>
    dsimp only [a_bin, a_binL, a_shL] at h
    split at h
    next b a st => exact lv_lushr hx hb hD (a64_o _).symm (IH _ _ _ _ _ h hrs _ _ _ ⟨hL, a_stc (aR64_of _) (a_st1 (a_st1 hst).2).2, hls, hM, hP, hS⟩)
    next => exact h.elim
  all_goals first | exact (Bool.noConfusion hk) | exact h.elim
end SP
