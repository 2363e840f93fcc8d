/-! THE ABSTRACT MACHINE IS SOUND: instructions over the heap, ends. -/
theorem a_ix {i : Int} {n : Nat} (h : 0 ≤ i ∧ i < n) (hr : aR32 i) : vp_in (Int32.ofInt i) n := (a32_ix h.1 h.2 hr).1
theorem a_ixn {i : Int} {n : Nat} (h : 0 ≤ i ∧ i < n) (hr : aR32 i) : (Int32.ofInt i).toNatClampNeg = i.toNat := (a32_ix h.1 h.2 hr).2
theorem a_tn {i : Int} (h : 0 ≤ i) : ((i.toNat : Nat) : Int) = i := Int.toNat_of_nonneg h
theorem a_nch {z : Int} (h : 0 ≤ z ∧ z < 65536) : narrow .char (.int (Int32.ofInt z)) = .int (Int32.ofInt z) ∧ fits .char (.int (Int32.ofInt z)) = true ∧ vp_nar .char (Int32.ofInt z) = Int32.ofInt z := by
  have e : Int32.ofInt z = nI z.toNat := by
    unfold nI
    apply Int32.toInt_inj.mp
    rw [a32_t ⟨by omega, by omega⟩, Int32.toInt_ofNat_of_lt (by omega)]
    omega
  rw [e]
  obtain ⟨h1, h2⟩ := pk_charN (q := z.toNat) (by omega)
  refine ⟨h1, h2, ?_⟩
  unfold vp_nar
  rw [h1]
section AALD
variable {p : Program} {l : Launch} {e : Env} {R : Room} {s : State} {m : MethodId} {args : Array Value} {below : List Frame} {meth : Method} {c : Code} {H : Heap} {locs : List Loc} {cells slots : Nat} {Q : State → Prop}
variable {cc : ByteArray} {pc : Nat} {ls : Array Slot} {rest : List Value} {D : va_G} {cl : List vw_C} {a : Nat} {tys : List (ClassId × FieldType)} {ws : va_W}
/-- a row out of an array of rows -/
theorem a_aald (hexec : p.tables.exec = Jvm.exec) (hb : c.code = cc) (hK : va_K D cl tys s) (hP : va_P D cl ws H) (q0 t0 : Nat) {cA : ClassId} {ty : FieldType} {n : Nat} {f : Nat → Option Nat} (ha : ws[q0]? = some (a, .inl (cA, n, .inr (.inr (.inr (.inr f)))))) (ht : tys[t0]? = some (cA, .array ty)) {i : Int32} (hin : vp_in i n) (hdg : decode cc pc = .ok (.aaload, 1))
    (kk : W p l e R s m args below meth c H locs cells slots Q (F0 m (pc + 1) ls (va_rf (f i.toNatClampNeg) :: rest))) : W p l e R s m args below meth c H locs cells slots Q (F0 m pc ls (.int i :: .ref a :: rest)) := by
  have hlt : i.toNatClampNeg < n := Nat.not_le.mp fun q => hin (Or.inr q)
  exact W.aald (v := va_rf (f i.toNatClampNeg)) (ty := .array ty) hexec hb (hP q0 _ ha) ((hK.2 t0 _ ht).1 n (fun j => va_rf (f j))) rfl (fun q => by cases q) (by show ¬ (i < 0 ∨ (arrV _ _ _).slots.size ≤ _); rw [arrV_size]; exact hin) (by show (arrV _ _ _).slots[_]? = _; rw [arrV_read _ _ hlt]) rfl rfl hdg kk
end AALD
section SH
variable {G : AG} {ad : Nat → Nat} {cA : Nat → ClassId} {nc ns nm ncl : Nat} {D : va_G} {cl : List vw_C}
variable {cn : Nat → String} {yn : Nat → MethodName} {bc : Nat → ByteArray} {tf : Nat → u_T × Nat × (Nat → FieldType)} {AW AN : List Cond}
variable {zs : List ((String × String × String) × Nat)} {sk : Nat → String × Nat × String} {XS : State → Heap → Prop}
variable {p : Program} {l : Launch} {e : Env} {s : State} {m : MethodId} {args : Array Value} {below : List Frame} {meth : Method} {c : Code} {H : Heap} {locs : List Loc} {lsC : Array Slot} {d y : Nat} {Q : Option AV → AM → Prop}
theorem aw_putA {M : AM} {k t n : Nat} {i z : Int} (hG : aGW G nc) (hk : G.1 k = kA t n) (ht : t ≠ 3) (hi : 0 ≤ i) : (aw G ad cA nc M).set k (ad k, .inl (cA t, n, .inl (upd (fun j => Int32.ofInt (M k j)) i.toNat (Int32.ofInt z)))) = aw G ad cA nc (am_up M k i z) := by
  rw [aw_set (q := k) (fun q' _ hq => aw_other hG (fun a b c x => by rw [hk] at x; cases x) hq), aw_eA hk ht]
  refine congrArg (fun f => (aw G ad cA nc M).set k (ad k, .inl (cA t, n, .inl f))) (funext fun j => ?_)
  by_cases hj : j = i.toNat
  · subst hj; simp [upd, am_up, a_tn hi]
  · have : ¬ (j : Int) = i := by omega
    simp [upd, am_up, hj, this]
theorem aw_putL {M : AM} {k n : Nat} {i z : Int} (hG : aGW G nc) (hk : G.1 k = kA 3 n) (hi : 0 ≤ i) : (aw G ad cA nc M).set k (ad k, .inl (cA 3, n, .inr (.inl (vp_updL (fun j => Int64.ofInt (M k j)) i.toNat (Int64.ofInt z))))) = aw G ad cA nc (am_up M k i z) := by
  rw [aw_set (q := k) (fun q' _ hq => aw_other hG (fun a b c x => by rw [hk] at x; cases x) hq), aw_eL hk]
  refine congrArg (fun f => (aw G ad cA nc M).set k (ad k, .inl (cA 3, n, .inr (.inl f)))) (funext fun j => ?_)
  by_cases hj : j = i.toNat
  · subst hj; simp [vp_updL, am_up, a_tn hi]
  · have : ¬ (j : Int) = i := by omega
    simp [vp_updL, am_up, hj, this]
theorem aw_putR {M : AM} {k n len base : Nat} {r i z : Int} (hG : aGW G nc) (hk : G.1 k = kR n len base) (hr0 : 0 ≤ r) (hr1 : r < n) (hi : 0 ≤ i) (hi1 : i < len) : (aw G ad cA nc M).set (base + r.toNat) (ad (base + r.toNat), .inl (cA 0, len, .inl (upd (fun j => if j < len then Int32.ofInt (M k ((r.toNat : Nat) * len + j)) else 0) i.toNat (Int32.ofInt z)))) = aw G ad cA nc (am_up M k (r * len + i) z) := by
  obtain ⟨hb, hw⟩ := hG.2.1 k n len base hk r.toNat (by omega)
  have er : ((r.toNat : Nat) : Int) = r := a_tn hr0
  rw [aw_set (q := base + r.toNat) (fun q' _ hq => by have := aw_otherR (ad := ad) (cA := cA) (M := M) (z := z) hG hk (r := r.toNat) (by omega) hi hi1 hq; rw [er] at this; exact this), aw_eW hw]
  refine congrArg (fun f => (aw G ad cA nc M).set (base + r.toNat) (ad (base + r.toNat), .inl (cA 0, len, .inl f))) (funext fun j => ?_)
  by_cases hj : j = i.toNat
  · subst hj
    have : i.toNat < len := by omega
    simp [upd, am_up, er, a_tn hi, this]
  · have : ¬ (j : Int) = i := by omega
    simp [upd, am_up, er, hj, this]
theorem aw_putO {M : AM} {k ci j : Nat} {fs : List Nat} {z : Int} (hG : aGW G nc) (hk : G.1 k = .inl (ci, fs)) (hf : fs[j]? = some 0 ∨ fs[j]? = some 1) : (aw G ad cA nc M).set k (ad k, .inr (ci, (aw_fv ad M k 0 fs).set j (.int (Int32.ofInt z)))) = aw G ad cA nc (am_up M k j z) := by
  rw [aw_set (q := k) (fun q' _ hq => aw_other hG (fun a b c x => by rw [hk] at x; cases x) hq), aw_eO hk]
  refine congrArg (fun f => (aw G ad cA nc M).set k (ad k, .inr (ci, f))) (List.ext_getElem? fun i => ?_)
  rw [List.getElem?_set, aw_fv_get, aw_fv_get, aw_fv_len]
  by_cases h : j = i
  · subst h
    have hl : j < fs.length := by rcases hf with hf | hf <;> exact (List.getElem?_eq_some_iff.mp hf).1
    rw [if_pos rfl, if_pos hl]
    rcases hf with hf | hf <;> simp [hf, am_up]
  · rw [if_neg h]
    have h2 : ¬ ((i : Nat) : Int) = (j : Int) := by omega
    split <;> simp [am_up, h2]
set_option maxHeartbeats 4000000 in
/-- instructions over the heap -/
theorem a_step_h {run : Nat → List AV → AM → (Option AV → AM → Prop) → Prop} {nx : Nat → AB → AL → List AV → AM → Prop} {pc : Nat} {ins : Jvm.ClassFile.Instr} {x : AX} {rs : AB} {ls : AL} {st : List AV} {M : AM}
    (hT : aTab G ad nc ns nm ncl cl cn yn bc tf AW AN zs sk XS)
    (hC : aCtx G ad cA nc ns D cl cn bc AW AN zs sk XS d y p s m args meth c) (hI : aInv G ad cA nc ns D cl y ls st M s H locs lsC)
    (hD : okD bc y pc ins) (hJ : okJ pc ins) (hO : okI G ns nm ncl cn yn tf AW AN zs sk y ins x) (hrs : okL G ns nm ncl cn yn bc tf AW AN zs sk y (pc + a_len ins) rs)
    (IH : aIH G ad cA nc ns nm ncl D cl cn yn bc tf AW AN zs sk d y Q p l e s m args below meth c nx)
    (hk : a_kh ins = true)
    (h : a_step G run nx (G.2.1 y).2.2.1 Q pc ins x rs ls st M) : aWl G ad cA nc ns D cl d Q p l e s m args below meth c H locs lsC pc (st.map (acv G ad)) := by
  obtain ⟨hx, hb, hr, hml, hown, hts, hlk, hX⟩ := id hC
  obtain ⟨hL, hst, hls, hM, hP, hS⟩ := id hI
  obtain ⟨hG, hadi, hcl, hKf, hMt, hgw, hAN, hblk, hXm, hXk⟩ := id hT
  have hDD := aD_of (G := G) (cA := cA) hadi M
  have hK := hX.1
  have t0 : (aTys cA)[0]? = some (cA 0, .int) := rfl
  have t1 : (aTys cA)[1]? = some (cA 1, .boolean) := rfl
  have t2 : (aTys cA)[2]? = some (cA 2, .char) := rfl
  have t3 : (aTys cA)[3]? = some (cA 3, .long) := rfl
  have t4 : (aTys cA)[4]? = some (cA 4, .array .int) := rfl
  unfold a_step at h
  cases ins
  case ldc i =>
    dsimp only at h
    split at h
    next z k => exact lv_ldc hx hb hown (hts _ hO.2) hD (IH _ _ _ _ _ h hrs _ _ _ ⟨hL, a_stc hO.1 hst, hls, hM, hP, hS⟩)
    next z k =>
      obtain ⟨o1, o2, o3⟩ := hO
      have hz := hX.2.2.2.2.1 k o1
      rw [o2, o3] at hz
      exact va_ldcS hx hb hown hz hD (IH _ _ _ _ _ h hrs _ _ _ ⟨hL, a_stc o1 hst, hls, hM, hP, hS⟩)
    next => exact h.elim
  case getfield i =>
    dsimp only at h
    split at h
    next q st =>
      split at h
      next ci fs eq =>
        replace h := a_cond h
        obtain ⟨h1, h⟩ := h
        have eci : ci = x.2.1 := Nat.eq_of_beq_eq_true h1
        subst eci
        obtain ⟨o1, o2, o3⟩ := hO
        obtain ⟨g1, g2, g3, g4⟩ := hcl _ o1
        have hq : q < nc := aw_in hG (fun cs x => by rw [eq] at x; cases x)
        have hv := aw_fv_get (ad := ad) (M := M) (q := q) fs 0 x.2.2
        unfold a_fld at h
        have he : (aw G ad cA nc M)[q]? = some (ad q, .inr (x.2.1, aw_fv ad M q 0 fs)) := by rw [aw_at hq, aw_eO eq]
        have nl : ∀ n, G.1 q ≠ kA 3 n := fun n x => by rw [eq] at x; cases x
        split at h
        next v ev =>
          split at ev
          next => cases ev
          next f0 =>
            cases ev
            rw [f0] at hv
            exact va_get hx hb hts g2 hown hK hP q he g1 x.2.2 o2 (hts _ o3) (fun _ z => z) hv hD (a_top (by rw [Nat.zero_add]) (IH _ _ _ _ _ h hrs _ _ _ ⟨hL, a_stc (aOKM_i hM nl _) (a_st1 hst).2, hls, hM, hP, hS⟩))
          next f0 =>
            cases ev
            rw [f0] at hv
            exact va_get hx hb hts g2 hown hK hP q he g1 x.2.2 o2 (hts _ o3) (fun _ z => z) hv hD (a_top (by rw [Nat.zero_add]) (IH _ _ _ _ _ h hrs _ _ _ ⟨hL, a_stc (aOKM_i hM nl _) (a_st1 hst).2, hls, hM, hP, hS⟩))
          next j f0 =>
            cases ev
            rw [f0] at hv
            exact va_get hx hb hts g2 hown hK hP q he g1 x.2.2 o2 (hts _ o3) (fun _ z => z) hv hD (IH _ _ _ _ _ h hrs _ _ _ ⟨hL, a_stc trivial (a_st1 hst).2, hls, hM, hP, hS⟩)
        next => exact h.elim
      next => exact h.elim
    next => exact h.elim
  case putfield i =>
    dsimp only at h
    split at h
    next z q st =>
      split at h
      next ci fs eq =>
        replace h := a_cond h
        obtain ⟨h1, h⟩ := h
        have eci : ci = x.2.1 := Nat.eq_of_beq_eq_true h1
        subst eci
        obtain ⟨⟨o1, o2, o3⟩, o4⟩ := hO
        obtain ⟨g1, g2, g3, g4⟩ := hcl _ o1
        obtain ⟨k1, k2, k3⟩ := hKf q _ fs eq
        have hq : q < nc := aw_in hG (fun cs x => by rw [eq] at x; cases x)
        have he : (aw G ad cA nc M)[q]? = some (ad q, .inr (x.2.1, aw_fv ad M q 0 fs)) := by rw [aw_at hq, aw_eO eq]
        have nl : ∀ n, G.1 q ≠ kA 3 n := fun n x => by rw [eq] at x; cases x
        have hz := (a_st1 hst).1
        split at h
        next f0 =>
          exact va_put hx hb hts g2 _ g3 g4 hown hK hP hDD hS q he g1 x.2.2 o2 (hts _ o3) (fun _ z => z) o4 (ty := .int) (by rw [g3 _ o2, (k3 x.2.2).1 f0]) rfl rfl (by rw [aw_fv_len, k2]; exact o2) hD (fun H1 locs1 a1 a2 a3 => IH _ _ _ _ _ h hrs _ _ _ ⟨hL, (a_st1 (a_st1 hst).2).2, hls, aOKM_upi hM nl hz, by rw [← aw_putO hG eq (Or.inl f0)]; exact a1, a3⟩)
        next f0 =>
          have hn : narrow .boolean (.int (Int32.ofInt z)) = .int (Int32.ofInt z) ∧ fits .boolean (.int (Int32.ofInt z)) = true := by rcases h.1 with h0 | h0 <;> rw [h0] <;> exact ⟨rfl, rfl⟩
          exact va_put hx hb hts g2 _ g3 g4 hown hK hP hDD hS q he g1 x.2.2 o2 (hts _ o3) (fun _ z => z) o4 (ty := .boolean) (by rw [g3 _ o2, (k3 x.2.2).2 f0]) hn.1 hn.2 (by rw [aw_fv_len, k2]; exact o2) hD (fun H1 locs1 a1 a2 a3 => IH _ _ _ _ _ h.2 hrs _ _ _ ⟨hL, (a_st1 (a_st1 hst).2).2, hls, aOKM_upi hM nl hz, by rw [← aw_putO hG eq (Or.inr f0)]; exact a1, a3⟩)
        next => exact h.elim
      next => exact h.elim
    next => exact h.elim
  case getstatic i =>
    obtain ⟨C, n, dd, o3, o4⟩ := hO
    exact va_gets hx hb (hX.2.2.1 _ o3) hS hown (hts _ o4) (fun _ z => z) hD (IH _ _ _ _ _ h hrs _ _ _ ⟨hL, a_stc trivial hst, hls, hM, hP, hS⟩)
  case arraylength =>
    dsimp only at h
    split at h
    next q st =>
      split at h
      next t n eq =>
        have hq : q < nc := aw_in hG (fun cs x => by rw [eq] at x; cases x)
        obtain ⟨w1, w2⟩ := hG.2.2.2.2 q t n eq
        have nn : aR32 (n : Int) := ⟨by omega, by omega⟩
        have en : Int32.ofNat n = Int32.ofInt (n : Int) := by first | rfl | simp
        rcases (show t = 3 ∨ t ≠ 3 by omega) with h3 | h3
        · subst h3
          exact va_alen hx hb hK hP q 3 (by rw [aw_at hq, aw_eL eq]) t3 en hD (IH _ _ _ _ _ h hrs _ _ _ ⟨hL, a_stc nn (a_st1 hst).2, hls, hM, hP, hS⟩)
        · have he : (aw G ad cA nc M)[q]? = some (ad q, .inl (cA t, n, .inl (fun j => Int32.ofInt (M q j)))) := by rw [aw_at hq, aw_eA eq h3]
          have k9 := IH _ _ _ _ _ h hrs H locs lsC ⟨hL, a_stc nn (a_st1 hst).2, hls, hM, hP, hS⟩
          rcases (show t = 0 ∨ t = 1 ∨ t = 2 by omega) with h0 | h0 | h0 <;> subst h0
          · exact va_alen hx hb hK hP q 0 he t0 en hD k9
          · exact va_alen hx hb hK hP q 1 he t1 en hD k9
          · exact va_alen hx hb hK hP q 2 he t2 en hD k9
      next => exact h.elim
    next => exact h.elim
  case iaload =>
    dsimp only at h
    split at h
    next i q st =>
      have hi := (a_st1 hst).1
      split at h
      next n eq =>
        have hq : q < nc := aw_in hG (fun cs x => by rw [eq] at x; cases x)
        have he : (aw G ad cA nc M)[q]? = some (ad q, .inl (cA 0, n, .inl (fun j => Int32.ofInt (M q j)))) := by rw [aw_at hq, aw_eA eq (by decide)]
        have nl : ∀ n, G.1 q ≠ kA 3 n := fun n x => by rw [eq] at x; cases x
        exact va_iald hx hb hK hP q 0 he t0 (a_ix h.1 hi) hD (a_top (by rw [a_ixn h.1 hi, a_tn h.1.1]) (IH _ _ _ _ _ h.2 hrs _ _ _ ⟨hL, a_stc (aOKM_i hM nl _) (a_st1 (a_st1 hst).2).2, hls, hM, hP, hS⟩))
      next cs eq =>
        have hz : aR32 (cs.getD i.toNat 0) := by
          have hl : i.toNat < cs.length := by have := h.1; omega
          rw [List.getD_eq_getElem?_getD, List.getElem?_eq_getElem hl]
          exact hG.2.2.2.1 q cs eq _ (List.getElem_mem hl)
        have hne : cs ≠ [] := fun x => by rw [x] at h; have := h.1; simp at this; omega
        exact va_ti hx hb (hX.2.1 q cs eq hne) hS (a_ix h.1 hi) (v := .int (Int32.ofInt (cs.getD i.toNat 0))) (by rw [a_ixn h.1 hi]) hD (IH _ _ _ _ _ h.2 hrs _ _ _ ⟨hL, a_stc hz (a_st1 (a_st1 hst).2).2, hls, hM, hP, hS⟩)
      next => exact h.elim
    next i q r st =>
      have hi := (a_st1 hst).1
      have hr := (a_st1 (a_st1 hst).2).1
      split at h
      next n len base eq =>
        obtain ⟨n', len', base', e1, e2, e3⟩ := hr
        rw [eq] at e1
        cases e1
        obtain ⟨hb2, hw⟩ := hG.2.1 q n len base eq r.toNat (by omega)
        have he : (aw G ad cA nc M)[base + r.toNat]? = some (ad (base + r.toNat), .inl (cA 0, len, .inl (fun j => if j < len then Int32.ofInt (M q ((r.toNat : Nat) * len + j)) else 0))) := by rw [aw_at hb2, aw_eW hw]
        have hrb : a_rb G q = base := by simp only [a_rb, eq]
        have nl : ∀ n, G.1 q ≠ kA 3 n := fun n x => by rw [eq] at x; cases x
        have k9 := va_iald hx hb hK hP (base + r.toNat) 0 he t0 (a_ix h.1 hi) hD (a_top (by rw [a_ixn h.1 hi, if_pos (by omega), a_tn h.1.1, a_tn e2]) (IH _ _ _ _ _ h.2 hrs _ _ _ ⟨hL, a_stc (aOKM_i hM nl _) (a_st1 (a_st1 hst).2).2, hls, hM, hP, hS⟩))
        simpa only [List.map_cons, acv, hrb] using k9
      next => exact h.elim
    next => exact h.elim
  case aaload =>
    dsimp only at h
    split at h
    next i q st =>
      have hi := (a_st1 hst).1
      split at h
      next n len base eq =>
        have hq : q < nc := aw_in hG (fun cs x => by rw [eq] at x; cases x)
        have he : (aw G ad cA nc M)[q]? = some (ad q, .inl (cA 4, n, .inr (.inr (.inr (.inr (fun i => if i < n then some (ad (base + i)) else none)))))) := by rw [aw_at hq, aw_eR eq]
        have hrb : a_rb G q = base := by simp only [a_rb, eq]
        have k9 := IH _ _ _ _ _ h.2 hrs H locs lsC ⟨hL, a_stc ⟨n, len, base, eq, h.1.1, h.1.2⟩ (a_st1 (a_st1 hst).2).2, hls, hM, hP, hS⟩
        refine a_aald hx hb hK hP q 4 he t4 (a_ix h.1 hi) hD ?_
        rw [a_ixn h.1 hi, if_pos (by have := h.1; omega)]
        simpa only [List.map_cons, acv, hrb, va_rf] using k9
      next => exact h.elim
    next => exact h.elim
  case baload =>
    dsimp only at h
    split at h
    next i q st =>
      have hi := (a_st1 hst).1
      split at h
      next n eq =>
        have hq : q < nc := aw_in hG (fun cs x => by rw [eq] at x; cases x)
        have he : (aw G ad cA nc M)[q]? = some (ad q, .inl (cA 1, n, .inl (fun j => Int32.ofInt (M q j)))) := by rw [aw_at hq, aw_eA eq (by decide)]
        have nl : ∀ n, G.1 q ≠ kA 3 n := fun n x => by rw [eq] at x; cases x
        exact va_zald hx hb hK hP q 1 he t1 (a_ix h.1 hi) hD (a_top (by rw [a_ixn h.1 hi, a_tn h.1.1]) (IH _ _ _ _ _ h.2 hrs _ _ _ ⟨hL, a_stc (aOKM_i hM nl _) (a_st1 (a_st1 hst).2).2, hls, hM, hP, hS⟩))
      next => exact h.elim
    next => exact h.elim
  case caload =>
    dsimp only at h
    split at h
    next i q st =>
      have hi := (a_st1 hst).1
      split at h
      next n eq =>
        have hq : q < nc := aw_in hG (fun cs x => by rw [eq] at x; cases x)
        have he : (aw G ad cA nc M)[q]? = some (ad q, .inl (cA 2, n, .inl (fun j => Int32.ofInt (M q j)))) := by rw [aw_at hq, aw_eA eq (by decide)]
        have nl : ∀ n, G.1 q ≠ kA 3 n := fun n x => by rw [eq] at x; cases x
        exact va_cald hx hb hK hP q 2 he t2 (a_ix h.1 hi) hD (a_top (by rw [a_ixn h.1 hi, a_tn h.1.1]) (IH _ _ _ _ _ h.2 hrs _ _ _ ⟨hL, a_stc (aOKM_i hM nl _) (a_st1 (a_st1 hst).2).2, hls, hM, hP, hS⟩))
      next => exact h.elim
    next => exact h.elim
  case laload =>
    dsimp only at h
    split at h
    next i q st =>
      have hi := (a_st1 hst).1
      split at h
      next n eq =>
        have hq : q < nc := aw_in hG (fun cs x => by rw [eq] at x; cases x)
        have he : (aw G ad cA nc M)[q]? = some (ad q, .inl (cA 3, n, .inr (.inl (fun j => Int64.ofInt (M q j))))) := by rw [aw_at hq, aw_eL eq]
        exact va_lald hx hb hK hP q 3 he t3 (a_ix h.1 hi) hD (a_topL (by rw [a_ixn h.1 hi, a_tn h.1.1]) (IH _ _ _ _ _ h.2 hrs _ _ _ ⟨hL, a_stc (aOKM_l hM eq _) (a_st1 (a_st1 hst).2).2, hls, hM, hP, hS⟩))
      next => exact h.elim
    next => exact h.elim
  case iastore =>
    dsimp only at h
    split at h
    next z i q st =>
      have hz := (a_st1 hst).1
      have hi := (a_st1 (a_st1 hst).2).1
      split at h
      next n eq =>
        have hq : q < nc := aw_in hG (fun cs x => by rw [eq] at x; cases x)
        have he : (aw G ad cA nc M)[q]? = some (ad q, .inl (cA 0, n, .inl (fun j => Int32.ofInt (M q j)))) := by rw [aw_at hq, aw_eA eq (by decide)]
        have nl : ∀ n, G.1 q ≠ kA 3 n := fun n x => by rw [eq] at x; cases x
        exact va_iast hx hb hK hP hDD hS q 0 he t0 (a_ix h.1 hi) hD (fun H1 locs1 a1 a2 a3 => IH _ _ _ _ _ h.2 hrs _ _ _ ⟨hL, (a_st1 (a_st1 (a_st1 hst).2).2).2, hls, aOKM_upi hM nl hz, by rw [← aw_putA hG eq (by decide) h.1.1, ← a_ixn h.1 hi]; exact a1, a3⟩)
      next => exact h.elim
    next z i q r st =>
      have hz := (a_st1 hst).1
      have hi := (a_st1 (a_st1 hst).2).1
      have hr := (a_st1 (a_st1 (a_st1 hst).2).2).1
      split at h
      next n len base eq =>
        obtain ⟨n', len', base', e1, e2, e3⟩ := hr
        rw [eq] at e1
        cases e1
        obtain ⟨hb2, hw⟩ := hG.2.1 q n len base eq r.toNat (by omega)
        have he : (aw G ad cA nc M)[base + r.toNat]? = some (ad (base + r.toNat), .inl (cA 0, len, .inl (fun j => if j < len then Int32.ofInt (M q ((r.toNat : Nat) * len + j)) else 0))) := by rw [aw_at hb2, aw_eW hw]
        have hrb : a_rb G q = base := by simp only [a_rb, eq]
        have nl : ∀ n, G.1 q ≠ kA 3 n := fun n x => by rw [eq] at x; cases x
        have k9 := va_iast (x := Int32.ofInt z) hx hb hK hP hDD hS (base + r.toNat) 0 he t0 (a_ix h.1 hi) hD (fun H1 locs1 a1 a2 a3 => IH _ _ _ _ _ h.2 hrs H1 locs1 lsC ⟨hL, (a_st1 (a_st1 (a_st1 hst).2).2).2, hls, aOKM_upi hM nl hz, by rw [← aw_putR hG eq e2 e3 h.1.1 h.1.2, ← a_ixn h.1 hi]; exact a1, a3⟩)
        simpa only [List.map_cons, acv, hrb] using k9
      next => exact h.elim
    next => exact h.elim
  case bastore =>
    dsimp only at h
    split at h
    next z i q st =>
      have hz := (a_st1 hst).1
      have hi := (a_st1 (a_st1 hst).2).1
      split at h
      next n eq =>
        have hq : q < nc := aw_in hG (fun cs x => by rw [eq] at x; cases x)
        have he : (aw G ad cA nc M)[q]? = some (ad q, .inl (cA 1, n, .inl (fun j => Int32.ofInt (M q j)))) := by rw [aw_at hq, aw_eA eq (by decide)]
        have nl : ∀ n, G.1 q ≠ kA 3 n := fun n x => by rw [eq] at x; cases x
        have hn : vp_nar .boolean (Int32.ofInt z) = Int32.ofInt z := by rcases h.2.1 with h0 | h0 <;> rw [h0] <;> rfl
        exact va_zast hx hb hK hP hDD hS q 1 he t1 (a_ix h.1 hi) hD (fun H1 locs1 a1 a2 a3 => IH _ _ _ _ _ h.2.2 hrs _ _ _ ⟨hL, (a_st1 (a_st1 (a_st1 hst).2).2).2, hls, aOKM_upi hM nl hz, by rw [hn] at a1; rw [← aw_putA hG eq (by decide) h.1.1, ← a_ixn h.1 hi]; exact a1, a3⟩)
      next => exact h.elim
    next => exact h.elim
  case castore =>
    dsimp only at h
    split at h
    next z i q st =>
      have hz := (a_st1 hst).1
      have hi := (a_st1 (a_st1 hst).2).1
      split at h
      next n eq =>
        have hq : q < nc := aw_in hG (fun cs x => by rw [eq] at x; cases x)
        have he : (aw G ad cA nc M)[q]? = some (ad q, .inl (cA 2, n, .inl (fun j => Int32.ofInt (M q j)))) := by rw [aw_at hq, aw_eA eq (by decide)]
        have nl : ∀ n, G.1 q ≠ kA 3 n := fun n x => by rw [eq] at x; cases x
        have hn : vp_nar .char (Int32.ofInt z) = Int32.ofInt z := (a_nch h.2.1).2.2
        exact va_cast hx hb hK hP hDD hS q 2 he t2 (a_ix h.1 hi) hD (fun H1 locs1 a1 a2 a3 => IH _ _ _ _ _ h.2.2 hrs _ _ _ ⟨hL, (a_st1 (a_st1 (a_st1 hst).2).2).2, hls, aOKM_upi hM nl hz, by rw [hn] at a1; rw [← aw_putA hG eq (by decide) h.1.1, ← a_ixn h.1 hi]; exact a1, a3⟩)
      next => exact h.elim
    next => exact h.elim
  case lastore =>
    dsimp only at h
    split at h
    next z i q st =>
      have hz := (a_st1 hst).1
      have hi := (a_st1 (a_st1 hst).2).1
      split at h
      next n eq =>
        have hq : q < nc := aw_in hG (fun cs x => by rw [eq] at x; cases x)
        have he : (aw G ad cA nc M)[q]? = some (ad q, .inl (cA 3, n, .inr (.inl (fun j => Int64.ofInt (M q j))))) := by rw [aw_at hq, aw_eL eq]
        exact va_last hx hb hK hP hDD hS q 3 he t3 (a_ix h.1 hi) hD (fun H1 locs1 a1 a2 a3 => IH _ _ _ _ _ h.2 hrs _ _ _ ⟨hL, (a_st1 (a_st1 (a_st1 hst).2).2).2, hls, aOKM_upl hM eq hz, by rw [← aw_putL hG eq h.1.1, ← a_ixn h.1 hi]; exact a1, a3⟩)
      next => exact h.elim
    next => exact h.elim
  case ireturn =>
    dsimp only at h
    split at h
    next z =>
      have hz := (a_st1 hst).1
      have hq : ∀ rk, (G.2.1 y).2.2.1 = rk → narrow ((aRty rk).getD .int) (.int (Int32.ofInt z)) = .int (Int32.ofInt z) ∧ aRty rk = some ((aRty rk).getD .int) ∧ Q (some (aI z)) M := by
        intro rk hrk
        rw [hrk] at h
        split at h
        · exact ⟨rfl, rfl, h⟩
        · refine ⟨?_, rfl, h.2⟩
          rcases h.1 with h0 | h0 <;> rw [h0] <;> rfl
        · exact ⟨(a_nch h.1).1, rfl, h.2⟩
        · exact h.elim
      obtain ⟨q1, q2, q3⟩ := hq _ rfl
      exact W.zret hx hb (hr.trans q2) q1 (fun t ht _ => ⟨⟨some (aI z), M, rfl, q3, fun v hv => (by cases hv; exact hz), hM, by rw [ht]; exact hP⟩, va_S.F hS ht⟩) hS.2.2 hD hlk
    next => exact h.elim
  case return_ =>
    dsimp only at h
    split at h
    next =>
      have hq : ∀ rk, (G.2.1 y).2.2.1 = rk → aRty rk = none ∧ Q none M := by
        intro rk hrk
        rw [hrk] at h
        split at h
        · exact ⟨rfl, h⟩
        · exact h.elim
      obtain ⟨q2, q3⟩ := hq _ rfl
      exact W.vret hx hb (hr.trans q2) (fun t ht _ => ⟨⟨none, M, rfl, q3, fun v hv => (by cases hv), hM, by rw [ht]; exact hP⟩, va_S.F hS ht⟩) hS.2.2 hD hlk
    next => exact h.elim
  all_goals first | exact (Bool.noConfusion hk) | exact h.elim
end SH
