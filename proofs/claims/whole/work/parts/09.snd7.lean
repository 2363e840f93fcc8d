/-! THE ABSTRACT MACHINE IS SOUND: calls, and the whole walk of a method. -/
theorem a_opt {G : AG} {ad : Nat → Nat} (r : Option AV) (st : List AV) : (r.map (acv G ad)).toList ++ st.map (acv G ad) = (r.toList ++ st).map (acv G ad) := by cases r <;> simp
theorem a_pabs {a : Int} (h : aR32 a) : Int32.ofInt (if a < 0 then a_neg a else a) = (if 0 ≤ Int32.ofInt a then Int32.ofInt a else 0 - Int32.ofInt a) := by
  have h0 : aR32 0 := ⟨by decide, by decide⟩
  have e : (0 : Int32) ≤ Int32.ofInt a ↔ 0 ≤ a := a32_le h0 h
  by_cases c : a < 0
  · rw [if_pos c, if_neg (fun z => by have := e.mp z; omega)]
    unfold a_neg
    rw [a32_o]
    simp
  · rw [if_neg c, if_pos (e.mpr (by omega))]
theorem a_pabsR {a : Int} (h : aR32 a) : aR32 (if a < 0 then a_neg a else a) := by
  split
  · exact aR32_of _
  · exact h
theorem a_pmax {a b : Int} (ha : aR32 a) (hb : aR32 b) : Int32.ofInt (if b ≤ a then a else b) = (if Int32.ofInt a < Int32.ofInt b then Int32.ofInt b else Int32.ofInt a) := by
  by_cases c : b ≤ a
  · rw [if_pos c, if_neg (fun z => by have := (a32_lt ha hb).mp z; omega)]
  · rw [if_neg c, if_pos ((a32_lt ha hb).mpr (by omega))]
theorem a_pmin {a b : Int} (ha : aR32 a) (hb : aR32 b) : Int32.ofInt (if a ≤ b then a else b) = (if Int32.ofInt b < Int32.ofInt a then Int32.ofInt b else Int32.ofInt a) := by
  by_cases c : a ≤ b
  · rw [if_pos c, if_neg (fun z => by have := (a32_lt hb ha).mp z; omega)]
  · rw [if_neg c, if_pos ((a32_lt hb ha).mpr (by omega))]
section SC
variable {G : AG} {ad : Nat → Nat} {cA : Nat → ClassId} {nc ns nm ncl : Nat} {D : va_G} {cl : List vw_C}
variable {cn : Nat → String} {yn : Nat → MethodName} {bc : Nat → ByteArray} {tf : Nat → u_T × Nat × (Nat → FieldType)} {AW AN : List Cond}
variable {zs : List ((String × String × String) × Nat)} {sk : Nat → String × Nat × String} {XS : State → Heap → Prop}
variable {p : Program} {l : Launch} {e : Env} {s : State} {m : MethodId} {args : Array Value} {below : List Frame} {meth : Method} {c : Code} {H : Heap} {locs : List Loc} {lsC : Array Slot} {d y : Nat} {Q : Option AV → AM → Prop}
/-- String.length() and charAt() of the string constants -/
def aStr (G : AG) (ad : Nat → Nat) (cA : Nat → ClassId) (nc ns : Nat) (D : va_G) (cl : List vw_C) (cn : Nat → String) (bc : Nat → ByteArray) (AW AN : List Cond) (zs : List ((String × String × String) × Nat)) (sk : Nat → String × Nat × String) (XS : State → Heap → Prop) (l : Launch) : Prop :=
  ∀ (y d : Nat) (Q : Option AV → AM → Prop) (p : Program) (e : Env) (s : State) (m : MethodId) (args : Array Value) (below : List Frame) (meth : Method) (c : Code), aCtx G ad cA nc ns D cl cn bc AW AN zs sk XS d y p s m args meth c →
    ∀ (pc i k : Nat) (rest : List Value) (H : Heap) (locs : List Loc) (lsC : Array Slot), decode (bc y) pc = .ok (.invokevirtual i, 3) → k < ns → (rest.map fun v => v.category).sum ≤ 8 → lsC.size = aMx G y → va_S (aF ad nc) s.heap H locs →
      (Cond.methodLink (aOw G cn y) i aLenN ∈ AW → (∀ locs1, va_S (aF ad nc) s.heap H locs1 → aWl G ad cA nc ns D cl d Q p l e s m args below meth c H locs1 lsC (pc + 3) (.int (Int32.ofInt (G.2.2.2 k).length) :: rest)) → aWl G ad cA nc ns D cl d Q p l e s m args below meth c H locs lsC pc (.ref (ad (5000 + k)) :: rest)) ∧
      (∀ z : Int, 0 ≤ z ∧ z < (G.2.2.2 k).length → Cond.methodLink (aOw G cn y) i aChrN ∈ AW → (∀ locs1, va_S (aF ad nc) s.heap H locs1 → aWl G ad cA nc ns D cl d Q p l e s m args below meth c H locs1 lsC (pc + 3) (.int (Int32.ofInt ((G.2.2.2 k).getD z.toNat 0)) :: rest)) → aWl G ad cA nc ns D cl d Q p l e s m args below meth c H locs lsC pc (.int (Int32.ofInt z) :: .ref (ad (5000 + k)) :: rest))
/-- behind a call -/
theorem a_call {K Qf : Option AV → AM → Prop} {pc : Nat} {a : Array Value} {st0 rest : List Value} (hr : va_Run p l e (aRoom d) s m args below meth c H locs 0 0 0 0 (F0 m pc lsC st0) rest (aQc G ad cA nc ns D cl K a) (aF ad nc)) (hS : va_S (aF ad nc) s.heap H locs)
    (kk : ∀ (r : Option AV) (M' : AM) (H1 : Heap) (locs1 : List Loc), K r M' → (∀ v, r = some v → aOKV G ns v) → aOKM G M' → va_P D cl (aw G ad cA nc M') H1 → va_S (aF ad nc) s.heap H1 locs1 → aWl G ad cA nc ns D cl d Qf p l e s m args below meth c H1 locs1 lsC (pc + 3) ((r.map (acv G ad)).toList ++ rest)) : aWl G ad cA nc ns D cl d Qf p l e s m args below meth c H locs lsC pc st0 := by
  intro T hT X
  obtain ⟨v, st₀, t, T', L, h0, X', hL, e1, e2, ⟨⟨r, M', hv, hp, hrk, hM, hP⟩, hz, hk⟩, st⟩ := hr T hT X
  cases hv
  rw [h0] at hz hk
  obtain ⟨t2, a1, b1⟩ := kk r M' T'.heap (locs ++ L) hp hrk hM (by rw [e1]; exact hP)
    ⟨Nat.le_trans hS.1 (by rw [e1]; exact hz), fun q h1 h2 => by rw [e1, hk q (Nat.lt_of_lt_of_le h1 hS.1) h2]; exact hS.2.1 q h1 h2, fun q hq => by
      rcases List.mem_append.mp hq with h | h
      · exact hS.2.2 q h
      · exact hL q h⟩ T' rfl X'
  exact ⟨t2, st t2 a1, b1⟩
/-- the facts of the entry hold wherever the tables are warmer and only the world has changed -/
theorem aX_warm (hT : aTab G ad nc ns nm ncl cl cn yn bc tf AW AN zs sk XS) (hX : aX G ad cA nc ns D cl AN zs sk XS s) (hS : va_S (aF ad nc) s.heap H locs) {U : State} (hU : U.heap = H) (hW : s.WarmedH U.vm) : aX G ad cA nc ns D cl AN zs sk XS U := by
  obtain ⟨hG, hadi, hcl, hKf, hMt, hgw, hAN, hblk, hXm, hXk⟩ := id hT
  obtain ⟨x1, x2, x3, x4, x5, x6⟩ := hX
  have hq : ∀ a : Nat, a < s.heap.size → ¬ aF ad nc a → U.heap[a]? = s.heap[a]? := fun a h1 h2 => by rw [hU]; exact hS.2.1 a h1 h2
  refine ⟨va_K.moved hW.alike x1, fun q cs h1 h2 => ((x2 q cs h1 h2).kept hq).moved hW.alike, fun z hz => ((x3 z hz).kept hq).moved hW.alike, fun w hw => ?_, fun k hk => (x5 k hk).warm hW, hXm hW.alike (hXk x6 hq)⟩
  obtain ⟨a, i, x, h, rfl⟩ := hAN w hw
  exact va_Nw.warmM hW (x4 _ hw)
theorem aPc_blind (hT : aTab G ad nc ns nm ncl cl cn yn bc tf AW AN zs sk XS) (as : List AV) (M : AM) : FrameBlind (aPc G ad cA nc ns D cl AN zs sk XS as M) := by
  intro a U g mk q
  obtain ⟨q1, q2, q3⟩ := q
  refine ⟨q1, q2, aX_warm hT q3 va_S.rf (U := U.calling g mk a) rfl ?_⟩
  exact State.WarmedH.refl U
theorem aWs_good (hT : aTab G ad nc ns nm ncl cl cn yn bc tf AW AN zs sk XS) {y : Nat} (hy : y < nm) : GoodIn AW (aWs G yn bc AW y) := by
  obtain ⟨hG, hadi, hcl, hKf, hMt, hgw, -⟩ := id hT
  intro w hw
  rcases List.mem_cons.mp hw with h | h
  · rw [h]; exact ⟨(hMt y hy).1, good_of_word (hgw _ (hMt y hy).1)⟩
  · exact ⟨h, good_of_word (hgw _ h)⟩
set_option maxHeartbeats 4000000 in
/-- calls -/
theorem a_step_c {run : Nat → List AV → AM → (Option AV → AM → Prop) → Prop} {nx : Nat → AB → AL → List AV → AM → Prop} {pc : Nat} {ins : Jvm.ClassFile.Instr} {x : AX} {rs : AB} {ls : AL} {st : List AV} {M : AM}
    (hT : aTab G ad nc ns nm ncl cl cn yn bc tf AW AN zs sk XS) (hSt : aStr G ad cA nc ns D cl cn bc AW AN zs sk XS l)
    (hsb : ∀ k, k < ns → aR32 (G.2.2.2 k).length ∧ ∀ z ∈ G.2.2.2 k, aR32 z)
    (hC : aCtx G ad cA nc ns D cl cn bc AW AN zs sk XS d y p s m args meth c) (hI : aInv G ad cA nc ns D cl y ls st M s H locs lsC)
    (hD : okD bc y pc ins) (hJ : okJ pc ins) (hO : okI G ns nm ncl cn yn tf AW AN zs sk y ins x) (hrs : okL G ns nm ncl cn yn bc tf AW AN zs sk y (pc + a_len ins) rs)
    (IH : aIH G ad cA nc ns nm ncl D cl cn yn bc tf AW AN zs sk d y Q p l e s m args below meth c nx)
    (RUN : ∀ y' as M' K, run y' as M' K → y' < nm → (∀ v ∈ as, aOKV G ns v) → aOKM G M' → ∃ d', d = d' + 1 ∧ Met l (yn y') (aWs G yn bc AW y') (aRoom d') (aPc G ad cA nc ns D cl AN zs sk XS as M') (aQc G ad cA nc ns D cl K) 0 0 (aF ad nc))
    (hk : a_kc ins = true)
    (h : a_step G run nx (G.2.1 y).2.2.1 Q pc ins x rs ls st M) : aWl G ad cA nc ns D cl d Q p l e s m args below meth c H locs lsC pc (st.map (acv G ad)) := by
  obtain ⟨hx, hb, hr, hml, hown, hts, hlk, hX⟩ := id hC
  obtain ⟨hL, hst, hls, hM, hP, hS⟩ := id hI
  obtain ⟨hG, hadi, hcl, hKf, hMt, hgw, hAN, hblk, hXm, hXk⟩ := id hT
  have hK := hX.1
  unfold a_step at h
  cases ins
  case invokestatic i =>
    dsimp only at h
    split at h
    next e0 =>
      replace h := a_cond h
      obtain ⟨h1, h⟩ := h
      rw [Bool.and_eq_true, Bool.and_eq_true] at h1
      obtain ⟨⟨c1, c2⟩, c3⟩ := h1
      have c1 : x.2.2 ≤ st.length := Nat.le_of_ble_eq_true c1
      have c2 : av_cats (st.drop x.2.2) ≤ 8 := Nat.le_of_ble_eq_true c2
      have c3 : (G.2.1 x.2.1).2.2.2 = 0 := Nat.eq_of_beq_eq_true c3
      simp only [okI, e0] at hO
      obtain ⟨o1, o2, o3⟩ := hO
      obtain ⟨m1, m2, m3, m4, m5, m6, m7, m8⟩ := hMt _ o1
      have hok1 : ∀ v ∈ (st.take x.2.2).reverse, aOKV G ns v := fun v hv => hst v (List.mem_of_mem_take (List.mem_reverse.mp hv))
      obtain ⟨d', hd, hMet⟩ := RUN _ _ _ _ h o1 hok1 hM
      subst hd
      have hgo := aWs_good (yn := yn) hT o1
      have hlen : ((st.take x.2.2).reverse.map (acv G ad)).length = x.2.2 := by simp; omega
      have hstk : st.map (acv G ad) = ((st.take x.2.2).reverse.map (acv G ad)).reverse ++ (st.drop x.2.2).map (acv G ad) := by
        rw [← List.map_reverse, List.reverse_reverse, ← List.map_append, List.take_append_drop]
      have hpre : PreS s H (aPc G ad cA nc ns D cl AN zs sk XS (st.take x.2.2).reverse M) ((st.take x.2.2).reverse.map (acv G ad)) := ⟨aPc_blind hT _ _, fun U hU hW => ⟨rfl, by rw [hU]; exact hP, aX_warm hT hX hS hU hW⟩⟩
      have hpl : ∀ sig, parseMethodDescriptor (yn x.2.1).desc = some sig → x.2.2 = sig.parameters.length := fun sig hh => by rw [hh] at o2; exact (Option.some.inj o2).symm
      have hW8 : 2 * (F0 m pc lsC (st.map (acv G ad))).monitorRoom + (((st.drop x.2.2).map (acv G ad)).map fun v => v.category).sum ≤ 8 := lv_room (by rw [acv_cats]; exact c2)
      have hfr : (aRoom d').frames + 1 ≤ (aRoom (d' + 1)).frames := by simp only [aRoom]; omega
      have hlo : 8 + (aMx G x.2.1 + 11) + (aRoom d').locals ≤ (aRoom (d' + 1)).locals := by simp only [aRoom]; omega
      have kk : ∀ (r : Option AV) (M' : AM) (H1 : Heap) (locs1 : List Loc), nx (pc + 3) rs ls (r.toList ++ st.drop x.2.2) M' → (∀ v, r = some v → aOKV G ns v) → aOKM G M' → va_P D cl (aw G ad cA nc M') H1 → va_S (aF ad nc) s.heap H1 locs1 → aWl G ad cA nc ns D cl (d' + 1) Q p l e s m args below meth c H1 locs1 lsC (pc + 3) ((r.map (acv G ad)).toList ++ (st.drop x.2.2).map (acv G ad)) := fun r M' H1 locs1 hn hr2 hM2 hP2 hS2 => by
        rw [a_opt]
        refine IH _ _ _ _ _ hn hrs _ _ _ ⟨hL, fun v hv => ?_, hls, hM2, hP2, hS2⟩
        rcases List.mem_append.mp hv with g | g
        · exact hr2 v (by cases r <;> simp at g; rw [g])
        · exact hst v (List.mem_of_mem_drop g)
      rcases o3 with o3 | ⟨host, o3⟩
      · exact a_call (va_runS (As := (st.take x.2.2).reverse.map (acv G ad)) ⟨hx, hb, hml, hown, hts⟩ hMet ⟨⟨rfl, rfl, hfr, hlo, pay_in hts hgo, List.mem_cons_self, hts _ m1, hts _ m2, m5, hpl, hts _ o3⟩, hts _ (m8 c3)⟩ hpre rfl hlen hL.1 hstk hW8 hD ⟨Nat.le_refl _, Nat.le_refl _⟩) hS kk
      · exact a_call (va_runSN (As := (st.take x.2.2).reverse.map (acv G ad)) ⟨hx, hb, hml, hown, hts⟩ hMet ⟨⟨⟨rfl, rfl, hfr, hlo, pay_in hts hgo, List.mem_cons_self⟩, hts _ m1, hts _ m2, m5, hpl, va_Nw.use rfl (hX.2.2.2.1 _ o3)⟩, hts _ (m8 c3), trivial⟩ hpre rfl hlen hL.1 hstk hW8 hD ⟨Nat.le_refl _, Nat.le_refl _⟩) hS kk
    next e0 =>
      split at h
      next a st =>
        replace h := a_cond h
        obtain ⟨c2, h⟩ := h
        have c2 : av_cats st ≤ 8 := Nat.le_of_ble_eq_true c2
        simp only [okI, e0] at hO
        have ha := (a_st1 hst).1
        refine va_mabs hx hb (by rw [hml]; exact hL.1.symm) hown (hts _ hO.1) (hts _ hO.2.1) (hts _ hO.2.2.1) (hts _ hO.2.2.2) (by simp only [aRoom]; omega) (by rw [acv_cats]; simp only [aRoom]; omega) (Nat.le_refl _) (Nat.le_refl _) hD (a_top (a_pabs ha) (IH _ _ _ _ _ h hrs _ _ _ ⟨hL, a_stc (a_pabsR ha) (a_st1 hst).2, hls, hM, hP, hS⟩))
      next => exact h.elim
    next e0 =>
      split at h
      next b a st =>
        replace h := a_cond h
        obtain ⟨c2, h⟩ := h
        have c2 : av_cats st ≤ 8 := Nat.le_of_ble_eq_true c2
        simp only [okI, e0] at hO
        have hb1 := (a_st1 hst).1
        have ha := (a_st1 (a_st1 hst).2).1
        refine va_mmax hx hb (by rw [hml]; exact hL.1.symm) hown (hts _ hO.1) (hts _ hO.2.1) (hts _ hO.2.2.1) (hts _ hO.2.2.2) (by simp only [aRoom]; omega) (by rw [acv_cats]; simp only [aRoom]; omega) (Nat.le_refl _) (Nat.le_refl _) hD (a_top (a_pmax ha hb1) (IH _ _ _ _ _ h hrs _ _ _ ⟨hL, a_stc (by show aR32 _; split <;> assumption) (a_st1 (a_st1 hst).2).2, hls, hM, hP, hS⟩))
      next => exact h.elim
    next e0 =>
      split at h
      next b a st =>
        replace h := a_cond h
        obtain ⟨c2, h⟩ := h
        have c2 : av_cats st ≤ 8 := Nat.le_of_ble_eq_true c2
        simp only [okI, e0] at hO
        have hb1 := (a_st1 hst).1
        have ha := (a_st1 (a_st1 hst).2).1
        refine va_mmin hx hb (by rw [hml]; exact hL.1.symm) hown (hts _ hO.1) (hts _ hO.2.1) (hts _ hO.2.2.1) (hts _ hO.2.2.2) (by simp only [aRoom]; omega) (by rw [acv_cats]; simp only [aRoom]; omega) (Nat.le_refl _) (Nat.le_refl _) hD (a_top (a_pmin ha hb1) (IH _ _ _ _ _ h hrs _ _ _ ⟨hL, a_stc (by show aR32 _; split <;> assumption) (a_st1 (a_st1 hst).2).2, hls, hM, hP, hS⟩))
      next => exact h.elim
    next => exact h.elim
  case invokevirtual i =>
    dsimp only at h
    split at h
    next e0 =>
      split at h
      next q eq =>
        split at h
        next ci fs eK =>
          replace h := a_cond h
          obtain ⟨h1, h⟩ := h
          rw [Bool.and_eq_true, Bool.and_eq_true] at h1
          obtain ⟨⟨c0, c2⟩, c3⟩ := h1
          have c0 : ci = (G.2.1 x.2.1).1 := Nat.eq_of_beq_eq_true c0
          have c2 : av_cats (st.drop (x.2.2 + 1)) ≤ 8 := Nat.le_of_ble_eq_true c2
          have c3 : (G.2.1 x.2.1).2.2.2 = 1 := Nat.eq_of_beq_eq_true c3
          have c1 : x.2.2 < st.length := (List.getElem?_eq_some_iff.mp eq).1
          simp only [okI, e0] at hO
          obtain ⟨o1, o2, o3⟩ := hO
          obtain ⟨m1, m2, m3, m4, m5, m6, m7, m8⟩ := hMt _ o1
          obtain ⟨n1, n2, n3⟩ := m7 c3
          obtain ⟨g1, g2, g3, g4⟩ := hcl _ n1
          have hq : q < nc := aw_in hG (fun cs x => by rw [eK] at x; cases x)
          have he : (aw G ad cA nc M)[q]? = some (ad q, .inr (ci, aw_fv ad M q 0 fs)) := by rw [aw_at hq, aw_eO eK]
          have hok1 : ∀ v ∈ (aP q) :: (st.take x.2.2).reverse, aOKV G ns v := a_stc trivial (fun v hv => hst v (List.mem_of_mem_take (List.mem_reverse.mp hv)))
          obtain ⟨d', hd, hMet⟩ := RUN _ _ _ _ h o1 hok1 hM
          subst hd
          have hgo := aWs_good (yn := yn) hT o1
          have hlen : ((st.take x.2.2).reverse.map (acv G ad)).length = x.2.2 := by simp; omega
          have hstk : st.map (acv G ad) = ((st.take x.2.2).reverse.map (acv G ad)).reverse ++ .ref (ad q) :: (st.drop (x.2.2 + 1)).map (acv G ad) := by
            have e9 : st = st.take x.2.2 ++ aP q :: st.drop (x.2.2 + 1) := by
              have e8 : st[x.2.2] = aP q := (List.getElem?_eq_some_iff.mp eq).2
              rw [← e8, List.getElem_cons_drop, List.take_append_drop]
            rw [← List.map_reverse, List.reverse_reverse]
            exact (congrArg (List.map (acv G ad)) e9).trans (by rw [List.map_append]; rfl)
          have hpre : PreV s H (aOw G cn x.2.1) (ad q) (aPc G ad cA nc ns D cl AN zs sk XS (aP q :: (st.take x.2.2).reverse) M) ((st.take x.2.2).reverse.map (acv G ad)) := ⟨aPc_blind hT _ _, va_recv hK hP g1 (by rw [← c0]; exact he), fun U hU hW => ⟨rfl, by rw [hU]; exact hP, aX_warm hT hX hS hU hW⟩⟩
          have hpl : ∀ sig, parseMethodDescriptor (yn x.2.1).desc = some sig → x.2.2 = sig.parameters.length := fun sig hh => by rw [hh] at o2; exact (Option.some.inj o2).symm
          have hW8 : 2 * (F0 m pc lsC (st.map (acv G ad))).monitorRoom + (((st.drop (x.2.2 + 1)).map (acv G ad)).map fun v => v.category).sum ≤ 8 := lv_room (by rw [acv_cats]; exact c2)
          have hfr : (aRoom d').frames + 1 ≤ (aRoom (d' + 1)).frames := by simp only [aRoom]; omega
          have hlo : 8 + (aMx G x.2.1 + 11) + (aRoom d').locals ≤ (aRoom (d' + 1)).locals := by simp only [aRoom]; omega
          have kk : ∀ (r : Option AV) (M' : AM) (H1 : Heap) (locs1 : List Loc), nx (pc + 3) rs ls (r.toList ++ st.drop (x.2.2 + 1)) M' → (∀ v, r = some v → aOKV G ns v) → aOKM G M' → va_P D cl (aw G ad cA nc M') H1 → va_S (aF ad nc) s.heap H1 locs1 → aWl G ad cA nc ns D cl (d' + 1) Q p l e s m args below meth c H1 locs1 lsC (pc + 3) ((r.map (acv G ad)).toList ++ (st.drop (x.2.2 + 1)).map (acv G ad)) := fun r M' H1 locs1 hn hr2 hM2 hP2 hS2 => by
            rw [a_opt]
            refine IH _ _ _ _ _ hn hrs _ _ _ ⟨hL, fun v hv => ?_, hls, hM2, hP2, hS2⟩
            rcases List.mem_append.mp hv with g | g
            · exact hr2 v (by cases r <;> simp at g; rw [g])
            · exact hst v (List.mem_of_mem_drop g)
          exact a_call (va_runV (As := (st.take x.2.2).reverse.map (acv G ad)) ⟨hx, hb, hml, hown, hts⟩ hMet ⟨⟨rfl, rfl, hfr, hlo, pay_in hts hgo, List.mem_cons_self, hts _ m1, hts _ m2, m5, hpl, hts _ o3⟩, hts _ n2, hts _ n3⟩ hpre rfl hlen hL.1 hstk hW8 hD ⟨Nat.le_refl _, Nat.le_refl _⟩) hS kk
        next => exact h.elim
      next => exact h.elim
    next e0 =>
      split at h
      next k st =>
        replace h := a_cond h
        obtain ⟨c2, h⟩ := h
        have c2 : av_cats st ≤ 8 := Nat.le_of_ble_eq_true c2
        simp only [okI, e0] at hO
        have hks : k < ns := (a_st1 hst).1
        refine (hSt y d Q p e s m args below meth c hC pc i k (st.map (acv G ad)) H locs lsC hD hks (by rw [acv_cats]; exact c2) hL.1 hS).1 hO (fun locs1 hS1 => ?_)
        exact IH _ _ _ _ _ h hrs _ _ _ ⟨hL, a_stc (hsb k hks).1 (a_st1 hst).2, hls, hM, hP, hS1⟩
      next => exact h.elim
    next e0 =>
      split at h
      next z k st =>
        replace h := a_cond h
        obtain ⟨c2, hz, h⟩ := h
        have c2 : av_cats st ≤ 8 := Nat.le_of_ble_eq_true c2
        simp only [okI, e0] at hO
        have hks : k < ns := (a_st1 (a_st1 hst).2).1
        have hzz : aR32 ((G.2.2.2 k).getD z.toNat 0) := by
          have hl : z.toNat < (G.2.2.2 k).length := by omega
          rw [List.getD_eq_getElem?_getD, List.getElem?_eq_getElem hl]
          exact (hsb k hks).2 _ (List.getElem_mem hl)
        refine (hSt y d Q p e s m args below meth c hC pc i k (st.map (acv G ad)) H locs lsC hD hks (by rw [acv_cats]; exact c2) hL.1 hS).2 z hz hO (fun locs1 hS1 => ?_)
        exact IH _ _ _ _ _ h hrs _ _ _ ⟨hL, a_stc hzz (a_st1 (a_st1 hst).2).2, hls, hM, hP, hS1⟩
      next => exact h.elim
    next => exact h.elim
  all_goals exact (Bool.noConfusion hk)
end SC
