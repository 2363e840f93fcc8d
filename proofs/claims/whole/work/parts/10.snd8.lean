section SM
variable {G : AG} {ad : Nat → Nat} {cA : Nat → ClassId} {nc ns nm ncl : Nat} {D : va_G} {cl : List vw_C}
variable {cn : Nat → String} {yn : Nat → MethodName} {bc : Nat → ByteArray} {tf : Nat → u_T × Nat × (Nat → FieldType)} {AW AN : List Cond}
variable {zs : List ((String × String × String) × Nat)} {sk : Nat → String × Nat × String} {XS : State → Heap → Prop} {l : Launch}
/-- one step, of any instruction -/
theorem a_step_ok {p : Program} {e : Env} {s : State} {m : MethodId} {args : Array Value} {below : List Frame} {meth : Method} {c : Code} {H : Heap} {locs : List Loc} {lsC : Array Slot} {d y : Nat} {Q : Option AV → AM → Prop} {run : Nat → List AV → AM → (Option AV → AM → Prop) → Prop} {nx : Nat → AB → AL → List AV → AM → Prop} {pc : Nat} {ins : Jvm.ClassFile.Instr} {x : AX} {rs : AB} {ls : AL} {st : List AV} {M : AM}
    (hT : aTab G ad nc ns nm ncl cl cn yn bc tf AW AN zs sk XS) (hSt : aStr G ad cA nc ns D cl cn bc AW AN zs sk XS l) (hsb : ∀ k, k < ns → aR32 (G.2.2.2 k).length ∧ ∀ z ∈ G.2.2.2 k, aR32 z)
    (hC : aCtx G ad cA nc ns D cl cn bc AW AN zs sk XS d y p s m args meth c) (hI : aInv G ad cA nc ns D cl y ls st M s H locs lsC)
    (hD : okD bc y pc ins) (hJ : okJ pc ins) (hO : okI G ns nm ncl cn yn tf AW AN zs sk y ins x) (hrs : okL G ns nm ncl cn yn bc tf AW AN zs sk y (pc + a_len ins) rs)
    (IH : aIH G ad cA nc ns nm ncl D cl cn yn bc tf AW AN zs sk d y Q p l e s m args below meth c nx)
    (RUN : ∀ y' as M' K, run y' as M' K → y' < nm → (∀ v ∈ as, aOKV G ns v) → aOKM G M' → ∃ d', d = d' + 1 ∧ Met l (yn y') (aWs G yn bc AW y') (aRoom d') (aPc G ad cA nc ns D cl AN zs sk XS as M') (aQc G ad cA nc ns D cl K) 0 0 (aF ad nc))
    (h : a_step G run nx (G.2.1 y).2.2.1 Q pc ins x rs ls st M) : aWl G ad cA nc ns D cl d Q p l e s m args below meth c H locs lsC pc (st.map (acv G ad)) := by
  by_cases h1 : a_kc ins = true
  · exact a_step_c hT hSt hsb hC hI hD hJ hO hrs IH RUN h1 h
  · by_cases h2 : a_kh ins = true
    · exact a_step_h hT hC hI hD hJ hO hrs IH h2 h
    · refine a_step_l hC hI hD hJ hO hrs IH ?_ h
      cases ins <;> first | rfl | exact absurd rfl h1 | exact absurd rfl h2
/-- the soundness of a place, as a predicate of it -/
def aSnd (G : AG) (ad : Nat → Nat) (cA : Nat → ClassId) (nc ns nm ncl : Nat) (D : va_G) (cl : List vw_C) (cn : Nat → String) (yn : Nat → MethodName) (bc : Nat → ByteArray) (tf : Nat → u_T × Nat × (Nat → FieldType)) (AW AN : List Cond) (zs : List ((String × String × String) × Nat)) (sk : Nat → String × Nat × String) (XS : State → Heap → Prop) (l : Launch) (d y pc : Nat) (rs : AB) (ls : AL) (st : List AV) (M : AM) (Q : Option AV → AM → Prop) : Prop :=
  y < nm → okL G ns nm ncl cn yn bc tf AW AN zs sk y pc rs → ∀ (p : Program) (e : Env) (s : State) (m : MethodId) (args : Array Value) (below : List Frame) (meth : Method) (c : Code), aCtx G ad cA nc ns D cl cn bc AW AN zs sk XS d y p s m args meth c → ∀ (H : Heap) (locs : List Loc) (lsC : Array Slot), aInv G ad cA nc ns D cl y ls st M s H locs lsC → aWl G ad cA nc ns D cl d Q p l e s m args below meth c H locs lsC pc (st.map (acv G ad))
/-- a method's contract out of it -/
theorem a_met_of (hT : aTab G ad nc ns nm ncl cl cn yn bc tf AW AN zs sk XS) {d y : Nat} {as : List AV} {M : AM} {Q : Option AV → AM → Prop}
    (h : aSnd G ad cA nc ns nm ncl D cl cn yn bc tf AW AN zs sk XS l d y 0 [] (al_args (aMx G y) as) [] M Q) (hy : y < nm) (hc : av_cats as ≤ aMx G y) (has : ∀ v ∈ as, aOKV G ns v) (hM : aOKM G M) :
    Met l (yn y) (aWs G yn bc AW y) (aRoom d) (aPc G ad cA nc ns D cl AN zs sk XS as M) (aQc G ad cA nc ns D cl Q) 0 0 (aF ad nc) := by
  obtain ⟨hG, hadi, hcl, hKf, hMt, hgw, hAN, hblk, hXm, hXk⟩ := id hT
  obtain ⟨m1, m2, m3, m4, m5, m6, m7, m8⟩ := hMt _ hy
  refine Met.ofW (cc := bc y) (maxL := aMx G y) (ret := aRty (G.2.1 y).2.2.1) m4 rfl ?_
  intro p e s m args below meth c s₁ B hml hv
  obtain ⟨rfl, hP, hX⟩ := hv
  have hts := atoms_spec (ws := aWs G yn bc AW y) B.pre
  have hown : s.vm.findClass (aOw G cn y) = some m.cls := by rw [← m3]; exact findClass_of_methodNamed B.named
  rw [lg_entry_eq]
  exact h hy trivial p e s m _ below meth c ⟨B.exec, B.bytes, B.returns, hml, hown, fun w hw => hts w (List.mem_cons_of_mem _ hw), B.notSynchronized, hX⟩ s.heap [] _ ⟨al_entry hc, fun v hv => (by cases hv), al_args_ok as _ has, hM, hP, va_S.rf⟩
theorem a_sound (hT : aTab G ad nc ns nm ncl cl cn yn bc tf AW AN zs sk XS) (hSt : aStr G ad cA nc ns D cl cn bc AW AN zs sk XS l) (hsb : ∀ k, k < ns → aR32 (G.2.2.2 k).length ∧ ∀ z ∈ G.2.2.2 k, aR32 z) {d y pc : Nat} {rs : AB} {ls : AL} {st : List AV} {M : AM} {Q : Option AV → AM → Prop} (h : aE G d y pc rs ls st M Q) : aSnd G ad cA nc ns nm ncl D cl cn yn bc tf AW AN zs sk XS l d y pc rs ls st M Q := by
  refine h (aSnd G ad cA nc ns nm ncl D cl cn yn bc tf AW AN zs sk XS l) ?_ ?_ ?_
  · intro d y pc rs ls st M Q Q' hQ h hy hok p e s m args below meth c hC H locs lsC hI T hT X
    obtain ⟨t, a, o, b1, b2, ⟨⟨r, M', g1, g2, g3⟩, g4⟩, b3⟩ := h hy hok p e s m args below meth c hC H locs lsC hI T hT X
    exact ⟨t, a, o, b1, b2, ⟨⟨r, M', g1, hQ _ _ g2, g3⟩, g4⟩, b3⟩
  · intro d y pc ls st M Q h hy hok
    exact h hy (hT.2.2.2.2.2.2.2.1 y pc hy)
  · intro d y pc ins x rs ls st M Q h hy hok p e s m args below meth c hC H locs lsC hI
    obtain ⟨hD, hJ, hO, hrs⟩ := hok
    refine a_step_ok hT hSt hsb hC hI hD hJ hO hrs (fun pc' rs' ls' st' M' h' hok' H' locs' lsC' hI' => h' hy hok' p e s m args below meth c hC H' locs' lsC' hI') ?_ h
    intro y' as M' K h' hy' has' hM'
    obtain ⟨d', e1, e2, h2⟩ := h'
    exact ⟨d', e1, a_met_of hT h2 hy' e2 has' hM'⟩
/-- the method y, begun with 'as' over the store M, ends with Q, its calls not more than h deep -/
def aC (G : AG) (h y : Nat) (as : List AV) (M : AM) (Q : Option AV → AM → Prop) : Prop := av_cats as ≤ aMx G y ∧ ∀ d, h ≤ d → aE G d y 0 [] (al_args (aMx G y) as) [] M Q
/-- WHAT THE ABSTRACT MACHINE RUNS, THE METHOD RUNS: its contract -/
theorem a_met (hT : aTab G ad nc ns nm ncl cl cn yn bc tf AW AN zs sk XS) (hSt : aStr G ad cA nc ns D cl cn bc AW AN zs sk XS l) (hsb : ∀ k, k < ns → aR32 (G.2.2.2 k).length ∧ ∀ z ∈ G.2.2.2 k, aR32 z)
    {h y : Nat} {as : List AV} {M : AM} {Q : Option AV → AM → Prop} (hE : aC G h y as M Q) (hy : y < nm) (has : ∀ v ∈ as, aOKV G ns v) (hM : aOKM G M) :
    Met l (yn y) (aWs G yn bc AW y) (aRoom h) (aPc G ad cA nc ns D cl AN zs sk XS as M) (aQc G ad cA nc ns D cl Q) 0 0 (aF ad nc) := a_met_of hT (a_sound hT hSt hsb (hE.2 h (Nat.le_refl _))) hy hE.1 has hM
end SM
