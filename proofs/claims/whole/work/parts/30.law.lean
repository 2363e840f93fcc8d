/-! THE LAW: a call out of its body -/
section LWC
variable {G : AG} {ad : Nat → Nat} {cA : Nat → ClassId} {nc ns nm : Nat} {D : va_G}
variable {cn : Nat → String} {yn : Nat → MethodName} {bc : Nat → ByteArray} {tf : Nat → u_T × Nat × (Nat → FieldType)} {AN : List Cond}
variable {zs : List ((String × String × String) × Nat)} {sk : Nat → String × Nat × String} {XS : State → Heap → Prop}
variable {p : Program} {l : Launch} {e : Env} {s : State} {m : MethodId} {args : Array Value} {below : List Frame} {meth : Method} {c : Code} {H : Heap} {locs : List Loc} {lsC : Array Slot} {cells slots : Nat} {QQ : State → Prop} {A : Nat → Prop}
theorem aX_any (hT : aTab G ad nc ns nm 13 wCl cn yn bc tf aAW AN zs sk XS) (hX : aX G ad cA nc ns D wCl AN zs sk XS s) (hk : ∀ a : Nat, a < s.heap.size → H[a]? = s.heap[a]?) {U : State} (hU : U.heap = H) (hW : s.WarmedH U.vm) : aX G ad cA nc ns D wCl AN zs sk XS U := by
  obtain ⟨hG, hadi, hcl, hKf, hMt, hgw, hAN, hblk, hXm, hXk⟩ := id hT
  obtain ⟨x1, x2, x3, x4, x5, x6⟩ := hX
  have hq : ∀ a : Nat, a < s.heap.size → ¬ aF ad nc a → U.heap[a]? = s.heap[a]? := fun a h1 _ => by rw [hU]; exact hk a h1
  refine ⟨va_K.moved hW.alike x1, fun q cs h1 h2 => ((x2 q cs h1 h2).kept hq).moved hW.alike, fun z hz => ((x3 z hz).kept hq).moved hW.alike, fun w hw => ?_, fun k hk => (x5 k hk).warm hW, hXm hW.alike (hXk x6 hq)⟩
  obtain ⟨a, i, x, h, rfl⟩ := hAN w hw
  exact va_Nw.warmM hW (x4 _ hw)
/-- a public method called by the law: it answers, its world is the next one, all else stays -/
theorem lw_call {M : AM} (hT : aTab G ad nc ns nm 13 wCl cn yn bc tf aAW AN zs sk XS) (hSt : aStr G ad cA nc ns D wCl cn bc aAW AN zs sk XS l) (hsb : ∀ k, k < ns → aR32 (G.2.2.2 k).length ∧ ∀ z ∈ G.2.2.2 k, aR32 z)
    (hx : p.tables.exec = Jvm.exec) (hb : c.code = code) (hml : c.maxLocals = 4) (hown : s.vm.findClass "DioceseBookLaw" = some m.cls) (hts : ∀ w ∈ lw_tbl, w.before args s = true) (hX : aX G ad cA nc ns D wCl AN zs sk XS s)
    (hP : va_P D wCl (aw G ad cA nc M) H) (hS : va_S A s.heap H locs) (hA : ∀ q, A q ↔ s.heap.size ≤ q) (hFA : ∀ q, q < nc → s.heap.size ≤ ad q) (hM : aOKM G M)
    {h y q j n ci : Nat} {fs : List Nat} {as : List AV} {K : Int → AM → Prop} (hE : aCi G h y (aP q :: as) M K) (hh : h ≤ 200) (hy : y < nm) (hq : G.1 q = kO ci fs) (hci : ci = (G.2.1 y).1) (hrv : (G.2.1 y).2.2.2 = 1)
    (hn : as.length = n) (har : (parseMethodDescriptor (yn y).desc).map (fun d => d.parameters.length) = some n) (hlk : Cond.methodLink "DioceseBookLaw" j (yn y) ∈ lw_tbl) (has : ∀ v ∈ as, aOKV G ns v)
    {pc : Nat} {st0 rest : List Value} (hst : st0 = (as.map (acv G ad)).reverse ++ .ref (ad q) :: rest) (hls : lsC.size = 4) (hcat : (rest.map fun v => v.category).sum ≤ 8) (hdg : decode code pc = .ok (.invokevirtual j, 3)) (hcs : cells ≤ 600000 ∧ slots ≤ 7302250)
    (kk : ∀ (z : Int) (M' : AM) (H1 : Heap) (locs1 : List Loc), K z M' → aR32 z → aOKM G M' → va_P D wCl (aw G ad cA nc M') H1 → (∀ a : Nat, a < H.size → ¬ aF ad nc a → H1[a]? = H[a]?) → va_S A s.heap H1 locs1 → W p l e room_1 s m args below meth c H1 locs1 cells slots QQ (F0 m (pc + 3) lsC (.int (Int32.ofInt z) :: rest))) :
    W p l e room_1 s m args below meth c H locs cells slots QQ (F0 m pc lsC st0) := by
  obtain ⟨hG, hadi, hcl, hKf, hMt, hgw, hAN, hblk, hXm, hXk⟩ := id hT
  obtain ⟨m1, m2, m3, m4, m5, m6, m7, m8⟩ := hMt _ hy
  obtain ⟨n1, n2, n3⟩ := m7 hrv
  have hMet := a_met hT hSt hsb hE hy (a_stc trivial has) hM
  have hgo : GoodIn lw_tbl (aWs G yn bc aAW y) := fun w hw => by
    obtain ⟨g1, g2⟩ := aWs_good (yn := yn) hT hy w hw
    exact ⟨aAW_tbl w g1, g2⟩
  have hkeep : ∀ a : Nat, a < s.heap.size → H[a]? = s.heap[a]? := fun a h1 => hS.2.1 a h1 (fun h2 => by have := (hA a).mp h2; omega)
  have hqn : q < nc := aw_in hG (fun cs x => by rw [hq] at x; cases x)
  have he : (aw G ad cA nc M)[q]? = some (ad q, .inr (ci, aw_fv ad M q 0 fs)) := by rw [aw_at hqn, aw_eO hq]
  have hbl : FrameBlind (aPc G ad cA nc ns D wCl AN zs sk XS (aP q :: as) M) := by
    intro a U g mk q'
    obtain ⟨q1, q2, q3⟩ := q'
    exact ⟨q1, q2, aX_any hT q3 (fun _ _ => rfl) (U := U.calling g mk a) rfl (State.WarmedH.refl U)⟩
  have hpre : PreV s H (aOw G cn y) (ad q) (aPc G ad cA nc ns D wCl AN zs sk XS (aP q :: as) M) (as.map (acv G ad)) :=
    ⟨hbl, va_recv hX.1 hP ((hcl _ n1).1) (by rw [← hci]; exact he), fun U hU hW => ⟨rfl, by rw [hU]; exact hP, aX_any hT hX hkeep hU hW⟩⟩
  have hpl : ∀ sig, parseMethodDescriptor (yn y).desc = some sig → n = sig.parameters.length := fun sig g => by rw [g] at har; exact (Option.some.inj har).symm
  have hfr : (aRoom h).frames + 1 ≤ room_1.frames := by simp only [aRoom, room_1]; omega
  have hlo : 8 + (aMx G y + 11) + (aRoom h).locals ≤ room_1.locals := by simp only [aRoom, room_1]; omega
  have hrun := va_runV (e := e) (m := m) (below := below) (meth := meth) (locs := locs) (cells := cells) (slots := slots) (As := as.map (acv G ad)) (rest := rest) (g := F0 m pc lsC st0) ⟨hx, hb, hml, hown, hts⟩ hMet ⟨⟨rfl, rfl, hfr, hlo, pay_in hts hgo, List.mem_cons_self, hts _ (aAW_tbl _ m1), hts _ (aAW_tbl _ m2), m5, hpl, hts _ hlk⟩, hts _ (aAW_tbl _ n2), hts _ (aAW_tbl _ n3)⟩ hpre rfl (by rw [List.length_map]; exact hn) hls hst (lv_room hcat) hdg ⟨hcs.1, hcs.2⟩
  intro T hT0 X
  obtain ⟨v, st₀, t, T', L, h0, X', hL, e1, e2, ⟨⟨r, M', hv, ⟨z, hr, hp⟩, hrk, hM', hP'⟩, hz, hk⟩, st⟩ := hrun T hT0 X
  subst hr
  cases hv
  rw [h0] at hz hk
  obtain ⟨t2, a1, b1⟩ := kk z M' T'.heap (locs ++ L) hp (hrk _ rfl) hM' (by rw [e1]; exact hP') (fun a h1 h2 => by rw [e1]; exact hk a h1 h2)
    ⟨Nat.le_trans hS.1 (by rw [e1]; exact hz), fun a h1 h2 => by rw [e1, hk a (Nat.lt_of_lt_of_le h1 hS.1) (fun ⟨i, g1, g2⟩ => by have := hFA i g1; omega)]; exact hS.2.1 a h1 h2, fun a ha => by
      rcases List.mem_append.mp ha with h | h
      · exact hS.2.2 a h
      · obtain ⟨i, g1, g2⟩ := hL a h
        exact (hA _).mpr (by rw [g2]; exact hFA i g1)⟩ T' rfl X'
  exact ⟨t2, st t2 a1, b1⟩
end LWC
