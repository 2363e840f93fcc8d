/-! THE READER in the first system: tests -/
abbrev wRd : Nat → Int → Bool := wr [32] [(24, 9), (35, 3), (35, 4), (35, 5)]
def St1 (X : List Int) (cn : Int) (M0 : AM) (M : AM) (f : Int) (p : Int) (s : List Int) (cs : List Int) : Prop :=
  (Tx1 X M) ∧
  (fr wRd M0 M) ∧
  (Sfx X s (M 35 5)) ∧
  (M 35 4 = f) ∧
  (M 35 3 = p) ∧
  (M 24 0 = cn ∧ 0 ≤ cn ∧ cn < 10) ∧
  (M 24 9 = 200 * cn + cs.length) ∧
  (cs.length ≤ 200) ∧
  (∀ i, i < 200 * cn → M 32 i = M0 32 i) ∧
  (∀ (k : Nat) (hk : k < cs.length), M 32 (200 * cn + k) = cs[k])
theorem St1_tx {X : List Int} {cn : Int} {M0 : AM} {M : AM} {f : Int} {p : Int} {s : List Int} {cs : List Int} (h : St1 X  cn  M0  M  f  p  s  cs ) : Tx1 X M := h.1
theorem St1_fr {X : List Int} {cn : Int} {M0 : AM} {M : AM} {f : Int} {p : Int} {s : List Int} {cs : List Int} (h : St1 X  cn  M0  M  f  p  s  cs ) : fr wRd M0 M := h.2.1
theorem St1_at {X : List Int} {cn : Int} {M0 : AM} {M : AM} {f : Int} {p : Int} {s : List Int} {cs : List Int} (h : St1 X  cn  M0  M  f  p  s  cs ) : Sfx X s (M 35 5) := h.2.2.1
theorem St1_f {X : List Int} {cn : Int} {M0 : AM} {M : AM} {f : Int} {p : Int} {s : List Int} {cs : List Int} (h : St1 X  cn  M0  M  f  p  s  cs ) : M 35 4 = f := h.2.2.2.1
theorem St1_p {X : List Int} {cn : Int} {M0 : AM} {M : AM} {f : Int} {p : Int} {s : List Int} {cs : List Int} (h : St1 X  cn  M0  M  f  p  s  cs ) : M 35 3 = p := h.2.2.2.2.1
theorem St1_cn {X : List Int} {cn : Int} {M0 : AM} {M : AM} {f : Int} {p : Int} {s : List Int} {cs : List Int} (h : St1 X  cn  M0  M  f  p  s  cs ) : M 24 0 = cn ∧ 0 ≤ cn ∧ cn < 10 := h.2.2.2.2.2.1
theorem St1_n {X : List Int} {cn : Int} {M0 : AM} {M : AM} {f : Int} {p : Int} {s : List Int} {cs : List Int} (h : St1 X  cn  M0  M  f  p  s  cs ) : M 24 9 = 200 * cn + cs.length := h.2.2.2.2.2.2.1
theorem St1_le {X : List Int} {cn : Int} {M0 : AM} {M : AM} {f : Int} {p : Int} {s : List Int} {cs : List Int} (h : St1 X  cn  M0  M  f  p  s  cs ) : cs.length ≤ 200 := h.2.2.2.2.2.2.2.1
theorem St1_lo {X : List Int} {cn : Int} {M0 : AM} {M : AM} {f : Int} {p : Int} {s : List Int} {cs : List Int} (h : St1 X  cn  M0  M  f  p  s  cs ) : ∀ i, i < 200 * cn → M 32 i = M0 32 i := h.2.2.2.2.2.2.2.2.1
theorem St1_hi {X : List Int} {cn : Int} {M0 : AM} {M : AM} {f : Int} {p : Int} {s : List Int} {cs : List Int} (h : St1 X  cn  M0  M  f  p  s  cs ) : ∀ (k : Nat) (hk : k < cs.length), M 32 (200 * cn + k) = cs[k] := h.2.2.2.2.2.2.2.2.2
theorem St1_go {X s s' cs : List Int} {cn f p a : Int} {M0 M : AM} (h : St1 X cn M0 M f p s cs) (ha : Sfx X s' a) : St1 X cn M0 (am_up M 35 5 a) f p s' cs := by
  refine ⟨Tx1_up (St1_tx h), fr_up (St1_fr h) rfl, by rw [x_us]; exact ha, (x_uf (by decide)).trans (St1_f h), (x_uf (by decide)).trans (St1_p h), ?_, ?_, St1_le h, fun i hi => ?_, fun k hk => ?_⟩
  · rw [x_uc (by decide)]; exact St1_cn h
  · rw [x_uc (by decide)]; exact St1_n h
  · rw [x_uc (by decide)]; exact St1_lo h i hi
  · rw [x_uc (by decide)]; exact St1_hi h k hk
theorem St1_fl {X s cs : List Int} {cn f p f' p' : Int} {M0 M : AM} (h : St1 X cn M0 M f p s cs) : St1 X cn M0 (am_up (am_up M 35 4 f') 35 3 p') f' p' s cs := by
  have e5 : (am_up (am_up M 35 4 f') 35 3 p') 35 5 = M 35 5 := by rw [x_uf (by decide), x_uf (by decide)]
  have e4 : (am_up (am_up M 35 4 f') 35 3 p') 35 4 = f' := by rw [x_uf (by decide), x_us]
  have e2 : (am_up (am_up M 35 4 f') 35 3 p') 35 2 = M 35 2 := by rw [x_uf (by decide), x_uf (by decide)]
  refine ⟨⟨e2.trans (St1_tx h).1, by rw [x_uk (by decide), x_uk (by decide)]; exact (St1_tx h).2.1, (St1_tx h).2.2⟩, fr_up (fr_up (St1_fr h) rfl) rfl, by rw [e5]; exact St1_at h, e4, x_us, ?_, ?_, St1_le h, fun i hi => ?_, fun k hk => ?_⟩
  · rw [x_uc (by decide), x_uc (by decide)]; exact St1_cn h
  · rw [x_uc (by decide), x_uc (by decide)]; exact St1_n h
  · rw [x_uc (by decide), x_uc (by decide)]; exact St1_lo h i hi
  · rw [x_uc (by decide), x_uc (by decide)]; exact St1_hi h k hk
theorem k1_add {X s cs : List Int} {cn f p v : Int} {M0 M : AM} {d : Nat} {Q : AM → Prop} (hd : 4 < d) (h : St1 X cn M0 M f p s cs) (K : ∀ M' cs', (cs.length < 200 → cs' = cs ++ [v]) → St1 X cn M0 M' f p s cs' → Q M') : aKv s1_G d 2 [aP 24, aI v] M Q := by
  have hle := St1_le h
  obtain ⟨e0, c0, c1⟩ := St1_cn h
  have hn := St1_n h
  have hc : aCv s1_G 4 2 [aP 24, aI v] M Q := by
    refine ⟨Nat.le_of_ble_eq_true rfl, fun d hd => ?_⟩
    refine s1_Canons_addCode_0 (by omega) ?_
    simp (decide := true) only [x_uc]
    rw [e0, hn, x_add (a := cn) (by omega), x_mul (by omega), x_add (a := 200 * cn + (cs.length : Int)) (by omega)]
    refine ⟨fun g => ⟨by trivial, K M cs (fun q => by omega) h⟩, fun g => ⟨fun g2 => ⟨by trivial, K M cs (fun q => by omega) h⟩, fun g2 => ⟨by omega, by trivial, K _ (cs ++ [v]) (fun _ => rfl) ?_⟩⟩⟩
    refine ⟨⟨?_, ?_, (St1_tx h).2.2⟩, fr_up (fr_up (St1_fr h) rfl) rfl, ?_, ?_, ?_, ?_, ?_, ?_, fun i hi => ?_, fun k hk => ?_⟩
    · simp (decide := true) only [x_uc]; exact (St1_tx h).1
    · simp (decide := true) only [x_uk]; exact (St1_tx h).2.1
    · simp (decide := true) only [x_uc]; exact St1_at h
    · simp (decide := true) only [x_uc]; exact St1_f h
    · simp (decide := true) only [x_uc]; exact St1_p h
    · rw [x_uf (by decide), x_uc (by decide)]; exact St1_cn h
    · rw [x_us, List.length_append]; simp; omega
    · rw [List.length_append]; simp; omega
    · rw [x_uc (by decide), x_uu, up1_n (by omega)]; exact St1_lo h i hi
    · rw [x_uc (by decide), x_uu]
      by_cases e : k = cs.length
      · subst e
        rw [up1_s]
        simp
      · have hk2 : k < cs.length := by rw [List.length_append] at hk; simp at hk; omega
        rw [up1_n (by omega), List.getElem_append_left hk2]
        exact St1_hi h k hk2
  exact aKv_of hc hd (fun M' q => q)
theorem k1_fail {X s cs : List Int} {cn f p f' p' : Int} {M0 M : AM} {d : Nat} {Q : AM → Prop} (hd : 4 < d) (h : St1 X cn M0 M f p s cs) (K : ∀ M', St1 X cn M0 M' (if f = 0 then f' else f) (if f = 0 then p' else p) s cs → Q M') : aKv s1_G d 40 [aP 35, aI f', aI p'] M Q := by
  refine aKv_of s1_Reader_fail hd (fun M1 q => ?_)
  rw [St1_f h] at q
  rw [q]
  refine K _ ?_
  by_cases e : f = 0
  · rw [if_pos e, if_pos e, if_pos e]
    exact St1_fl h
  · rw [if_neg e, if_neg e, if_neg e]
    exact h
/-- a fault found -/
def Fb (X : List Int) (cn : Int) (M0 M : AM) (f p : Int) : Prop := f ≠ 0 ∧ ∃ s cs, St1 X cn M0 M f p s cs
theorem kb_add {X : List Int} {cn f p v : Int} {M0 M : AM} {d : Nat} {Q : AM → Prop} (hd : 4 < d) (h : Fb X cn M0 M f p) (K : ∀ M', Fb X cn M0 M' f p → Q M') : aKv s1_G d 2 [aP 24, aI v] M Q := by
  obtain ⟨h0, s, cs, h⟩ := h
  exact k1_add hd h (fun M' cs' _ h' => K M' ⟨h0, s, cs', h'⟩)
theorem kb_tw {X : List Int} {cn f p : Int} {M0 M : AM} {d k : Nat} {Q : Int → AM → Prop} (hd : 5 < d) (h : Fb X cn M0 M f p) (K : ∀ M' b, Fb X cn M0 M' f p → Q (bI b) M') : aKi s1_G d 49 [aP 35, aS k] M Q := by
  obtain ⟨h0, s, cs, h⟩ := h
  exact k1_tw (s1_st k) rfl hd (St1_tx h) (St1_at h) (fun _ a ha => K _ true ⟨h0, _, cs, St1_go h ha⟩) (fun _ a ha => K _ false ⟨h0, _, cs, St1_go h ha⟩)
theorem s1_Reader_expect {X s cs : List Int} {cn f p c : Int} {M0 M : AM} (h : St1 X cn M0 M f p s cs) : aCv s1_G 6 47 [aP 35, aI c] M (fun M' => ((tSg c s).1 = true ∧ St1 X cn M0 M' f p (tSg c s).2 cs) ∨ ((tSg c s).1 = false ∧ St1 X cn M0 M' (if f = 0 then 1 else f) (if f = 0 then X.length - (sk s).length else p) (sk s) cs)) := by
  refine ⟨Nat.le_of_ble_eq_true rfl, fun d hd => ?_⟩
  refine s1_Reader_expect_0 (by omega) ?_
  refine aKi_of (s1_Reader_takeSign (St1_tx h) (St1_at h)) (by omega) (fun z M1 q => ?_)
  obtain ⟨rfl, a, rfl, ha⟩ := q
  have h1 := St1_go h ha
  cases e : (tSg c s).1
  · rw [(tSg_f e).1] at h1 ha
    refine ⟨fun g => absurd rfl g, fun _ => ?_⟩
    rw [x_us]
    have hpl := Sfx_pl ha
    exact k1_fail (by omega) h1 (fun M' h' => ⟨rfl, Or.inr ⟨rfl, by rw [hpl] at h'; exact h'⟩⟩)
  · exact ⟨fun _ => ⟨rfl, Or.inl ⟨rfl, h1⟩⟩, fun g => absurd g (by decide)⟩
theorem kb_exp {X : List Int} {cn f p c : Int} {M0 M : AM} {d : Nat} {Q : AM → Prop} (hd : 6 < d) (h : Fb X cn M0 M f p) (K : ∀ M', Fb X cn M0 M' f p → Q M') : aKv s1_G d 47 [aP 35, aI c] M Q := by
  obtain ⟨h0, s, cs, h⟩ := h
  refine aKv_of (s1_Reader_expect h) hd (fun M' q => ?_)
  rw [if_neg h0, if_neg h0] at q
  rcases q with q | q
  · exact K M' ⟨h0, _, cs, q.2⟩
  · exact K M' ⟨h0, _, cs, q.2⟩
theorem s1_Reader_readComparison {X s C : List Int} {cn : Int} {M0 M : AM} (h : St1 X cn M0 M 0 (-1) s C) (hC : C.length < 200) : aCv s1_G 7 45 [aP 35] M (fun M' => ((cmpT s).1 = 0 ∧ St1 X cn M0 M' 0 (-1) (cmpT s).2.2.1 (C ++ [(cmpT s).2.2.2])) ∨ ((cmpT s).1 ≠ 0 ∧ Fb X cn M0 M' (cmpT s).1 (X.length - (cmpT s).2.1.length))) := by
  refine ⟨Nat.le_of_ble_eq_true rfl, fun d hd => ?_⟩
  refine s1_Reader_readComparison_0 (by omega) ?_
  have b1 := fcZ_rg (wd (sk s))
  unfold cmpT
  refine aKi_of (s1_Reader_factWord (St1_tx h) (St1_at h)) (by omega) (fun z M1 q => ?_)
  obtain ⟨rfl, a, rfl, ha⟩ := q
  have h1 := St1_go h ha
  by_cases e1 : fcZ (wd (sk s)) = -1
  · rw [if_pos e1] at ha h1
    have hpl := Sfx_pl ha
    rw [if_pos e1, x_us]
    dsimp only
    exact ⟨fun g => absurd e1 g, fun _ => k1_fail (by omega) h1 (fun M' h' => ⟨rfl, Or.inr ⟨by decide, by decide, _, _, by rw [if_pos rfl, if_pos rfl, hpl] at h'; exact h'⟩⟩)⟩
  rw [if_neg e1] at ha h1 ⊢
  refine ⟨fun _ => ?_, fun g => absurd g e1⟩
  have b2 := sgZ_rg (sk (we (sk s)))
  refine aKi_of (s1_Reader_compareSign (s := we (sk s)) (St1_tx h1) (St1_at h1)) (by omega) (fun z M2 q => ?_)
  obtain ⟨rfl, a2, rfl, ha2⟩ := q
  have h2 := St1_go h1 ha2
  unfold sgR at ha2 h2
  by_cases e2 : sgZ (sk (we (sk s))) = -1
  · rw [if_pos e2] at ha2 h2
    have hpl := Sfx_pl ha2
    rw [if_pos e2, x_us]
    dsimp only
    exact ⟨fun g => absurd e2 g, fun _ => k1_fail (by omega) h2 (fun M' h' => ⟨rfl, Or.inr ⟨by decide, by decide, _, _, by rw [if_pos rfl, if_pos rfl, hpl] at h'; exact h'⟩⟩)⟩
  rw [if_neg e2] at ha2 h2 ⊢
  refine ⟨fun _ => ?_, fun g => absurd g e2⟩
  have b3 := numV_4 (s := sk (sk (we (sk s))).tail)
  refine aKi_of (s1_Reader_readNumber (s := (sk (we (sk s))).tail) (most := 9999) (St1_tx h2) (St1_at h2) (St1_f h2)) (by omega) (fun z M3 q => ?_)
  obtain ⟨rfl, a3, ha3, rfl⟩ := q
  have h3 := St1_go h2 ha3
  rw [x_mul (a := fcZ (wd (sk s))) (by omega), x_add (a := fcZ (wd (sk s)) * 3) (by omega), x_mul (by omega), x_add (by omega)]
  dsimp only
  unfold flt1
  by_cases e3 : nmF 9999 (dgs (sk (sk (we (sk s))).tail)) = 0
  · rw [if_pos e3]
    exact k1_add (by omega) h3 (fun M' cs' g h' => ⟨rfl, Or.inl ⟨e3, by rw [g hC] at h'; exact h'⟩⟩)
  · rw [if_neg e3]
    exact k1_add (by omega) (St1_fl h3) (fun M' cs' g h' => ⟨rfl, Or.inr ⟨e3, e3, _, _, h'⟩⟩)
-- behind an operand
def A2 (d : Nat) (o x3 x4 cnt : Int) (Q : Option AV → AM → Prop) (M : AM) : Prop := aKi s1_G d 49 [aP 35, aS 2] M (fun z M5 => (z ≠ 0 → aE s1_G d 44 10 [] [some (aP 35), some (aI o), some (aI z), some (aI x3), some (aI x4), some (aI (a_add cnt 1)), none] [] M5 Q) ∧ (z = 0 → (x3 = 0 → aKi s1_G d 49 [aP 35, aS 3] M5 (fun z8 M7 => aE s1_G d 44 10 [] [some (aP 35), some (aI o), some (aI z), some (aI z8), some (aI z8), some (aI (a_add cnt 1)), none] [] M7 Q)) ∧ (x3 ≠ 0 → aKv s1_G d 2 [aP 24, aI (-2)] M5 (fun M9 => aKi s1_G d 49 [aP 35, aS 3] M9 (fun z11 M10 => aE s1_G d 44 10 [] [some (aP 35), some (aI o), some (aI z), some (aI z11), some (aI z11), some (aI (a_add cnt 1)), none] [] M10 Q)))))
def A1 (d : Nat) (o x2 x3 x4 cnt : Int) (Q : Option AV → AM → Prop) (M : AM) : Prop := (x2 = 0 → A2 d o x3 x4 cnt Q M) ∧ (x2 ≠ 0 → aKv s1_G d 2 [aP 24, aI (-1)] M (fun M12 => A2 d o x3 x4 cnt Q M12))
def AFT (d : Nat) (o x2 x3 x4 cnt x6 : Int) (Q : Option AV → AM → Prop) (M : AM) : Prop := (2 : Int) ≠ 0 ∧ ((a_rem x6 2 ≠ 1 → A1 d o x2 x3 x4 cnt Q M) ∧ (a_rem x6 2 = 1 → aKv s1_G d 2 [aP 24, aI (-3)] M (fun M20 => A1 d o x2 x3 x4 cnt Q M20)))
def QR (X : List Int) (cn : Int) (M0 : AM) (P : List Int) (R : TR) : Option AV → AM → Prop := fun r M' => r = none ∧ ((R.f = 0 ∧ St1 X cn M0 M' 0 (-1) R.s (P ++ R.cs)) ∨ (R.f ≠ 0 ∧ Fb X cn M0 M' R.f (X.length - R.q.length)))
theorem bad_10 {X P : List Int} {cn o x2 x3 x4 x5 : Int} {M0 M : AM} {R : TR} {d : Nat} (hd : 3 < d) (h : Fb X cn M0 M R.f (X.length - R.q.length)) : aE s1_G d 44 10 [] [some (aP 35), some (aI o), some (aI x2), some (aI x3), some (aI x4), some (aI x5), none] [] M (QR X cn M0 P R) := by
  have fin : QR X cn M0 P R none M := ⟨rfl, Or.inr ⟨h.1, h⟩⟩
  obtain ⟨h0, s, cs, h⟩ := h
  refine s1_Reader_readTest_10 hd ?_
  rw [St1_f h]
  exact ⟨fun _ => fin, fun _ => ⟨fun _ => fin, fun g => absurd g h0⟩⟩
theorem bad_A2 {X P : List Int} {cn o x3 x4 x5 : Int} {M0 M : AM} {R : TR} {d : Nat} (hd : 5 < d) (h : Fb X cn M0 M R.f (X.length - R.q.length)) : A2 d o x3 x4 x5 (QR X cn M0 P R) M := by
  refine kb_tw hd h (fun M1 b h1 => ⟨fun _ => bad_10 (by omega) h1, fun _ => ⟨fun _ => ?_, fun _ => ?_⟩⟩)
  · exact kb_tw hd h1 (fun M2 b h2 => bad_10 (by omega) h2)
  · exact kb_add (by omega) h1 (fun M2 h2 => kb_tw hd h2 (fun M3 b h3 => bad_10 (by omega) h3))
theorem bad_A1 {X P : List Int} {cn o x2 x3 x4 x5 : Int} {M0 M : AM} {R : TR} {d : Nat} (hd : 5 < d) (h : Fb X cn M0 M R.f (X.length - R.q.length)) : A1 d o x2 x3 x4 x5 (QR X cn M0 P R) M :=
  ⟨fun _ => bad_A2 hd h, fun _ => kb_add (by omega) h (fun M1 h1 => bad_A2 hd h1)⟩
theorem bad_AFT {X P : List Int} {cn o x2 x3 x4 x5 x6 : Int} {M0 M : AM} {R : TR} {d : Nat} (hd : 5 < d) (h : Fb X cn M0 M R.f (X.length - R.q.length)) : AFT d o x2 x3 x4 x5 x6 (QR X cn M0 P R) M :=
  ⟨by decide, fun _ => bad_A1 hd h, fun _ => kb_add (by omega) h (fun M1 h1 => bad_A1 hd h1)⟩
/-- the loop goes on from a place -/
def L10 (X : List Int) (cn : Int) (M0 : AM) (P : List Int) (d o f : Nat) : Prop := ∀ (ja jo : Bool) (cnt : Nat) (x4 : Int) (s cs rs : List Int) (M : AM), St1 X cn M0 M 0 (-1) s (P ++ cs) → s.length < f → 2 * (P.length + cs.length) + 2 * bN ja + 2 * bN jo + s.length ≤ 200 → 2 * cnt + s.length ≤ 200 → x4 ≠ 0 → aE s1_G d 44 10 [] [some (aP 35), some (aI o), some (aI (bI ja)), some (aI (bI jo)), some (aI x4), some (aI cnt), none] [] M (QR X cn M0 P (rT f o ja jo 0 s cs rs))
theorem ok_A2 {X P s cs rs : List Int} {cn x4 : Int} {M0 M : AM} {ja jo : Bool} {k d o f cnt : Nat} (hd : 5 < d) (hf : L10 X cn M0 P d o f) (c1 : List Int) (hc1 : c1 = cs ++ cK k ++ jA ja) (h : St1 X cn M0 M 0 (-1) s (P ++ c1)) (hs : s.length ≤ f) (hm : 2 * (P.length + c1.length) + 2 * bN jo + s.length ≤ 200) (hc : 2 * cnt + s.length ≤ 200) (h4 : x4 ≠ 0) : A2 d o (bI jo) x4 cnt (QR X cn M0 P (aftT (fun ja jo s cs rs => rT f o ja jo 0 s cs rs) ja jo k s cs rs)) M := by
  have a1 := sk_len s
  have a2 := we_len (sk s)
  have n1 := bN_le jo
  unfold A2
  rw [x_add (by omega), show (cnt : Int) + 1 = ((cnt + 1 : Nat) : Int) by omega]
  refine k1_tw wAND rfl hd (St1_tx h) (St1_at h) (fun e a ha => ?_) (fun e a ha => ?_)
  · have e3 : (wd (sk s)).length = 3 := by rw [e]; rfl
    have er : aftT (fun ja jo s cs rs => rT f o ja jo 0 s cs rs) ja jo k s cs rs = rT f o true jo 0 (we (sk s)) c1 (rs ++ List.replicate k (-3) ++ jA ja) := by unfold aftT; rw [if_pos e, hc1]
    rw [er]
    refine ⟨fun _ => hf true jo (cnt + 1) x4 _ _ _ _ (St1_go h ha) (by omega) (by rw [show bN true = 1 from rfl]; omega) (by omega) h4, fun g => absurd g (by decide)⟩
  · have h1 := St1_go h ha
    refine ⟨fun g => absurd rfl g, fun _ => ?_⟩
    have last : ∀ (M2 : AM), St1 X cn M0 M2 0 (-1) (sk s) (P ++ (c1 ++ jO jo)) → 2 * (P.length + (c1 ++ jO jo).length) + s.length ≤ 200 → aKi s1_G d 49 [aP 35, aS 3] M2 (fun z8 M7 => aE s1_G d 44 10 [] [some (aP 35), some (aI o), some (aI 0), some (aI z8), some (aI z8), some (aI ((cnt + 1 : Nat) : Int)), none] [] M7 (QR X cn M0 P (aftT (fun ja jo s cs rs => rT f o ja jo 0 s cs rs) ja jo k s cs rs))) := by
      intro M2 h2 hm2
      refine k1_tw (s := sk s) wOR rfl hd (St1_tx h2) (St1_at h2) (fun e2 a2 ha2 => ?_) (fun e2 a2 ha2 => ?_)
      · rw [sk_sk] at e2 ha2
        have e3 : (wd (sk s)).length = 2 := by rw [e2]; rfl
        have er : aftT (fun ja jo s cs rs => rT f o ja jo 0 s cs rs) ja jo k s cs rs = rT f o false true 0 (we (sk s)) (c1 ++ jO jo) (rs ++ List.replicate k (-3) ++ jA ja ++ jO jo) := by unfold aftT; rw [if_neg e, if_pos e2, hc1]
        rw [er]
        exact hf false true (cnt + 1) 1 _ _ _ _ (St1_go h2 ha2) (by omega) (by rw [show bN true = 1 from rfl, show bN false = 0 from rfl]; omega) (by omega) (by decide)
      · rw [sk_sk] at e2 ha2
        have er : aftT (fun ja jo s cs rs => rT f o ja jo 0 s cs rs) ja jo k s cs rs = (0, [], sk s, c1 ++ jO jo, rs ++ List.replicate k (-3) ++ jA ja ++ jO jo) := by unfold aftT; rw [if_neg e, if_neg e2, hc1]
        rw [er]
        have h3 := St1_go h2 ha2
        have fin : QR X cn M0 P (0, [], sk s, c1 ++ jO jo, rs ++ List.replicate k (-3) ++ jA ja ++ jO jo) none (am_up M2 35 5 a2) := ⟨rfl, Or.inl ⟨rfl, h3⟩⟩
        refine s1_Reader_readTest_10 (by omega) ?_
        rw [St1_f h3]
        exact ⟨fun _ => fin, fun _ => ⟨fun g => absurd rfl g, fun _ => ⟨fun _ => fin, fun g => absurd rfl g⟩⟩⟩
    cases jo
    · refine ⟨fun _ => last _ ?_ ?_, fun g => absurd rfl g⟩
      · rw [show jO false = [] from rfl, List.append_nil]; exact h1
      · rw [show jO false = [] from rfl, List.append_nil]; omega
    · refine ⟨fun g => absurd g (by decide), fun _ => k1_add (by omega) h1 (fun M2 cs' g h2 => ?_)⟩
      rw [show bN true = 1 from rfl] at hm
      rw [g (by rw [List.length_append]; omega), List.append_assoc] at h2
      refine last M2 h2 ?_
      rw [List.length_append]
      show 2 * (P.length + (c1.length + 1)) + s.length ≤ 200
      omega
theorem ok_AFT {X P s cs rs : List Int} {cn x4 : Int} {M0 M : AM} {ja jo : Bool} {k d o f cnt : Nat} (hd : 5 < d) (hf : L10 X cn M0 P d o f) (h : St1 X cn M0 M 0 (-1) s (P ++ cs)) (hs : s.length ≤ f) (hm : 2 * (P.length + cs.length) + 2 * k + 2 * bN ja + 2 * bN jo + s.length ≤ 200) (hc : 2 * cnt + s.length ≤ 200) (h4 : x4 ≠ 0) : AFT d o (bI ja) (bI jo) x4 cnt k (QR X cn M0 P (aftT (fun ja jo s cs rs => rT f o ja jo 0 s cs rs) ja jo k s cs rs)) M := by
  have one : ∀ M1, St1 X cn M0 M1 0 (-1) s (P ++ (cs ++ cK k)) → A1 d o (bI ja) (bI jo) x4 cnt (QR X cn M0 P (aftT (fun ja jo s cs rs => rT f o ja jo 0 s cs rs) ja jo k s cs rs)) M1 := by
    intro M1 h1
    have a3 := cK_le k
    cases ja
    · refine ⟨fun _ => ok_A2 hd hf (cs ++ cK k ++ jA false) rfl (by rw [show jA false = [] from rfl, List.append_nil]; exact h1) hs ?_ hc h4, fun g => absurd rfl g⟩
      rw [show jA false = [] from rfl, List.append_nil, List.length_append]
      omega
    · refine ⟨fun g => absurd g (by decide), fun _ => k1_add (by omega) h1 (fun M2 cs' g h2 => ?_)⟩
      rw [show bN true = 1 from rfl] at hm
      rw [g (by rw [List.length_append, List.length_append]; omega), List.append_assoc] at h2
      refine ok_A2 hd hf (cs ++ cK k ++ jA true) rfl h2 hs ?_ hc h4
      rw [List.length_append, List.length_append]
      show 2 * (P.length + (cs.length + (cK k).length + 1)) + _ + _ ≤ _
      omega
  have hk : a_rem (k : Int) 2 = (k : Int) % 2 := x_rem (by omega) (by omega) (by omega) (by omega)
  refine ⟨by decide, fun g => one M ?_, fun g => ?_⟩
  · rw [hk] at g
    have : cK k = [] := if_neg (by omega)
    rw [this, List.append_nil]
    exact h
  · rw [hk] at g
    have ec : cK k = [-3] := if_pos (by omega)
    refine k1_add (by omega) h (fun M2 cs' g2 h2 => one M2 ?_)
    rw [g2 (by rw [List.length_append]; omega), List.append_assoc] at h2
    rw [ec]
    exact h2
