/-! LIVES: a search row by row -/
def BfP (E : Int → Nat → Bool) (n : Nat) (a : Int) (f : Int) (G : Nat → Int) (S : Nat → Bool) (by_ : Nat → Int) (rw_ : Nat → Int) (m : Nat) : Prop :=
  (rw_ 0 = a) ∧
  (1 ≤ m) ∧
  (∀ h, h < m → f ≤ rw_ h ∧ rw_ h < n) ∧
  (∀ h k, h < k → k < m → rw_ h ≠ rw_ k) ∧
  (∀ h, 0 < h → h < m → ∃ b, b < n ∧ S b = true ∧ G b = rw_ h ∧ ∃ k, k < h ∧ by_ b = rw_ k) ∧
  (∀ b, b < n → S b = true → (∃ h, h < m ∧ by_ b = rw_ h ∧ E (rw_ h) b = true) ∧ ¬ (0 ≤ G b ∧ G b < f))
theorem BfP_r0 {E : Int → Nat → Bool} {n : Nat} {a : Int} {f : Int} {G : Nat → Int} {S : Nat → Bool} {by_ : Nat → Int} {rw_ : Nat → Int} {m : Nat} (h : BfP E  n  a  f  G  S  by_  rw_  m ) : rw_ 0 = a := h.1
theorem BfP_m1 {E : Int → Nat → Bool} {n : Nat} {a : Int} {f : Int} {G : Nat → Int} {S : Nat → Bool} {by_ : Nat → Int} {rw_ : Nat → Int} {m : Nat} (h : BfP E  n  a  f  G  S  by_  rw_  m ) : 1 ≤ m := h.2.1
theorem BfP_rr {E : Int → Nat → Bool} {n : Nat} {a : Int} {f : Int} {G : Nat → Int} {S : Nat → Bool} {by_ : Nat → Int} {rw_ : Nat → Int} {m : Nat} (h : BfP E  n  a  f  G  S  by_  rw_  m ) : ∀ h, h < m → f ≤ rw_ h ∧ rw_ h < n := h.2.2.1
theorem BfP_rd {E : Int → Nat → Bool} {n : Nat} {a : Int} {f : Int} {G : Nat → Int} {S : Nat → Bool} {by_ : Nat → Int} {rw_ : Nat → Int} {m : Nat} (h : BfP E  n  a  f  G  S  by_  rw_  m ) : ∀ h k, h < k → k < m → rw_ h ≠ rw_ k := h.2.2.2.1
theorem BfP_rb {E : Int → Nat → Bool} {n : Nat} {a : Int} {f : Int} {G : Nat → Int} {S : Nat → Bool} {by_ : Nat → Int} {rw_ : Nat → Int} {m : Nat} (h : BfP E  n  a  f  G  S  by_  rw_  m ) : ∀ h, 0 < h → h < m → ∃ b, b < n ∧ S b = true ∧ G b = rw_ h ∧ ∃ k, k < h ∧ by_ b = rw_ k := h.2.2.2.2.1
theorem BfP_sb {E : Int → Nat → Bool} {n : Nat} {a : Int} {f : Int} {G : Nat → Int} {S : Nat → Bool} {by_ : Nat → Int} {rw_ : Nat → Int} {m : Nat} (h : BfP E  n  a  f  G  S  by_  rw_  m ) : ∀ b, b < n → S b = true → (∃ h, h < m ∧ by_ b = rw_ h ∧ E (rw_ h) b = true) ∧ ¬ (0 ≤ G b ∧ G b < f) := h.2.2.2.2.2
def BfO (n : Nat) (f : Int) (G : Nat → Int) (S : Nat → Bool) (rw_ : Nat → Int) (m : Nat) : Prop := ∀ b, b < n → S b = true → f ≤ G b ∧ ∃ h, h < m ∧ rw_ h = G b
theorem BfP_le {E : Int → Nat → Bool} {n : Nat} {a f : Int} {G : Nat → Int} {S : Nat → Bool} {by_ rw_ : Nat → Int} {m : Nat} (h : BfP E n a f G S by_ rw_ m) (hf : 0 ≤ f) : m ≤ n :=
  pigeon n m rw_ (fun i hi => by have := BfP_rr h i hi; omega) (BfP_rd h)
theorem Bf_seen {E : Int → Nat → Bool} {n : Nat} {a f : Int} {G : Nat → Int} {S : Nat → Bool} {by_ rw_ : Nat → Int} {m hd k : Nat} (h : BfP E n a f G S by_ rw_ m) (hh : hd < m) (vk : S k = false) (hE : E (rw_ hd) k = true) (hT : ¬ (0 ≤ G k ∧ G k < f)) : BfP E n a f G (addT S k) (upN by_ k (rw_ hd)) rw_ m := by
  have ne : ∀ b, S b = true → b ≠ k := fun b q e => by subst e; rw [vk] at q; cases q
  refine ⟨BfP_r0 h, BfP_m1 h, BfP_rr h, BfP_rd h, fun i h0 h1 => ?_, fun b hb q => ?_⟩
  · obtain ⟨b, hb, sb, gb, j, hj, ej⟩ := BfP_rb h i h0 h1
    exact ⟨b, hb, addT_t.mpr (Or.inl sb), gb, j, hj, by rw [upN_n (ne b sb)]; exact ej⟩
  · rcases addT_t.mp q with q | q
    · rw [upN_n (ne b q)]; exact BfP_sb h b hb q
    · subst q; rw [upN_s]; exact ⟨⟨hd, hh, rfl, hE⟩, hT⟩
theorem Bf_push {E : Int → Nat → Bool} {n : Nat} {a f : Int} {G : Nat → Int} {S : Nat → Bool} {by_ rw_ : Nat → Int} {m hd k : Nat} (h : BfP E n a f G S by_ rw_ m) (o : BfO n f G S rw_ m) (hh : hd < m) (hk : k < n) (vk : S k = false) (hE : E (rw_ hd) k = true) (hG : f ≤ G k ∧ G k < n) (ha : ∀ b, b < n → G b ≠ a) (inj : ∀ b c, b < n → c < n → f ≤ G b → G b = G c → b = c) : BfP E n a f G (addT S k) (upN by_ k (rw_ hd)) (upN rw_ m (G k)) (m + 1) ∧ BfO n f G (addT S k) (upN rw_ m (G k)) (m + 1) := by
  have h1 := Bf_seen h hh vk hE (show ¬ (0 ≤ G k ∧ G k < f) by omega)
  have fresh : ∀ i, i < m → rw_ i ≠ G k := fun i hi e => by
    by_cases q : i = 0
    · subst q
      rw [BfP_r0 h] at e
      exact ha k hk e.symm
    · obtain ⟨b, hb, sb, gb, -⟩ := BfP_rb h i (by omega) hi
      have := inj k b hk hb hG.1 (by rw [gb, e])
      subst this
      rw [vk] at sb
      cases sb
  have hm := BfP_m1 h
  refine ⟨⟨?_, by omega, fun i hi => ?_, fun i j hij hj => ?_, fun i h0 hi => ?_, fun b hb q => ?_⟩, fun b hb q => ?_⟩
  · rw [upN_n (by omega)]; exact BfP_r0 h
  · by_cases e : i = m
    · subst e; rw [upN_s]; exact hG
    · rw [upN_n e]; exact BfP_rr h i (by omega)
  · by_cases e : j = m
    · subst e; rw [upN_s, upN_n (by omega)]; exact fresh i hij
    · rw [upN_n e, upN_n (by omega)]; exact BfP_rd h i j hij (by omega)
  · by_cases e : i = m
    · subst e
      exact ⟨k, hk, addT_t.mpr (Or.inr rfl), by rw [upN_s], hd, hh, by rw [upN_s, upN_n (by omega)]⟩
    · obtain ⟨b, hb, sb, gb, j, hj, ej⟩ := BfP_rb h1 i h0 (by omega)
      exact ⟨b, hb, sb, by rw [upN_n e]; exact gb, j, hj, by rw [upN_n (show j ≠ m by omega)]; exact ej⟩
  · obtain ⟨⟨j, hj, ej, Ej⟩, t⟩ := BfP_sb h1 b hb q
    exact ⟨⟨j, by omega, by rw [upN_n (show j ≠ m by omega)]; exact ej, by rw [upN_n (show j ≠ m by omega)]; exact Ej⟩, t⟩
  · rcases addT_t.mp q with q | q
    · obtain ⟨q1, j, hj, ej⟩ := o b hb q
      exact ⟨q1, j, by omega, by rw [upN_n (by omega)]; exact ej⟩
    · subst q
      exact ⟨hG.1, m, by omega, upN_s⟩
/-- what stands once links are moved up to the place e -/
def AuP (E : Int → Nat → Bool) (n : Nat) (a : Int) (f : Int) (G : Nat → Int) (T : Nat → Bool) (rw_ : Nat → Int) (b0 : Nat) (e : Nat) (ht : Nat) (Gc : Nat → Int) (Hc : Int → Int) : Prop :=
  (∀ b, b < n → b ≠ e → f ≤ Gc b → Hc (Gc b) = (b : Int)) ∧
  (∀ b, b < n → b ≠ e → Gc b ≠ a) ∧
  (∀ b c, b < n → c < n → b ≠ e → c ≠ e → f ≤ Gc b → Gc b = Gc c → b = c) ∧
  (∀ b, b < n → b ≠ e → (Gc b = -1 ↔ G b = -1 ∧ b ≠ b0)) ∧
  (∀ k, 0 < k → k ≤ ht → ∀ b, b < n → G b = rw_ k → Gc b = rw_ k ∧ b ≠ e) ∧
  (∀ b, b < n → b ≠ e → Gc b ≠ G b → E (Gc b) b = true ∧ f ≤ Gc b ∧ Gc b < a + 1 ∧ T b = false) ∧
  (e = b0 ∨ G e ≠ -1)
theorem AuP_i1 {E : Int → Nat → Bool} {n : Nat} {a : Int} {f : Int} {G : Nat → Int} {T : Nat → Bool} {rw_ : Nat → Int} {b0 : Nat} {e : Nat} {ht : Nat} {Gc : Nat → Int} {Hc : Int → Int} (h : AuP E  n  a  f  G  T  rw_  b0  e  ht  Gc  Hc ) : ∀ b, b < n → b ≠ e → f ≤ Gc b → Hc (Gc b) = (b : Int) := h.1
theorem AuP_i2 {E : Int → Nat → Bool} {n : Nat} {a : Int} {f : Int} {G : Nat → Int} {T : Nat → Bool} {rw_ : Nat → Int} {b0 : Nat} {e : Nat} {ht : Nat} {Gc : Nat → Int} {Hc : Int → Int} (h : AuP E  n  a  f  G  T  rw_  b0  e  ht  Gc  Hc ) : ∀ b, b < n → b ≠ e → Gc b ≠ a := h.2.1
theorem AuP_i3 {E : Int → Nat → Bool} {n : Nat} {a : Int} {f : Int} {G : Nat → Int} {T : Nat → Bool} {rw_ : Nat → Int} {b0 : Nat} {e : Nat} {ht : Nat} {Gc : Nat → Int} {Hc : Int → Int} (h : AuP E  n  a  f  G  T  rw_  b0  e  ht  Gc  Hc ) : ∀ b c, b < n → c < n → b ≠ e → c ≠ e → f ≤ Gc b → Gc b = Gc c → b = c := h.2.2.1
theorem AuP_i4 {E : Int → Nat → Bool} {n : Nat} {a : Int} {f : Int} {G : Nat → Int} {T : Nat → Bool} {rw_ : Nat → Int} {b0 : Nat} {e : Nat} {ht : Nat} {Gc : Nat → Int} {Hc : Int → Int} (h : AuP E  n  a  f  G  T  rw_  b0  e  ht  Gc  Hc ) : ∀ b, b < n → b ≠ e → (Gc b = -1 ↔ G b = -1 ∧ b ≠ b0) := h.2.2.2.1
theorem AuP_i5 {E : Int → Nat → Bool} {n : Nat} {a : Int} {f : Int} {G : Nat → Int} {T : Nat → Bool} {rw_ : Nat → Int} {b0 : Nat} {e : Nat} {ht : Nat} {Gc : Nat → Int} {Hc : Int → Int} (h : AuP E  n  a  f  G  T  rw_  b0  e  ht  Gc  Hc ) : ∀ k, 0 < k → k ≤ ht → ∀ b, b < n → G b = rw_ k → Gc b = rw_ k ∧ b ≠ e := h.2.2.2.2.1
theorem AuP_i6 {E : Int → Nat → Bool} {n : Nat} {a : Int} {f : Int} {G : Nat → Int} {T : Nat → Bool} {rw_ : Nat → Int} {b0 : Nat} {e : Nat} {ht : Nat} {Gc : Nat → Int} {Hc : Int → Int} (h : AuP E  n  a  f  G  T  rw_  b0  e  ht  Gc  Hc ) : ∀ b, b < n → b ≠ e → Gc b ≠ G b → E (Gc b) b = true ∧ f ≤ Gc b ∧ Gc b < a + 1 ∧ T b = false := h.2.2.2.2.2.1
theorem AuP_i8 {E : Int → Nat → Bool} {n : Nat} {a : Int} {f : Int} {G : Nat → Int} {T : Nat → Bool} {rw_ : Nat → Int} {b0 : Nat} {e : Nat} {ht : Nat} {Gc : Nat → Int} {Hc : Int → Int} (h : AuP E  n  a  f  G  T  rw_  b0  e  ht  Gc  Hc ) : e = b0 ∨ G e ≠ -1 := h.2.2.2.2.2.2
def gpM (f : Int) (G : Nat → Int) : Nat → Int := fun b => if f ≤ G b then G b else -1
/-- one link moved -/
theorem Au_step {E : Int → Nat → Bool} {n : Nat} {a f : Int} {G : Nat → Int} {T S : Nat → Bool} {by_ rw_ : Nat → Int} {m b0 e h : Nat} {Gc : Nat → Int} {Hc : Int → Int} (B : BfP E n a f G S by_ rw_ m) (A : AuP E n a f G T rw_ b0 e h Gc Hc) (hf : 0 ≤ f) (hGa : ∀ b, b < n → G b < a) (hh : h < m) (h0 : 0 < h) (hE : E (rw_ h) e = true) (hT : T e = false) : ∃ b k, b < n ∧ S b = true ∧ k < h ∧ by_ b = rw_ k ∧ Hc (rw_ h) = (b : Int) ∧ AuP E n a f G T rw_ b0 b k (upN Gc e (rw_ h)) (fun i => if i = rw_ h then (e : Int) else Hc i) := by
  obtain ⟨b, hb, sb, gb, k, hk, ek⟩ := BfP_rb B h h0 hh
  obtain ⟨c1, c2⟩ := AuP_i5 A h h0 (Nat.le_refl h) b hb gb
  have hr := BfP_rr B h hh
  have ne : ∀ c, c < n → c ≠ b → c ≠ e → Gc c ≠ rw_ h := fun c hc q1 q2 q3 => q1 (AuP_i3 A b c hb hc c2 q2 (by rw [c1]; exact hr.1) (by rw [c1, q3])).symm
  have wa : rw_ h ≠ a := by
    have := BfP_rd B 0 h h0 hh
    rw [BfP_r0 B] at this
    exact fun z => this z.symm
  refine ⟨b, k, hb, sb, hk, ek, by rw [← c1]; exact AuP_i1 A b hb c2 (by rw [c1]; exact hr.1), fun c hc q1 q2 => ?_, fun c hc q1 => ?_, fun c c' hc hc' q1 q2 q3 q4 => ?_, fun c hc q1 => ?_, fun k' p1 p2 c hc q => ?_, fun c hc q1 q2 => ?_, Or.inr (by omega)⟩
  · by_cases q : c = e
    · subst q; rw [upN_s]; exact if_pos rfl
    · rw [upN_n q] at q2 ⊢
      exact (if_neg (ne c hc q1 q)).trans (AuP_i1 A c hc q q2)
  · by_cases q : c = e
    · subst q; rw [upN_s]; exact wa
    · rw [upN_n q]; exact AuP_i2 A c hc q
  · by_cases e1 : c = e <;> by_cases e2 : c' = e
    · omega
    · subst e1; rw [upN_s, upN_n e2] at q4; exact absurd q4.symm (ne c' hc' q2 e2)
    · subst e2; rw [upN_s, upN_n e1] at q4; exact absurd q4 (ne c hc q1 e1)
    · rw [upN_n e1] at q3 q4; rw [upN_n e2] at q4; exact AuP_i3 A c c' hc hc' e1 e2 q3 q4
  · by_cases q : c = e
    · subst q
      rw [upN_s]
      refine ⟨fun z => by omega, fun z => ?_⟩
      rcases AuP_i8 A with w | w
      · exact absurd w z.2
      · exact absurd z.1 w
    · rw [upN_n q]; exact AuP_i4 A c hc q
  · obtain ⟨d1, d2⟩ := AuP_i5 A k' p1 (by omega) c hc q
    refine ⟨by rw [upN_n d2]; exact d1, fun z => ?_⟩
    subst z
    exact BfP_rd B k' h (by omega) hh (by rw [← q, gb])
  · by_cases q : c = e
    · subst q
      rw [upN_s]
      have := hGa b hb
      exact ⟨hE, hr.1, by omega, hT⟩
    · rw [upN_n q] at q2 ⊢; exact AuP_i6 A c hc q q2
/-- the last link moved -/
theorem Au_end {E : Int → Nat → Bool} {n : Nat} {a f : Int} {G : Nat → Int} {T : Nat → Bool} {rw_ : Nat → Int} {b0 e h : Nat} {Gc : Nat → Int} {Hc : Int → Int} (A : AuP E n a f G T rw_ b0 e h Gc Hc) (hf : 0 ≤ f) (hfa : f ≤ a) (hb0 : b0 < n) (g0 : G b0 = -1) (he : e < n) (hE : E a e = true) (hT : T e = false) (hTG : ∀ b, b < n → T b = decide (0 ≤ G b ∧ G b < f)) (hGr : ∀ b, b < n → G b = -1 ∨ 0 ≤ G b) (hc : curM E n f a T (gpM f G)) : (∀ b, b < n → T b = decide (0 ≤ upN Gc e a b ∧ upN Gc e a b < f)) ∧ (∀ b, b < n → f ≤ upN Gc e a b → (if upN Gc e a b = a then (e : Int) else Hc (upN Gc e a b)) = (b : Int)) ∧ (∀ b, b < n → upN Gc e a b = -1 ∨ 0 ≤ upN Gc e a b) ∧ curM E n f (a + 1) T (gpM f (upN Gc e a)) ∧ szM n (gpM f (upN Gc e a)) = szM n (gpM f G) + 1 := by
  have old : ∀ b, b < n → b ≠ e → Gc b = G b ∨ (E (Gc b) b = true ∧ f ≤ Gc b ∧ Gc b < a + 1 ∧ T b = false) := fun b hb q => by
    by_cases w : Gc b = G b
    · exact Or.inl w
    · exact Or.inr (AuP_i6 A b hb q w)
  have P1 : ∀ b, b < n → T b = decide (0 ≤ upN Gc e a b ∧ upN Gc e a b < f) := fun b hb => by
    by_cases q : b = e
    · subst q; rw [upN_s, hT]; exact (decide_eq_false (by omega)).symm
    · rw [upN_n q]
      rcases old b hb q with w | w
      · rw [w]; exact hTG b hb
      · rw [w.2.2.2]; exact (decide_eq_false (by omega)).symm
  have P3 : ∀ b, b < n → upN Gc e a b = -1 ∨ 0 ≤ upN Gc e a b := fun b hb => by
    by_cases q : b = e
    · subst q; rw [upN_s]; omega
    · rw [upN_n q]
      rcases old b hb q with w | w
      · rw [w]; exact hGr b hb
      · omega
  have ep : ∀ b, gpM f (upN Gc e a) b = upN (gpM f Gc) e a b := fun b => by
    unfold gpM
    by_cases q : b = e
    · subst q; rw [upN_s, upN_s, if_pos hfa]
    · rw [upN_n q, upN_n q]
  have M1 : ∀ b, b < n → ∀ x, gpM f G b = x → x ≠ -1 → G b = x ∧ f ≤ x := fun b hb x q w => by
    unfold gpM at q
    split at q
    · omega
    · omega
  have hs : szM n (gpM f (upN Gc e a)) = szM n (gpM f G) + 1 := by
    refine szM_one ⟨b0, hb0, ?_, ?_, fun c hc' q => ?_⟩
    · unfold gpM; rw [g0, if_neg (by omega)]
    · by_cases q : b0 = e
      · rw [ep, q, upN_s]; omega
      · have r := AuP_i4 A b0 hb0 q
        have r : Gc b0 ≠ -1 := fun z => (r.mp z).2 rfl
        rw [ep, upN_n q]
        rcases old b0 hb0 q with w | w
        · omega
        · unfold gpM; rw [if_pos w.2.1]; exact r
    · by_cases w : c = e
      · subst w
        rw [ep, upN_s]
        have r : G c ≠ -1 := by
          rcases AuP_i8 A with z | z
          · exact absurd z q
          · exact z
        have t := hTG c hc'
        rw [hT] at t
        have t := of_decide_eq_false t.symm
        have := hGr c hc'
        have : gpM f G c = G c := if_pos (by omega)
        rw [this]
        omega
      · rw [ep, upN_n w]
        rcases old c hc' w with z | z
        · unfold gpM; rw [z]
        · have r := AuP_i4 A c hc' w
          have t := hTG c hc'
          rw [z.2.2.2] at t
          have t := of_decide_eq_false t.symm
          have := hGr c hc'
          have e1 : gpM f Gc c = Gc c := if_pos z.2.1
          have r : G c ≠ -1 := fun y => by have := r.mpr ⟨y, q⟩; omega
          have e2 : gpM f G c = G c := if_pos (by omega)
          rw [e1, e2]
          omega
  refine ⟨P1, fun b hb q => ?_, P3, curM_ok hc ⟨fun b hb q => ?_, fun b c hb hc' q w => ?_⟩ hs, hs⟩
  · by_cases w : b = e
    · subst w; rw [upN_s, if_pos rfl]
    · rw [upN_n w] at q ⊢
      rw [if_neg (AuP_i2 A b hb w)]
      exact AuP_i1 A b hb w q
  · rw [ep] at q ⊢
    by_cases w : b = e
    · subst w; rw [upN_s]; exact ⟨hfa, by omega, hE, hT⟩
    · rw [upN_n w] at q ⊢
      rcases old b hb w with z | z
      · have e1 : gpM f Gc b = gpM f G b := by unfold gpM; rw [z]
        rw [e1] at q ⊢
        have := hc.1.1 b hb q
        exact ⟨this.1, by omega, this.2.2⟩
      · have e1 : gpM f Gc b = Gc b := if_pos z.2.1
        rw [e1]
        exact ⟨z.2.1, z.2.2.1, z.1, z.2.2.2⟩
  · rw [ep] at q w
    rw [ep] at w
    have gv : ∀ d, gpM f Gc d ≠ -1 → gpM f Gc d = Gc d ∧ f ≤ Gc d := fun d q => by
      unfold gpM at q ⊢
      split
      · exact ⟨rfl, by assumption⟩
      · rw [if_neg (by assumption)] at q; exact absurd rfl q
    by_cases e1 : b = e <;> by_cases e2 : c = e
    · omega
    · subst e1
      rw [upN_s, upN_n e2] at w
      have := gv c (by rw [← w]; omega)
      exact absurd (this.1.symm.trans w.symm) (AuP_i2 A c hc' e2)
    · subst e2
      rw [upN_n e1] at q w
      rw [upN_s] at w
      have := gv b q
      exact absurd (this.1.symm.trans w) (AuP_i2 A b hb e1)
    · rw [upN_n e1] at q w
      rw [upN_n e2] at w
      have g1 := gv b q
      have g2 := gv c (by rw [← w]; exact q)
      exact AuP_i3 A b c hb hc' e1 e2 g1.2 (by rw [← g1.1, ← g2.1]; exact w)
