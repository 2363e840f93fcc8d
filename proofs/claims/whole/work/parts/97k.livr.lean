/-! LIVES: the reference's search -/
abbrev wBf : Nat → Int → Bool := wr [59, 60, 61] []
abbrev wOm : Nat → Int → Bool := wr [57, 58, 59, 60, 61] []
def OmP (D : AM) (M : AM) (f : Int) (a : Int) (T : Nat → Bool) (G : Nat → Int) : Prop :=
  (∀ b : Nat, b < nPc D → M 58 (b : Int) = G b) ∧
  (∀ b, b < nPc D → T b = decide (0 ≤ G b ∧ G b < f)) ∧
  (∀ b : Nat, b < nPc D → f ≤ G b → M 57 (G b) = (b : Int)) ∧
  (∀ b, b < nPc D → G b = -1 ∨ 0 ≤ G b) ∧
  (curM (ePc D) (nPc D) f a T (gpM f G))
theorem OmP_g {D : AM} {M : AM} {f : Int} {a : Int} {T : Nat → Bool} {G : Nat → Int} (h : OmP D  M  f  a  T  G ) : ∀ b : Nat, b < nPc D → M 58 (b : Int) = G b := h.1
theorem OmP_t {D : AM} {M : AM} {f : Int} {a : Int} {T : Nat → Bool} {G : Nat → Int} (h : OmP D  M  f  a  T  G ) : ∀ b, b < nPc D → T b = decide (0 ≤ G b ∧ G b < f) := h.2.1
theorem OmP_h {D : AM} {M : AM} {f : Int} {a : Int} {T : Nat → Bool} {G : Nat → Int} (h : OmP D  M  f  a  T  G ) : ∀ b : Nat, b < nPc D → f ≤ G b → M 57 (G b) = (b : Int) := h.2.2.1
theorem OmP_r {D : AM} {M : AM} {f : Int} {a : Int} {T : Nat → Bool} {G : Nat → Int} (h : OmP D  M  f  a  T  G ) : ∀ b, b < nPc D → G b = -1 ∨ 0 ≤ G b := h.2.2.2.1
theorem OmP_c {D : AM} {M : AM} {f : Int} {a : Int} {T : Nat → Bool} {G : Nat → Int} (h : OmP D  M  f  a  T  G ) : curM (ePc D) (nPc D) f a T (gpM f G) := h.2.2.2.2
def OmQ (D M : AM) (f a : Int) (T : Nat → Bool) (G : Nat → Int) (z : Int) (M' : AM) : Prop := fr wOm M M' ∧ ∃ G', OmP D M' f (a + 1) T G' ∧ ((z = 1 ∧ szM (nPc D) (gpM f G') = szM (nPc D) (gpM f G) + 1) ∨ (z = 0 ∧ szM (nPc D) (gpM f G') = szM (nPc D) (gpM f G)))
def BfM (D M : AM) (S : Nat → Bool) (by_ rw_ : Nat → Int) (m : Nat) : Prop := (∀ b : Nat, b < nPc D → M 59 (b : Int) = bI (S b)) ∧ (∀ b : Nat, b < nPc D → M 60 (b : Int) = by_ b) ∧ ∀ h : Nat, h < m → M 61 (h : Int) = rw_ h
theorem Om_inj {D M : AM} {f a : Int} {T : Nat → Bool} {G : Nat → Int} (h : OmP D M f a T G) (hf : 0 ≤ f) : ∀ b c, b < nPc D → c < nPc D → f ≤ G b → G b = G c → b = c := fun b c hb hc q e => by
  have e1 : gpM f G b = G b := if_pos q
  have e2 : gpM f G c = G c := if_pos (by omega)
  exact (OmP_c h).1.2 b c hb hc (by omega) (by omega)
theorem Om_lt {D M : AM} {f a : Int} {T : Nat → Bool} {G : Nat → Int} (h : OmP D M f a T G) (hf : 0 ≤ f) (hfa : f ≤ a) : ∀ b, b < nPc D → G b < a := fun b hb => by
  by_cases q : f ≤ G b
  · have e1 : gpM f G b = G b := if_pos q
    have := (OmP_c h).1.1 b hb (by omega)
    omega
  · omega
theorem s2_Om_aug {D M : AM} {f a : Int} {T S : Nat → Bool} {G by_ rw_ : Nat → Int} {m b0 d : Nat} (hd : 8 ≤ d) (hI : Inv D) (hP : OmP D M f a T G) (hf : 0 ≤ f) (hfa : f ≤ a) (B : BfP (ePc D) (nPc D) a f G S by_ rw_ m) (hb0 : b0 < nPc D) (g0 : G b0 = -1) : ∀ (t h e : Nat) (M1 : AM) (Gc : Nat → Int), h ≤ t → h < m → e < nPc D → by_ e = rw_ h → ePc D (rw_ h) e = true → T e = false → (∀ b : Nat, b < nPc D → M1 60 (b : Int) = by_ b) → (∀ b : Nat, b < nPc D → M1 58 (b : Int) = Gc b) → AuP (ePc D) (nPc D) a f G T rw_ b0 e h Gc (M1 57) → fr wOm M M1 → aE s2_G d 100 199 [] [some (aP 0), some (aI a), none, none, some (aI (e : Int)), none, none, none] [] M1 (fun r M' => ∃ z, r = some (aI z) ∧ OmQ D M f a T G z M') := by
  obtain ⟨-, hn16⟩ := nPc_e hI
  have hGa := Om_lt hP hf hfa
  have fin : ∀ (h e : Nat) (M1 : AM) (Gc : Nat → Int), e < nPc D → ePc D a e = true → T e = false → (∀ b : Nat, b < nPc D → M1 58 (b : Int) = Gc b) → AuP (ePc D) (nPc D) a f G T rw_ b0 e h Gc (M1 57) → fr wOm M M1 → OmQ D M f a T G 1 (am_up (am_up M1 57 a (e : Int)) 58 (e : Int) a) := fun h e M1 Gc he hE hT h58 A gf => by
    obtain ⟨p1, p2, p3, p4, p5⟩ := Au_end A hf hfa hb0 g0 he hE hT (OmP_t hP) (OmP_r hP) (OmP_c hP)
    refine ⟨fr_up (fr_up gf rfl) rfl, upN Gc e a, ⟨fun b hb => ?_, p1, fun b hb q => ?_, p3, p4⟩, Or.inl ⟨rfl, p5⟩⟩
    · by_cases w : b = e
      · subst w; rw [x_us, upN_s]
      · rw [x_uf (by omega), x_uc (by decide), upN_n w]; exact h58 b hb
    · rw [x_uc (by decide), x_ui]
      exact p2 b hb q
  intro t
  induction t with
  | zero =>
    intro h e M1 Gc ht hm he hby hE hT h60 h58 A gf
    have h0 : h = 0 := by omega
    subst h0
    have ra := BfP_r0 B
    have hr := BfP_rr B 0 hm
    refine s2_oneMore_199 (by omega) ?_
    rw [h60 e he, hby]
    rw [ra] at hr hE ⊢
    exact ⟨fun h => absurd h (by omega), fun _ => ⟨by omega, by omega, by omega, by omega, fun q => absurd rfl q, fun _ => ⟨fun w => absurd rfl w, fun _ => ⟨Or.inr rfl, _, rfl, fin 0 e M1 Gc he hE hT h58 A gf⟩⟩⟩⟩
  | succ t ih =>
    intro h e M1 Gc ht hm he hby hE hT h60 h58 A gf
    have hr := BfP_rr B h hm
    refine s2_oneMore_199 (by omega) ?_
    rw [h60 e he, hby]
    refine ⟨fun h => absurd h (by omega), fun _ => ⟨by omega, by omega, by omega, by omega, fun q => ⟨fun _ => ?_, fun w => absurd w q⟩, fun q => ⟨fun w => absurd q w, fun _ => ⟨Or.inr rfl, _, rfl, ?_⟩⟩⟩⟩
    · have h0 : 0 < h := by
        by_cases z : h = 0
        · subst z; exact absurd (BfP_r0 B) q
        · omega
      obtain ⟨b, k, hb, sb, hk, ek, eh, A2⟩ := Au_step B A hf hGa hm h0 hE hT
      rw [eh]
      obtain ⟨⟨j, hj, ej, Ej⟩, tj⟩ := BfP_sb B b hb sb
      refine ih k b _ (upN Gc e (rw_ h)) (by omega) (by omega) hb ek ?_ ?_ (fun c hc => ?_) (fun c hc => ?_) ?_ (fr_up (fr_up gf rfl) rfl)
      · rw [← ek, ej]; exact Ej
      · rw [OmP_t hP b hb]; exact decide_eq_false tj
      · rw [x_uc (by decide), x_uc (by decide)]; exact h60 c hc
      · by_cases w : c = e
        · subst w; rw [x_us, upN_s]
        · rw [x_uf (by omega), x_uc (by decide), upN_n w]; exact h58 c hc
      · have : am_up (am_up M1 57 (rw_ h) (e : Int)) 58 (e : Int) (rw_ h) 57 = fun i => if i = rw_ h then (e : Int) else M1 57 i := by
          funext i
          rw [x_uc (by decide), x_ui]
        rw [this]
        exact A2
    · rw [q] at hE ⊢
      exact fin h e M1 Gc he hE hT h58 A gf
theorem s2_oneMore {D M : AM} {f a : Int} {T : Nat → Bool} {G : Nat → Int} (hI : Inv D) (hL : eqL D M) (hf : 0 ≤ f) (hfa : f ≤ a) (han : a < nPc D) (hP : OmP D M f a T G) : aCi s2_G 8 100 [aP 0, aI a, aI f] M (OmQ D M f a T G) := by
  refine ⟨Nat.le_of_ble_eq_true rfl, fun d hd => ?_⟩
  refine s2_oneMore_0 (by omega) ?_
  obtain ⟨hn, hn16⟩ := nPc_e hI
  have hGa := Om_lt hP hf hfa
  have inj := Om_inj hP hf
  have hq : ∀ M1, fr wBf M M1 → M1 0 78 = (nPc D : Int) := fun M1 g => by rw [g 0 78 rfl, L0_78 hL, hn]
  have fail : ∀ (hd m : Nat) (M1 : AM) (S : Nat → Bool) (by_ rw_ : Nat → Int), m ≤ hd → BfP (ePc D) (nPc D) a f G S by_ rw_ m → BfO (nPc D) f G S rw_ m → fr wBf M M1 → (∀ h, h < hd → h < m → ∀ c, c < nPc D → ePc D (rw_ h) c = true → T c = false → S c = true) → aE s2_G d 100 199 [] [some (aP 0), some (aI a), none, none, some (aI (-1)), none, none, none] [] M1 (fun r M' => ∃ z, r = some (aI z) ∧ OmQ D M f a T G z M') := fun hd m M1 S by_ rw_ hm B O gf hp => by
    refine s2_oneMore_199 (by omega) ?_
    refine ⟨fun _ => ⟨Or.inl rfl, _, rfl, fr_mo gf rfl, G, ⟨fun b hb => by rw [gf 58 b rfl]; exact OmP_g hP b hb, OmP_t hP, fun b hb q => by rw [gf 57 _ rfl]; exact OmP_h hP b hb q, OmP_r hP, curM_fail (U := S) (OmP_c hP) (fun b hb e t => ?_) (fun b hb s => ?_)⟩, Or.inr ⟨rfl, rfl⟩⟩, fun h => absurd h (by omega)⟩
    · have := BfP_m1 B
      exact hp 0 (by omega) (by omega) b hb (by rw [BfP_r0 B]; exact e) t
    · obtain ⟨q1, h, hh, eh⟩ := O b hb s
      have e1 : gpM f G b = G b := if_pos q1
      rw [e1]
      exact ⟨by omega, fun c hc e t => hp h (by omega) hh c hc (by rw [eh]; exact e) t⟩
  have found : ∀ (hd m k : Nat) (M1 : AM) (S : Nat → Bool) (by_ rw_ : Nat → Int), hd < m → k < nPc D → BfP (ePc D) (nPc D) a f G S by_ rw_ m → BfM D M1 S by_ rw_ m → fr wBf M M1 → S k = true → by_ k = rw_ hd → ePc D (rw_ hd) k = true → T k = false → G k = -1 → aE s2_G d 100 59 [] [some (aP 0), some (aI a), some (aI f), some (aI (m : Int)), some (aI (k : Int)), some (aI (hd : Int)), some (aI ((k + 1 : Nat) : Int)), none] [] M1 (fun r M' => ∃ z, r = some (aI z) ∧ OmQ D M f a T G z M') := fun hd m k M1 S by_ rw_ hh hk B bm gf sk ek Ek tk gk => by
    have hmn := BfP_le B hf
    have go : aE s2_G d 100 199 [] [some (aP 0), some (aI a), none, none, some (aI (k : Int)), none, none, none] [] M1 (fun r M' => ∃ z, r = some (aI z) ∧ OmQ D M f a T G z M') := by
      refine s2_Om_aug (by omega) hI hP hf hfa B hk gk hd hd k M1 G (Nat.le_refl _) hh hk ek Ek tk bm.2.1 (fun b hb => by rw [gf 58 b rfl]; exact OmP_g hP b hb) ⟨fun b hb _ q => by rw [gf 57 _ rfl]; exact OmP_h hP b hb q, fun b hb _ e => by have := hGa b hb; omega, fun b c hb hc _ _ q e => inj b c hb hc q e, fun b hb q => ⟨fun z => ⟨z, q⟩, fun z => z.1⟩, fun i p1 p2 b hb q => ⟨q, fun z => ?_⟩, fun b hb _ q => absurd rfl q, Or.inl rfl⟩ (fr_mo gf rfl)
      subst z
      have := BfP_rr B i (by omega)
      omega
    have go45 : aE s2_G d 100 45 [] [some (aP 0), some (aI a), some (aI f), some (aI (m : Int)), some (aI (k : Int)), some (aI ((hd : Int) + 1)), none, none] [] M1 (fun r M' => ∃ z, r = some (aI z) ∧ OmQ D M f a T G z M') := by
      refine s2_oneMore_45 (by omega) ?_
      exact ⟨fun _ => go, fun _ => ⟨fun _ => go, fun h => absurd h (by omega)⟩⟩
    refine s2_oneMore_59 (by omega) ?_
    rw [x_add (a := (hd : Int)) (by omega)]
    exact ⟨fun _ => go45, fun _ => ⟨fun _ => go45, fun h => absurd h (by omega)⟩⟩
  have outer : ∀ (t hd m : Nat) (M1 : AM) (S : Nat → Bool) (by_ rw_ : Nat → Int), 16 - hd ≤ t → hd ≤ m → BfP (ePc D) (nPc D) a f G S by_ rw_ m → BfO (nPc D) f G S rw_ m → BfM D M1 S by_ rw_ m → fr wBf M M1 → (∀ h, h < hd → h < m → ∀ c, c < nPc D → ePc D (rw_ h) c = true → T c = false → S c = true) → aE s2_G d 100 45 [] [some (aP 0), some (aI a), some (aI f), some (aI (m : Int)), some (aI (-1)), some (aI (hd : Int)), none, none] [] M1 (fun r M' => ∃ z, r = some (aI z) ∧ OmQ D M f a T G z M') := by
    intro t
    induction t with
    | zero =>
      intro hd m M1 S by_ rw_ ht hm B O bm gf hp
      have hmn := BfP_le B hf
      refine s2_oneMore_45 (by omega) ?_
      exact ⟨fun _ => fail hd m M1 S by_ rw_ (by omega) B O gf hp, fun h => absurd h (by omega)⟩
    | succ t ih =>
      intro hd m M1 S by_ rw_ ht hm B O bm gf hp
      have hmn := BfP_le B hf
      refine s2_oneMore_45 (by omega) ?_
      refine ⟨fun h => fail hd m M1 S by_ rw_ (by omega) B O gf hp, fun hlt => ⟨fun h => absurd h (by omega), fun _ => ?_⟩⟩
      have inner : ∀ (j k m : Nat) (M1 : AM) (S : Nat → Bool) (by_ rw_ : Nat → Int), k + j = nPc D → hd < m → BfP (ePc D) (nPc D) a f G S by_ rw_ m → BfO (nPc D) f G S rw_ m → BfM D M1 S by_ rw_ m → fr wBf M M1 → (∀ h, h < hd → h < m → ∀ c, c < nPc D → ePc D (rw_ h) c = true → T c = false → S c = true) → (∀ c, c < k → ePc D (rw_ hd) c = true → T c = false → S c = true) → aE s2_G d 100 59 [] [some (aP 0), some (aI a), some (aI f), some (aI (m : Int)), some (aI (-1)), some (aI (hd : Int)), some (aI (k : Int)), none] [] M1 (fun r M' => ∃ z, r = some (aI z) ∧ OmQ D M f a T G z M') := by
        intro j
        induction j with
        | zero =>
          intro k m M1 S by_ rw_ hk hm B O bm gf hp hk2
          refine s2_oneMore_59 (by omega) ?_
          rw [hq M1 gf, x_add (a := (hd : Int)) (by omega), show (hd : Int) + 1 = ((hd + 1 : Nat) : Int) by omega]
          refine ⟨fun _ => ih (hd + 1) m M1 S by_ rw_ (by omega) (by omega) B O bm gf (fun h h1 h2 c hc e t => ?_), fun h => absurd h (by omega)⟩
          by_cases w : h = hd
          · subst w; exact hk2 c (by omega) e t
          · exact hp h (by omega) h2 c hc e t
        | succ j ih2 =>
          intro k m M1 S by_ rw_ hk hm B O bm gf hp hk2
          have hmn := BfP_le B hf
          have hk3 : k < nPc D := by omega
          have next : (ePc D (rw_ hd) k = true → T k = false → S k = true) → aE s2_G d 100 59 [] [some (aP 0), some (aI a), some (aI f), some (aI (m : Int)), some (aI (-1)), some (aI (hd : Int)), some (aI ((k + 1 : Nat) : Int)), none] [] M1 (fun r M' => ∃ z, r = some (aI z) ∧ OmQ D M f a T G z M') := fun w => ih2 (k + 1) m M1 S by_ rw_ (by omega) hm B O bm gf hp (fun c hc e t => by
            by_cases q : c = k
            · subst q; exact w e t
            · exact hk2 c (by omega) e t)
          have hrr := BfP_rr B hd hm
          have e58 : M1 58 (k : Int) = G k := by rw [gf 58 k rfl]; exact OmP_g hP k hk3
          refine s2_oneMore_59 (by omega) ?_
          rw [hq M1 gf, x_add (a := (k : Int)) (by omega), show (k : Int) + 1 = ((k + 1 : Nat) : Int) by omega]
          refine ⟨fun h => absurd h (by omega), fun _ => ⟨fun h => absurd h (by omega), fun _ => ⟨by omega, fun s => ⟨fun _ => next (fun _ _ => ?_), fun z => absurd rfl z⟩, fun s => ⟨by omega, ?_⟩⟩⟩⟩
          · rw [bm.1 k hk3] at s; exact bI_n0.mp s
          · rw [bm.1 k hk3] at s
            have sk := bI_0.mp s
            rw [bm.2.2 hd hm]
            refine aKi_of (s2_mayFollow hI (eqL_fw hL gf rfl) (show 0 ≤ rw_ hd ∧ rw_ hd < 16 by omega) (show 0 ≤ (k : Int) ∧ (k : Int) < 16 by omega)) (by omega) (fun z M2 q => ?_)
            obtain ⟨rfl, rfl⟩ := q
            have e61 : M2 61 (hd : Int) = rw_ hd := bm.2.2 hd hm
            have f2 : fr wBf M (am_up (am_up M2 59 (k : Int) 1) 60 (k : Int) (rw_ hd)) := fr_up (fr_up gf rfl) rfl
            refine ⟨fun z => ⟨fun _ => next (fun w => ?_), fun z => absurd rfl z⟩, fun z => ⟨by omega, fun w => ⟨fun y => absurd y (by decide), fun _ => ⟨by omega, Or.inr rfl, by omega, by omega, by omega, fun y => ?_, fun y => ?_⟩⟩, fun w => ⟨by omega, fun y => ⟨fun _ => next (fun _ tt => ?_), fun z => absurd rfl z⟩, fun y => ⟨fun y => absurd y (by decide), fun _ => ⟨by omega, Or.inr rfl, by omega, by omega, by omega, fun _ => ⟨by omega, ?_, ?_⟩, fun x => ?_⟩⟩⟩⟩⟩
            · have z : ePc D (rw_ hd) k = false := bI_0.mp z
              rw [z] at w; cases w
            · simp (decide := true) only [x_uc] at y; omega
            · have hE : ePc D (rw_ hd) k = true := bI_n0.mp z
              have gk : G k = -1 := by
                have := OmP_r hP k hk3
                omega
              have tk : T k = false := by rw [OmP_t hP k hk3]; exact decide_eq_false (by omega)
              rw [x_uc (by decide), e61]
              refine found hd m k _ (addT S k) (upN by_ k (rw_ hd)) rw_ hm hk3 (Bf_seen B hm sk hE (by omega)) ⟨fun b hb => ?_, fun b hb => ?_, fun i hi => ?_⟩ f2 (addT_t.mpr (Or.inr rfl)) upN_s hE tk gk
              · rw [x_uc (by decide)]
                by_cases q : b = k
                · subst q; rw [x_us, addT_t.mpr (Or.inr rfl)]; rfl
                · rw [x_uf (by omega), show addT S k b = S b by unfold addT; simp [q]]; exact bm.1 b hb
              · by_cases q : b = k
                · subst q; rw [x_us, upN_s]
                · rw [x_uf (by omega), x_uc (by decide), upN_n q]; exact bm.2.1 b hb
              · rw [x_uc (by decide), x_uc (by decide)]; exact bm.2.2 i hi
            · rw [OmP_t hP k hk3] at tt
              have := of_decide_eq_false tt
              omega
            · have hE : ePc D (rw_ hd) k = true := bI_n0.mp z
              have := hGa k hk3
              have := BfP_le (Bf_push B O hm hk3 sk hE (by omega) (fun b hb e => by have := hGa b hb; omega) inj).1 hf
              omega
            · have hE : ePc D (rw_ hd) k = true := bI_n0.mp z
              have gka := hGa k hk3
              obtain ⟨B2, O2⟩ := Bf_push B O hm hk3 sk hE (by omega) (fun b hb e => by have := hGa b hb; omega) inj
              have hm2 := BfP_le B2 hf
              rw [show am_up (am_up M2 59 (k : Int) 1) 60 (k : Int) (am_up M2 59 (k : Int) 1 61 (hd : Int)) 58 (k : Int) = G k by rw [x_uc (by decide), x_uc (by decide)]; exact e58, x_uc (by decide), e61, x_add (a := (m : Int)) (by omega), show (m : Int) + 1 = ((m + 1 : Nat) : Int) by omega]
              refine ih2 (k + 1) (m + 1) _ (addT S k) (upN by_ k (rw_ hd)) (upN rw_ m (G k)) (by omega) (by omega) B2 O2 ⟨fun b hb => ?_, fun b hb => ?_, fun i hi => ?_⟩ (fr_up f2 rfl) (fun h h1 h2 c hc e t => ?_) (fun c hc e t => ?_)
              · rw [x_uc (by decide), x_uc (by decide)]
                by_cases q : b = k
                · subst q; rw [x_us, addT_t.mpr (Or.inr rfl)]; rfl
                · rw [x_uf (by omega), show addT S k b = S b by unfold addT; simp [q]]; exact bm.1 b hb
              · rw [x_uc (by decide)]
                by_cases q : b = k
                · subst q; rw [x_us, upN_s]
                · rw [x_uf (by omega), x_uc (by decide), upN_n q]; exact bm.2.1 b hb
              · by_cases q : i = m
                · subst q; rw [x_us, upN_s]
                · rw [x_uf (by omega), x_uc (by decide), x_uc (by decide), upN_n q]; exact bm.2.2 i (by omega)
              · rw [upN_n (by omega)] at e
                exact addT_t.mpr (Or.inl (hp h h1 (by omega) c hc e t))
              · rw [upN_n (by omega)] at e
                by_cases q : c = k
                · exact addT_t.mpr (Or.inr q)
                · exact addT_t.mpr (Or.inl (hk2 c (by omega) e t))
            · simp (decide := true) only [x_uc] at x; omega
      exact inner (nPc D) 0 m M1 S by_ rw_ (by omega) (by omega) B O bm gf hp (fun c hc => absurd hc (by omega))
  have init : ∀ (j k : Nat) (M1 : AM), k + j = nPc D → fr wBf M M1 → (∀ b : Nat, b < k → M1 59 (b : Int) = 0) → aE s2_G d 100 2 [] [some (aP 0), some (aI a), some (aI f), some (aI (k : Int)), none, none, none, none] [] M1 (fun r M' => ∃ z, r = some (aI z) ∧ OmQ D M f a T G z M') := by
    intro j
    induction j with
    | zero =>
      intro k M1 hk gf hs
      refine s2_oneMore_2 (by omega) ?_
      rw [hq M1 gf]
      refine ⟨fun _ => ⟨by omega, ?_⟩, fun h => absurd h (by omega)⟩
      exact outer 16 0 1 (am_up M1 61 0 a) (fun _ => false) (fun b => M1 60 (b : Int)) (fun _ => a) (by omega) (by omega) ⟨rfl, by omega, fun h hh => ⟨hfa, han⟩, fun h k h1 h2 => absurd h1 (by omega), fun h h1 h2 => absurd h1 (by omega), fun b hb s => by cases s⟩ (fun b hb s => by cases s) ⟨fun b hb => by rw [x_uc (by decide), hs b (by omega)]; rfl, fun b hb => by rw [x_uc (by decide)], fun h hh => by rw [show h = 0 by omega]; exact x_us⟩ (fr_up gf rfl) (fun h hh => absurd hh (by omega))
    | succ j ih =>
      intro k M1 hk gf hs
      refine s2_oneMore_2 (by omega) ?_
      rw [hq M1 gf, x_add (a := (k : Int)) (by omega), show (k : Int) + 1 = ((k + 1 : Nat) : Int) by omega]
      refine ⟨fun h => absurd h (by omega), fun _ => ⟨by omega, Or.inl rfl, by omega, ih (k + 1) _ (by omega) (fr_up (fr_up gf rfl) rfl) (fun b hb => ?_)⟩⟩
      rw [x_uc (by decide)]
      by_cases q : b = k
      · subst q; rw [x_us]
      · rw [x_uf (by omega)]; exact hs b (by omega)
  exact init (nPc D) 0 M (by omega) fr_rf (fun b hb => absurd hb (by omega))
