/-! BOTH SYSTEMS AT ONE: as they begin -/
theorem m02_c {k : Nat} (h : k ≠ 0) : m02 k = fun _ => 0 := by
  funext i
  unfold m02
  rw [show Nat.beq k 0 = false from Bool.eq_false_iff.mpr (fun e => h (Nat.eq_of_beq_eq_true e))]
  rfl
theorem rl_0 : RelL m01 m02 := by
  have n0 : ∀ i : Int, i ≠ 32 → m02 0 i = 0 := fun i h => by
    show cond (decide (i = 32)) (-1 : Int) 0 = 0
    rw [decide_eq_false h]
    rfl
  have hI : Inv m02 := by
    refine ⟨by decide, ⟨by decide, by decide, ?_, ?_, ?_, ?_⟩, ⟨by decide, ?_, ?_, ?_, ?_, ?_, ?_, ?_, ?_⟩, ⟨?_, ?_, ?_, ?_, ?_⟩, ⟨by decide, ?_, ?_, ?_⟩, ⟨by decide, ?_, by decide⟩, ⟨by decide, ?_, ?_, ?_, ?_⟩, ⟨?_, ?_, ?_, ?_⟩, ⟨by decide, ?_, ?_, ?_, ?_, ?_, ?_⟩⟩
    all_goals (first | (intro i; exact ⟨show (_ : Int) ≤ (0 : Int) from (by decide), show (0 : Int) ≤ (_ : Int) from (by decide)⟩) | skip)
    all_goals (first | (intro i h0 h1; rw [n0 _ (by decide)] at h1; omega) | (intro i k h0 h1; rw [n0 _ (by decide)] at h1; omega) | skip)
    intro i
    rw [m02_c (k := 55) (by decide), m02_c (k := 56) (by decide)]
    exact Int.le_refl _
  have hB : B1 m02 m01 := by
    refine ⟨rfl, ⟨rfl, rfl, rfl, rfl, rfl, rfl⟩, ⟨rfl, rfl, rfl, rfl, rfl, rfl, rfl, rfl, ?_, ?_⟩, ⟨rfl, rfl, ?_, ?_, Or.inl rfl⟩, ⟨rfl, rfl, rfl⟩, ⟨rfl, rfl, rfl, rfl⟩, ⟨rfl, rfl, rfl, rfl⟩, ⟨rfl, rfl, rfl, rfl, rfl, rfl⟩⟩
    · intro i hi
      rw [show m02 0 7 = 0 from rfl] at hi
      exact absurd hi (by simp [srt])
    · exact Or.inl rfl
    · intro i hi
      rw [show m02 0 18 = 0 from rfl] at hi
      exact absurd hi (by simp [srt])
    · intro j h0 h1
      rw [n0 _ (by decide)] at h1
      omega
  exact ⟨hI, hB, Or.inl rfl, fun i h0 h1 => by rw [n0 _ (by decide)] at h1; omega, fun j h0 h1 => by rw [n0 _ (by decide)] at h1; omega, by decide, Or.inl rfl, Or.inl rfl, Or.inl rfl⟩
