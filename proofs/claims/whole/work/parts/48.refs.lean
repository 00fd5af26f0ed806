/-! The references as made -/
theorem rf_sR : RF sR := by
  refine ⟨by decide +kernel, fun a ha => ?_, fun a ha => ?_, fun x h0 h1 => ?_⟩
  · exact st_all (P := fun a => sR a 3 = a + 1 ∧ sR a 4 = a + 2 ∧ sR a 5 = a + 3 ∧ sR a 6 = a + 4) (by decide +kernel) (by decide +kernel) (by decide +kernel) (by decide +kernel) ha
  · rcases ha with rfl | rfl
    · decide +kernel
    · decide +kernel
  · have h2 : ∀ i, i < 20 → sR 18 ((i : Nat) : Int) = 19 + 5 * i := by decide +kernel
    have h3 := h2 x.toNat (by omega)
    rw [show ((x.toNat : Nat) : Int) = x by omega] at h3
    exact h3
