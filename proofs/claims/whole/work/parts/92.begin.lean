/-! The invariant where the law begins -/
theorem b_cnt : sI 124 0 = 0 ∧ sI 124 1 = 0 ∧ sI 124 2 = 0 := by decide +kernel
theorem b_five : ∀ t : Nat, t < 6 → sI 128 (t : Int) = -1 := by decide +kernel
theorem b_seven : ∀ t : Nat, t < 3 → sI 131 (t : Int) ≤ sI 130 (t : Int) ∧ sI 173 (t : Int) = -1 := by decide +kernel
theorem b_ref : ∀ t : Nat, t < 6 → sI 122 (t : Int) = 0 ∧ sI 184 (t : Int) = 0 := by decide +kernel
theorem b_mood : ∀ t : Nat, t < 6 → (0 ≤ sI 9 (t : Int) ∧ sI 9 (t : Int) ≤ 9) ∧ sI 10 (t : Int) = -1 := by decide +kernel
theorem b_ld : (0 ≤ sI 123 9 ∧ sI 123 9 < 64) ∧ (0 ≤ sI 123 10 ∧ sI 123 10 ≤ 999) ∧ (0 ≤ sI 123 11 ∧ sI 123 11 ≤ 100) := by decide +kernel
theorem b_m : sI 159 13 = 0 ∧ sI 161 0 = sI 124 0 ∧ sI 164 0 = sI 124 1 ∧ sI 167 0 = sI 124 2 ∧ sI 163 0 = sI 123 9 ∧ sI 171 0 = sI 123 10 ∧ sI 172 0 = sI 123 11 := by decide +kernel
theorem b_s : sI 185 0 = sI 7 0 ∧ sI 186 0 = sI 7 1 ∧ sI 190 0 = sI 7 2 ∧ sI 7 2 = 0 := by decide +kernel
theorem b_s2 : (0 ≤ sI 7 0 ∧ sI 7 0 ≤ 999) ∧ (0 ≤ sI 7 1 ∧ sI 7 1 ≤ 9999) ∧ (0 ≤ sI 7 2 ∧ sI 7 2 ≤ 40) := by decide +kernel
theorem b_r : (sI 159 1 = sI 2 1 ∧ sI 2 1 = 0) ∧ (sI 1 14 = sI 159 10 ∧ sI 1 15 = sI 159 11) ∧ (sI 1 16 = sJ 159 54 ∧ 0 ≤ sI 1 16 ∧ sI 1 16 < 2147483648) := by decide +kernel
theorem b_p : (0 ≤ sI 17 1 ∧ sI 17 1 < 20) ∧ sI 17 2 = sI 159 53 ∧ sI 17 2 = 0 ∧ (0 ≤ sI 159 52 ∧ sI 159 52 < 20) := by decide +kernel
theorem b_q : (sI 119 1 = sI 159 68 ∧ sI 119 1 = 0) ∧ sI 151 5 = sI 159 62 ∧ sI 151 5 = 0 := by decide +kernel
theorem natOf {n : Nat} {P : Int → Prop} (h : ∀ t : Nat, t < n → P (t : Int)) : ∀ k : Int, 0 ≤ k → k < n → P k := fun k a b => by
  have x := h k.toNat (by omega)
  rw [show ((k.toNat : Nat) : Int) = k by omega] at x
  exact x
theorem inv0 : Inv 0 sI sJ sR := by
  obtain ⟨c0, c1, c2⟩ := b_cnt
  refine ⟨123, 132, 0, fun i => sI (123 + i), fun _ => [], fun i => sI (7 + i), fun _ => sI, ⟨⟨by decide +kernel, by decide +kernel, Or.inl ⟨rfl, rfl⟩⟩, ⟨rfl, rfl, rfl, rfl, rfl, rfl, rfl, rfl, rfl⟩, ?_, ?_, ?_, ?_, ?_, ?_, by decide +kernel⟩, ⟨⟨rfl, rfl, rfl, fun k _ _ => ⟨rfl, rfl, rfl⟩, fun k _ _ => rfl⟩, ?_, ?_⟩, ?_⟩
  · refine ⟨?_, fun kd w j a b c d e f => ?_, fun w a b => ?_, b_ld.1, b_ld.2.1, b_ld.2.2, fun t a b => ?_, fun t a b => ?_⟩
    · show (0 ≤ sI 124 0 ∧ sI 124 0 ≤ 6) ∧ (0 ≤ sI 124 1 ∧ sI 124 1 ≤ 6) ∧ (0 ≤ sI 124 2 ∧ sI 124 2 ≤ 6)
      omega
    · have d' : w < sI 124 kd := d
      have : kd = 0 ∨ kd = 1 ∨ kd = 2 := by omega
      rcases this with rfl | rfl | rfl <;> omega
    · have b' : w < sI 124 1 := b
      omega
    · have b' : t < sI 124 2 := b
      omega
    · show -1 ≤ sI 128 t ∧ sI 128 t < sI 124 1
      have x := natOf (P := fun k => sI 128 k = -1) b_five t a b
      have x' : sI 128 t = -1 := x
      omega
  · exact fun w a b => ⟨Or.inl ⟨rfl, (natOf (P := fun k => sI 131 k ≤ sI 130 k ∧ sI 173 k = -1) b_seven w a b).1⟩, fun e => absurd rfl e⟩
  · obtain ⟨m0, m1, m2, m3, m4, m5, m6⟩ := b_m
    refine ⟨m0, Or.inl rfl, m1, m2, m3, fun w j a b => ?_, fun w j a b => ?_, fun w j a b => ?_, fun w a b => ?_, m4, fun w a b => ?_, m5, m6, fun w a b => Or.inl ⟨rfl, ?_⟩⟩
    · have b' : w < sI 124 0 := b
      omega
    · have b' : w < sI 124 1 := b
      omega
    · have b' : w < sI 124 2 := b
      omega
    · have b' : w < sI 124 1 := b
      omega
    · have b' : w < sI 124 2 := b
      omega
    · rw [show 3 * (0 : Int) + w = w by omega]
      exact (natOf (P := fun k => sI 131 k ≤ sI 130 k ∧ sI 173 k = -1) b_seven w a b).2
  · intro x y a b
    have b' : x < sI 124 2 := b
    omega
  · intro kd w a b c d
    have d' : w < sI 124 kd := d
    have : kd = 0 ∨ kd = 1 ∨ kd = 2 := by omega
    rcases this with rfl | rfl | rfl <;> omega
  · intro x a b
    have b' : x < sI 124 0 := b
    omega
  · obtain ⟨s0, s1, s2, s3⟩ := b_s
    refine ⟨s0, s1, s2, fun k a b => ?_, fun k a b => ?_⟩
    · have b' : k < 6 ∧ (k < sI 124 0 ∨ k < sI 124 2) := b
      omega
    · have b' : k < 3 * sI 7 2 := b
      omega
  · refine ⟨b_s2.1, b_s2.2.1, b_s2.2.2, fun k a b => ?_, fun k l a b => ?_, fun k a b => ?_, fun k a b => ?_⟩
    · have b' : k < sI 124 0 := b
      omega
    · have b' : k < sI 124 0 := b
      omega
    · exact (natOf (P := fun k => (0 ≤ sI 9 k ∧ sI 9 k ≤ 9) ∧ sI 10 k = -1) b_mood k a b).1
    · show -1 ≤ sI 10 k ∧ sI 10 k < sI 124 1
      have x' : sI 10 k = -1 := (natOf (P := fun k => (0 ≤ sI 9 k ∧ sI 9 k ≤ 9) ∧ sI 10 k = -1) b_mood k a b).2
      omega
  · obtain ⟨⟨r1, r2⟩, r3, r4⟩ := b_r
    obtain ⟨p1, p2, p3, p4⟩ := b_p
    obtain ⟨⟨q1, q2⟩, q3, q4⟩ := b_q
    refine ⟨⟨r1, by omega, by omega, fun k a b => by omega⟩, fun k a b => ?_, r3, r4, ⟨p1, p2, by omega, p4, fun j a b => by omega⟩, ⟨q1, by omega, by omega, fun k a b => by omega⟩, ⟨q3, by omega, by omega, fun k a b => by omega⟩⟩
    have x := natOf (P := fun k => sI 122 k = 0 ∧ sI 184 k = 0) b_ref k a b
    have x1 : sI 122 k = 0 := x.1
    have x2 : sI 184 k = 0 := x.2
    omega
