theorem wLet_r {α : Type} {e : α} {P : α → Prop} (h : P e) : wLet e P := h
/-! SUMS: what the steps of a formula do -/
def wiF (x : Int) : Int := if x ≤ 1000000 then (if -1000000 ≤ x then x else -1000000) else 1000000
theorem wiF_rg (x : Int) : -1000000 ≤ wiF x ∧ wiF x ≤ 1000000 := by
  unfold wiF
  by_cases h : x ≤ 1000000
  · rw [if_pos h]
    by_cases h2 : -1000000 ≤ x
    · rw [if_pos h2]; omega
    · rw [if_neg h2]; omega
  · rw [if_neg h]; omega
theorem wiF_id {x : Int} (h1 : -1000000 ≤ x) (h2 : x ≤ 1000000) : wiF x = x := by unfold wiF; rw [if_pos h2, if_pos h1]
theorem within_m {x : Int} {Q : Int → Prop} (h : Q (wiF x)) : p12_within x Q := by
  unfold p12_within; unfold wiF at h
  by_cases h1 : x ≤ 1000000
  · rw [if_pos h1] at h ⊢
    by_cases h2 : (-1000000 : Int) ≤ x
    · rw [if_pos h2] at h ⊢; exact h
    · rw [if_neg h2] at h ⊢; exact h
  · rw [if_neg h1] at h ⊢; exact h
theorem within_c {x : Int} {Q : Int → Prop} (h : Q (wiF x)) : p8_within x Q := by
  unfold p8_within; unfold wiF at h
  by_cases h1 : x ≤ 1000000
  · rw [if_pos h1] at h ⊢
    by_cases h2 : (-1000000 : Int) ≤ x
    · rw [if_pos h2] at h ⊢; exact h
    · rw [if_neg h2] at h ⊢; exact h
  · rw [if_neg h1] at h ⊢; exact h
theorem mul_m6 {a b : Int} (ha : -1000000 ≤ a ∧ a ≤ 1000000) (hb : -1000000 ≤ b ∧ b ≤ 1000000) : -1000000000000 ≤ a * b ∧ a * b ≤ 1000000000000 := by
  have h1 := Int.mul_nonneg (show 0 ≤ 1000000 - a by omega) (show 0 ≤ 1000000 - b by omega)
  have h2 := Int.mul_nonneg (show 0 ≤ a + 1000000 by omega) (show 0 ≤ 1000000 - b by omega)
  have h3 := Int.mul_nonneg (show 0 ≤ a + 1000000 by omega) (show 0 ≤ b + 1000000 by omega)
  have h4 := Int.mul_nonneg (show 0 ≤ 1000000 - a by omega) (show 0 ≤ b + 1000000 by omega)
  rw [Int.mul_sub, Int.sub_mul, Int.sub_mul] at h1
  rw [Int.mul_sub, Int.add_mul, Int.add_mul] at h2
  rw [Int.mul_add, Int.add_mul, Int.add_mul] at h3
  rw [Int.mul_add, Int.sub_mul, Int.sub_mul] at h4
  omega
/-- the quotient rounded down -/
def floF (a b : Int) : Int := if b = 0 then 0 else if a.tmod b = 0 then a.tdiv b else if (0 ≤ a ↔ 0 ≤ b) then a.tdiv b else a.tdiv b - 1
theorem td_rg {a b : Int} (ha : -1000000 ≤ a ∧ a ≤ 1000000) : -1000000 ≤ a.tdiv b ∧ a.tdiv b ≤ 1000000 := by
  have h1 : (a.tdiv b).natAbs ≤ a.natAbs := by rw [Int.natAbs_tdiv]; exact Nat.div_le_self _ _
  omega
theorem tm_eq (a b : Int) : a.tmod b = a - b * a.tdiv b := by have := Int.mul_tdiv_add_tmod a b; omega
theorem tm_rg {a b : Int} (hb : b ≠ 0) : (a.tmod b).natAbs < b.natAbs := by rw [Int.natAbs_tmod]; exact Nat.mod_lt _ (by omega)
theorem floor_m {a b : Int} {Q : Int → Prop} (ha : -1000000 ≤ a ∧ a ≤ 1000000) (h : Q (floF a b)) : p12_floor a b Q := by
  have hr := td_rg (b := b) ha
  unfold p12_floor; unfold floF at h
  by_cases hb : b = 0
  · rw [if_pos hb] at h ⊢; exact h
  · rw [if_neg hb] at h ⊢
    refine ⟨⟨hb, by omega⟩, hb, ?_⟩
    by_cases hm : a.tmod b = 0
    · rw [if_pos hm] at h ⊢; exact h
    · rw [if_neg hm] at h ⊢
      unfold p12_floor_b32 p12_floor_b43
      by_cases h0 : 0 ≤ a <;> by_cases h1 : 0 ≤ b
      · rw [if_pos h0, if_pos h1, if_pos rfl]; rw [if_pos ⟨fun _ => h1, fun _ => h0⟩] at h; exact h
      · rw [if_pos h0, if_neg h1, if_neg (by decide)]; rw [if_neg (fun q => h1 (q.mp h0))] at h; exact ⟨by omega, h⟩
      · rw [if_neg h0, if_pos h1, if_neg (by decide)]; rw [if_neg (fun q => h0 (q.mpr h1))] at h; exact ⟨by omega, h⟩
      · rw [if_neg h0, if_neg h1, if_pos rfl]; rw [if_pos ⟨fun q => absurd q h0, fun q => absurd q h1⟩] at h; exact h
theorem tm_small {x b : Int} (h : x.natAbs < b.natAbs) : x.tmod b = x := by
  have h1 : (x.tdiv b).natAbs = 0 := by rw [Int.natAbs_tdiv]; exact Nat.div_eq_of_lt h
  rw [tm_eq, Int.natAbs_eq_zero.mp h1]; omega
theorem tm_sign {a b : Int} (hm : a.tmod b ≠ 0) : (0 ≤ a → 0 ≤ a.tmod b) ∧ (a < 0 → a.tmod b ≤ 0) := by
  refine ⟨fun h => Int.tmod_nonneg _ h, fun h => ?_⟩
  have h2 := Int.tmod_nonneg b (show 0 ≤ -a by omega)
  rw [Int.neg_tmod] at h2
  omega
theorem add_tm {r b : Int} (h0 : 0 ≤ r) (h1 : r < b) : (r + b).tmod b = r := by
  rw [Int.tmod_eq_emod_of_nonneg (by omega), Int.add_emod_right, Int.emod_eq_of_lt h0 h1]
/-- the class's remainder, never beyond the divisor's side -/
theorem rest_eq {a b : Int} (hb : b ≠ 0) : (a.tmod b + b).tmod b = a - b * floF a b := by
  have hr := tm_rg (a := a) hb
  have he := tm_eq a b
  unfold floF
  rw [if_neg hb]
  by_cases hm : a.tmod b = 0
  · rw [if_pos hm, hm, Int.zero_add, Int.tmod_self]; omega
  · rw [if_neg hm]
    obtain ⟨s1, s2⟩ := tm_sign hm
    by_cases h0 : 0 ≤ a <;> by_cases h1 : 0 ≤ b
    · rw [if_pos ⟨fun _ => h1, fun _ => h0⟩, ← he]
      exact add_tm (s1 h0) (by have := s1 h0; omega)
    · rw [if_neg (fun q => h1 (q.mp h0)), Int.mul_sub, tm_small (by have := s1 h0; omega)]; omega
    · rw [if_neg (fun q => h0 (q.mpr h1)), Int.mul_sub, tm_small (by have := s2 (by omega); omega)]; omega
    · rw [if_pos ⟨fun q => absurd q h0, fun q => absurd q h1⟩, ← he]
      have h3 := s2 (by omega)
      have h4 := add_tm (r := -(a.tmod b)) (b := -b) (by omega) (by omega)
      rw [Int.tmod_neg, ← Int.neg_add, Int.neg_tmod] at h4
      omega
theorem floF_rg {a b : Int} (ha : -1000000 ≤ a ∧ a ≤ 1000000) : -1000001 ≤ floF a b ∧ floF a b ≤ 1000000 := by
  have hr := td_rg (b := b) ha
  unfold floF
  by_cases hb : b = 0
  · rw [if_pos hb]; omega
  · rw [if_neg hb]
    by_cases hm : a.tmod b = 0
    · rw [if_pos hm]; omega
    · rw [if_neg hm]
      by_cases h : (0 ≤ a ↔ 0 ≤ b)
      · rw [if_pos h]; omega
      · rw [if_neg h]; omega
theorem over_eq {a b : Int} (hb : b ≠ 0) : (a - (a.tmod b + b).tmod b).tdiv b = floF a b := by
  rw [rest_eq hb, show a - (a - b * floF a b) = b * floF a b by omega, Int.mul_tdiv_cancel_left _ hb]
/-- a step of two: the model's number of it -/
def opF (s a b : Int) : Int := if s = 31 then wiF (a + b) else if s = 32 then wiF (a - b) else if s = 33 then wiF (a * b) else if s = 34 then wiF (floF a b) else if s = 35 then (if b = 0 then 0 else wiF (a - b * floF a b)) else if s = 36 then (if b ≤ a then b else a) else if s = 37 then (if a ≤ b then b else a) else if s = 38 then (if b ≤ a then 0 else 1) else if s = 39 then (if a ≤ b then 0 else 1) else if s = 40 then (if a = b then 1 else 0) else if s = 41 then lAnd a b else lOr a b
abbrev vIn (x : Int) : Prop := -1000000 ≤ x ∧ x ≤ 1000000
abbrev vT01 (x : Int) : Prop := x = 0 ∨ x = 1
theorem and_01 {a b : Int} (ha : vT01 a) (hb : vT01 b) : vT01 (lAnd a b) := by
  rcases ha with rfl | rfl <;> rcases hb with rfl | rfl <;> decide
theorem or_01 {a b : Int} (ha : vT01 a) (hb : vT01 b) : vT01 (lOr a b) := by
  rcases ha with rfl | rfl <;> rcases hb with rfl | rfl <;> decide
theorem rest_rg {a b : Int} (hb : b ≠ 0) (h : vIn b) : vIn (a - b * floF a b) := by
  rw [← rest_eq hb]
  have := tm_rg (a := a.tmod b + b) hb
  omega
theorem opF_I {s a b : Int} (h : s ≤ 37) (h2 : 31 ≤ s) (ha : vIn a) (hb : vIn b) : vIn (opF s a b) := by
  unfold opF
  repeat' split
  all_goals first | exact wiF_rg _ | omega
theorem opF_T {s a b : Int} (h : 38 ≤ s) (ha : s ≤ 40 ∨ vT01 a ∧ vT01 b) : vT01 (opF s a b) := by
  unfold opF
  repeat' split
  all_goals first | omega | exact Or.inl rfl | exact Or.inr rfl | exact and_01 (ha.resolve_left (by omega)).1 (ha.resolve_left (by omega)).2 | exact or_01 (ha.resolve_left (by omega)).1 (ha.resolve_left (by omega)).2
theorem two_m {s a b : Int} {Q : Int → Prop} (h1 : 31 ≤ s) (ha : vIn a) (hb : vIn b) (h : Q (opF s a b)) : p12_two s a b Q := by
  have hm := mul_m6 ha hb
  unfold p12_two; unfold opF at h
  by_cases e : s = 31
  · rw [if_pos e] at h ⊢; exact ⟨by omega, within_m h⟩
  rw [if_neg e] at h ⊢; clear e
  by_cases e : s = 32
  · rw [if_pos e] at h ⊢; exact ⟨by omega, within_m h⟩
  rw [if_neg e] at h ⊢; clear e
  by_cases e : s = 33
  · rw [if_pos e] at h ⊢; exact ⟨by omega, within_m h⟩
  rw [if_neg e] at h ⊢; clear e
  by_cases e : s = 34
  · rw [if_pos e] at h ⊢; exact floor_m ha (within_m h)
  rw [if_neg e] at h ⊢; clear e
  by_cases e : s = 35
  · rw [if_pos e] at h ⊢
    by_cases hz : b = 0
    · rw [if_pos hz] at h ⊢; exact h
    · rw [if_neg hz] at h ⊢
      have hr := rest_rg (a := a) hz hb
      exact floor_m ha ⟨by omega, by omega, within_m h⟩
  rw [if_neg e] at h ⊢; clear e
  by_cases e : s = 36
  · rw [if_pos e] at h ⊢
    by_cases hz : b ≤ a
    · rw [if_pos hz] at h ⊢; exact h
    · rw [if_neg hz] at h ⊢; exact h
  rw [if_neg e] at h ⊢; clear e
  by_cases e : s = 37
  · rw [if_pos e] at h ⊢
    by_cases hz : a ≤ b
    · rw [if_pos hz] at h ⊢; exact h
    · rw [if_neg hz] at h ⊢; exact h
  rw [if_neg e] at h ⊢; clear e
  by_cases e : s = 38
  · rw [if_pos e] at h ⊢
    by_cases hz : b ≤ a
    · rw [if_pos hz] at h ⊢; exact h
    · rw [if_neg hz] at h ⊢; exact h
  rw [if_neg e] at h ⊢; clear e
  by_cases e : s = 39
  · rw [if_pos e] at h ⊢
    by_cases hz : a ≤ b
    · rw [if_pos hz] at h ⊢; exact h
    · rw [if_neg hz] at h ⊢; exact h
  rw [if_neg e] at h ⊢; clear e
  by_cases e : s = 40
  · rw [if_pos e] at h ⊢
    by_cases hz : a = b
    · rw [if_pos hz] at h ⊢; exact h
    · rw [if_neg hz] at h ⊢; exact h
  rw [if_neg e] at h ⊢; clear e
  by_cases e : s = 41
  · rw [if_pos e] at h ⊢; exact h
  · rw [if_neg e] at h ⊢; exact h
theorem join_c {s a b : Int} {Q : Int → Prop} (h1 : 31 ≤ s) (h2 : s ≤ 42) (ha : vIn a) (hb : vIn b) (ht : 41 ≤ s → vT01 a ∧ vT01 b) (h : Q (opF s a b)) : p8_join (21 - s) a b (fun r2 => p8_within r2 (fun r3 => Q r3)) := by
  have hm := mul_m6 ha hb
  have hc : s = 31 ∨ s = 32 ∨ s = 33 ∨ s = 34 ∨ s = 35 ∨ s = 36 ∨ s = 37 ∨ s = 38 ∨ s = 39 ∨ s = 40 ∨ s = 41 ∨ s = 42 := by omega
  rcases hc with rfl | rfl | rfl | rfl | rfl | rfl | rfl | rfl | rfl | rfl | rfl | rfl
  · have h' : Q (wiF (a + b)) := h
    show rl (a + b) ∧ p8_within (a + b) (fun r3 => Q r3)
    exact ⟨by omega, within_c h'⟩
  · have h' : Q (wiF (a - b)) := h
    show rl (a - b) ∧ p8_within (a - b) (fun r3 => Q r3)
    exact ⟨by omega, within_c h'⟩
  · have h' : Q (wiF (a * b)) := h
    show rl (a * b) ∧ p8_within (a * b) (fun r3 => Q r3)
    exact ⟨by omega, within_c h'⟩
  · have h' : Q (wiF (floF a b)) := h
    show (if b = 0 then p8_within 0 (fun r3 => Q r3) else _)
    by_cases hz : b = 0
    · rw [if_pos hz]
      have e : floF a b = 0 := by unfold floF; rw [if_pos hz]
      rw [e] at h'; exact within_c h'
    · rw [if_neg hz]
      have r1 := tm_rg (a := a) hz
      have r2 := rest_rg (a := a) hz hb
      have r3 := floF_rg (b := b) ha
      rw [← rest_eq hz] at r2
      refine ⟨hz, by omega, hz, by omega, ⟨hz, ?_⟩, ?_⟩
      · rw [over_eq hz]; omega
      · rw [over_eq hz]; exact within_c h'
  · have h' : Q (if b = 0 then 0 else wiF (a - b * floF a b)) := h
    show (if b = 0 then p8_within 0 (fun r3 => Q r3) else _)
    by_cases hz : b = 0
    · rw [if_pos hz] at h' ⊢; exact within_c h'
    · rw [if_neg hz] at h' ⊢
      have r1 := tm_rg (a := a) hz
      refine ⟨hz, by omega, hz, ?_⟩
      rw [rest_eq hz]; exact within_c h'
  · have h' : Q (if b ≤ a then b else a) := h
    show (if b ≤ a then p8_within b (fun r3 => Q r3) else p8_within a (fun r3 => Q r3))
    by_cases hz : b ≤ a
    · rw [if_pos hz] at h' ⊢; exact within_c (by rw [wiF_id hb.1 hb.2]; exact h')
    · rw [if_neg hz] at h' ⊢; exact within_c (by rw [wiF_id ha.1 ha.2]; exact h')
  · have h' : Q (if a ≤ b then b else a) := h
    show (if a ≤ b then p8_within b (fun r3 => Q r3) else p8_within a (fun r3 => Q r3))
    by_cases hz : a ≤ b
    · rw [if_pos hz] at h' ⊢; exact within_c (by rw [wiF_id hb.1 hb.2]; exact h')
    · rw [if_neg hz] at h' ⊢; exact within_c (by rw [wiF_id ha.1 ha.2]; exact h')
  · have h' : Q (if b ≤ a then 0 else 1) := h
    show (if b ≤ a then p8_within 0 (fun r3 => Q r3) else p8_within 1 (fun r3 => Q r3))
    by_cases hz : b ≤ a
    · rw [if_pos hz] at h' ⊢; exact within_c h'
    · rw [if_neg hz] at h' ⊢; exact within_c h'
  · have h' : Q (if a ≤ b then 0 else 1) := h
    show (if a ≤ b then p8_within 0 (fun r3 => Q r3) else p8_within 1 (fun r3 => Q r3))
    by_cases hz : a ≤ b
    · rw [if_pos hz] at h' ⊢; exact within_c h'
    · rw [if_neg hz] at h' ⊢; exact within_c h'
  · have h' : Q (if a = b then 1 else 0) := h
    show (if a = b then p8_within 1 (fun r3 => Q r3) else p8_within 0 (fun r3 => Q r3))
    by_cases hz : a = b
    · rw [if_pos hz] at h' ⊢; exact within_c h'
    · rw [if_neg hz] at h' ⊢; exact within_c h'
  · have h' : Q (lAnd a b) := h
    show p8_within (lAnd a b) (fun r3 => Q r3)
    have h3 := and_01 (ht (by decide)).1 (ht (by decide)).2
    exact within_c (by rw [wiF_id (by omega) (by omega)]; exact h')
  · have h' : Q (lOr a b) := h
    show p8_within (lOr a b) (fun r3 => Q r3)
    have h3 := or_01 (ht (by decide)).1 (ht (by decide)).2
    exact within_c (by rw [wiF_id (by omega) (by omega)]; exact h')
