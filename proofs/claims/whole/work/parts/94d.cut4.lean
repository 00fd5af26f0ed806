/-! THE READERS: the whole tape cut -/
def skP (tb : Int → Int) (n p : Int) : Int := skF tb n 1601 p
def eN (tb : Int → Int) (n : Int) : Nat → Int
  | 0 => 0
  | i + 1 => tEn tb n (skP tb n (eN tb n i))
def pN (tb : Int → Int) (n : Int) (i : Nat) : Int := skP tb n (eN tb n i)
def kN1 (tb : Int → Int) (n : Int) (i : Nat) : Int := tKd tb n (pN tb n i)
/-- skipped: blanks, and then none -/
theorem skF_end {tb : Int → Int} {n : Int} : ∀ (d : Nat) (p : Int), n ≤ p + d → n ≤ skF tb n d p ∨ ¬ (tb (skF tb n d p) = 32 ∨ tb (skF tb n d p) = 10)
  | 0, p, h => Or.inl (by show n ≤ p; omega)
  | d + 1, p, h => by
    have i := skF_end (tb := tb) (n := n) d (p + 1) (by omega)
    unfold skF
    by_cases e : n ≤ p
    · rw [if_pos e]; exact Or.inl e
    · rw [if_neg e]
      by_cases e2 : tb p = 32 ∨ tb p = 10
      · rw [if_pos e2]; exact i
      · rw [if_neg e2]; exact Or.inr e2
theorem skF_bl {tb : Int → Int} {n : Int} : ∀ (d : Nat) (p j : Int), p ≤ j → j < skF tb n d p → tb j = 32 ∨ tb j = 10
  | 0, p, j, a, b => by
    have b' : j < p := b
    omega
  | d + 1, p, j, a, b => by
    unfold skF at b
    by_cases e : n ≤ p
    · rw [if_pos e] at b; omega
    · rw [if_neg e] at b
      by_cases e2 : tb p = 32 ∨ tb p = 10
      · rw [if_pos e2] at b
        by_cases ej : j = p
        · rw [ej]; exact e2
        · exact skF_bl d (p + 1) j (by omega) b
      · rw [if_neg e2] at b; omega
/-- what a token's kind says of its end -/
theorem tEn_rg {tb : Int → Int} {n p : Int} (h0 : 0 ≤ p) (hn : n ≤ 1600) (h1 : p ≤ n) : (p ≤ tEn tb n p ∧ tEn tb n p ≤ n) ∧ (tKd tb n p ≠ 0 → tKd tb n p ≠ 5 → p < tEn tb n p ∧ (tKd tb n p = 4 → tEn tb n p = p + 1 ∧ 0 ≤ sgx (tb p)) ∧ (tKd tb n p ≠ 4 → alB (tb (tEn tb n p - 1)))) := by
  have r := rnF_rg (lo := 97) (hi := 122) (tb := tb) (n := n) 1601 p
  have s := rnF_rg (lo := 48) (hi := 57) (tb := tb) (n := n) 1601 p
  have r2 := rnF_end (lo := 97) (hi := 122) (tb := tb) (n := n) 1601 p (by omega)
  have s2 := rnF_end (lo := 48) (hi := 57) (tb := tb) (n := n) 1601 p (by omega)
  have rn := r.2.2.1 h1
  have sn := s.2.2.1 h1
  unfold tKd tEn enW enD
  by_cases a : n ≤ p
  · rw [if_pos a, if_pos a]
    exact ⟨⟨by omega, by omega⟩, fun q => absurd rfl q⟩
  rw [if_neg a, if_neg a]
  by_cases b : 97 ≤ tb p ∧ tb p ≤ 122
  · rw [if_pos b, if_pos b]
    by_cases t : tch tb p
    · rw [if_pos t, if_pos t]; exact ⟨⟨by omega, by omega⟩, fun _ q => absurd rfl q⟩
    · rw [if_neg t, if_neg t]
      by_cases w : rnF 97 122 tb n 1601 p - p ≤ 6
      · rw [if_pos w, if_pos w]
        have lt : p < rnF 97 122 tb n 1601 p := by
          rcases Int.lt_or_le p (rnF 97 122 tb n 1601 p) with x | x
          · exact x
          · have e : rnF 97 122 tb n 1601 p = p := by omega
            rw [e] at r2
            rcases r2 with y | y
            · omega
            · exact absurd b y
        have wk : ∀ x, wdK x = 1 ∨ wdK x = 2 := fun x => by
          unfold wdK; split
          · exact Or.inr rfl
          · exact Or.inl rfl
        refine ⟨⟨r.1, rn⟩, fun _ _ => ⟨lt, fun q => ?_, fun _ => Or.inl (r.2.2.2 _ (by omega) (by omega))⟩⟩
        rcases wk (wd27 tb n p) with y | y <;> omega
      · rw [if_neg w, if_neg w]; exact ⟨⟨by omega, by omega⟩, fun _ q => absurd rfl q⟩
  rw [if_neg b, if_neg b]
  by_cases c : 48 ≤ tb p ∧ tb p ≤ 57
  · rw [if_pos c, if_pos c]
    by_cases t : tch tb p
    · rw [if_pos t, if_pos t]; exact ⟨⟨by omega, by omega⟩, fun _ q => absurd rfl q⟩
    · rw [if_neg t, if_neg t]
      by_cases w : rnF 48 57 tb n 1601 p - p ≤ 4
      · rw [if_pos w, if_pos w]
        have lt : p < rnF 48 57 tb n 1601 p := by
          rcases Int.lt_or_le p (rnF 48 57 tb n 1601 p) with x | x
          · exact x
          · have e : rnF 48 57 tb n 1601 p = p := by omega
            rw [e] at s2
            rcases s2 with y | y
            · omega
            · exact absurd c y
        exact ⟨⟨s.1, sn⟩, fun _ _ => ⟨lt, fun q => absurd q (by decide), fun _ => Or.inr (s.2.2.2 _ (by omega) (by omega))⟩⟩
      · rw [if_neg w, if_neg w]; exact ⟨⟨by omega, by omega⟩, fun _ q => absurd rfl q⟩
  rw [if_neg c, if_neg c]
  by_cases g : 0 ≤ sgx (tb p)
  · rw [if_pos g, if_pos g]
    exact ⟨⟨by omega, by omega⟩, fun _ _ => ⟨by omega, fun _ => ⟨rfl, g⟩, fun q => absurd rfl q⟩⟩
  · rw [if_neg g, if_neg g]; exact ⟨⟨by omega, by omega⟩, fun _ q => absurd rfl q⟩
