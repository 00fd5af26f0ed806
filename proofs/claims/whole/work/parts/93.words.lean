/-! THE READERS: the words of its own -/
def ownR (code : Int) : Nat → Int → Int → Int → Int
  | 0, _, _, _ => -1
  | d + 1, acc, k, j => if 143 ≤ j then -1 else if wch j = 32 then (if acc = code then k else ownR code d 0 (k + 1) (j + 1)) else ownR code d (acc * 27 + (wch j - 97 + 1)) k (j + 1)
/-- the words' codes: what the loop holds at each end of a word -/
def owns : Nat → Int → Int → List Int
  | 0, _, _ => []
  | d + 1, acc, j => if 143 ≤ j then [] else if wch j = 32 then acc :: owns d 0 (j + 1) else owns d (acc * 27 + (wch j - 97 + 1)) (j + 1)
def ixO (code : Int) : List Int → Int → Int
  | [], _ => -1
  | c :: l, k => if c = code then k else ixO code l (k + 1)
theorem ownR_ix (code : Int) : ∀ (d : Nat) (acc k j : Int), ownR code d acc k j = ixO code (owns d acc j) k
  | 0, _, _, _ => rfl
  | d + 1, acc, k, j => by
    unfold ownR owns
    by_cases e : 143 ≤ j
    · rw [if_pos e, if_pos e]; rfl
    · rw [if_neg e, if_neg e]
      by_cases e2 : wch j = 32
      · rw [if_pos e2, if_pos e2]
        unfold ixO
        rw [ownR_ix code d]
      · rw [if_neg e2, if_neg e2, ownR_ix code d]
def ownL : List Int := owns 144 0 0
theorem ownL_len : ownL.length = 28 := by decide +kernel
/-- bounds of what the loop holds -/
def ownB : Nat → Int → Int → Bool
  | 0, _, _ => false
  | d + 1, acc, j => if 143 ≤ j then true else decide (0 ≤ acc ∧ (wch j = 32 ∨ acc ≤ 14348907)) && (if wch j = 32 then ownB d 0 (j + 1) else ownB d (acc * 27 + (wch j - 97 + 1)) (j + 1))
theorem ownB_all : ownB 144 0 0 = true := by decide +kernel
theorem c_ownGo {code : Int} {Q : Int → Prop} : ∀ (d : Nat) (acc k j : Int), 0 ≤ j → 0 ≤ k → k ≤ j → ownB d acc j = true → Q (ownR code d acc k j) → p6_ownNumber_b6 code Q d acc k j
  | 0, _, _, _, _, _, _, h, _ => by cases h
  | d + 1, acc, k, j, h0, h1, h2, hb, hq => by
    show p6_ownNumber_b6_body code Q (p6_ownNumber_b6 code Q d) acc k j
    unfold p6_ownNumber_b6_body
    unfold ownR at hq
    unfold ownB at hb
    by_cases e : 143 ≤ j
    · rw [if_pos e] at hq
      exact zt e hq
    · rw [if_neg e] at hq hb
      rw [Bool.and_eq_true] at hb
      have ha := of_decide_eq_true hb.1
      have w := wch_rg h0 (by omega)
      refine zf e ⟨by omega, ?_⟩
      by_cases e2 : wch j = 32
      · rw [if_pos e2] at hq
        have hb2 := hb.2
        rw [if_pos e2] at hb2
        refine zt e2 (zs (fun e3 => ?_) (fun e3 => ⟨by omega, by omega,  ?_⟩))
        · rw [if_pos e3] at hq; exact hq
        · rw [if_neg e3] at hq
          exact c_ownGo d 0 (k + 1) (j + 1) (by omega) (by omega) (by omega) hb2 hq
      · rw [if_neg e2] at hq
        have hb2 := hb.2
        rw [if_neg e2] at hb2
        exact zf e2 ⟨by omega, by omega, by omega, by omega,  wLet_r ⟨by omega, c_ownGo d _ k (j + 1) (by omega) h1 (by omega) hb2 hq⟩⟩
theorem c_own {code : Int} {Q : Int → Prop} (hq : Q (ixO code ownL 0)) : p6_ownNumber code Q := by
  unfold p6_ownNumber
  refine ⟨144, c_ownGo 144 0 0 0 (by decide) (by decide) (by decide) ownB_all ?_⟩
  rw [ownR_ix]; exact hq
theorem ixO_rg (code : Int) : ∀ (l : List Int) (k : Int), 0 ≤ k → ixO code l k = -1 ∨ (k ≤ ixO code l k ∧ ixO code l k < k + l.length ∧ l.getD (ixO code l k - k).toNat 0 = code)
  | [], k, _ => Or.inl rfl
  | c :: l, k, hk => by
    unfold ixO
    by_cases e : c = code
    · rw [if_pos e]
      refine Or.inr ⟨Int.le_refl k, by rw [List.length_cons]; omega, ?_⟩
      rw [show (k - k).toNat = 0 by omega]; exact e
    · rw [if_neg e]
      rcases ixO_rg code l (k + 1) (by omega) with h | ⟨h1, h2, h3⟩
      · exact Or.inl h
      · refine Or.inr ⟨by omega, by rw [List.length_cons]; omega, ?_⟩
        rw [show (ixO code l (k + 1) - k).toNat = (ixO code l (k + 1) - (k + 1)).toNat + 1 by omega]
        exact h3
