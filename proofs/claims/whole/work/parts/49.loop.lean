/-! The law's loop from an invariant over the calls -/
theorem plaw_end {L : Nat} {X : Int → Int} {k : Int → mI → mI → mR → Prop} {i : Int} {I J : mI} {R : mR} (hL : L ≤ 3072) (h : (L : Int) - 6 < i) : plaw_body L X k i I J R := by
  unfold plaw_body
  rw [if_pos h]
  exact ⟨by omega, trivial⟩
theorem plaw_run {L : Nat} {X : Int → Int} {Inv : Nat → mI → mI → mR → Prop} (hL : L ≤ 3072)
    (hcase : ∀ (t : Nat) (i : Int) (I J : mI) (R : mR) (k : Int → mI → mI → mR → Prop), Inv t I J R → t < 600 → 0 ≤ i → i ≤ (L : Int) - 6 → (∀ (I' J' : mI) (R' : mR), Inv (t + 1) I' J' R' → k (i + 6) I' J' R') → plaw_body L X k i I J R) :
    ∀ (f t : Nat) (i : Int) (I J : mI) (R : mR), Inv t I J R → t + f ≤ 599 → 0 ≤ i → (L : Int) - i ≤ 6 * (f : Int) + 5 → plaw L X (f + 1) i I J R := by
  intro f
  induction f with
  | zero => intro t i I J R hI ht h0 hl; exact plaw_end hL (by omega)
  | succ f ih =>
    intro t i I J R hI ht h0 hl
    by_cases h : (L : Int) - 6 < i
    · exact plaw_end hL h
    · exact hcase t i I J R (plaw L X (f + 1)) hI (by omega) h0 (by omega) (fun I' J' R' hI' => ih (t + 1) (i + 6) I' J' R' hI' (by omega) (by omega) (by omega))
theorem pstart_inv {L : Nat} {X : Int → Int} {Inv : Nat → mI → mI → mR → Prop} (hL : L ≤ 3072) (h0 : Inv 0 sI sJ sR)
    (hcase : ∀ (t : Nat) (i : Int) (I J : mI) (R : mR) (k : Int → mI → mI → mR → Prop), Inv t I J R → t < 600 → 0 ≤ i → i ≤ (L : Int) - 6 → (∀ (I' J' : mI) (R' : mR), Inv (t + 1) I' J' R' → k (i + 6) I' J' R') → plaw_body L X k i I J R) : PStart L X :=
  pstart_of ⟨rf_sR, 513, plaw_run hL hcase 512 0 0 sI sJ sR h0 (by omega) (by omega) (by omega)⟩
