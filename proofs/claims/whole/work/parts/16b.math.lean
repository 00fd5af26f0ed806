/-! Math.max and Math.min -/
section R12
variable {C : wX} {cc : ByteArray} {nL : Nat} {own : String} {ad : Nat → Nat} {n : Nat} {I J : mI} {R : mR} {pc : Nat} {lv : List (Nat × wV)} {st : List wV} {PX : Int → Prop}
theorem x_mmax (hC : wOK C cc nL own) {rfr rlo : Nat} (hRm : wRm C rfr rlo 0 0) {index : Nat} {x y : Int} (hV : wCS own index yJ9_max_7cf53 cJ9_max_7cf53 2 (some .int) 2) (hfr : 1 ≤ rfr) (hlo : wsum st + 13 ≤ rlo) (hz : wsum st ≤ 8) (hd : decode cc pc = .ok (.invokestatic index, 3)) (hw : wLet (if x < y then y else x) PX) (kk : ∀ z, PX z → WM C ad n I J R 0 0 (pc + 3) lv (vi z :: st)) : WM C ad n I J R 0 0 pc lv (vi y :: vi x :: st) := by
  obtain ⟨p, l, e, Rm, s, m, args, below, meth, c, Q, D, cY, A, nL', own'⟩ := C
  obtain ⟨hx, hb, hml, hown, hts, hK, hA, hlk, rfl, rfl⟩ := hC
  obtain ⟨⟨b1, b2, b3, b4⟩, b5⟩ := hV
  have hR : Rm = { frames := rfr, cells := 0, slots := 0, locals := rlo } := hRm
  intro hM hlv hst H locs ls hP hD hS hl
  have hy := (fc_c hst).1
  have hx2 := (fc_c (fc_c hst).2).1
  have hr : rg (if x < y then y else x) := by split; exact hy; exact hx2
  have h2 := kk _ hw hM hlv (fc_i hr (fc_c (fc_c hst).2).2) H locs ls hP hD hS hl
  refine va_mmax (own := own') hx hb (hml.trans hl.1.symm) hown (hts _ b1) (hts _ b5) (hts _ b2) (hts _ b3) (by rw [hR]; exact hfr) (by rw [hR, wsum_ok]; exact hlo) (Nat.zero_le _) (Nat.zero_le _) hd ?_
  have he : (if Int32.ofInt x < Int32.ofInt y then Int32.ofInt y else Int32.ofInt x) = Int32.ofInt (if x < y then y else x) := by
    by_cases h : x < y
    · rw [if_pos h, if_pos ((i32_lt hx2 hy).mpr h)]
    · rw [if_neg h, if_neg (fun q => h ((i32_lt hx2 hy).mp q))]
  rw [he]; exact h2
theorem x_mmin (hC : wOK C cc nL own) {rfr rlo : Nat} (hRm : wRm C rfr rlo 0 0) {index : Nat} {x y : Int} (hV : wCS own index yJ9_min_7cf53 cJ9_min_7cf53 2 (some .int) 2) (hfr : 1 ≤ rfr) (hlo : wsum st + 13 ≤ rlo) (hz : wsum st ≤ 8) (hd : decode cc pc = .ok (.invokestatic index, 3)) (hw : wLet (if y < x then y else x) PX) (kk : ∀ z, PX z → WM C ad n I J R 0 0 (pc + 3) lv (vi z :: st)) : WM C ad n I J R 0 0 pc lv (vi y :: vi x :: st) := by
  obtain ⟨p, l, e, Rm, s, m, args, below, meth, c, Q, D, cY, A, nL', own'⟩ := C
  obtain ⟨hx, hb, hml, hown, hts, hK, hA, hlk, rfl, rfl⟩ := hC
  obtain ⟨⟨b1, b2, b3, b4⟩, b5⟩ := hV
  have hR : Rm = { frames := rfr, cells := 0, slots := 0, locals := rlo } := hRm
  intro hM hlv hst H locs ls hP hD hS hl
  have hy := (fc_c hst).1
  have hx2 := (fc_c (fc_c hst).2).1
  have hr : rg (if y < x then y else x) := by split; exact hy; exact hx2
  have h2 := kk _ hw hM hlv (fc_i hr (fc_c (fc_c hst).2).2) H locs ls hP hD hS hl
  refine va_mmin (own := own') hx hb (hml.trans hl.1.symm) hown (hts _ b1) (hts _ b5) (hts _ b2) (hts _ b3) (by rw [hR]; exact hfr) (by rw [hR, wsum_ok]; exact hlo) (Nat.zero_le _) (Nat.zero_le _) hd ?_
  have he : (if Int32.ofInt y < Int32.ofInt x then Int32.ofInt y else Int32.ofInt x) = Int32.ofInt (if y < x then y else x) := by
    by_cases h : y < x
    · rw [if_pos h, if_pos ((i32_lt hy hx2).mpr h)]
    · rw [if_neg h, if_neg (fun q => h ((i32_lt hy hx2).mp q))]
  rw [he]; exact h2
end R12
