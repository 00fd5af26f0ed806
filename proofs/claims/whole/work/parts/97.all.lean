/-! The law's run, from the 35 cases -/
theorem plaw_all {L t : Nat} {X : Int → Int} {i : Int} {I J : mI} {R : mR} {k : Int → mI → mI → mR → Prop} (h2 : ∀ {K : mI → mI → mR → Prop}, LaH L t X i I J R K → plaw_2 L X i I J R K) (hL : L ≤ 3072) (hX : ∀ x, rg (X x)) (hI : Inv t I J R) (ht : t < 600) (h0 : 0 ≤ i) (h1 : i ≤ (L : Int) - 6) (hk : ∀ (I' J' : mI) (R' : mR), Inv (t + 1) I' J' R' → k (i + 6) I' J' R') : plaw_body L X k i I J R := by
  have H : LaH L t X i I J R (fun I' J' R' => rg (i + 6) ∧ k (i + 6) I' J' R') := ⟨hL, hX, h0, h1, ht, hI, fun I' J' R' h => ⟨by omega, hk I' J' R' h⟩⟩
  unfold plaw_body
  refine ⟨by omega, zf (by omega) ⟨by omega, ?_⟩⟩
  refine zs (fun _ => la_0 H) (fun _ => ?_)
  refine zs (fun _ => la_1 H) (fun _ => ?_)
  refine zs (fun _ => h2 H) (fun _ => ?_)
  refine zs (fun _ => la_3 H) (fun _ => ?_)
  refine zs (fun _ => la_4 H) (fun _ => ?_)
  refine zs (fun _ => la_5 H) (fun _ => ?_)
  refine zs (fun _ => la_6 H) (fun _ => ?_)
  refine zs (fun _ => la_7 H) (fun _ => ?_)
  refine zs (fun _ => la_8 H) (fun _ => ?_)
  refine zs (fun _ => la_9 H) (fun _ => ?_)
  refine zs (fun _ => la_10 H) (fun _ => ?_)
  refine zs (fun _ => la_11 H) (fun _ => ?_)
  refine zs (fun _ => la_12 H) (fun _ => ?_)
  refine zs (fun _ => la_13 H) (fun _ => ?_)
  refine zs (fun _ => la_14 H) (fun _ => ?_)
  refine zs (fun _ => la_15 H) (fun _ => ?_)
  refine zs (fun _ => la_16 H) (fun _ => ?_)
  refine zs (fun _ => la_17 H) (fun _ => ?_)
  refine zs (fun _ => la_18 H) (fun _ => ?_)
  refine zs (fun _ => la_19 H) (fun _ => ?_)
  refine zs (fun _ => la_20 H) (fun _ => ?_)
  refine zs (fun _ => la_21 H) (fun _ => ?_)
  refine zs (fun _ => la_22 H) (fun _ => ?_)
  refine zs (fun _ => la_23 H) (fun _ => ?_)
  refine zs (fun _ => la_24 H) (fun _ => ?_)
  refine zs (fun _ => la_25 H) (fun _ => ?_)
  refine zs (fun _ => la_26 H) (fun _ => ?_)
  refine zs (fun _ => la_27 H) (fun _ => ?_)
  refine zs (fun _ => la_28 H) (fun _ => ?_)
  refine zs (fun _ => la_29 H) (fun _ => ?_)
  refine zs (fun _ => la_30 H) (fun _ => ?_)
  refine zs (fun _ => la_31 H) (fun _ => ?_)
  refine zs (fun _ => la_32 H) (fun _ => ?_)
  refine zs (fun _ => la_33 H) (fun _ => ?_)
  refine zs (fun _ => la_34 H) (fun _ => ?_)
  exact (H.2.2.2.2.2.2 I J R (inv_q hI (qf_r I) ⟨rfl, rfl⟩ (rfr_r R)))
theorem pstart_all (h2 : ∀ {L t : Nat} {X : Int → Int} {i : Int} {I J : mI} {R : mR} {K : mI → mI → mR → Prop}, LaH L t X i I J R K → plaw_2 L X i I J R K) {L : Nat} {X : Int → Int} (hL : L ≤ 3072) (hX : ∀ x, rg (X x)) : PStart L X :=
  pstart_inv (Inv := Inv) hL inv0 (fun _ _ _ _ _ _ hI ht h0 h1 hk => plaw_all h2 hL hX hI ht h0 h1 hk)
theorem scrX_rg (xs : Nat → Int32) (x : Int) : rg (scrX xs x) := by
  unfold scrX
  have a := Int32.le_toInt (xs x.toNat)
  have b := Int32.toInt_lt (xs x.toNat)
  omega
