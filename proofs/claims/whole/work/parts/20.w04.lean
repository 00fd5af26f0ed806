abbrev RTrd2 : Type := Nat → Int → mI → mR → (mI → Prop) → Prop
def p6_readTest_b6_body (rc : RTrd2) (R : mR) (Q : mI → Prop) (k6 : Int → mI → Prop) (l1 : Int) (I : mI) : Prop := (if (1600 : Int) ≤ l1 then (Q I) else (p6_isOwn 22 I (fun r1 => (if r1 = 0 then (Q I) else (p10_step I (fun I2 => (rc 1 0 I2 R (fun I3 => (p6_emit (-21) I3 R (fun I4 => (rg (l1 + 1) ∧ (k6 (l1 + 1) I4))))))))))))
def p6_readTest_b6 (rc : RTrd2) (R : mR) (Q : mI → Prop) : Nat → Int → mI → Prop
  | 0 => fun _ _ => False
  | f + 1 => fun l1 I => p6_readTest_b6_body rc R Q (p6_readTest_b6 rc R Q f) l1 I
set_option maxRecDepth 20000 in
theorem w6_readTest_b6_body {rc : RTrd2} {d : Nat} {C : wX} {ad : Nat → Nat} {n : Nat} {I J : mI} {R : mR} {Q : mI → Prop} (hC : wOK C cX6_readTest 2 RX6) (hRm : wRm C (12 + (d + 1)) (600 + 40 * (d + 1)) 0 0) (hE : wEnd C none ad n (fun _ I' J' R' => (J' = J ∧ R' = R) ∧ Q I')) (hRF : RF R) (hrc0 : ∀ {I J : mI} {R : mR} {Q : mI → Prop}, RF R → rc 0 0 I R Q → wMet yX6_readTest cX6_readTest 2 none (12 + d) (600 + 40 * d) false ad n I J R [vr 141] (fun _ I' J' R' => (J' = J ∧ R' = R) ∧ Q I')) (hrc1 : ∀ {I J : mI} {R : mR} {Q : mI → Prop}, RF R → rc 1 0 I R Q → wMet yX6_readBoth cX6_readBoth 2 none (12 + d) (600 + 40 * d) false ad n I J R [vr 141] (fun _ I' J' R' => (J' = J ∧ R' = R) ∧ Q I')) (hrc2 : ∀ {I J : mI} {R : mR} {Q : mI → Prop}, RF R → rc 2 0 I R Q → wMet yX6_readFact cX6_readFact 1 none (12 + d) (600 + 40 * d) false ad n I J R [vr 141] (fun _ I' J' R' => (J' = J ∧ R' = R) ∧ Q I')) (hrc3 : ∀ {I J : mI} {R : mR} {Q : mI → Prop}, RF R → rc 3 0 I R Q → wMet yX6_readComparison cX6_readComparison 2 none (12 + d) (600 + 40 * d) false ad n I J R [vr 141] (fun _ I' J' R' => (J' = J ∧ R' = R) ∧ Q I')) (hrc4 : ∀ {I J : mI} {R : mR} {Q : mI → Prop}, RF R → rc 4 0 I R Q → wMet yX6_readSum cX6_readSum 3 none (12 + d) (600 + 40 * d) false ad n I J R [vr 141] (fun _ I' J' R' => (J' = J ∧ R' = R) ∧ Q I')) (hrc5 : ∀ {I J : mI} {R : mR} {Q : mI → Prop}, RF R → rc 5 0 I R Q → wMet yX6_readProduct cX6_readProduct 3 none (12 + d) (600 + 40 * d) false ad n I J R [vr 141] (fun _ I' J' R' => (J' = J ∧ R' = R) ∧ Q I')) (hrc6 : ∀ {I J : mI} {R : mR} {Q : mI → Prop}, RF R → rc 6 0 I R Q → wMet yX6_readPart cX6_readPart 2 none (12 + d) (600 + 40 * d) false ad n I J R [vr 141] (fun _ I' J' R' => (J' = J ∧ R' = R) ∧ Q I')) (hrc7 : ∀ {l1 : Int} {I J : mI} {R : mR} {Q : mI → Prop}, RF R → rc 7 l1 I R Q → wMet yX6_readChosen cX6_readChosen 2 none (12 + d) (600 + 40 * d) false ad n I J R [vr 141, vi l1] (fun _ I' J' R' => (J' = J ∧ R' = R) ∧ Q I'))  {l1 : Int}     {k6 : Int → mI → Prop} (kk6 : ∀ (y1 : Int) (I' : mI), k6 y1 I' → WM C ad n I' J R 0 0 6 [(0, vr 141), (1, vi y1)] []) (hw : p6_readTest_b6_body rc R Q k6 l1 I) : WM C ad n I J R 0 0 6 [(0, vr 141), (1, vi l1)] [] := by
  unfold p6_readTest_b6_body at hw
  refine wm_iload_n hC 1 dX6_readTest_6 rfl ?_
  refine wm_sipush hC dX6_readTest_7 (k := ?_)
  refine wm_icmp_ge (tgt := 45) hC dX6_readTest_10 (by decide) hw (fun hw => ?_) (fun hw => ?_)
  · exact wm_return hC hE dX6_readTest_45 ⟨⟨rfl, rfl⟩, hw⟩
  · refine wm_aload_n hC 0 dX6_readTest_13 rfl (k_ne0 kk_141 (by decide)) ?_
    refine wm_bipush hC dX6_readTest_14 (k := ?_)
    refine y_callV_z_n hC hRm noS ml_X6_156 kk_141 (c6_isOwn hRF  hw) (by omega) (by omega) ⟨Nat.zero_le _, Nat.zero_le _⟩ rfl (st := []) rfl (Nat.le_of_ble_eq_true rfl) dX6_readTest_16 (fun r1 hw => ?_)
    refine wm_if_eq (tgt := 45) hC dX6_readTest_19 (by decide) hw (fun hw => ?_) (fun hw => ?_)
    · exact wm_return hC hE dX6_readTest_45 ⟨⟨rfl, rfl⟩, hw⟩
    · refine wm_aload_n hC 0 dX6_readTest_22 rfl (k_ne0 kk_141 (by decide)) ?_
      refine x_getR3 hC 1 fl_X6_12 rfl kk_141 (rf_141_1 hRF) dX6_readTest_23 ?_
      refine y_callV_v_I hC hRm noS ml_X6_89 kk_142 (c10_step hRF  hw) (by omega) (by omega) ⟨Nat.zero_le _, Nat.zero_le _⟩ rfl (st := []) rfl (Nat.le_of_ble_eq_true rfl) dX6_readTest_26 (fun I2 hw => ?_)
      refine wm_aload_n hC 0 dX6_readTest_29 rfl (k_ne0 kk_141 (by decide)) ?_
      refine y_callV_v_I hC hRm noS ml_X6_195 kk_141 (hrc1 hRF  hw) (by omega) (by omega) ⟨Nat.zero_le _, Nat.zero_le _⟩ rfl (st := []) rfl (Nat.le_of_ble_eq_true rfl) dX6_readTest_30 (fun I3 hw => ?_)
      refine wm_aload_n hC 0 dX6_readTest_33 rfl (k_ne0 kk_141 (by decide)) ?_
      refine wm_bipush hC dX6_readTest_34 (k := ?_)
      refine y_callV_v_I hC hRm noS ml_X6_200 kk_141 (c6_emit hRF  hw) (by omega) (by omega) ⟨Nat.zero_le _, Nat.zero_le _⟩ rfl (st := []) rfl (Nat.le_of_ble_eq_true rfl) dX6_readTest_36 (fun I4 hw => ?_)
      refine x_iinc hC 1 dX6_readTest_39 rfl (by decide) (L2 := [(1, vi (l1 + 1)), (0, vr 141)]) rfl hw (fun hw => ?_)
      refine wm_goto (tgt := 6) hC dX6_readTest_42 (by decide) ?_
      refine wm_sub [1, 0] (L2 := [(0, vr 141), (1, vi (l1 + 1))]) rfl ?_
      exact kk6 _ _ hw
set_option maxRecDepth 20000 in
theorem w6_readTest_b6 {rc : RTrd2} {d : Nat} {C : wX} {ad : Nat → Nat} {n : Nat} {J : mI} {R : mR} {Q : mI → Prop} (hC : wOK C cX6_readTest 2 RX6) (hRm : wRm C (12 + (d + 1)) (600 + 40 * (d + 1)) 0 0) (hE : wEnd C none ad n (fun _ I' J' R' => (J' = J ∧ R' = R) ∧ Q I')) (hRF : RF R) (hrc0 : ∀ {I J : mI} {R : mR} {Q : mI → Prop}, RF R → rc 0 0 I R Q → wMet yX6_readTest cX6_readTest 2 none (12 + d) (600 + 40 * d) false ad n I J R [vr 141] (fun _ I' J' R' => (J' = J ∧ R' = R) ∧ Q I')) (hrc1 : ∀ {I J : mI} {R : mR} {Q : mI → Prop}, RF R → rc 1 0 I R Q → wMet yX6_readBoth cX6_readBoth 2 none (12 + d) (600 + 40 * d) false ad n I J R [vr 141] (fun _ I' J' R' => (J' = J ∧ R' = R) ∧ Q I')) (hrc2 : ∀ {I J : mI} {R : mR} {Q : mI → Prop}, RF R → rc 2 0 I R Q → wMet yX6_readFact cX6_readFact 1 none (12 + d) (600 + 40 * d) false ad n I J R [vr 141] (fun _ I' J' R' => (J' = J ∧ R' = R) ∧ Q I')) (hrc3 : ∀ {I J : mI} {R : mR} {Q : mI → Prop}, RF R → rc 3 0 I R Q → wMet yX6_readComparison cX6_readComparison 2 none (12 + d) (600 + 40 * d) false ad n I J R [vr 141] (fun _ I' J' R' => (J' = J ∧ R' = R) ∧ Q I')) (hrc4 : ∀ {I J : mI} {R : mR} {Q : mI → Prop}, RF R → rc 4 0 I R Q → wMet yX6_readSum cX6_readSum 3 none (12 + d) (600 + 40 * d) false ad n I J R [vr 141] (fun _ I' J' R' => (J' = J ∧ R' = R) ∧ Q I')) (hrc5 : ∀ {I J : mI} {R : mR} {Q : mI → Prop}, RF R → rc 5 0 I R Q → wMet yX6_readProduct cX6_readProduct 3 none (12 + d) (600 + 40 * d) false ad n I J R [vr 141] (fun _ I' J' R' => (J' = J ∧ R' = R) ∧ Q I')) (hrc6 : ∀ {I J : mI} {R : mR} {Q : mI → Prop}, RF R → rc 6 0 I R Q → wMet yX6_readPart cX6_readPart 2 none (12 + d) (600 + 40 * d) false ad n I J R [vr 141] (fun _ I' J' R' => (J' = J ∧ R' = R) ∧ Q I')) (hrc7 : ∀ {l1 : Int} {I J : mI} {R : mR} {Q : mI → Prop}, RF R → rc 7 l1 I R Q → wMet yX6_readChosen cX6_readChosen 2 none (12 + d) (600 + 40 * d) false ad n I J R [vr 141, vi l1] (fun _ I' J' R' => (J' = J ∧ R' = R) ∧ Q I'))      : ∀ (f : Nat) (l1 : Int) (I : mI), p6_readTest_b6 rc R Q f l1 I → WM C ad n I J R 0 0 6 [(0, vr 141), (1, vi l1)] [] := by
  intro f
  induction f with
  | zero => intro l1 I hw; exact hw.elim
  | succ f ih => intro l1 I hw; exact w6_readTest_b6_body hC hRm hE hRF hrc0 hrc1 hrc2 hrc3 hrc4 hrc5 hrc6 hrc7  (fun a0 a1 aw => ih a0 a1 aw) hw
def p6_readTest (rc : RTrd2) (I : mI) (R : mR) (Q : mI → Prop) : Prop := (rc 1 0 I R (fun I1 => (∃ f, p6_readTest_b6 rc R Q f 0 I1)))
set_option maxRecDepth 20000 in
theorem c6_readTest {ad : Nat → Nat} {n : Nat} {I J : mI} {R : mR} {Q : mI → Prop} {rc : RTrd2} {d : Nat}  (hrc0 : ∀ {I J : mI} {R : mR} {Q : mI → Prop}, RF R → rc 0 0 I R Q → wMet yX6_readTest cX6_readTest 2 none (12 + d) (600 + 40 * d) false ad n I J R [vr 141] (fun _ I' J' R' => (J' = J ∧ R' = R) ∧ Q I')) (hrc1 : ∀ {I J : mI} {R : mR} {Q : mI → Prop}, RF R → rc 1 0 I R Q → wMet yX6_readBoth cX6_readBoth 2 none (12 + d) (600 + 40 * d) false ad n I J R [vr 141] (fun _ I' J' R' => (J' = J ∧ R' = R) ∧ Q I')) (hrc2 : ∀ {I J : mI} {R : mR} {Q : mI → Prop}, RF R → rc 2 0 I R Q → wMet yX6_readFact cX6_readFact 1 none (12 + d) (600 + 40 * d) false ad n I J R [vr 141] (fun _ I' J' R' => (J' = J ∧ R' = R) ∧ Q I')) (hrc3 : ∀ {I J : mI} {R : mR} {Q : mI → Prop}, RF R → rc 3 0 I R Q → wMet yX6_readComparison cX6_readComparison 2 none (12 + d) (600 + 40 * d) false ad n I J R [vr 141] (fun _ I' J' R' => (J' = J ∧ R' = R) ∧ Q I')) (hrc4 : ∀ {I J : mI} {R : mR} {Q : mI → Prop}, RF R → rc 4 0 I R Q → wMet yX6_readSum cX6_readSum 3 none (12 + d) (600 + 40 * d) false ad n I J R [vr 141] (fun _ I' J' R' => (J' = J ∧ R' = R) ∧ Q I')) (hrc5 : ∀ {I J : mI} {R : mR} {Q : mI → Prop}, RF R → rc 5 0 I R Q → wMet yX6_readProduct cX6_readProduct 3 none (12 + d) (600 + 40 * d) false ad n I J R [vr 141] (fun _ I' J' R' => (J' = J ∧ R' = R) ∧ Q I')) (hrc6 : ∀ {I J : mI} {R : mR} {Q : mI → Prop}, RF R → rc 6 0 I R Q → wMet yX6_readPart cX6_readPart 2 none (12 + d) (600 + 40 * d) false ad n I J R [vr 141] (fun _ I' J' R' => (J' = J ∧ R' = R) ∧ Q I')) (hrc7 : ∀ {l1 : Int} {I J : mI} {R : mR} {Q : mI → Prop}, RF R → rc 7 l1 I R Q → wMet yX6_readChosen cX6_readChosen 2 none (12 + d) (600 + 40 * d) false ad n I J R [vr 141, vi l1] (fun _ I' J' R' => (J' = J ∧ R' = R) ∧ Q I')) (hRF : RF R)   (hw : p6_readTest rc I R Q) : wMet yX6_readTest cX6_readTest 2 none (12 + (d + 1)) (600 + 40 * (d + 1)) false ad n I J R [vr 141] (fun _ I' J' R' => (J' = J ∧ R' = R) ∧ Q I') := by
  refine wMet_of (by decide) (Nat.le_of_ble_eq_true rfl) (fun C hC hRm hE hS => ?_)
  refine (show WM C ad n I J R 0 0 0 [(0, vr 141)] [] from ?_)
  unfold p6_readTest at hw
  refine wm_aload_n hC 0 dX6_readTest_0 rfl (k_ne0 kk_141 (by decide)) ?_
  refine y_callV_v_I hC hRm noS ml_X6_195 kk_141 (hrc1 hRF  hw) (by omega) (by omega) ⟨Nat.zero_le _, Nat.zero_le _⟩ rfl (st := []) rfl (Nat.le_of_ble_eq_true rfl) dX6_readTest_1 (fun I1 hw => ?_)
  refine wm_iconst hC dX6_readTest_4 (k := ?_)
  refine wm_istore_n hC dX6_readTest_5 (by decide) (L2 := [(1, vi 0), (0, vr 141)]) rfl ?_
  obtain ⟨f, hw⟩ := hw
  refine wm_sub [1, 0] (L2 := [(0, vr 141), (1, vi 0)]) rfl ?_
  exact w6_readTest_b6 hC hRm hE hRF hrc0 hrc1 hrc2 hrc3 hrc4 hrc5 hrc6 hrc7  f _ _ hw
def p6_readBoth_b6_body (rc : RTrd2) (R : mR) (Q : mI → Prop) (k6 : Int → mI → Prop) (l1 : Int) (I : mI) : Prop := (if (1600 : Int) ≤ l1 then (Q I) else (p6_isOwn 23 I (fun r1 => (if r1 = 0 then (Q I) else (p10_step I (fun I2 => (rc 2 0 I2 R (fun I3 => (p6_emit (-20) I3 R (fun I4 => (rg (l1 + 1) ∧ (k6 (l1 + 1) I4))))))))))))
def p6_readBoth_b6 (rc : RTrd2) (R : mR) (Q : mI → Prop) : Nat → Int → mI → Prop
  | 0 => fun _ _ => False
  | f + 1 => fun l1 I => p6_readBoth_b6_body rc R Q (p6_readBoth_b6 rc R Q f) l1 I
set_option maxRecDepth 20000 in
theorem w6_readBoth_b6_body {rc : RTrd2} {d : Nat} {C : wX} {ad : Nat → Nat} {n : Nat} {I J : mI} {R : mR} {Q : mI → Prop} (hC : wOK C cX6_readBoth 2 RX6) (hRm : wRm C (12 + (d + 1)) (600 + 40 * (d + 1)) 0 0) (hE : wEnd C none ad n (fun _ I' J' R' => (J' = J ∧ R' = R) ∧ Q I')) (hRF : RF R) (hrc0 : ∀ {I J : mI} {R : mR} {Q : mI → Prop}, RF R → rc 0 0 I R Q → wMet yX6_readTest cX6_readTest 2 none (12 + d) (600 + 40 * d) false ad n I J R [vr 141] (fun _ I' J' R' => (J' = J ∧ R' = R) ∧ Q I')) (hrc1 : ∀ {I J : mI} {R : mR} {Q : mI → Prop}, RF R → rc 1 0 I R Q → wMet yX6_readBoth cX6_readBoth 2 none (12 + d) (600 + 40 * d) false ad n I J R [vr 141] (fun _ I' J' R' => (J' = J ∧ R' = R) ∧ Q I')) (hrc2 : ∀ {I J : mI} {R : mR} {Q : mI → Prop}, RF R → rc 2 0 I R Q → wMet yX6_readFact cX6_readFact 1 none (12 + d) (600 + 40 * d) false ad n I J R [vr 141] (fun _ I' J' R' => (J' = J ∧ R' = R) ∧ Q I')) (hrc3 : ∀ {I J : mI} {R : mR} {Q : mI → Prop}, RF R → rc 3 0 I R Q → wMet yX6_readComparison cX6_readComparison 2 none (12 + d) (600 + 40 * d) false ad n I J R [vr 141] (fun _ I' J' R' => (J' = J ∧ R' = R) ∧ Q I')) (hrc4 : ∀ {I J : mI} {R : mR} {Q : mI → Prop}, RF R → rc 4 0 I R Q → wMet yX6_readSum cX6_readSum 3 none (12 + d) (600 + 40 * d) false ad n I J R [vr 141] (fun _ I' J' R' => (J' = J ∧ R' = R) ∧ Q I')) (hrc5 : ∀ {I J : mI} {R : mR} {Q : mI → Prop}, RF R → rc 5 0 I R Q → wMet yX6_readProduct cX6_readProduct 3 none (12 + d) (600 + 40 * d) false ad n I J R [vr 141] (fun _ I' J' R' => (J' = J ∧ R' = R) ∧ Q I')) (hrc6 : ∀ {I J : mI} {R : mR} {Q : mI → Prop}, RF R → rc 6 0 I R Q → wMet yX6_readPart cX6_readPart 2 none (12 + d) (600 + 40 * d) false ad n I J R [vr 141] (fun _ I' J' R' => (J' = J ∧ R' = R) ∧ Q I')) (hrc7 : ∀ {l1 : Int} {I J : mI} {R : mR} {Q : mI → Prop}, RF R → rc 7 l1 I R Q → wMet yX6_readChosen cX6_readChosen 2 none (12 + d) (600 + 40 * d) false ad n I J R [vr 141, vi l1] (fun _ I' J' R' => (J' = J ∧ R' = R) ∧ Q I'))  {l1 : Int}     {k6 : Int → mI → Prop} (kk6 : ∀ (y1 : Int) (I' : mI), k6 y1 I' → WM C ad n I' J R 0 0 6 [(0, vr 141), (1, vi y1)] []) (hw : p6_readBoth_b6_body rc R Q k6 l1 I) : WM C ad n I J R 0 0 6 [(0, vr 141), (1, vi l1)] [] := by
  unfold p6_readBoth_b6_body at hw
  refine wm_iload_n hC 1 dX6_readBoth_6 rfl ?_
  refine wm_sipush hC dX6_readBoth_7 (k := ?_)
  refine wm_icmp_ge (tgt := 45) hC dX6_readBoth_10 (by decide) hw (fun hw => ?_) (fun hw => ?_)
  · exact wm_return hC hE dX6_readBoth_45 ⟨⟨rfl, rfl⟩, hw⟩
  · refine wm_aload_n hC 0 dX6_readBoth_13 rfl (k_ne0 kk_141 (by decide)) ?_
    refine wm_bipush hC dX6_readBoth_14 (k := ?_)
    refine y_callV_z_n hC hRm noS ml_X6_156 kk_141 (c6_isOwn hRF  hw) (by omega) (by omega) ⟨Nat.zero_le _, Nat.zero_le _⟩ rfl (st := []) rfl (Nat.le_of_ble_eq_true rfl) dX6_readBoth_16 (fun r1 hw => ?_)
    refine wm_if_eq (tgt := 45) hC dX6_readBoth_19 (by decide) hw (fun hw => ?_) (fun hw => ?_)
    · exact wm_return hC hE dX6_readBoth_45 ⟨⟨rfl, rfl⟩, hw⟩
    · refine wm_aload_n hC 0 dX6_readBoth_22 rfl (k_ne0 kk_141 (by decide)) ?_
      refine x_getR3 hC 1 fl_X6_12 rfl kk_141 (rf_141_1 hRF) dX6_readBoth_23 ?_
      refine y_callV_v_I hC hRm noS ml_X6_89 kk_142 (c10_step hRF  hw) (by omega) (by omega) ⟨Nat.zero_le _, Nat.zero_le _⟩ rfl (st := []) rfl (Nat.le_of_ble_eq_true rfl) dX6_readBoth_26 (fun I2 hw => ?_)
      refine wm_aload_n hC 0 dX6_readBoth_29 rfl (k_ne0 kk_141 (by decide)) ?_
      refine y_callV_v_I hC hRm noS ml_X6_203 kk_141 (hrc2 hRF  hw) (by omega) (by omega) ⟨Nat.zero_le _, Nat.zero_le _⟩ rfl (st := []) rfl (Nat.le_of_ble_eq_true rfl) dX6_readBoth_30 (fun I3 hw => ?_)
      refine wm_aload_n hC 0 dX6_readBoth_33 rfl (k_ne0 kk_141 (by decide)) ?_
      refine wm_bipush hC dX6_readBoth_34 (k := ?_)
      refine y_callV_v_I hC hRm noS ml_X6_200 kk_141 (c6_emit hRF  hw) (by omega) (by omega) ⟨Nat.zero_le _, Nat.zero_le _⟩ rfl (st := []) rfl (Nat.le_of_ble_eq_true rfl) dX6_readBoth_36 (fun I4 hw => ?_)
      refine x_iinc hC 1 dX6_readBoth_39 rfl (by decide) (L2 := [(1, vi (l1 + 1)), (0, vr 141)]) rfl hw (fun hw => ?_)
      refine wm_goto (tgt := 6) hC dX6_readBoth_42 (by decide) ?_
      refine wm_sub [1, 0] (L2 := [(0, vr 141), (1, vi (l1 + 1))]) rfl ?_
      exact kk6 _ _ hw
set_option maxRecDepth 20000 in
theorem w6_readBoth_b6 {rc : RTrd2} {d : Nat} {C : wX} {ad : Nat → Nat} {n : Nat} {J : mI} {R : mR} {Q : mI → Prop} (hC : wOK C cX6_readBoth 2 RX6) (hRm : wRm C (12 + (d + 1)) (600 + 40 * (d + 1)) 0 0) (hE : wEnd C none ad n (fun _ I' J' R' => (J' = J ∧ R' = R) ∧ Q I')) (hRF : RF R) (hrc0 : ∀ {I J : mI} {R : mR} {Q : mI → Prop}, RF R → rc 0 0 I R Q → wMet yX6_readTest cX6_readTest 2 none (12 + d) (600 + 40 * d) false ad n I J R [vr 141] (fun _ I' J' R' => (J' = J ∧ R' = R) ∧ Q I')) (hrc1 : ∀ {I J : mI} {R : mR} {Q : mI → Prop}, RF R → rc 1 0 I R Q → wMet yX6_readBoth cX6_readBoth 2 none (12 + d) (600 + 40 * d) false ad n I J R [vr 141] (fun _ I' J' R' => (J' = J ∧ R' = R) ∧ Q I')) (hrc2 : ∀ {I J : mI} {R : mR} {Q : mI → Prop}, RF R → rc 2 0 I R Q → wMet yX6_readFact cX6_readFact 1 none (12 + d) (600 + 40 * d) false ad n I J R [vr 141] (fun _ I' J' R' => (J' = J ∧ R' = R) ∧ Q I')) (hrc3 : ∀ {I J : mI} {R : mR} {Q : mI → Prop}, RF R → rc 3 0 I R Q → wMet yX6_readComparison cX6_readComparison 2 none (12 + d) (600 + 40 * d) false ad n I J R [vr 141] (fun _ I' J' R' => (J' = J ∧ R' = R) ∧ Q I')) (hrc4 : ∀ {I J : mI} {R : mR} {Q : mI → Prop}, RF R → rc 4 0 I R Q → wMet yX6_readSum cX6_readSum 3 none (12 + d) (600 + 40 * d) false ad n I J R [vr 141] (fun _ I' J' R' => (J' = J ∧ R' = R) ∧ Q I')) (hrc5 : ∀ {I J : mI} {R : mR} {Q : mI → Prop}, RF R → rc 5 0 I R Q → wMet yX6_readProduct cX6_readProduct 3 none (12 + d) (600 + 40 * d) false ad n I J R [vr 141] (fun _ I' J' R' => (J' = J ∧ R' = R) ∧ Q I')) (hrc6 : ∀ {I J : mI} {R : mR} {Q : mI → Prop}, RF R → rc 6 0 I R Q → wMet yX6_readPart cX6_readPart 2 none (12 + d) (600 + 40 * d) false ad n I J R [vr 141] (fun _ I' J' R' => (J' = J ∧ R' = R) ∧ Q I')) (hrc7 : ∀ {l1 : Int} {I J : mI} {R : mR} {Q : mI → Prop}, RF R → rc 7 l1 I R Q → wMet yX6_readChosen cX6_readChosen 2 none (12 + d) (600 + 40 * d) false ad n I J R [vr 141, vi l1] (fun _ I' J' R' => (J' = J ∧ R' = R) ∧ Q I'))      : ∀ (f : Nat) (l1 : Int) (I : mI), p6_readBoth_b6 rc R Q f l1 I → WM C ad n I J R 0 0 6 [(0, vr 141), (1, vi l1)] [] := by
  intro f
  induction f with
  | zero => intro l1 I hw; exact hw.elim
  | succ f ih => intro l1 I hw; exact w6_readBoth_b6_body hC hRm hE hRF hrc0 hrc1 hrc2 hrc3 hrc4 hrc5 hrc6 hrc7  (fun a0 a1 aw => ih a0 a1 aw) hw
def p6_readBoth (rc : RTrd2) (I : mI) (R : mR) (Q : mI → Prop) : Prop := (rc 2 0 I R (fun I1 => (∃ f, p6_readBoth_b6 rc R Q f 0 I1)))
set_option maxRecDepth 20000 in
theorem c6_readBoth {ad : Nat → Nat} {n : Nat} {I J : mI} {R : mR} {Q : mI → Prop} {rc : RTrd2} {d : Nat}  (hrc0 : ∀ {I J : mI} {R : mR} {Q : mI → Prop}, RF R → rc 0 0 I R Q → wMet yX6_readTest cX6_readTest 2 none (12 + d) (600 + 40 * d) false ad n I J R [vr 141] (fun _ I' J' R' => (J' = J ∧ R' = R) ∧ Q I')) (hrc1 : ∀ {I J : mI} {R : mR} {Q : mI → Prop}, RF R → rc 1 0 I R Q → wMet yX6_readBoth cX6_readBoth 2 none (12 + d) (600 + 40 * d) false ad n I J R [vr 141] (fun _ I' J' R' => (J' = J ∧ R' = R) ∧ Q I')) (hrc2 : ∀ {I J : mI} {R : mR} {Q : mI → Prop}, RF R → rc 2 0 I R Q → wMet yX6_readFact cX6_readFact 1 none (12 + d) (600 + 40 * d) false ad n I J R [vr 141] (fun _ I' J' R' => (J' = J ∧ R' = R) ∧ Q I')) (hrc3 : ∀ {I J : mI} {R : mR} {Q : mI → Prop}, RF R → rc 3 0 I R Q → wMet yX6_readComparison cX6_readComparison 2 none (12 + d) (600 + 40 * d) false ad n I J R [vr 141] (fun _ I' J' R' => (J' = J ∧ R' = R) ∧ Q I')) (hrc4 : ∀ {I J : mI} {R : mR} {Q : mI → Prop}, RF R → rc 4 0 I R Q → wMet yX6_readSum cX6_readSum 3 none (12 + d) (600 + 40 * d) false ad n I J R [vr 141] (fun _ I' J' R' => (J' = J ∧ R' = R) ∧ Q I')) (hrc5 : ∀ {I J : mI} {R : mR} {Q : mI → Prop}, RF R → rc 5 0 I R Q → wMet yX6_readProduct cX6_readProduct 3 none (12 + d) (600 + 40 * d) false ad n I J R [vr 141] (fun _ I' J' R' => (J' = J ∧ R' = R) ∧ Q I')) (hrc6 : ∀ {I J : mI} {R : mR} {Q : mI → Prop}, RF R → rc 6 0 I R Q → wMet yX6_readPart cX6_readPart 2 none (12 + d) (600 + 40 * d) false ad n I J R [vr 141] (fun _ I' J' R' => (J' = J ∧ R' = R) ∧ Q I')) (hrc7 : ∀ {l1 : Int} {I J : mI} {R : mR} {Q : mI → Prop}, RF R → rc 7 l1 I R Q → wMet yX6_readChosen cX6_readChosen 2 none (12 + d) (600 + 40 * d) false ad n I J R [vr 141, vi l1] (fun _ I' J' R' => (J' = J ∧ R' = R) ∧ Q I')) (hRF : RF R)   (hw : p6_readBoth rc I R Q) : wMet yX6_readBoth cX6_readBoth 2 none (12 + (d + 1)) (600 + 40 * (d + 1)) false ad n I J R [vr 141] (fun _ I' J' R' => (J' = J ∧ R' = R) ∧ Q I') := by
  refine wMet_of (by decide) (Nat.le_of_ble_eq_true rfl) (fun C hC hRm hE hS => ?_)
  refine (show WM C ad n I J R 0 0 0 [(0, vr 141)] [] from ?_)
  unfold p6_readBoth at hw
  refine wm_aload_n hC 0 dX6_readBoth_0 rfl (k_ne0 kk_141 (by decide)) ?_
  refine y_callV_v_I hC hRm noS ml_X6_203 kk_141 (hrc2 hRF  hw) (by omega) (by omega) ⟨Nat.zero_le _, Nat.zero_le _⟩ rfl (st := []) rfl (Nat.le_of_ble_eq_true rfl) dX6_readBoth_1 (fun I1 hw => ?_)
  refine wm_iconst hC dX6_readBoth_4 (k := ?_)
  refine wm_istore_n hC dX6_readBoth_5 (by decide) (L2 := [(1, vi 0), (0, vr 141)]) rfl ?_
  obtain ⟨f, hw⟩ := hw
  refine wm_sub [1, 0] (L2 := [(0, vr 141), (1, vi 0)]) rfl ?_
  exact w6_readBoth_b6 hC hRm hE hRF hrc0 hrc1 hrc2 hrc3 hrc4 hrc5 hrc6 hrc7  f _ _ hw
def p6_readFact (rc : RTrd2) (I : mI) (R : mR) (Q : mI → Prop) : Prop := (p6_isOwn 24 I (fun r1 => (if r1 = 0 then (p6_isSign 91 I (fun r2 => (if r2 = 0 then (p6_isOwn 25 I (fun r3 => (if r3 = 0 then (rc 3 0 I R (fun I1 => (Q I1))) else (p6_emit 1 I R (fun I2 => (p10_step I2 (fun I3 => (Q I3)))))))) else (p6_opens I (fun r4 I4 => (if r4 = 0 then (Q I4) else (rc 0 0 I4 R (fun I5 => (rg ((I5 141 3) - 1) ∧ (wLet (up I5 141 3 ((I5 141 3) - 1)) (fun I6 => (p6_expect 93 I6 (fun I7 => (Q I7)))))))))))))) else (p6_opens I (fun r5 I8 => (if r5 = 0 then (Q I8) else (rc 2 0 I8 R (fun I9 => (rg ((I9 141 3) - 1) ∧ (wLet (up I9 141 3 ((I9 141 3) - 1)) (fun I10 => (p6_emit (-22) I10 R (fun I11 => (Q I11))))))))))))))
set_option maxRecDepth 20000 in
theorem c6_readFact {ad : Nat → Nat} {n : Nat} {I J : mI} {R : mR} {Q : mI → Prop} {rc : RTrd2} {d : Nat}  (hrc0 : ∀ {I J : mI} {R : mR} {Q : mI → Prop}, RF R → rc 0 0 I R Q → wMet yX6_readTest cX6_readTest 2 none (12 + d) (600 + 40 * d) false ad n I J R [vr 141] (fun _ I' J' R' => (J' = J ∧ R' = R) ∧ Q I')) (hrc1 : ∀ {I J : mI} {R : mR} {Q : mI → Prop}, RF R → rc 1 0 I R Q → wMet yX6_readBoth cX6_readBoth 2 none (12 + d) (600 + 40 * d) false ad n I J R [vr 141] (fun _ I' J' R' => (J' = J ∧ R' = R) ∧ Q I')) (hrc2 : ∀ {I J : mI} {R : mR} {Q : mI → Prop}, RF R → rc 2 0 I R Q → wMet yX6_readFact cX6_readFact 1 none (12 + d) (600 + 40 * d) false ad n I J R [vr 141] (fun _ I' J' R' => (J' = J ∧ R' = R) ∧ Q I')) (hrc3 : ∀ {I J : mI} {R : mR} {Q : mI → Prop}, RF R → rc 3 0 I R Q → wMet yX6_readComparison cX6_readComparison 2 none (12 + d) (600 + 40 * d) false ad n I J R [vr 141] (fun _ I' J' R' => (J' = J ∧ R' = R) ∧ Q I')) (hrc4 : ∀ {I J : mI} {R : mR} {Q : mI → Prop}, RF R → rc 4 0 I R Q → wMet yX6_readSum cX6_readSum 3 none (12 + d) (600 + 40 * d) false ad n I J R [vr 141] (fun _ I' J' R' => (J' = J ∧ R' = R) ∧ Q I')) (hrc5 : ∀ {I J : mI} {R : mR} {Q : mI → Prop}, RF R → rc 5 0 I R Q → wMet yX6_readProduct cX6_readProduct 3 none (12 + d) (600 + 40 * d) false ad n I J R [vr 141] (fun _ I' J' R' => (J' = J ∧ R' = R) ∧ Q I')) (hrc6 : ∀ {I J : mI} {R : mR} {Q : mI → Prop}, RF R → rc 6 0 I R Q → wMet yX6_readPart cX6_readPart 2 none (12 + d) (600 + 40 * d) false ad n I J R [vr 141] (fun _ I' J' R' => (J' = J ∧ R' = R) ∧ Q I')) (hrc7 : ∀ {l1 : Int} {I J : mI} {R : mR} {Q : mI → Prop}, RF R → rc 7 l1 I R Q → wMet yX6_readChosen cX6_readChosen 2 none (12 + d) (600 + 40 * d) false ad n I J R [vr 141, vi l1] (fun _ I' J' R' => (J' = J ∧ R' = R) ∧ Q I')) (hRF : RF R)   (hw : p6_readFact rc I R Q) : wMet yX6_readFact cX6_readFact 1 none (12 + (d + 1)) (600 + 40 * (d + 1)) false ad n I J R [vr 141] (fun _ I' J' R' => (J' = J ∧ R' = R) ∧ Q I') := by
  refine wMet_of (by decide) (Nat.le_of_ble_eq_true rfl) (fun C hC hRm hE hS => ?_)
  refine (show WM C ad n I J R 0 0 0 [(0, vr 141)] [] from ?_)
  unfold p6_readFact at hw
  refine wm_aload_n hC 0 dX6_readFact_0 rfl (k_ne0 kk_141 (by decide)) ?_
  refine wm_bipush hC dX6_readFact_1 (k := ?_)
  refine y_callV_z_n hC hRm noS ml_X6_156 kk_141 (c6_isOwn hRF  hw) (by omega) (by omega) ⟨Nat.zero_le _, Nat.zero_le _⟩ rfl (st := []) rfl (Nat.le_of_ble_eq_true rfl) dX6_readFact_3 (fun r1 hw => ?_)
  refine wm_if_eq (tgt := 39) hC dX6_readFact_6 (by decide) hw (fun hw => ?_) (fun hw => ?_)
  · refine wm_aload_n hC 0 dX6_readFact_39 rfl (k_ne0 kk_141 (by decide)) ?_
    refine wm_bipush hC dX6_readFact_40 (k := ?_)
    refine y_callV_z_n hC hRm noS ml_X6_85 kk_141 (c6_isSign hRF  hw) (by omega) (by omega) ⟨Nat.zero_le _, Nat.zero_le _⟩ rfl (st := []) rfl (Nat.le_of_ble_eq_true rfl) dX6_readFact_42 (fun r2 hw => ?_)
    refine wm_if_eq (tgt := 78) hC dX6_readFact_45 (by decide) hw (fun hw => ?_) (fun hw => ?_)
    · refine wm_aload_n hC 0 dX6_readFact_78 rfl (k_ne0 kk_141 (by decide)) ?_
      refine wm_bipush hC dX6_readFact_79 (k := ?_)
      refine y_callV_z_n hC hRm noS ml_X6_156 kk_141 (c6_isOwn hRF  hw) (by omega) (by omega) ⟨Nat.zero_le _, Nat.zero_le _⟩ rfl (st := []) rfl (Nat.le_of_ble_eq_true rfl) dX6_readFact_81 (fun r3 hw => ?_)
      refine wm_if_eq (tgt := 102) hC dX6_readFact_84 (by decide) hw (fun hw => ?_) (fun hw => ?_)
      · refine wm_aload_n hC 0 dX6_readFact_102 rfl (k_ne0 kk_141 (by decide)) ?_
        refine y_callV_v_I hC hRm noS ml_X6_209 kk_141 (hrc3 hRF  hw) (by omega) (by omega) ⟨Nat.zero_le _, Nat.zero_le _⟩ rfl (st := []) rfl (Nat.le_of_ble_eq_true rfl) dX6_readFact_103 (fun I1 hw => ?_)
        exact wm_return hC hE dX6_readFact_106 ⟨⟨rfl, rfl⟩, hw⟩
      · refine wm_aload_n hC 0 dX6_readFact_87 rfl (k_ne0 kk_141 (by decide)) ?_
        refine wm_iconst hC dX6_readFact_88 (k := ?_)
        refine y_callV_v_I hC hRm noS ml_X6_200 kk_141 (c6_emit hRF  hw) (by omega) (by omega) ⟨Nat.zero_le _, Nat.zero_le _⟩ rfl (st := []) rfl (Nat.le_of_ble_eq_true rfl) dX6_readFact_89 (fun I2 hw => ?_)
        refine wm_aload_n hC 0 dX6_readFact_92 rfl (k_ne0 kk_141 (by decide)) ?_
        refine x_getR3 hC 1 fl_X6_12 rfl kk_141 (rf_141_1 hRF) dX6_readFact_93 ?_
        refine y_callV_v_I hC hRm noS ml_X6_89 kk_142 (c10_step hRF  hw) (by omega) (by omega) ⟨Nat.zero_le _, Nat.zero_le _⟩ rfl (st := []) rfl (Nat.le_of_ble_eq_true rfl) dX6_readFact_96 (fun I3 hw => ?_)
        refine wm_goto (tgt := 106) hC dX6_readFact_99 (by decide) ?_
        exact wm_return hC hE dX6_readFact_106 ⟨⟨rfl, rfl⟩, hw⟩
    · refine wm_aload_n hC 0 dX6_readFact_48 rfl (k_ne0 kk_141 (by decide)) ?_
      refine y_callV_z_I hC hRm noS ml_X6_206 kk_141 (c6_opens hRF  hw) (by omega) (by omega) ⟨Nat.zero_le _, Nat.zero_le _⟩ rfl (st := []) rfl (Nat.le_of_ble_eq_true rfl) dX6_readFact_49 (fun r4 I4 hw => ?_)
      refine wm_if_eq (tgt := 106) hC dX6_readFact_52 (by decide) hw (fun hw => ?_) (fun hw => ?_)
      · exact wm_return hC hE dX6_readFact_106 ⟨⟨rfl, rfl⟩, hw⟩
      · refine wm_aload_n hC 0 dX6_readFact_55 rfl (k_ne0 kk_141 (by decide)) ?_
        refine y_callV_v_I hC hRm noS ml_X6_183 kk_141 (hrc0 hRF  hw) (by omega) (by omega) ⟨Nat.zero_le _, Nat.zero_le _⟩ rfl (st := []) rfl (Nat.le_of_ble_eq_true rfl) dX6_readFact_56 (fun I5 hw => ?_)
        refine wm_aload_n hC 0 dX6_readFact_59 rfl (k_ne0 kk_141 (by decide)) ?_
        refine wm_dup hC dX6_readFact_60 (k := ?_)
        refine x_getI hC 3 fl_X6_18 rfl kk_141 dX6_readFact_61 ?_
        refine wm_iconst hC dX6_readFact_64 (k := ?_)
        refine x_isub hC dX6_readFact_65 hw (fun hw => ?_)
        refine x_putI hC 3 fl_X6_18 rfl kk_141 dX6_readFact_66 hw (fun I6 hw => ?_)
        refine wm_aload_n hC 0 dX6_readFact_69 rfl (k_ne0 kk_141 (by decide)) ?_
        refine wm_bipush hC dX6_readFact_70 (k := ?_)
        refine y_callV_v_I hC hRm noS ml_X6_128 kk_141 (c6_expect hRF  hw) (by omega) (by omega) ⟨Nat.zero_le _, Nat.zero_le _⟩ rfl (st := []) rfl (Nat.le_of_ble_eq_true rfl) dX6_readFact_72 (fun I7 hw => ?_)
        refine wm_goto (tgt := 106) hC dX6_readFact_75 (by decide) ?_
        exact wm_return hC hE dX6_readFact_106 ⟨⟨rfl, rfl⟩, hw⟩
  · refine wm_aload_n hC 0 dX6_readFact_9 rfl (k_ne0 kk_141 (by decide)) ?_
    refine y_callV_z_I hC hRm noS ml_X6_206 kk_141 (c6_opens hRF  hw) (by omega) (by omega) ⟨Nat.zero_le _, Nat.zero_le _⟩ rfl (st := []) rfl (Nat.le_of_ble_eq_true rfl) dX6_readFact_10 (fun r5 I8 hw => ?_)
    refine wm_if_eq (tgt := 106) hC dX6_readFact_13 (by decide) hw (fun hw => ?_) (fun hw => ?_)
    · exact wm_return hC hE dX6_readFact_106 ⟨⟨rfl, rfl⟩, hw⟩
    · refine wm_aload_n hC 0 dX6_readFact_16 rfl (k_ne0 kk_141 (by decide)) ?_
      refine y_callV_v_I hC hRm noS ml_X6_203 kk_141 (hrc2 hRF  hw) (by omega) (by omega) ⟨Nat.zero_le _, Nat.zero_le _⟩ rfl (st := []) rfl (Nat.le_of_ble_eq_true rfl) dX6_readFact_17 (fun I9 hw => ?_)
      refine wm_aload_n hC 0 dX6_readFact_20 rfl (k_ne0 kk_141 (by decide)) ?_
      refine wm_dup hC dX6_readFact_21 (k := ?_)
      refine x_getI hC 3 fl_X6_18 rfl kk_141 dX6_readFact_22 ?_
      refine wm_iconst hC dX6_readFact_25 (k := ?_)
      refine x_isub hC dX6_readFact_26 hw (fun hw => ?_)
      refine x_putI hC 3 fl_X6_18 rfl kk_141 dX6_readFact_27 hw (fun I10 hw => ?_)
      refine wm_aload_n hC 0 dX6_readFact_30 rfl (k_ne0 kk_141 (by decide)) ?_
      refine wm_bipush hC dX6_readFact_31 (k := ?_)
      refine y_callV_v_I hC hRm noS ml_X6_200 kk_141 (c6_emit hRF  hw) (by omega) (by omega) ⟨Nat.zero_le _, Nat.zero_le _⟩ rfl (st := []) rfl (Nat.le_of_ble_eq_true rfl) dX6_readFact_33 (fun I11 hw => ?_)
      refine wm_goto (tgt := 106) hC dX6_readFact_36 (by decide) ?_
      exact wm_return hC hE dX6_readFact_106 ⟨⟨rfl, rfl⟩, hw⟩
def p6_readComparison_b56 (rc : RTrd2) (l1 : Int) (I : mI) (R : mR) (Q : mI → Prop) : Prop := (p10_step I (fun I3 => (rc 4 0 I3 R (fun I4 => (p6_emit l1 I4 R (fun I5 => (Q I5)))))))
set_option maxRecDepth 20000 in
theorem w6_readComparison_b56 {rc : RTrd2} {d : Nat} {C : wX} {ad : Nat → Nat} {n : Nat} {I J : mI} {R : mR} {Q : mI → Prop} (hC : wOK C cX6_readComparison 2 RX6) (hRm : wRm C (12 + (d + 1)) (600 + 40 * (d + 1)) 0 0) (hE : wEnd C none ad n (fun _ I' J' R' => (J' = J ∧ R' = R) ∧ Q I')) (hRF : RF R) (hrc0 : ∀ {I J : mI} {R : mR} {Q : mI → Prop}, RF R → rc 0 0 I R Q → wMet yX6_readTest cX6_readTest 2 none (12 + d) (600 + 40 * d) false ad n I J R [vr 141] (fun _ I' J' R' => (J' = J ∧ R' = R) ∧ Q I')) (hrc1 : ∀ {I J : mI} {R : mR} {Q : mI → Prop}, RF R → rc 1 0 I R Q → wMet yX6_readBoth cX6_readBoth 2 none (12 + d) (600 + 40 * d) false ad n I J R [vr 141] (fun _ I' J' R' => (J' = J ∧ R' = R) ∧ Q I')) (hrc2 : ∀ {I J : mI} {R : mR} {Q : mI → Prop}, RF R → rc 2 0 I R Q → wMet yX6_readFact cX6_readFact 1 none (12 + d) (600 + 40 * d) false ad n I J R [vr 141] (fun _ I' J' R' => (J' = J ∧ R' = R) ∧ Q I')) (hrc3 : ∀ {I J : mI} {R : mR} {Q : mI → Prop}, RF R → rc 3 0 I R Q → wMet yX6_readComparison cX6_readComparison 2 none (12 + d) (600 + 40 * d) false ad n I J R [vr 141] (fun _ I' J' R' => (J' = J ∧ R' = R) ∧ Q I')) (hrc4 : ∀ {I J : mI} {R : mR} {Q : mI → Prop}, RF R → rc 4 0 I R Q → wMet yX6_readSum cX6_readSum 3 none (12 + d) (600 + 40 * d) false ad n I J R [vr 141] (fun _ I' J' R' => (J' = J ∧ R' = R) ∧ Q I')) (hrc5 : ∀ {I J : mI} {R : mR} {Q : mI → Prop}, RF R → rc 5 0 I R Q → wMet yX6_readProduct cX6_readProduct 3 none (12 + d) (600 + 40 * d) false ad n I J R [vr 141] (fun _ I' J' R' => (J' = J ∧ R' = R) ∧ Q I')) (hrc6 : ∀ {I J : mI} {R : mR} {Q : mI → Prop}, RF R → rc 6 0 I R Q → wMet yX6_readPart cX6_readPart 2 none (12 + d) (600 + 40 * d) false ad n I J R [vr 141] (fun _ I' J' R' => (J' = J ∧ R' = R) ∧ Q I')) (hrc7 : ∀ {l1 : Int} {I J : mI} {R : mR} {Q : mI → Prop}, RF R → rc 7 l1 I R Q → wMet yX6_readChosen cX6_readChosen 2 none (12 + d) (600 + 40 * d) false ad n I J R [vr 141, vi l1] (fun _ I' J' R' => (J' = J ∧ R' = R) ∧ Q I')) {l1 : Int}     (hw : p6_readComparison_b56 rc l1 I R Q) : WM C ad n I J R 0 0 56 [(0, vr 141), (1, vi l1)] [] := by
  unfold p6_readComparison_b56 at hw
  refine wm_aload_n hC 0 dX6_readComparison_56 rfl (k_ne0 kk_141 (by decide)) ?_
  refine x_getR3 hC 1 fl_X6_12 rfl kk_141 (rf_141_1 hRF) dX6_readComparison_57 ?_
  refine y_callV_v_I hC hRm noS ml_X6_89 kk_142 (c10_step hRF  hw) (by omega) (by omega) ⟨Nat.zero_le _, Nat.zero_le _⟩ rfl (st := []) rfl (Nat.le_of_ble_eq_true rfl) dX6_readComparison_60 (fun I3 hw => ?_)
  refine wm_aload_n hC 0 dX6_readComparison_63 rfl (k_ne0 kk_141 (by decide)) ?_
  refine y_callV_v_I hC hRm noS ml_X6_186 kk_141 (hrc4 hRF  hw) (by omega) (by omega) ⟨Nat.zero_le _, Nat.zero_le _⟩ rfl (st := []) rfl (Nat.le_of_ble_eq_true rfl) dX6_readComparison_64 (fun I4 hw => ?_)
  refine wm_aload_n hC 0 dX6_readComparison_67 rfl (k_ne0 kk_141 (by decide)) ?_
  refine wm_iload_n hC 1 dX6_readComparison_68 rfl ?_
  refine y_callV_v_I hC hRm noS ml_X6_200 kk_141 (c6_emit hRF  hw) (by omega) (by omega) ⟨Nat.zero_le _, Nat.zero_le _⟩ rfl (st := []) rfl (Nat.le_of_ble_eq_true rfl) dX6_readComparison_69 (fun I5 hw => ?_)
  exact wm_return hC hE dX6_readComparison_72 ⟨⟨rfl, rfl⟩, hw⟩
def p6_readComparison_b34 (rc : RTrd2) (s0 : Int) (I : mI) (R : mR) (Q : mI → Prop) : Prop := (if s0 = (-19) then (p6_isSign 61 I (fun r3 => (if r3 = 0 then (p6_fail 1 I (fun I2 => (Q I2))) else (p6_readComparison_b56 rc s0 I R Q)))) else (p6_readComparison_b56 rc s0 I R Q))
set_option maxRecDepth 20000 in
theorem w6_readComparison_b34 {rc : RTrd2} {d : Nat} {C : wX} {ad : Nat → Nat} {n : Nat} {I J : mI} {R : mR} {Q : mI → Prop} (hC : wOK C cX6_readComparison 2 RX6) (hRm : wRm C (12 + (d + 1)) (600 + 40 * (d + 1)) 0 0) (hE : wEnd C none ad n (fun _ I' J' R' => (J' = J ∧ R' = R) ∧ Q I')) (hRF : RF R) (hrc0 : ∀ {I J : mI} {R : mR} {Q : mI → Prop}, RF R → rc 0 0 I R Q → wMet yX6_readTest cX6_readTest 2 none (12 + d) (600 + 40 * d) false ad n I J R [vr 141] (fun _ I' J' R' => (J' = J ∧ R' = R) ∧ Q I')) (hrc1 : ∀ {I J : mI} {R : mR} {Q : mI → Prop}, RF R → rc 1 0 I R Q → wMet yX6_readBoth cX6_readBoth 2 none (12 + d) (600 + 40 * d) false ad n I J R [vr 141] (fun _ I' J' R' => (J' = J ∧ R' = R) ∧ Q I')) (hrc2 : ∀ {I J : mI} {R : mR} {Q : mI → Prop}, RF R → rc 2 0 I R Q → wMet yX6_readFact cX6_readFact 1 none (12 + d) (600 + 40 * d) false ad n I J R [vr 141] (fun _ I' J' R' => (J' = J ∧ R' = R) ∧ Q I')) (hrc3 : ∀ {I J : mI} {R : mR} {Q : mI → Prop}, RF R → rc 3 0 I R Q → wMet yX6_readComparison cX6_readComparison 2 none (12 + d) (600 + 40 * d) false ad n I J R [vr 141] (fun _ I' J' R' => (J' = J ∧ R' = R) ∧ Q I')) (hrc4 : ∀ {I J : mI} {R : mR} {Q : mI → Prop}, RF R → rc 4 0 I R Q → wMet yX6_readSum cX6_readSum 3 none (12 + d) (600 + 40 * d) false ad n I J R [vr 141] (fun _ I' J' R' => (J' = J ∧ R' = R) ∧ Q I')) (hrc5 : ∀ {I J : mI} {R : mR} {Q : mI → Prop}, RF R → rc 5 0 I R Q → wMet yX6_readProduct cX6_readProduct 3 none (12 + d) (600 + 40 * d) false ad n I J R [vr 141] (fun _ I' J' R' => (J' = J ∧ R' = R) ∧ Q I')) (hrc6 : ∀ {I J : mI} {R : mR} {Q : mI → Prop}, RF R → rc 6 0 I R Q → wMet yX6_readPart cX6_readPart 2 none (12 + d) (600 + 40 * d) false ad n I J R [vr 141] (fun _ I' J' R' => (J' = J ∧ R' = R) ∧ Q I')) (hrc7 : ∀ {l1 : Int} {I J : mI} {R : mR} {Q : mI → Prop}, RF R → rc 7 l1 I R Q → wMet yX6_readChosen cX6_readChosen 2 none (12 + d) (600 + 40 * d) false ad n I J R [vr 141, vi l1] (fun _ I' J' R' => (J' = J ∧ R' = R) ∧ Q I')) {s0 : Int}     (hw : p6_readComparison_b34 rc s0 I R Q) : WM C ad n I J R 0 0 34 [(0, vr 141)] [vi s0] := by
  unfold p6_readComparison_b34 at hw
  refine wm_istore_n hC dX6_readComparison_34 (by decide) (L2 := [(1, vi s0), (0, vr 141)]) rfl ?_
  refine wm_iload_n hC 0 dX6_readComparison_35 rfl ?_
  refine wm_bipush hC dX6_readComparison_36 (k := ?_)
  refine wm_icmp_ne (tgt := 56) hC dX6_readComparison_38 (by decide) hw (fun hw => ?_) (fun hw => ?_)
  · refine wm_aload_n hC 1 dX6_readComparison_41 rfl (k_ne0 kk_141 (by decide)) ?_
    refine wm_bipush hC dX6_readComparison_42 (k := ?_)
    refine y_callV_z_n hC hRm noS ml_X6_85 kk_141 (c6_isSign hRF  hw) (by omega) (by omega) ⟨Nat.zero_le _, Nat.zero_le _⟩ rfl (st := []) rfl (Nat.le_of_ble_eq_true rfl) dX6_readComparison_44 (fun r3 hw => ?_)
    refine wm_if_ne (tgt := 56) hC dX6_readComparison_47 (by decide) hw (fun hw => ?_) (fun hw => ?_)
    · refine wm_aload_n hC 1 dX6_readComparison_50 rfl (k_ne0 kk_141 (by decide)) ?_
      refine wm_iconst hC dX6_readComparison_51 (k := ?_)
      refine y_callV_v_I hC hRm noS ml_X6_92 kk_141 (c6_fail hRF  hw) (by omega) (by omega) ⟨Nat.zero_le _, Nat.zero_le _⟩ rfl (st := []) rfl (Nat.le_of_ble_eq_true rfl) dX6_readComparison_52 (fun I2 hw => ?_)
      exact wm_return hC hE dX6_readComparison_55 ⟨⟨rfl, rfl⟩, hw⟩
    · refine wm_sub [1, 0] (L2 := [(0, vr 141), (1, vi s0)]) rfl ?_
      exact w6_readComparison_b56 hC hRm hE hRF hrc0 hrc1 hrc2 hrc3 hrc4 hrc5 hrc6 hrc7  hw
  · refine wm_sub [1, 0] (L2 := [(0, vr 141), (1, vi s0)]) rfl ?_
    exact w6_readComparison_b56 hC hRm hE hRF hrc0 hrc1 hrc2 hrc3 hrc4 hrc5 hrc6 hrc7  hw
def p6_readComparison (rc : RTrd2) (I : mI) (R : mR) (Q : mI → Prop) : Prop := (rc 4 0 I R (fun I1 => (p6_isSign 60 I1 (fun r1 => (if r1 = 0 then (p6_isSign 62 I1 (fun r2 => (if r2 = 0 then (p6_readComparison_b34 rc (-19) I1 R Q) else (p6_readComparison_b34 rc (-18) I1 R Q)))) else (p6_readComparison_b34 rc (-17) I1 R Q))))))
set_option maxRecDepth 20000 in
theorem c6_readComparison {ad : Nat → Nat} {n : Nat} {I J : mI} {R : mR} {Q : mI → Prop} {rc : RTrd2} {d : Nat}  (hrc0 : ∀ {I J : mI} {R : mR} {Q : mI → Prop}, RF R → rc 0 0 I R Q → wMet yX6_readTest cX6_readTest 2 none (12 + d) (600 + 40 * d) false ad n I J R [vr 141] (fun _ I' J' R' => (J' = J ∧ R' = R) ∧ Q I')) (hrc1 : ∀ {I J : mI} {R : mR} {Q : mI → Prop}, RF R → rc 1 0 I R Q → wMet yX6_readBoth cX6_readBoth 2 none (12 + d) (600 + 40 * d) false ad n I J R [vr 141] (fun _ I' J' R' => (J' = J ∧ R' = R) ∧ Q I')) (hrc2 : ∀ {I J : mI} {R : mR} {Q : mI → Prop}, RF R → rc 2 0 I R Q → wMet yX6_readFact cX6_readFact 1 none (12 + d) (600 + 40 * d) false ad n I J R [vr 141] (fun _ I' J' R' => (J' = J ∧ R' = R) ∧ Q I')) (hrc3 : ∀ {I J : mI} {R : mR} {Q : mI → Prop}, RF R → rc 3 0 I R Q → wMet yX6_readComparison cX6_readComparison 2 none (12 + d) (600 + 40 * d) false ad n I J R [vr 141] (fun _ I' J' R' => (J' = J ∧ R' = R) ∧ Q I')) (hrc4 : ∀ {I J : mI} {R : mR} {Q : mI → Prop}, RF R → rc 4 0 I R Q → wMet yX6_readSum cX6_readSum 3 none (12 + d) (600 + 40 * d) false ad n I J R [vr 141] (fun _ I' J' R' => (J' = J ∧ R' = R) ∧ Q I')) (hrc5 : ∀ {I J : mI} {R : mR} {Q : mI → Prop}, RF R → rc 5 0 I R Q → wMet yX6_readProduct cX6_readProduct 3 none (12 + d) (600 + 40 * d) false ad n I J R [vr 141] (fun _ I' J' R' => (J' = J ∧ R' = R) ∧ Q I')) (hrc6 : ∀ {I J : mI} {R : mR} {Q : mI → Prop}, RF R → rc 6 0 I R Q → wMet yX6_readPart cX6_readPart 2 none (12 + d) (600 + 40 * d) false ad n I J R [vr 141] (fun _ I' J' R' => (J' = J ∧ R' = R) ∧ Q I')) (hrc7 : ∀ {l1 : Int} {I J : mI} {R : mR} {Q : mI → Prop}, RF R → rc 7 l1 I R Q → wMet yX6_readChosen cX6_readChosen 2 none (12 + d) (600 + 40 * d) false ad n I J R [vr 141, vi l1] (fun _ I' J' R' => (J' = J ∧ R' = R) ∧ Q I')) (hRF : RF R)   (hw : p6_readComparison rc I R Q) : wMet yX6_readComparison cX6_readComparison 2 none (12 + (d + 1)) (600 + 40 * (d + 1)) false ad n I J R [vr 141] (fun _ I' J' R' => (J' = J ∧ R' = R) ∧ Q I') := by
  refine wMet_of (by decide) (Nat.le_of_ble_eq_true rfl) (fun C hC hRm hE hS => ?_)
  refine (show WM C ad n I J R 0 0 0 [(0, vr 141)] [] from ?_)
  unfold p6_readComparison at hw
  refine wm_aload_n hC 0 dX6_readComparison_0 rfl (k_ne0 kk_141 (by decide)) ?_
  refine y_callV_v_I hC hRm noS ml_X6_186 kk_141 (hrc4 hRF  hw) (by omega) (by omega) ⟨Nat.zero_le _, Nat.zero_le _⟩ rfl (st := []) rfl (Nat.le_of_ble_eq_true rfl) dX6_readComparison_1 (fun I1 hw => ?_)
  refine wm_aload_n hC 0 dX6_readComparison_4 rfl (k_ne0 kk_141 (by decide)) ?_
  refine wm_bipush hC dX6_readComparison_5 (k := ?_)
  refine y_callV_z_n hC hRm noS ml_X6_85 kk_141 (c6_isSign hRF  hw) (by omega) (by omega) ⟨Nat.zero_le _, Nat.zero_le _⟩ rfl (st := []) rfl (Nat.le_of_ble_eq_true rfl) dX6_readComparison_7 (fun r1 hw => ?_)
  refine wm_if_eq (tgt := 18) hC dX6_readComparison_10 (by decide) hw (fun hw => ?_) (fun hw => ?_)
  · refine wm_aload_n hC 0 dX6_readComparison_18 rfl (k_ne0 kk_141 (by decide)) ?_
    refine wm_bipush hC dX6_readComparison_19 (k := ?_)
    refine y_callV_z_n hC hRm noS ml_X6_85 kk_141 (c6_isSign hRF  hw) (by omega) (by omega) ⟨Nat.zero_le _, Nat.zero_le _⟩ rfl (st := []) rfl (Nat.le_of_ble_eq_true rfl) dX6_readComparison_21 (fun r2 hw => ?_)
    refine wm_if_eq (tgt := 32) hC dX6_readComparison_24 (by decide) hw (fun hw => ?_) (fun hw => ?_)
    · refine wm_bipush hC dX6_readComparison_32 (k := ?_)
      exact w6_readComparison_b34 hC hRm hE hRF hrc0 hrc1 hrc2 hrc3 hrc4 hrc5 hrc6 hrc7  hw
    · refine wm_bipush hC dX6_readComparison_27 (k := ?_)
      refine wm_goto (tgt := 34) hC dX6_readComparison_29 (by decide) ?_
      exact w6_readComparison_b34 hC hRm hE hRF hrc0 hrc1 hrc2 hrc3 hrc4 hrc5 hrc6 hrc7  hw
  · refine wm_bipush hC dX6_readComparison_13 (k := ?_)
    refine wm_goto (tgt := 34) hC dX6_readComparison_15 (by decide) ?_
    exact w6_readComparison_b34 hC hRm hE hRF hrc0 hrc1 hrc2 hrc3 hrc4 hrc5 hrc6 hrc7  hw
def p6_readSum_b47 (rc : RTrd2) (l1 : Int) (s0 : Int) (I : mI) (R : mR) (k6 : Int → mI → Prop) (Q : mI → Prop) : Prop := (p10_step I (fun I2 => (rc 5 0 I2 R (fun I3 => (p6_emit s0 I3 R (fun I4 => (rg (l1 + 1) ∧ (k6 (l1 + 1) I4))))))))
set_option maxRecDepth 20000 in
theorem w6_readSum_b47 {rc : RTrd2} {d : Nat} {C : wX} {ad : Nat → Nat} {n : Nat} {I J : mI} {R : mR} {Q : mI → Prop} (hC : wOK C cX6_readSum 3 RX6) (hRm : wRm C (12 + (d + 1)) (600 + 40 * (d + 1)) 0 0) (hE : wEnd C none ad n (fun _ I' J' R' => (J' = J ∧ R' = R) ∧ Q I')) (hRF : RF R) (hrc0 : ∀ {I J : mI} {R : mR} {Q : mI → Prop}, RF R → rc 0 0 I R Q → wMet yX6_readTest cX6_readTest 2 none (12 + d) (600 + 40 * d) false ad n I J R [vr 141] (fun _ I' J' R' => (J' = J ∧ R' = R) ∧ Q I')) (hrc1 : ∀ {I J : mI} {R : mR} {Q : mI → Prop}, RF R → rc 1 0 I R Q → wMet yX6_readBoth cX6_readBoth 2 none (12 + d) (600 + 40 * d) false ad n I J R [vr 141] (fun _ I' J' R' => (J' = J ∧ R' = R) ∧ Q I')) (hrc2 : ∀ {I J : mI} {R : mR} {Q : mI → Prop}, RF R → rc 2 0 I R Q → wMet yX6_readFact cX6_readFact 1 none (12 + d) (600 + 40 * d) false ad n I J R [vr 141] (fun _ I' J' R' => (J' = J ∧ R' = R) ∧ Q I')) (hrc3 : ∀ {I J : mI} {R : mR} {Q : mI → Prop}, RF R → rc 3 0 I R Q → wMet yX6_readComparison cX6_readComparison 2 none (12 + d) (600 + 40 * d) false ad n I J R [vr 141] (fun _ I' J' R' => (J' = J ∧ R' = R) ∧ Q I')) (hrc4 : ∀ {I J : mI} {R : mR} {Q : mI → Prop}, RF R → rc 4 0 I R Q → wMet yX6_readSum cX6_readSum 3 none (12 + d) (600 + 40 * d) false ad n I J R [vr 141] (fun _ I' J' R' => (J' = J ∧ R' = R) ∧ Q I')) (hrc5 : ∀ {I J : mI} {R : mR} {Q : mI → Prop}, RF R → rc 5 0 I R Q → wMet yX6_readProduct cX6_readProduct 3 none (12 + d) (600 + 40 * d) false ad n I J R [vr 141] (fun _ I' J' R' => (J' = J ∧ R' = R) ∧ Q I')) (hrc6 : ∀ {I J : mI} {R : mR} {Q : mI → Prop}, RF R → rc 6 0 I R Q → wMet yX6_readPart cX6_readPart 2 none (12 + d) (600 + 40 * d) false ad n I J R [vr 141] (fun _ I' J' R' => (J' = J ∧ R' = R) ∧ Q I')) (hrc7 : ∀ {l1 : Int} {I J : mI} {R : mR} {Q : mI → Prop}, RF R → rc 7 l1 I R Q → wMet yX6_readChosen cX6_readChosen 2 none (12 + d) (600 + 40 * d) false ad n I J R [vr 141, vi l1] (fun _ I' J' R' => (J' = J ∧ R' = R) ∧ Q I')) {l1 : Int} {s0 : Int}  {k6 : Int → mI → Prop}  (kk6 : ∀ (y1 : Int) (I' : mI), k6 y1 I' → WM C ad n I' J R 0 0 6 [(0, vr 141), (1, vi y1)] []) (hw : p6_readSum_b47 rc l1 s0 I R k6 Q) : WM C ad n I J R 0 0 47 [(0, vr 141), (1, vi l1)] [vi s0] := by
  unfold p6_readSum_b47 at hw
  refine wm_istore_n hC dX6_readSum_47 (by decide) (L2 := [(2, vi s0), (0, vr 141), (1, vi l1)]) rfl ?_
  refine wm_aload_n hC 1 dX6_readSum_48 rfl (k_ne0 kk_141 (by decide)) ?_
  refine x_getR3 hC 1 fl_X6_12 rfl kk_141 (rf_141_1 hRF) dX6_readSum_49 ?_
  refine y_callV_v_I hC hRm noS ml_X6_89 kk_142 (c10_step hRF  hw) (by omega) (by omega) ⟨Nat.zero_le _, Nat.zero_le _⟩ rfl (st := []) rfl (Nat.le_of_ble_eq_true rfl) dX6_readSum_52 (fun I2 hw => ?_)
  refine wm_aload_n hC 1 dX6_readSum_55 rfl (k_ne0 kk_141 (by decide)) ?_
  refine y_callV_v_I hC hRm noS ml_X6_212 kk_141 (hrc5 hRF  hw) (by omega) (by omega) ⟨Nat.zero_le _, Nat.zero_le _⟩ rfl (st := []) rfl (Nat.le_of_ble_eq_true rfl) dX6_readSum_56 (fun I3 hw => ?_)
  refine wm_aload_n hC 1 dX6_readSum_59 rfl (k_ne0 kk_141 (by decide)) ?_
  refine wm_iload_n hC 0 dX6_readSum_60 rfl ?_
  refine y_callV_v_I hC hRm noS ml_X6_200 kk_141 (c6_emit hRF  hw) (by omega) (by omega) ⟨Nat.zero_le _, Nat.zero_le _⟩ rfl (st := []) rfl (Nat.le_of_ble_eq_true rfl) dX6_readSum_61 (fun I4 hw => ?_)
  refine x_iinc hC 2 dX6_readSum_64 rfl (by decide) (L2 := [(1, vi (l1 + 1)), (2, vi s0), (0, vr 141)]) rfl hw (fun hw => ?_)
  refine wm_goto (tgt := 6) hC dX6_readSum_67 (by decide) ?_
  refine wm_sub [2, 0] (L2 := [(0, vr 141), (1, vi (l1 + 1))]) rfl ?_
  exact kk6 _ _ hw
def p6_readSum_b31 (rc : RTrd2) (l1 : Int) (I : mI) (R : mR) (k6 : Int → mI → Prop) (Q : mI → Prop) : Prop := (p6_isSign 43 I (fun r3 => (if r3 = 0 then (p6_readSum_b47 rc l1 (-11) I R k6 Q) else (p6_readSum_b47 rc l1 (-10) I R k6 Q))))
set_option maxRecDepth 20000 in
theorem w6_readSum_b31 {rc : RTrd2} {d : Nat} {C : wX} {ad : Nat → Nat} {n : Nat} {I J : mI} {R : mR} {Q : mI → Prop} (hC : wOK C cX6_readSum 3 RX6) (hRm : wRm C (12 + (d + 1)) (600 + 40 * (d + 1)) 0 0) (hE : wEnd C none ad n (fun _ I' J' R' => (J' = J ∧ R' = R) ∧ Q I')) (hRF : RF R) (hrc0 : ∀ {I J : mI} {R : mR} {Q : mI → Prop}, RF R → rc 0 0 I R Q → wMet yX6_readTest cX6_readTest 2 none (12 + d) (600 + 40 * d) false ad n I J R [vr 141] (fun _ I' J' R' => (J' = J ∧ R' = R) ∧ Q I')) (hrc1 : ∀ {I J : mI} {R : mR} {Q : mI → Prop}, RF R → rc 1 0 I R Q → wMet yX6_readBoth cX6_readBoth 2 none (12 + d) (600 + 40 * d) false ad n I J R [vr 141] (fun _ I' J' R' => (J' = J ∧ R' = R) ∧ Q I')) (hrc2 : ∀ {I J : mI} {R : mR} {Q : mI → Prop}, RF R → rc 2 0 I R Q → wMet yX6_readFact cX6_readFact 1 none (12 + d) (600 + 40 * d) false ad n I J R [vr 141] (fun _ I' J' R' => (J' = J ∧ R' = R) ∧ Q I')) (hrc3 : ∀ {I J : mI} {R : mR} {Q : mI → Prop}, RF R → rc 3 0 I R Q → wMet yX6_readComparison cX6_readComparison 2 none (12 + d) (600 + 40 * d) false ad n I J R [vr 141] (fun _ I' J' R' => (J' = J ∧ R' = R) ∧ Q I')) (hrc4 : ∀ {I J : mI} {R : mR} {Q : mI → Prop}, RF R → rc 4 0 I R Q → wMet yX6_readSum cX6_readSum 3 none (12 + d) (600 + 40 * d) false ad n I J R [vr 141] (fun _ I' J' R' => (J' = J ∧ R' = R) ∧ Q I')) (hrc5 : ∀ {I J : mI} {R : mR} {Q : mI → Prop}, RF R → rc 5 0 I R Q → wMet yX6_readProduct cX6_readProduct 3 none (12 + d) (600 + 40 * d) false ad n I J R [vr 141] (fun _ I' J' R' => (J' = J ∧ R' = R) ∧ Q I')) (hrc6 : ∀ {I J : mI} {R : mR} {Q : mI → Prop}, RF R → rc 6 0 I R Q → wMet yX6_readPart cX6_readPart 2 none (12 + d) (600 + 40 * d) false ad n I J R [vr 141] (fun _ I' J' R' => (J' = J ∧ R' = R) ∧ Q I')) (hrc7 : ∀ {l1 : Int} {I J : mI} {R : mR} {Q : mI → Prop}, RF R → rc 7 l1 I R Q → wMet yX6_readChosen cX6_readChosen 2 none (12 + d) (600 + 40 * d) false ad n I J R [vr 141, vi l1] (fun _ I' J' R' => (J' = J ∧ R' = R) ∧ Q I')) {l1 : Int}  {k6 : Int → mI → Prop}  (kk6 : ∀ (y1 : Int) (I' : mI), k6 y1 I' → WM C ad n I' J R 0 0 6 [(0, vr 141), (1, vi y1)] []) (hw : p6_readSum_b31 rc l1 I R k6 Q) : WM C ad n I J R 0 0 31 [(0, vr 141), (1, vi l1)] [] := by
  unfold p6_readSum_b31 at hw
  refine wm_aload_n hC 0 dX6_readSum_31 rfl (k_ne0 kk_141 (by decide)) ?_
  refine wm_bipush hC dX6_readSum_32 (k := ?_)
  refine y_callV_z_n hC hRm noS ml_X6_85 kk_141 (c6_isSign hRF  hw) (by omega) (by omega) ⟨Nat.zero_le _, Nat.zero_le _⟩ rfl (st := []) rfl (Nat.le_of_ble_eq_true rfl) dX6_readSum_34 (fun r3 hw => ?_)
  refine wm_if_eq (tgt := 45) hC dX6_readSum_37 (by decide) hw (fun hw => ?_) (fun hw => ?_)
  · refine wm_bipush hC dX6_readSum_45 (k := ?_)
    exact w6_readSum_b47 hC hRm hE hRF hrc0 hrc1 hrc2 hrc3 hrc4 hrc5 hrc6 hrc7 kk6 hw
  · refine wm_bipush hC dX6_readSum_40 (k := ?_)
    refine wm_goto (tgt := 47) hC dX6_readSum_42 (by decide) ?_
    exact w6_readSum_b47 hC hRm hE hRF hrc0 hrc1 hrc2 hrc3 hrc4 hrc5 hrc6 hrc7 kk6 hw
def p6_readSum_b6_body (rc : RTrd2) (R : mR) (Q : mI → Prop) (k6 : Int → mI → Prop) (l1 : Int) (I : mI) : Prop := (if (1600 : Int) ≤ l1 then (Q I) else (p6_isSign 43 I (fun r1 => (if r1 = 0 then (p6_isSign 45 I (fun r2 => (if r2 = 0 then (Q I) else (p6_readSum_b31 rc l1 I R k6 Q)))) else (p6_readSum_b31 rc l1 I R k6 Q)))))
def p6_readSum_b6 (rc : RTrd2) (R : mR) (Q : mI → Prop) : Nat → Int → mI → Prop
  | 0 => fun _ _ => False
  | f + 1 => fun l1 I => p6_readSum_b6_body rc R Q (p6_readSum_b6 rc R Q f) l1 I
set_option maxRecDepth 20000 in
theorem w6_readSum_b6_body {rc : RTrd2} {d : Nat} {C : wX} {ad : Nat → Nat} {n : Nat} {I J : mI} {R : mR} {Q : mI → Prop} (hC : wOK C cX6_readSum 3 RX6) (hRm : wRm C (12 + (d + 1)) (600 + 40 * (d + 1)) 0 0) (hE : wEnd C none ad n (fun _ I' J' R' => (J' = J ∧ R' = R) ∧ Q I')) (hRF : RF R) (hrc0 : ∀ {I J : mI} {R : mR} {Q : mI → Prop}, RF R → rc 0 0 I R Q → wMet yX6_readTest cX6_readTest 2 none (12 + d) (600 + 40 * d) false ad n I J R [vr 141] (fun _ I' J' R' => (J' = J ∧ R' = R) ∧ Q I')) (hrc1 : ∀ {I J : mI} {R : mR} {Q : mI → Prop}, RF R → rc 1 0 I R Q → wMet yX6_readBoth cX6_readBoth 2 none (12 + d) (600 + 40 * d) false ad n I J R [vr 141] (fun _ I' J' R' => (J' = J ∧ R' = R) ∧ Q I')) (hrc2 : ∀ {I J : mI} {R : mR} {Q : mI → Prop}, RF R → rc 2 0 I R Q → wMet yX6_readFact cX6_readFact 1 none (12 + d) (600 + 40 * d) false ad n I J R [vr 141] (fun _ I' J' R' => (J' = J ∧ R' = R) ∧ Q I')) (hrc3 : ∀ {I J : mI} {R : mR} {Q : mI → Prop}, RF R → rc 3 0 I R Q → wMet yX6_readComparison cX6_readComparison 2 none (12 + d) (600 + 40 * d) false ad n I J R [vr 141] (fun _ I' J' R' => (J' = J ∧ R' = R) ∧ Q I')) (hrc4 : ∀ {I J : mI} {R : mR} {Q : mI → Prop}, RF R → rc 4 0 I R Q → wMet yX6_readSum cX6_readSum 3 none (12 + d) (600 + 40 * d) false ad n I J R [vr 141] (fun _ I' J' R' => (J' = J ∧ R' = R) ∧ Q I')) (hrc5 : ∀ {I J : mI} {R : mR} {Q : mI → Prop}, RF R → rc 5 0 I R Q → wMet yX6_readProduct cX6_readProduct 3 none (12 + d) (600 + 40 * d) false ad n I J R [vr 141] (fun _ I' J' R' => (J' = J ∧ R' = R) ∧ Q I')) (hrc6 : ∀ {I J : mI} {R : mR} {Q : mI → Prop}, RF R → rc 6 0 I R Q → wMet yX6_readPart cX6_readPart 2 none (12 + d) (600 + 40 * d) false ad n I J R [vr 141] (fun _ I' J' R' => (J' = J ∧ R' = R) ∧ Q I')) (hrc7 : ∀ {l1 : Int} {I J : mI} {R : mR} {Q : mI → Prop}, RF R → rc 7 l1 I R Q → wMet yX6_readChosen cX6_readChosen 2 none (12 + d) (600 + 40 * d) false ad n I J R [vr 141, vi l1] (fun _ I' J' R' => (J' = J ∧ R' = R) ∧ Q I'))  {l1 : Int}     {k6 : Int → mI → Prop} (kk6 : ∀ (y1 : Int) (I' : mI), k6 y1 I' → WM C ad n I' J R 0 0 6 [(0, vr 141), (1, vi y1)] []) (hw : p6_readSum_b6_body rc R Q k6 l1 I) : WM C ad n I J R 0 0 6 [(0, vr 141), (1, vi l1)] [] := by
  unfold p6_readSum_b6_body at hw
  refine wm_iload_n hC 1 dX6_readSum_6 rfl ?_
  refine wm_sipush hC dX6_readSum_7 (k := ?_)
  refine wm_icmp_ge (tgt := 70) hC dX6_readSum_10 (by decide) hw (fun hw => ?_) (fun hw => ?_)
  · exact wm_return hC hE dX6_readSum_70 ⟨⟨rfl, rfl⟩, hw⟩
  · refine wm_aload_n hC 0 dX6_readSum_13 rfl (k_ne0 kk_141 (by decide)) ?_
    refine wm_bipush hC dX6_readSum_14 (k := ?_)
    refine y_callV_z_n hC hRm noS ml_X6_85 kk_141 (c6_isSign hRF  hw) (by omega) (by omega) ⟨Nat.zero_le _, Nat.zero_le _⟩ rfl (st := []) rfl (Nat.le_of_ble_eq_true rfl) dX6_readSum_16 (fun r1 hw => ?_)
    refine wm_if_ne (tgt := 31) hC dX6_readSum_19 (by decide) hw (fun hw => ?_) (fun hw => ?_)
    · refine wm_aload_n hC 0 dX6_readSum_22 rfl (k_ne0 kk_141 (by decide)) ?_
      refine wm_bipush hC dX6_readSum_23 (k := ?_)
      refine y_callV_z_n hC hRm noS ml_X6_85 kk_141 (c6_isSign hRF  hw) (by omega) (by omega) ⟨Nat.zero_le _, Nat.zero_le _⟩ rfl (st := []) rfl (Nat.le_of_ble_eq_true rfl) dX6_readSum_25 (fun r2 hw => ?_)
      refine wm_if_eq (tgt := 70) hC dX6_readSum_28 (by decide) hw (fun hw => ?_) (fun hw => ?_)
      · exact wm_return hC hE dX6_readSum_70 ⟨⟨rfl, rfl⟩, hw⟩
      · exact w6_readSum_b31 hC hRm hE hRF hrc0 hrc1 hrc2 hrc3 hrc4 hrc5 hrc6 hrc7 kk6 hw
    · exact w6_readSum_b31 hC hRm hE hRF hrc0 hrc1 hrc2 hrc3 hrc4 hrc5 hrc6 hrc7 kk6 hw
set_option maxRecDepth 20000 in
theorem w6_readSum_b6 {rc : RTrd2} {d : Nat} {C : wX} {ad : Nat → Nat} {n : Nat} {J : mI} {R : mR} {Q : mI → Prop} (hC : wOK C cX6_readSum 3 RX6) (hRm : wRm C (12 + (d + 1)) (600 + 40 * (d + 1)) 0 0) (hE : wEnd C none ad n (fun _ I' J' R' => (J' = J ∧ R' = R) ∧ Q I')) (hRF : RF R) (hrc0 : ∀ {I J : mI} {R : mR} {Q : mI → Prop}, RF R → rc 0 0 I R Q → wMet yX6_readTest cX6_readTest 2 none (12 + d) (600 + 40 * d) false ad n I J R [vr 141] (fun _ I' J' R' => (J' = J ∧ R' = R) ∧ Q I')) (hrc1 : ∀ {I J : mI} {R : mR} {Q : mI → Prop}, RF R → rc 1 0 I R Q → wMet yX6_readBoth cX6_readBoth 2 none (12 + d) (600 + 40 * d) false ad n I J R [vr 141] (fun _ I' J' R' => (J' = J ∧ R' = R) ∧ Q I')) (hrc2 : ∀ {I J : mI} {R : mR} {Q : mI → Prop}, RF R → rc 2 0 I R Q → wMet yX6_readFact cX6_readFact 1 none (12 + d) (600 + 40 * d) false ad n I J R [vr 141] (fun _ I' J' R' => (J' = J ∧ R' = R) ∧ Q I')) (hrc3 : ∀ {I J : mI} {R : mR} {Q : mI → Prop}, RF R → rc 3 0 I R Q → wMet yX6_readComparison cX6_readComparison 2 none (12 + d) (600 + 40 * d) false ad n I J R [vr 141] (fun _ I' J' R' => (J' = J ∧ R' = R) ∧ Q I')) (hrc4 : ∀ {I J : mI} {R : mR} {Q : mI → Prop}, RF R → rc 4 0 I R Q → wMet yX6_readSum cX6_readSum 3 none (12 + d) (600 + 40 * d) false ad n I J R [vr 141] (fun _ I' J' R' => (J' = J ∧ R' = R) ∧ Q I')) (hrc5 : ∀ {I J : mI} {R : mR} {Q : mI → Prop}, RF R → rc 5 0 I R Q → wMet yX6_readProduct cX6_readProduct 3 none (12 + d) (600 + 40 * d) false ad n I J R [vr 141] (fun _ I' J' R' => (J' = J ∧ R' = R) ∧ Q I')) (hrc6 : ∀ {I J : mI} {R : mR} {Q : mI → Prop}, RF R → rc 6 0 I R Q → wMet yX6_readPart cX6_readPart 2 none (12 + d) (600 + 40 * d) false ad n I J R [vr 141] (fun _ I' J' R' => (J' = J ∧ R' = R) ∧ Q I')) (hrc7 : ∀ {l1 : Int} {I J : mI} {R : mR} {Q : mI → Prop}, RF R → rc 7 l1 I R Q → wMet yX6_readChosen cX6_readChosen 2 none (12 + d) (600 + 40 * d) false ad n I J R [vr 141, vi l1] (fun _ I' J' R' => (J' = J ∧ R' = R) ∧ Q I'))      : ∀ (f : Nat) (l1 : Int) (I : mI), p6_readSum_b6 rc R Q f l1 I → WM C ad n I J R 0 0 6 [(0, vr 141), (1, vi l1)] [] := by
  intro f
  induction f with
  | zero => intro l1 I hw; exact hw.elim
  | succ f ih => intro l1 I hw; exact w6_readSum_b6_body hC hRm hE hRF hrc0 hrc1 hrc2 hrc3 hrc4 hrc5 hrc6 hrc7  (fun a0 a1 aw => ih a0 a1 aw) hw
def p6_readSum (rc : RTrd2) (I : mI) (R : mR) (Q : mI → Prop) : Prop := (rc 5 0 I R (fun I1 => (∃ f, p6_readSum_b6 rc R Q f 0 I1)))
set_option maxRecDepth 20000 in
theorem c6_readSum {ad : Nat → Nat} {n : Nat} {I J : mI} {R : mR} {Q : mI → Prop} {rc : RTrd2} {d : Nat}  (hrc0 : ∀ {I J : mI} {R : mR} {Q : mI → Prop}, RF R → rc 0 0 I R Q → wMet yX6_readTest cX6_readTest 2 none (12 + d) (600 + 40 * d) false ad n I J R [vr 141] (fun _ I' J' R' => (J' = J ∧ R' = R) ∧ Q I')) (hrc1 : ∀ {I J : mI} {R : mR} {Q : mI → Prop}, RF R → rc 1 0 I R Q → wMet yX6_readBoth cX6_readBoth 2 none (12 + d) (600 + 40 * d) false ad n I J R [vr 141] (fun _ I' J' R' => (J' = J ∧ R' = R) ∧ Q I')) (hrc2 : ∀ {I J : mI} {R : mR} {Q : mI → Prop}, RF R → rc 2 0 I R Q → wMet yX6_readFact cX6_readFact 1 none (12 + d) (600 + 40 * d) false ad n I J R [vr 141] (fun _ I' J' R' => (J' = J ∧ R' = R) ∧ Q I')) (hrc3 : ∀ {I J : mI} {R : mR} {Q : mI → Prop}, RF R → rc 3 0 I R Q → wMet yX6_readComparison cX6_readComparison 2 none (12 + d) (600 + 40 * d) false ad n I J R [vr 141] (fun _ I' J' R' => (J' = J ∧ R' = R) ∧ Q I')) (hrc4 : ∀ {I J : mI} {R : mR} {Q : mI → Prop}, RF R → rc 4 0 I R Q → wMet yX6_readSum cX6_readSum 3 none (12 + d) (600 + 40 * d) false ad n I J R [vr 141] (fun _ I' J' R' => (J' = J ∧ R' = R) ∧ Q I')) (hrc5 : ∀ {I J : mI} {R : mR} {Q : mI → Prop}, RF R → rc 5 0 I R Q → wMet yX6_readProduct cX6_readProduct 3 none (12 + d) (600 + 40 * d) false ad n I J R [vr 141] (fun _ I' J' R' => (J' = J ∧ R' = R) ∧ Q I')) (hrc6 : ∀ {I J : mI} {R : mR} {Q : mI → Prop}, RF R → rc 6 0 I R Q → wMet yX6_readPart cX6_readPart 2 none (12 + d) (600 + 40 * d) false ad n I J R [vr 141] (fun _ I' J' R' => (J' = J ∧ R' = R) ∧ Q I')) (hrc7 : ∀ {l1 : Int} {I J : mI} {R : mR} {Q : mI → Prop}, RF R → rc 7 l1 I R Q → wMet yX6_readChosen cX6_readChosen 2 none (12 + d) (600 + 40 * d) false ad n I J R [vr 141, vi l1] (fun _ I' J' R' => (J' = J ∧ R' = R) ∧ Q I')) (hRF : RF R)   (hw : p6_readSum rc I R Q) : wMet yX6_readSum cX6_readSum 3 none (12 + (d + 1)) (600 + 40 * (d + 1)) false ad n I J R [vr 141] (fun _ I' J' R' => (J' = J ∧ R' = R) ∧ Q I') := by
  refine wMet_of (by decide) (Nat.le_of_ble_eq_true rfl) (fun C hC hRm hE hS => ?_)
  refine (show WM C ad n I J R 0 0 0 [(0, vr 141)] [] from ?_)
  unfold p6_readSum at hw
  refine wm_aload_n hC 0 dX6_readSum_0 rfl (k_ne0 kk_141 (by decide)) ?_
  refine y_callV_v_I hC hRm noS ml_X6_212 kk_141 (hrc5 hRF  hw) (by omega) (by omega) ⟨Nat.zero_le _, Nat.zero_le _⟩ rfl (st := []) rfl (Nat.le_of_ble_eq_true rfl) dX6_readSum_1 (fun I1 hw => ?_)
  refine wm_iconst hC dX6_readSum_4 (k := ?_)
  refine wm_istore_n hC dX6_readSum_5 (by decide) (L2 := [(1, vi 0), (0, vr 141)]) rfl ?_
  obtain ⟨f, hw⟩ := hw
  refine wm_sub [1, 0] (L2 := [(0, vr 141), (1, vi 0)]) rfl ?_
  exact w6_readSum_b6 hC hRm hE hRF hrc0 hrc1 hrc2 hrc3 hrc4 hrc5 hrc6 hrc7  f _ _ hw
def p6_readProduct_b70 (rc : RTrd2) (l1 : Int) (s0 : Int) (I : mI) (R : mR) (k6 : Int → mI → Prop) (Q : mI → Prop) : Prop := (p10_step I (fun I2 => (rc 6 0 I2 R (fun I3 => (p6_emit s0 I3 R (fun I4 => (rg (l1 + 1) ∧ (k6 (l1 + 1) I4))))))))
set_option maxRecDepth 20000 in
theorem w6_readProduct_b70 {rc : RTrd2} {d : Nat} {C : wX} {ad : Nat → Nat} {n : Nat} {I J : mI} {R : mR} {Q : mI → Prop} (hC : wOK C cX6_readProduct 3 RX6) (hRm : wRm C (12 + (d + 1)) (600 + 40 * (d + 1)) 0 0) (hE : wEnd C none ad n (fun _ I' J' R' => (J' = J ∧ R' = R) ∧ Q I')) (hRF : RF R) (hrc0 : ∀ {I J : mI} {R : mR} {Q : mI → Prop}, RF R → rc 0 0 I R Q → wMet yX6_readTest cX6_readTest 2 none (12 + d) (600 + 40 * d) false ad n I J R [vr 141] (fun _ I' J' R' => (J' = J ∧ R' = R) ∧ Q I')) (hrc1 : ∀ {I J : mI} {R : mR} {Q : mI → Prop}, RF R → rc 1 0 I R Q → wMet yX6_readBoth cX6_readBoth 2 none (12 + d) (600 + 40 * d) false ad n I J R [vr 141] (fun _ I' J' R' => (J' = J ∧ R' = R) ∧ Q I')) (hrc2 : ∀ {I J : mI} {R : mR} {Q : mI → Prop}, RF R → rc 2 0 I R Q → wMet yX6_readFact cX6_readFact 1 none (12 + d) (600 + 40 * d) false ad n I J R [vr 141] (fun _ I' J' R' => (J' = J ∧ R' = R) ∧ Q I')) (hrc3 : ∀ {I J : mI} {R : mR} {Q : mI → Prop}, RF R → rc 3 0 I R Q → wMet yX6_readComparison cX6_readComparison 2 none (12 + d) (600 + 40 * d) false ad n I J R [vr 141] (fun _ I' J' R' => (J' = J ∧ R' = R) ∧ Q I')) (hrc4 : ∀ {I J : mI} {R : mR} {Q : mI → Prop}, RF R → rc 4 0 I R Q → wMet yX6_readSum cX6_readSum 3 none (12 + d) (600 + 40 * d) false ad n I J R [vr 141] (fun _ I' J' R' => (J' = J ∧ R' = R) ∧ Q I')) (hrc5 : ∀ {I J : mI} {R : mR} {Q : mI → Prop}, RF R → rc 5 0 I R Q → wMet yX6_readProduct cX6_readProduct 3 none (12 + d) (600 + 40 * d) false ad n I J R [vr 141] (fun _ I' J' R' => (J' = J ∧ R' = R) ∧ Q I')) (hrc6 : ∀ {I J : mI} {R : mR} {Q : mI → Prop}, RF R → rc 6 0 I R Q → wMet yX6_readPart cX6_readPart 2 none (12 + d) (600 + 40 * d) false ad n I J R [vr 141] (fun _ I' J' R' => (J' = J ∧ R' = R) ∧ Q I')) (hrc7 : ∀ {l1 : Int} {I J : mI} {R : mR} {Q : mI → Prop}, RF R → rc 7 l1 I R Q → wMet yX6_readChosen cX6_readChosen 2 none (12 + d) (600 + 40 * d) false ad n I J R [vr 141, vi l1] (fun _ I' J' R' => (J' = J ∧ R' = R) ∧ Q I')) {l1 : Int} {s0 : Int}  {k6 : Int → mI → Prop}  (kk6 : ∀ (y1 : Int) (I' : mI), k6 y1 I' → WM C ad n I' J R 0 0 6 [(0, vr 141), (1, vi y1)] []) (hw : p6_readProduct_b70 rc l1 s0 I R k6 Q) : WM C ad n I J R 0 0 70 [(0, vr 141), (1, vi l1)] [vi s0] := by
  unfold p6_readProduct_b70 at hw
  refine wm_istore_n hC dX6_readProduct_70 (by decide) (L2 := [(2, vi s0), (0, vr 141), (1, vi l1)]) rfl ?_
  refine wm_aload_n hC 1 dX6_readProduct_71 rfl (k_ne0 kk_141 (by decide)) ?_
  refine x_getR3 hC 1 fl_X6_12 rfl kk_141 (rf_141_1 hRF) dX6_readProduct_72 ?_
  refine y_callV_v_I hC hRm noS ml_X6_89 kk_142 (c10_step hRF  hw) (by omega) (by omega) ⟨Nat.zero_le _, Nat.zero_le _⟩ rfl (st := []) rfl (Nat.le_of_ble_eq_true rfl) dX6_readProduct_75 (fun I2 hw => ?_)
  refine wm_aload_n hC 1 dX6_readProduct_78 rfl (k_ne0 kk_141 (by decide)) ?_
  refine y_callV_v_I hC hRm noS ml_X6_215 kk_141 (hrc6 hRF  hw) (by omega) (by omega) ⟨Nat.zero_le _, Nat.zero_le _⟩ rfl (st := []) rfl (Nat.le_of_ble_eq_true rfl) dX6_readProduct_79 (fun I3 hw => ?_)
  refine wm_aload_n hC 1 dX6_readProduct_82 rfl (k_ne0 kk_141 (by decide)) ?_
  refine wm_iload_n hC 0 dX6_readProduct_83 rfl ?_
  refine y_callV_v_I hC hRm noS ml_X6_200 kk_141 (c6_emit hRF  hw) (by omega) (by omega) ⟨Nat.zero_le _, Nat.zero_le _⟩ rfl (st := []) rfl (Nat.le_of_ble_eq_true rfl) dX6_readProduct_84 (fun I4 hw => ?_)
  refine x_iinc hC 2 dX6_readProduct_87 rfl (by decide) (L2 := [(1, vi (l1 + 1)), (2, vi s0), (0, vr 141)]) rfl hw (fun hw => ?_)
  refine wm_goto (tgt := 6) hC dX6_readProduct_90 (by decide) ?_
  refine wm_sub [2, 0] (L2 := [(0, vr 141), (1, vi (l1 + 1))]) rfl ?_
  exact kk6 _ _ hw
def p6_readProduct_b40 (rc : RTrd2) (l1 : Int) (I : mI) (R : mR) (k6 : Int → mI → Prop) (Q : mI → Prop) : Prop := (p6_isSign 42 I (fun r4 => (if r4 = 0 then (p6_isSign 47 I (fun r5 => (if r5 = 0 then (p6_readProduct_b70 rc l1 (-14) I R k6 Q) else (p6_readProduct_b70 rc l1 (-13) I R k6 Q)))) else (p6_readProduct_b70 rc l1 (-12) I R k6 Q))))
set_option maxRecDepth 20000 in
theorem w6_readProduct_b40 {rc : RTrd2} {d : Nat} {C : wX} {ad : Nat → Nat} {n : Nat} {I J : mI} {R : mR} {Q : mI → Prop} (hC : wOK C cX6_readProduct 3 RX6) (hRm : wRm C (12 + (d + 1)) (600 + 40 * (d + 1)) 0 0) (hE : wEnd C none ad n (fun _ I' J' R' => (J' = J ∧ R' = R) ∧ Q I')) (hRF : RF R) (hrc0 : ∀ {I J : mI} {R : mR} {Q : mI → Prop}, RF R → rc 0 0 I R Q → wMet yX6_readTest cX6_readTest 2 none (12 + d) (600 + 40 * d) false ad n I J R [vr 141] (fun _ I' J' R' => (J' = J ∧ R' = R) ∧ Q I')) (hrc1 : ∀ {I J : mI} {R : mR} {Q : mI → Prop}, RF R → rc 1 0 I R Q → wMet yX6_readBoth cX6_readBoth 2 none (12 + d) (600 + 40 * d) false ad n I J R [vr 141] (fun _ I' J' R' => (J' = J ∧ R' = R) ∧ Q I')) (hrc2 : ∀ {I J : mI} {R : mR} {Q : mI → Prop}, RF R → rc 2 0 I R Q → wMet yX6_readFact cX6_readFact 1 none (12 + d) (600 + 40 * d) false ad n I J R [vr 141] (fun _ I' J' R' => (J' = J ∧ R' = R) ∧ Q I')) (hrc3 : ∀ {I J : mI} {R : mR} {Q : mI → Prop}, RF R → rc 3 0 I R Q → wMet yX6_readComparison cX6_readComparison 2 none (12 + d) (600 + 40 * d) false ad n I J R [vr 141] (fun _ I' J' R' => (J' = J ∧ R' = R) ∧ Q I')) (hrc4 : ∀ {I J : mI} {R : mR} {Q : mI → Prop}, RF R → rc 4 0 I R Q → wMet yX6_readSum cX6_readSum 3 none (12 + d) (600 + 40 * d) false ad n I J R [vr 141] (fun _ I' J' R' => (J' = J ∧ R' = R) ∧ Q I')) (hrc5 : ∀ {I J : mI} {R : mR} {Q : mI → Prop}, RF R → rc 5 0 I R Q → wMet yX6_readProduct cX6_readProduct 3 none (12 + d) (600 + 40 * d) false ad n I J R [vr 141] (fun _ I' J' R' => (J' = J ∧ R' = R) ∧ Q I')) (hrc6 : ∀ {I J : mI} {R : mR} {Q : mI → Prop}, RF R → rc 6 0 I R Q → wMet yX6_readPart cX6_readPart 2 none (12 + d) (600 + 40 * d) false ad n I J R [vr 141] (fun _ I' J' R' => (J' = J ∧ R' = R) ∧ Q I')) (hrc7 : ∀ {l1 : Int} {I J : mI} {R : mR} {Q : mI → Prop}, RF R → rc 7 l1 I R Q → wMet yX6_readChosen cX6_readChosen 2 none (12 + d) (600 + 40 * d) false ad n I J R [vr 141, vi l1] (fun _ I' J' R' => (J' = J ∧ R' = R) ∧ Q I')) {l1 : Int}  {k6 : Int → mI → Prop}  (kk6 : ∀ (y1 : Int) (I' : mI), k6 y1 I' → WM C ad n I' J R 0 0 6 [(0, vr 141), (1, vi y1)] []) (hw : p6_readProduct_b40 rc l1 I R k6 Q) : WM C ad n I J R 0 0 40 [(0, vr 141), (1, vi l1)] [] := by
  unfold p6_readProduct_b40 at hw
  refine wm_aload_n hC 0 dX6_readProduct_40 rfl (k_ne0 kk_141 (by decide)) ?_
  refine wm_bipush hC dX6_readProduct_41 (k := ?_)
  refine y_callV_z_n hC hRm noS ml_X6_85 kk_141 (c6_isSign hRF  hw) (by omega) (by omega) ⟨Nat.zero_le _, Nat.zero_le _⟩ rfl (st := []) rfl (Nat.le_of_ble_eq_true rfl) dX6_readProduct_43 (fun r4 hw => ?_)
  refine wm_if_eq (tgt := 54) hC dX6_readProduct_46 (by decide) hw (fun hw => ?_) (fun hw => ?_)
  · refine wm_aload_n hC 0 dX6_readProduct_54 rfl (k_ne0 kk_141 (by decide)) ?_
    refine wm_bipush hC dX6_readProduct_55 (k := ?_)
    refine y_callV_z_n hC hRm noS ml_X6_85 kk_141 (c6_isSign hRF  hw) (by omega) (by omega) ⟨Nat.zero_le _, Nat.zero_le _⟩ rfl (st := []) rfl (Nat.le_of_ble_eq_true rfl) dX6_readProduct_57 (fun r5 hw => ?_)
    refine wm_if_eq (tgt := 68) hC dX6_readProduct_60 (by decide) hw (fun hw => ?_) (fun hw => ?_)
    · refine wm_bipush hC dX6_readProduct_68 (k := ?_)
      exact w6_readProduct_b70 hC hRm hE hRF hrc0 hrc1 hrc2 hrc3 hrc4 hrc5 hrc6 hrc7 kk6 hw
    · refine wm_bipush hC dX6_readProduct_63 (k := ?_)
      refine wm_goto (tgt := 70) hC dX6_readProduct_65 (by decide) ?_
      exact w6_readProduct_b70 hC hRm hE hRF hrc0 hrc1 hrc2 hrc3 hrc4 hrc5 hrc6 hrc7 kk6 hw
  · refine wm_bipush hC dX6_readProduct_49 (k := ?_)
    refine wm_goto (tgt := 70) hC dX6_readProduct_51 (by decide) ?_
    exact w6_readProduct_b70 hC hRm hE hRF hrc0 hrc1 hrc2 hrc3 hrc4 hrc5 hrc6 hrc7 kk6 hw
def p6_readProduct_b6_body (rc : RTrd2) (R : mR) (Q : mI → Prop) (k6 : Int → mI → Prop) (l1 : Int) (I : mI) : Prop := (if (1600 : Int) ≤ l1 then (Q I) else (p6_isSign 42 I (fun r1 => (if r1 = 0 then (p6_isSign 47 I (fun r2 => (if r2 = 0 then (p6_isSign 37 I (fun r3 => (if r3 = 0 then (Q I) else (p6_readProduct_b40 rc l1 I R k6 Q)))) else (p6_readProduct_b40 rc l1 I R k6 Q)))) else (p6_readProduct_b40 rc l1 I R k6 Q)))))
def p6_readProduct_b6 (rc : RTrd2) (R : mR) (Q : mI → Prop) : Nat → Int → mI → Prop
  | 0 => fun _ _ => False
  | f + 1 => fun l1 I => p6_readProduct_b6_body rc R Q (p6_readProduct_b6 rc R Q f) l1 I
set_option maxRecDepth 20000 in
theorem w6_readProduct_b6_body {rc : RTrd2} {d : Nat} {C : wX} {ad : Nat → Nat} {n : Nat} {I J : mI} {R : mR} {Q : mI → Prop} (hC : wOK C cX6_readProduct 3 RX6) (hRm : wRm C (12 + (d + 1)) (600 + 40 * (d + 1)) 0 0) (hE : wEnd C none ad n (fun _ I' J' R' => (J' = J ∧ R' = R) ∧ Q I')) (hRF : RF R) (hrc0 : ∀ {I J : mI} {R : mR} {Q : mI → Prop}, RF R → rc 0 0 I R Q → wMet yX6_readTest cX6_readTest 2 none (12 + d) (600 + 40 * d) false ad n I J R [vr 141] (fun _ I' J' R' => (J' = J ∧ R' = R) ∧ Q I')) (hrc1 : ∀ {I J : mI} {R : mR} {Q : mI → Prop}, RF R → rc 1 0 I R Q → wMet yX6_readBoth cX6_readBoth 2 none (12 + d) (600 + 40 * d) false ad n I J R [vr 141] (fun _ I' J' R' => (J' = J ∧ R' = R) ∧ Q I')) (hrc2 : ∀ {I J : mI} {R : mR} {Q : mI → Prop}, RF R → rc 2 0 I R Q → wMet yX6_readFact cX6_readFact 1 none (12 + d) (600 + 40 * d) false ad n I J R [vr 141] (fun _ I' J' R' => (J' = J ∧ R' = R) ∧ Q I')) (hrc3 : ∀ {I J : mI} {R : mR} {Q : mI → Prop}, RF R → rc 3 0 I R Q → wMet yX6_readComparison cX6_readComparison 2 none (12 + d) (600 + 40 * d) false ad n I J R [vr 141] (fun _ I' J' R' => (J' = J ∧ R' = R) ∧ Q I')) (hrc4 : ∀ {I J : mI} {R : mR} {Q : mI → Prop}, RF R → rc 4 0 I R Q → wMet yX6_readSum cX6_readSum 3 none (12 + d) (600 + 40 * d) false ad n I J R [vr 141] (fun _ I' J' R' => (J' = J ∧ R' = R) ∧ Q I')) (hrc5 : ∀ {I J : mI} {R : mR} {Q : mI → Prop}, RF R → rc 5 0 I R Q → wMet yX6_readProduct cX6_readProduct 3 none (12 + d) (600 + 40 * d) false ad n I J R [vr 141] (fun _ I' J' R' => (J' = J ∧ R' = R) ∧ Q I')) (hrc6 : ∀ {I J : mI} {R : mR} {Q : mI → Prop}, RF R → rc 6 0 I R Q → wMet yX6_readPart cX6_readPart 2 none (12 + d) (600 + 40 * d) false ad n I J R [vr 141] (fun _ I' J' R' => (J' = J ∧ R' = R) ∧ Q I')) (hrc7 : ∀ {l1 : Int} {I J : mI} {R : mR} {Q : mI → Prop}, RF R → rc 7 l1 I R Q → wMet yX6_readChosen cX6_readChosen 2 none (12 + d) (600 + 40 * d) false ad n I J R [vr 141, vi l1] (fun _ I' J' R' => (J' = J ∧ R' = R) ∧ Q I'))  {l1 : Int}     {k6 : Int → mI → Prop} (kk6 : ∀ (y1 : Int) (I' : mI), k6 y1 I' → WM C ad n I' J R 0 0 6 [(0, vr 141), (1, vi y1)] []) (hw : p6_readProduct_b6_body rc R Q k6 l1 I) : WM C ad n I J R 0 0 6 [(0, vr 141), (1, vi l1)] [] := by
  unfold p6_readProduct_b6_body at hw
  refine wm_iload_n hC 1 dX6_readProduct_6 rfl ?_
  refine wm_sipush hC dX6_readProduct_7 (k := ?_)
  refine wm_icmp_ge (tgt := 93) hC dX6_readProduct_10 (by decide) hw (fun hw => ?_) (fun hw => ?_)
  · exact wm_return hC hE dX6_readProduct_93 ⟨⟨rfl, rfl⟩, hw⟩
  · refine wm_aload_n hC 0 dX6_readProduct_13 rfl (k_ne0 kk_141 (by decide)) ?_
    refine wm_bipush hC dX6_readProduct_14 (k := ?_)
    refine y_callV_z_n hC hRm noS ml_X6_85 kk_141 (c6_isSign hRF  hw) (by omega) (by omega) ⟨Nat.zero_le _, Nat.zero_le _⟩ rfl (st := []) rfl (Nat.le_of_ble_eq_true rfl) dX6_readProduct_16 (fun r1 hw => ?_)
    refine wm_if_ne (tgt := 40) hC dX6_readProduct_19 (by decide) hw (fun hw => ?_) (fun hw => ?_)
    · refine wm_aload_n hC 0 dX6_readProduct_22 rfl (k_ne0 kk_141 (by decide)) ?_
      refine wm_bipush hC dX6_readProduct_23 (k := ?_)
      refine y_callV_z_n hC hRm noS ml_X6_85 kk_141 (c6_isSign hRF  hw) (by omega) (by omega) ⟨Nat.zero_le _, Nat.zero_le _⟩ rfl (st := []) rfl (Nat.le_of_ble_eq_true rfl) dX6_readProduct_25 (fun r2 hw => ?_)
      refine wm_if_ne (tgt := 40) hC dX6_readProduct_28 (by decide) hw (fun hw => ?_) (fun hw => ?_)
      · refine wm_aload_n hC 0 dX6_readProduct_31 rfl (k_ne0 kk_141 (by decide)) ?_
        refine wm_bipush hC dX6_readProduct_32 (k := ?_)
        refine y_callV_z_n hC hRm noS ml_X6_85 kk_141 (c6_isSign hRF  hw) (by omega) (by omega) ⟨Nat.zero_le _, Nat.zero_le _⟩ rfl (st := []) rfl (Nat.le_of_ble_eq_true rfl) dX6_readProduct_34 (fun r3 hw => ?_)
        refine wm_if_eq (tgt := 93) hC dX6_readProduct_37 (by decide) hw (fun hw => ?_) (fun hw => ?_)
        · exact wm_return hC hE dX6_readProduct_93 ⟨⟨rfl, rfl⟩, hw⟩
        · exact w6_readProduct_b40 hC hRm hE hRF hrc0 hrc1 hrc2 hrc3 hrc4 hrc5 hrc6 hrc7 kk6 hw
      · exact w6_readProduct_b40 hC hRm hE hRF hrc0 hrc1 hrc2 hrc3 hrc4 hrc5 hrc6 hrc7 kk6 hw
    · exact w6_readProduct_b40 hC hRm hE hRF hrc0 hrc1 hrc2 hrc3 hrc4 hrc5 hrc6 hrc7 kk6 hw
set_option maxRecDepth 20000 in
theorem w6_readProduct_b6 {rc : RTrd2} {d : Nat} {C : wX} {ad : Nat → Nat} {n : Nat} {J : mI} {R : mR} {Q : mI → Prop} (hC : wOK C cX6_readProduct 3 RX6) (hRm : wRm C (12 + (d + 1)) (600 + 40 * (d + 1)) 0 0) (hE : wEnd C none ad n (fun _ I' J' R' => (J' = J ∧ R' = R) ∧ Q I')) (hRF : RF R) (hrc0 : ∀ {I J : mI} {R : mR} {Q : mI → Prop}, RF R → rc 0 0 I R Q → wMet yX6_readTest cX6_readTest 2 none (12 + d) (600 + 40 * d) false ad n I J R [vr 141] (fun _ I' J' R' => (J' = J ∧ R' = R) ∧ Q I')) (hrc1 : ∀ {I J : mI} {R : mR} {Q : mI → Prop}, RF R → rc 1 0 I R Q → wMet yX6_readBoth cX6_readBoth 2 none (12 + d) (600 + 40 * d) false ad n I J R [vr 141] (fun _ I' J' R' => (J' = J ∧ R' = R) ∧ Q I')) (hrc2 : ∀ {I J : mI} {R : mR} {Q : mI → Prop}, RF R → rc 2 0 I R Q → wMet yX6_readFact cX6_readFact 1 none (12 + d) (600 + 40 * d) false ad n I J R [vr 141] (fun _ I' J' R' => (J' = J ∧ R' = R) ∧ Q I')) (hrc3 : ∀ {I J : mI} {R : mR} {Q : mI → Prop}, RF R → rc 3 0 I R Q → wMet yX6_readComparison cX6_readComparison 2 none (12 + d) (600 + 40 * d) false ad n I J R [vr 141] (fun _ I' J' R' => (J' = J ∧ R' = R) ∧ Q I')) (hrc4 : ∀ {I J : mI} {R : mR} {Q : mI → Prop}, RF R → rc 4 0 I R Q → wMet yX6_readSum cX6_readSum 3 none (12 + d) (600 + 40 * d) false ad n I J R [vr 141] (fun _ I' J' R' => (J' = J ∧ R' = R) ∧ Q I')) (hrc5 : ∀ {I J : mI} {R : mR} {Q : mI → Prop}, RF R → rc 5 0 I R Q → wMet yX6_readProduct cX6_readProduct 3 none (12 + d) (600 + 40 * d) false ad n I J R [vr 141] (fun _ I' J' R' => (J' = J ∧ R' = R) ∧ Q I')) (hrc6 : ∀ {I J : mI} {R : mR} {Q : mI → Prop}, RF R → rc 6 0 I R Q → wMet yX6_readPart cX6_readPart 2 none (12 + d) (600 + 40 * d) false ad n I J R [vr 141] (fun _ I' J' R' => (J' = J ∧ R' = R) ∧ Q I')) (hrc7 : ∀ {l1 : Int} {I J : mI} {R : mR} {Q : mI → Prop}, RF R → rc 7 l1 I R Q → wMet yX6_readChosen cX6_readChosen 2 none (12 + d) (600 + 40 * d) false ad n I J R [vr 141, vi l1] (fun _ I' J' R' => (J' = J ∧ R' = R) ∧ Q I'))      : ∀ (f : Nat) (l1 : Int) (I : mI), p6_readProduct_b6 rc R Q f l1 I → WM C ad n I J R 0 0 6 [(0, vr 141), (1, vi l1)] [] := by
  intro f
  induction f with
  | zero => intro l1 I hw; exact hw.elim
  | succ f ih => intro l1 I hw; exact w6_readProduct_b6_body hC hRm hE hRF hrc0 hrc1 hrc2 hrc3 hrc4 hrc5 hrc6 hrc7  (fun a0 a1 aw => ih a0 a1 aw) hw
def p6_readProduct (rc : RTrd2) (I : mI) (R : mR) (Q : mI → Prop) : Prop := (rc 6 0 I R (fun I1 => (∃ f, p6_readProduct_b6 rc R Q f 0 I1)))
set_option maxRecDepth 20000 in
theorem c6_readProduct {ad : Nat → Nat} {n : Nat} {I J : mI} {R : mR} {Q : mI → Prop} {rc : RTrd2} {d : Nat}  (hrc0 : ∀ {I J : mI} {R : mR} {Q : mI → Prop}, RF R → rc 0 0 I R Q → wMet yX6_readTest cX6_readTest 2 none (12 + d) (600 + 40 * d) false ad n I J R [vr 141] (fun _ I' J' R' => (J' = J ∧ R' = R) ∧ Q I')) (hrc1 : ∀ {I J : mI} {R : mR} {Q : mI → Prop}, RF R → rc 1 0 I R Q → wMet yX6_readBoth cX6_readBoth 2 none (12 + d) (600 + 40 * d) false ad n I J R [vr 141] (fun _ I' J' R' => (J' = J ∧ R' = R) ∧ Q I')) (hrc2 : ∀ {I J : mI} {R : mR} {Q : mI → Prop}, RF R → rc 2 0 I R Q → wMet yX6_readFact cX6_readFact 1 none (12 + d) (600 + 40 * d) false ad n I J R [vr 141] (fun _ I' J' R' => (J' = J ∧ R' = R) ∧ Q I')) (hrc3 : ∀ {I J : mI} {R : mR} {Q : mI → Prop}, RF R → rc 3 0 I R Q → wMet yX6_readComparison cX6_readComparison 2 none (12 + d) (600 + 40 * d) false ad n I J R [vr 141] (fun _ I' J' R' => (J' = J ∧ R' = R) ∧ Q I')) (hrc4 : ∀ {I J : mI} {R : mR} {Q : mI → Prop}, RF R → rc 4 0 I R Q → wMet yX6_readSum cX6_readSum 3 none (12 + d) (600 + 40 * d) false ad n I J R [vr 141] (fun _ I' J' R' => (J' = J ∧ R' = R) ∧ Q I')) (hrc5 : ∀ {I J : mI} {R : mR} {Q : mI → Prop}, RF R → rc 5 0 I R Q → wMet yX6_readProduct cX6_readProduct 3 none (12 + d) (600 + 40 * d) false ad n I J R [vr 141] (fun _ I' J' R' => (J' = J ∧ R' = R) ∧ Q I')) (hrc6 : ∀ {I J : mI} {R : mR} {Q : mI → Prop}, RF R → rc 6 0 I R Q → wMet yX6_readPart cX6_readPart 2 none (12 + d) (600 + 40 * d) false ad n I J R [vr 141] (fun _ I' J' R' => (J' = J ∧ R' = R) ∧ Q I')) (hrc7 : ∀ {l1 : Int} {I J : mI} {R : mR} {Q : mI → Prop}, RF R → rc 7 l1 I R Q → wMet yX6_readChosen cX6_readChosen 2 none (12 + d) (600 + 40 * d) false ad n I J R [vr 141, vi l1] (fun _ I' J' R' => (J' = J ∧ R' = R) ∧ Q I')) (hRF : RF R)   (hw : p6_readProduct rc I R Q) : wMet yX6_readProduct cX6_readProduct 3 none (12 + (d + 1)) (600 + 40 * (d + 1)) false ad n I J R [vr 141] (fun _ I' J' R' => (J' = J ∧ R' = R) ∧ Q I') := by
  refine wMet_of (by decide) (Nat.le_of_ble_eq_true rfl) (fun C hC hRm hE hS => ?_)
  refine (show WM C ad n I J R 0 0 0 [(0, vr 141)] [] from ?_)
  unfold p6_readProduct at hw
  refine wm_aload_n hC 0 dX6_readProduct_0 rfl (k_ne0 kk_141 (by decide)) ?_
  refine y_callV_v_I hC hRm noS ml_X6_215 kk_141 (hrc6 hRF  hw) (by omega) (by omega) ⟨Nat.zero_le _, Nat.zero_le _⟩ rfl (st := []) rfl (Nat.le_of_ble_eq_true rfl) dX6_readProduct_1 (fun I1 hw => ?_)
  refine wm_iconst hC dX6_readProduct_4 (k := ?_)
  refine wm_istore_n hC dX6_readProduct_5 (by decide) (L2 := [(1, vi 0), (0, vr 141)]) rfl ?_
  obtain ⟨f, hw⟩ := hw
  refine wm_sub [1, 0] (L2 := [(0, vr 141), (1, vi 0)]) rfl ?_
  exact w6_readProduct_b6 hC hRm hE hRF hrc0 hrc1 hrc2 hrc3 hrc4 hrc5 hrc6 hrc7  f _ _ hw
def p6_readPart (rc : RTrd2) (I : mI) (R : mR) (Q : mI → Prop) : Prop := (p6_ownHere I (fun r1 => (p6_variable r1 I (fun r2 => (p10_sortHere I (fun r3 => (if r3 = 3 then (p10_valueHere I (fun r12 => (p6_emit r12 I R (fun I11 => (p10_step I11 (fun I12 => (Q I12))))))) else (if r2 = 0 then (p6_isSign 40 I (fun r4 => (if r4 = 0 then (p6_isOwn 26 I (fun r5 => (if r5 = 0 then (p6_isOwn 27 I (fun r7 => (if r7 = 0 then (p6_isOwn 21 I (fun r9 => (if r9 = 0 then (p6_fail 1 I (fun I3 => (Q I3))) else (p6_ownHere I (fun r10 => (rc 7 r10 I R (fun I4 => (Q I4)))))))) else (p6_ownHere I (fun r8 => (rc 7 r8 I R (fun I2 => (Q I2)))))))) else (p6_ownHere I (fun r6 => (rc 7 r6 I R (fun I1 => (Q I1)))))))) else (p6_opens I (fun r11 I5 => (if r11 = 0 then (Q I5) else (rc 4 0 I5 R (fun I6 => (rg ((I6 141 3) - 1) ∧ (wLet (up I6 141 3 ((I6 141 3) - 1)) (fun I7 => (p6_expect 41 I7 (fun I8 => (Q I8)))))))))))))) else (p6_emit r2 I R (fun I9 => (p10_step I9 (fun I10 => (Q I10)))))))))))))
set_option maxRecDepth 20000 in
theorem c6_readPart {ad : Nat → Nat} {n : Nat} {I J : mI} {R : mR} {Q : mI → Prop} {rc : RTrd2} {d : Nat}  (hrc0 : ∀ {I J : mI} {R : mR} {Q : mI → Prop}, RF R → rc 0 0 I R Q → wMet yX6_readTest cX6_readTest 2 none (12 + d) (600 + 40 * d) false ad n I J R [vr 141] (fun _ I' J' R' => (J' = J ∧ R' = R) ∧ Q I')) (hrc1 : ∀ {I J : mI} {R : mR} {Q : mI → Prop}, RF R → rc 1 0 I R Q → wMet yX6_readBoth cX6_readBoth 2 none (12 + d) (600 + 40 * d) false ad n I J R [vr 141] (fun _ I' J' R' => (J' = J ∧ R' = R) ∧ Q I')) (hrc2 : ∀ {I J : mI} {R : mR} {Q : mI → Prop}, RF R → rc 2 0 I R Q → wMet yX6_readFact cX6_readFact 1 none (12 + d) (600 + 40 * d) false ad n I J R [vr 141] (fun _ I' J' R' => (J' = J ∧ R' = R) ∧ Q I')) (hrc3 : ∀ {I J : mI} {R : mR} {Q : mI → Prop}, RF R → rc 3 0 I R Q → wMet yX6_readComparison cX6_readComparison 2 none (12 + d) (600 + 40 * d) false ad n I J R [vr 141] (fun _ I' J' R' => (J' = J ∧ R' = R) ∧ Q I')) (hrc4 : ∀ {I J : mI} {R : mR} {Q : mI → Prop}, RF R → rc 4 0 I R Q → wMet yX6_readSum cX6_readSum 3 none (12 + d) (600 + 40 * d) false ad n I J R [vr 141] (fun _ I' J' R' => (J' = J ∧ R' = R) ∧ Q I')) (hrc5 : ∀ {I J : mI} {R : mR} {Q : mI → Prop}, RF R → rc 5 0 I R Q → wMet yX6_readProduct cX6_readProduct 3 none (12 + d) (600 + 40 * d) false ad n I J R [vr 141] (fun _ I' J' R' => (J' = J ∧ R' = R) ∧ Q I')) (hrc6 : ∀ {I J : mI} {R : mR} {Q : mI → Prop}, RF R → rc 6 0 I R Q → wMet yX6_readPart cX6_readPart 2 none (12 + d) (600 + 40 * d) false ad n I J R [vr 141] (fun _ I' J' R' => (J' = J ∧ R' = R) ∧ Q I')) (hrc7 : ∀ {l1 : Int} {I J : mI} {R : mR} {Q : mI → Prop}, RF R → rc 7 l1 I R Q → wMet yX6_readChosen cX6_readChosen 2 none (12 + d) (600 + 40 * d) false ad n I J R [vr 141, vi l1] (fun _ I' J' R' => (J' = J ∧ R' = R) ∧ Q I')) (hRF : RF R)   (hw : p6_readPart rc I R Q) : wMet yX6_readPart cX6_readPart 2 none (12 + (d + 1)) (600 + 40 * (d + 1)) false ad n I J R [vr 141] (fun _ I' J' R' => (J' = J ∧ R' = R) ∧ Q I') := by
  refine wMet_of (by decide) (Nat.le_of_ble_eq_true rfl) (fun C hC hRm hE hS => ?_)
  refine (show WM C ad n I J R 0 0 0 [(0, vr 141)] [] from ?_)
  unfold p6_readPart at hw
  refine wm_aload_n hC 0 dX6_readPart_0 rfl (k_ne0 kk_141 (by decide)) ?_
  refine wm_aload_n hC 0 dX6_readPart_1 rfl (k_ne0 kk_141 (by decide)) ?_
  refine y_callV_i_n hC hRm noS ml_X6_96 kk_141 (c6_ownHere hRF  hw) (by omega) (by omega) ⟨Nat.zero_le _, Nat.zero_le _⟩ rfl (st := [vr 141]) rfl (Nat.le_of_ble_eq_true rfl) dX6_readPart_2 (fun r1 hw => ?_)
  refine y_callV_i_n hC hRm noS ml_X6_218 kk_141 (c6_variable hRF  hw) (by omega) (by omega) ⟨Nat.zero_le _, Nat.zero_le _⟩ rfl (st := []) rfl (Nat.le_of_ble_eq_true rfl) dX6_readPart_5 (fun r2 hw => ?_)
  refine wm_istore_n hC dX6_readPart_8 (by decide) (L2 := [(1, vi r2), (0, vr 141)]) rfl ?_
  refine wm_aload_n hC 1 dX6_readPart_9 rfl (k_ne0 kk_141 (by decide)) ?_
  refine x_getR3 hC 1 fl_X6_12 rfl kk_141 (rf_141_1 hRF) dX6_readPart_10 ?_
  refine y_callV_i_n hC hRm noS ml_X6_51 kk_142 (c10_sortHere hRF  hw) (by omega) (by omega) ⟨Nat.zero_le _, Nat.zero_le _⟩ rfl (st := []) rfl (Nat.le_of_ble_eq_true rfl) dX6_readPart_13 (fun r3 hw => ?_)
  refine wm_iconst hC dX6_readPart_16 (k := ?_)
  refine wm_icmp_ne (tgt := 41) hC dX6_readPart_17 (by decide) hw (fun hw => ?_) (fun hw => ?_)
  · refine wm_aload_n hC 1 dX6_readPart_20 rfl (k_ne0 kk_141 (by decide)) ?_
    refine wm_aload_n hC 1 dX6_readPart_21 rfl (k_ne0 kk_141 (by decide)) ?_
    refine x_getR3 hC 1 fl_X6_12 rfl kk_141 (rf_141_1 hRF) dX6_readPart_22 ?_
    refine y_callV_i_n hC hRm noS ml_X6_78 kk_142 (c10_valueHere hRF  hw) (by omega) (by omega) ⟨Nat.zero_le _, Nat.zero_le _⟩ rfl (st := [vr 141]) rfl (Nat.le_of_ble_eq_true rfl) dX6_readPart_25 (fun r12 hw => ?_)
    refine y_callV_v_I hC hRm noS ml_X6_200 kk_141 (c6_emit hRF  hw) (by omega) (by omega) ⟨Nat.zero_le _, Nat.zero_le _⟩ rfl (st := []) rfl (Nat.le_of_ble_eq_true rfl) dX6_readPart_28 (fun I11 hw => ?_)
    refine wm_aload_n hC 1 dX6_readPart_31 rfl (k_ne0 kk_141 (by decide)) ?_
    refine x_getR3 hC 1 fl_X6_12 rfl kk_141 (rf_141_1 hRF) dX6_readPart_32 ?_
    refine y_callV_v_I hC hRm noS ml_X6_89 kk_142 (c10_step hRF  hw) (by omega) (by omega) ⟨Nat.zero_le _, Nat.zero_le _⟩ rfl (st := []) rfl (Nat.le_of_ble_eq_true rfl) dX6_readPart_35 (fun I12 hw => ?_)
    refine wm_goto (tgt := 142) hC dX6_readPart_38 (by decide) ?_
    exact wm_return hC hE dX6_readPart_142 ⟨⟨rfl, rfl⟩, hw⟩
  · refine wm_iload_n hC 0 dX6_readPart_41 rfl ?_
    refine wm_if_eq (tgt := 60) hC dX6_readPart_42 (by decide) hw (fun hw => ?_) (fun hw => ?_)
    · refine wm_aload_n hC 1 dX6_readPart_60 rfl (k_ne0 kk_141 (by decide)) ?_
      refine wm_bipush hC dX6_readPart_61 (k := ?_)
      refine y_callV_z_n hC hRm noS ml_X6_85 kk_141 (c6_isSign hRF  hw) (by omega) (by omega) ⟨Nat.zero_le _, Nat.zero_le _⟩ rfl (st := []) rfl (Nat.le_of_ble_eq_true rfl) dX6_readPart_63 (fun r4 hw => ?_)
      refine wm_if_eq (tgt := 99) hC dX6_readPart_66 (by decide) hw (fun hw => ?_) (fun hw => ?_)
      · refine wm_aload_n hC 1 dX6_readPart_99 rfl (k_ne0 kk_141 (by decide)) ?_
        refine wm_bipush hC dX6_readPart_100 (k := ?_)
        refine y_callV_z_n hC hRm noS ml_X6_156 kk_141 (c6_isOwn hRF  hw) (by omega) (by omega) ⟨Nat.zero_le _, Nat.zero_le _⟩ rfl (st := []) rfl (Nat.le_of_ble_eq_true rfl) dX6_readPart_102 (fun r5 hw => ?_)
        refine wm_if_ne (tgt := 126) hC dX6_readPart_105 (by decide) hw (fun hw => ?_) (fun hw => ?_)
        · refine wm_aload_n hC 1 dX6_readPart_108 rfl (k_ne0 kk_141 (by decide)) ?_
          refine wm_bipush hC dX6_readPart_109 (k := ?_)
          refine y_callV_z_n hC hRm noS ml_X6_156 kk_141 (c6_isOwn hRF  hw) (by omega) (by omega) ⟨Nat.zero_le _, Nat.zero_le _⟩ rfl (st := []) rfl (Nat.le_of_ble_eq_true rfl) dX6_readPart_111 (fun r7 hw => ?_)
          refine wm_if_ne (tgt := 126) hC dX6_readPart_114 (by decide) hw (fun hw => ?_) (fun hw => ?_)
          · refine wm_aload_n hC 1 dX6_readPart_117 rfl (k_ne0 kk_141 (by decide)) ?_
            refine wm_bipush hC dX6_readPart_118 (k := ?_)
            refine y_callV_z_n hC hRm noS ml_X6_156 kk_141 (c6_isOwn hRF  hw) (by omega) (by omega) ⟨Nat.zero_le _, Nat.zero_le _⟩ rfl (st := []) rfl (Nat.le_of_ble_eq_true rfl) dX6_readPart_120 (fun r9 hw => ?_)
            refine wm_if_eq (tgt := 137) hC dX6_readPart_123 (by decide) hw (fun hw => ?_) (fun hw => ?_)
            · refine wm_aload_n hC 1 dX6_readPart_137 rfl (k_ne0 kk_141 (by decide)) ?_
              refine wm_iconst hC dX6_readPart_138 (k := ?_)
              refine y_callV_v_I hC hRm noS ml_X6_92 kk_141 (c6_fail hRF  hw) (by omega) (by omega) ⟨Nat.zero_le _, Nat.zero_le _⟩ rfl (st := []) rfl (Nat.le_of_ble_eq_true rfl) dX6_readPart_139 (fun I3 hw => ?_)
              exact wm_return hC hE dX6_readPart_142 ⟨⟨rfl, rfl⟩, hw⟩
            · refine wm_aload_n hC 1 dX6_readPart_126 rfl (k_ne0 kk_141 (by decide)) ?_
              refine wm_aload_n hC 1 dX6_readPart_127 rfl (k_ne0 kk_141 (by decide)) ?_
              refine y_callV_i_n hC hRm noS ml_X6_96 kk_141 (c6_ownHere hRF  hw) (by omega) (by omega) ⟨Nat.zero_le _, Nat.zero_le _⟩ rfl (st := [vr 141]) rfl (Nat.le_of_ble_eq_true rfl) dX6_readPart_128 (fun r10 hw => ?_)
              refine y_callV_v_I hC hRm noS ml_X6_221 kk_141 (hrc7 hRF  hw) (by omega) (by omega) ⟨Nat.zero_le _, Nat.zero_le _⟩ rfl (st := []) rfl (Nat.le_of_ble_eq_true rfl) dX6_readPart_131 (fun I4 hw => ?_)
              refine wm_goto (tgt := 142) hC dX6_readPart_134 (by decide) ?_
              exact wm_return hC hE dX6_readPart_142 ⟨⟨rfl, rfl⟩, hw⟩
          · refine wm_aload_n hC 1 dX6_readPart_126 rfl (k_ne0 kk_141 (by decide)) ?_
            refine wm_aload_n hC 1 dX6_readPart_127 rfl (k_ne0 kk_141 (by decide)) ?_
            refine y_callV_i_n hC hRm noS ml_X6_96 kk_141 (c6_ownHere hRF  hw) (by omega) (by omega) ⟨Nat.zero_le _, Nat.zero_le _⟩ rfl (st := [vr 141]) rfl (Nat.le_of_ble_eq_true rfl) dX6_readPart_128 (fun r8 hw => ?_)
            refine y_callV_v_I hC hRm noS ml_X6_221 kk_141 (hrc7 hRF  hw) (by omega) (by omega) ⟨Nat.zero_le _, Nat.zero_le _⟩ rfl (st := []) rfl (Nat.le_of_ble_eq_true rfl) dX6_readPart_131 (fun I2 hw => ?_)
            refine wm_goto (tgt := 142) hC dX6_readPart_134 (by decide) ?_
            exact wm_return hC hE dX6_readPart_142 ⟨⟨rfl, rfl⟩, hw⟩
        · refine wm_aload_n hC 1 dX6_readPart_126 rfl (k_ne0 kk_141 (by decide)) ?_
          refine wm_aload_n hC 1 dX6_readPart_127 rfl (k_ne0 kk_141 (by decide)) ?_
          refine y_callV_i_n hC hRm noS ml_X6_96 kk_141 (c6_ownHere hRF  hw) (by omega) (by omega) ⟨Nat.zero_le _, Nat.zero_le _⟩ rfl (st := [vr 141]) rfl (Nat.le_of_ble_eq_true rfl) dX6_readPart_128 (fun r6 hw => ?_)
          refine y_callV_v_I hC hRm noS ml_X6_221 kk_141 (hrc7 hRF  hw) (by omega) (by omega) ⟨Nat.zero_le _, Nat.zero_le _⟩ rfl (st := []) rfl (Nat.le_of_ble_eq_true rfl) dX6_readPart_131 (fun I1 hw => ?_)
          refine wm_goto (tgt := 142) hC dX6_readPart_134 (by decide) ?_
          exact wm_return hC hE dX6_readPart_142 ⟨⟨rfl, rfl⟩, hw⟩
      · refine wm_aload_n hC 1 dX6_readPart_69 rfl (k_ne0 kk_141 (by decide)) ?_
        refine y_callV_z_I hC hRm noS ml_X6_206 kk_141 (c6_opens hRF  hw) (by omega) (by omega) ⟨Nat.zero_le _, Nat.zero_le _⟩ rfl (st := []) rfl (Nat.le_of_ble_eq_true rfl) dX6_readPart_70 (fun r11 I5 hw => ?_)
        refine wm_if_eq (tgt := 142) hC dX6_readPart_73 (by decide) hw (fun hw => ?_) (fun hw => ?_)
        · exact wm_return hC hE dX6_readPart_142 ⟨⟨rfl, rfl⟩, hw⟩
        · refine wm_aload_n hC 1 dX6_readPart_76 rfl (k_ne0 kk_141 (by decide)) ?_
          refine y_callV_v_I hC hRm noS ml_X6_186 kk_141 (hrc4 hRF  hw) (by omega) (by omega) ⟨Nat.zero_le _, Nat.zero_le _⟩ rfl (st := []) rfl (Nat.le_of_ble_eq_true rfl) dX6_readPart_77 (fun I6 hw => ?_)
          refine wm_aload_n hC 1 dX6_readPart_80 rfl (k_ne0 kk_141 (by decide)) ?_
          refine wm_dup hC dX6_readPart_81 (k := ?_)
          refine x_getI hC 3 fl_X6_18 rfl kk_141 dX6_readPart_82 ?_
          refine wm_iconst hC dX6_readPart_85 (k := ?_)
          refine x_isub hC dX6_readPart_86 hw (fun hw => ?_)
          refine x_putI hC 3 fl_X6_18 rfl kk_141 dX6_readPart_87 hw (fun I7 hw => ?_)
          refine wm_aload_n hC 1 dX6_readPart_90 rfl (k_ne0 kk_141 (by decide)) ?_
          refine wm_bipush hC dX6_readPart_91 (k := ?_)
          refine y_callV_v_I hC hRm noS ml_X6_128 kk_141 (c6_expect hRF  hw) (by omega) (by omega) ⟨Nat.zero_le _, Nat.zero_le _⟩ rfl (st := []) rfl (Nat.le_of_ble_eq_true rfl) dX6_readPart_93 (fun I8 hw => ?_)
          refine wm_goto (tgt := 142) hC dX6_readPart_96 (by decide) ?_
          exact wm_return hC hE dX6_readPart_142 ⟨⟨rfl, rfl⟩, hw⟩
    · refine wm_aload_n hC 1 dX6_readPart_45 rfl (k_ne0 kk_141 (by decide)) ?_
      refine wm_iload_n hC 0 dX6_readPart_46 rfl ?_
      refine y_callV_v_I hC hRm noS ml_X6_200 kk_141 (c6_emit hRF  hw) (by omega) (by omega) ⟨Nat.zero_le _, Nat.zero_le _⟩ rfl (st := []) rfl (Nat.le_of_ble_eq_true rfl) dX6_readPart_47 (fun I9 hw => ?_)
      refine wm_aload_n hC 1 dX6_readPart_50 rfl (k_ne0 kk_141 (by decide)) ?_
      refine x_getR3 hC 1 fl_X6_12 rfl kk_141 (rf_141_1 hRF) dX6_readPart_51 ?_
      refine y_callV_v_I hC hRm noS ml_X6_89 kk_142 (c10_step hRF  hw) (by omega) (by omega) ⟨Nat.zero_le _, Nat.zero_le _⟩ rfl (st := []) rfl (Nat.le_of_ble_eq_true rfl) dX6_readPart_54 (fun I10 hw => ?_)
      refine wm_goto (tgt := 142) hC dX6_readPart_57 (by decide) ?_
      exact wm_return hC hE dX6_readPart_142 ⟨⟨rfl, rfl⟩, hw⟩
def p6_readChosen_b46 (rc : RTrd2) (l1 : Int) (I : mI) (R : mR) (Q : mI → Prop) : Prop := (rc 4 0 I R (fun I6 => (p6_expect 44 I6 (fun I7 => (rc 4 0 I7 R (fun I8 => (rg ((I8 141 3) - 1) ∧ (wLet (up I8 141 3 ((I8 141 3) - 1)) (fun I9 => (p6_expect 41 I9 (fun I10 => (if l1 = 26 then (p6_emit (-15) I10 R (fun I13 => (Q I13))) else (if l1 = 27 then (p6_emit (-16) I10 R (fun I12 => (Q I12))) else (p6_emit (-23) I10 R (fun I11 => (Q I11))))))))))))))))
set_option maxRecDepth 20000 in
theorem w6_readChosen_b46 {rc : RTrd2} {d : Nat} {C : wX} {ad : Nat → Nat} {n : Nat} {I J : mI} {R : mR} {Q : mI → Prop} (hC : wOK C cX6_readChosen 2 RX6) (hRm : wRm C (12 + (d + 1)) (600 + 40 * (d + 1)) 0 0) (hE : wEnd C none ad n (fun _ I' J' R' => (J' = J ∧ R' = R) ∧ Q I')) (hRF : RF R) (hrc0 : ∀ {I J : mI} {R : mR} {Q : mI → Prop}, RF R → rc 0 0 I R Q → wMet yX6_readTest cX6_readTest 2 none (12 + d) (600 + 40 * d) false ad n I J R [vr 141] (fun _ I' J' R' => (J' = J ∧ R' = R) ∧ Q I')) (hrc1 : ∀ {I J : mI} {R : mR} {Q : mI → Prop}, RF R → rc 1 0 I R Q → wMet yX6_readBoth cX6_readBoth 2 none (12 + d) (600 + 40 * d) false ad n I J R [vr 141] (fun _ I' J' R' => (J' = J ∧ R' = R) ∧ Q I')) (hrc2 : ∀ {I J : mI} {R : mR} {Q : mI → Prop}, RF R → rc 2 0 I R Q → wMet yX6_readFact cX6_readFact 1 none (12 + d) (600 + 40 * d) false ad n I J R [vr 141] (fun _ I' J' R' => (J' = J ∧ R' = R) ∧ Q I')) (hrc3 : ∀ {I J : mI} {R : mR} {Q : mI → Prop}, RF R → rc 3 0 I R Q → wMet yX6_readComparison cX6_readComparison 2 none (12 + d) (600 + 40 * d) false ad n I J R [vr 141] (fun _ I' J' R' => (J' = J ∧ R' = R) ∧ Q I')) (hrc4 : ∀ {I J : mI} {R : mR} {Q : mI → Prop}, RF R → rc 4 0 I R Q → wMet yX6_readSum cX6_readSum 3 none (12 + d) (600 + 40 * d) false ad n I J R [vr 141] (fun _ I' J' R' => (J' = J ∧ R' = R) ∧ Q I')) (hrc5 : ∀ {I J : mI} {R : mR} {Q : mI → Prop}, RF R → rc 5 0 I R Q → wMet yX6_readProduct cX6_readProduct 3 none (12 + d) (600 + 40 * d) false ad n I J R [vr 141] (fun _ I' J' R' => (J' = J ∧ R' = R) ∧ Q I')) (hrc6 : ∀ {I J : mI} {R : mR} {Q : mI → Prop}, RF R → rc 6 0 I R Q → wMet yX6_readPart cX6_readPart 2 none (12 + d) (600 + 40 * d) false ad n I J R [vr 141] (fun _ I' J' R' => (J' = J ∧ R' = R) ∧ Q I')) (hrc7 : ∀ {l1 : Int} {I J : mI} {R : mR} {Q : mI → Prop}, RF R → rc 7 l1 I R Q → wMet yX6_readChosen cX6_readChosen 2 none (12 + d) (600 + 40 * d) false ad n I J R [vr 141, vi l1] (fun _ I' J' R' => (J' = J ∧ R' = R) ∧ Q I')) {l1 : Int}     (hw : p6_readChosen_b46 rc l1 I R Q) : WM C ad n I J R 0 0 46 [(0, vr 141), (1, vi l1)] [] := by
  unfold p6_readChosen_b46 at hw
  refine wm_aload_n hC 0 dX6_readChosen_46 rfl (k_ne0 kk_141 (by decide)) ?_
  refine y_callV_v_I hC hRm noS ml_X6_186 kk_141 (hrc4 hRF  hw) (by omega) (by omega) ⟨Nat.zero_le _, Nat.zero_le _⟩ rfl (st := []) rfl (Nat.le_of_ble_eq_true rfl) dX6_readChosen_47 (fun I6 hw => ?_)
  refine wm_aload_n hC 0 dX6_readChosen_50 rfl (k_ne0 kk_141 (by decide)) ?_
  refine wm_bipush hC dX6_readChosen_51 (k := ?_)
  refine y_callV_v_I hC hRm noS ml_X6_128 kk_141 (c6_expect hRF  hw) (by omega) (by omega) ⟨Nat.zero_le _, Nat.zero_le _⟩ rfl (st := []) rfl (Nat.le_of_ble_eq_true rfl) dX6_readChosen_53 (fun I7 hw => ?_)
  refine wm_aload_n hC 0 dX6_readChosen_56 rfl (k_ne0 kk_141 (by decide)) ?_
  refine y_callV_v_I hC hRm noS ml_X6_186 kk_141 (hrc4 hRF  hw) (by omega) (by omega) ⟨Nat.zero_le _, Nat.zero_le _⟩ rfl (st := []) rfl (Nat.le_of_ble_eq_true rfl) dX6_readChosen_57 (fun I8 hw => ?_)
  refine wm_aload_n hC 0 dX6_readChosen_60 rfl (k_ne0 kk_141 (by decide)) ?_
  refine wm_dup hC dX6_readChosen_61 (k := ?_)
  refine x_getI hC 3 fl_X6_18 rfl kk_141 dX6_readChosen_62 ?_
  refine wm_iconst hC dX6_readChosen_65 (k := ?_)
  refine x_isub hC dX6_readChosen_66 hw (fun hw => ?_)
  refine x_putI hC 3 fl_X6_18 rfl kk_141 dX6_readChosen_67 hw (fun I9 hw => ?_)
  refine wm_aload_n hC 0 dX6_readChosen_70 rfl (k_ne0 kk_141 (by decide)) ?_
  refine wm_bipush hC dX6_readChosen_71 (k := ?_)
  refine y_callV_v_I hC hRm noS ml_X6_128 kk_141 (c6_expect hRF  hw) (by omega) (by omega) ⟨Nat.zero_le _, Nat.zero_le _⟩ rfl (st := []) rfl (Nat.le_of_ble_eq_true rfl) dX6_readChosen_73 (fun I10 hw => ?_)
  refine wm_aload_n hC 0 dX6_readChosen_76 rfl (k_ne0 kk_141 (by decide)) ?_
  refine wm_iload_n hC 1 dX6_readChosen_77 rfl ?_
  refine wm_bipush hC dX6_readChosen_78 (k := ?_)
  refine wm_icmp_ne (tgt := 88) hC dX6_readChosen_80 (by decide) hw (fun hw => ?_) (fun hw => ?_)
  · refine wm_bipush hC dX6_readChosen_83 (k := ?_)
    refine wm_goto (tgt := 101) hC dX6_readChosen_85 (by decide) ?_
    refine y_callV_v_I hC hRm noS ml_X6_200 kk_141 (c6_emit hRF  hw) (by omega) (by omega) ⟨Nat.zero_le _, Nat.zero_le _⟩ rfl (st := []) rfl (Nat.le_of_ble_eq_true rfl) dX6_readChosen_101 (fun I13 hw => ?_)
    exact wm_return hC hE dX6_readChosen_104 ⟨⟨rfl, rfl⟩, hw⟩
  · refine wm_iload_n hC 1 dX6_readChosen_88 rfl ?_
    refine wm_bipush hC dX6_readChosen_89 (k := ?_)
    refine wm_icmp_ne (tgt := 99) hC dX6_readChosen_91 (by decide) hw (fun hw => ?_) (fun hw => ?_)
    · refine wm_bipush hC dX6_readChosen_94 (k := ?_)
      refine wm_goto (tgt := 101) hC dX6_readChosen_96 (by decide) ?_
      refine y_callV_v_I hC hRm noS ml_X6_200 kk_141 (c6_emit hRF  hw) (by omega) (by omega) ⟨Nat.zero_le _, Nat.zero_le _⟩ rfl (st := []) rfl (Nat.le_of_ble_eq_true rfl) dX6_readChosen_101 (fun I12 hw => ?_)
      exact wm_return hC hE dX6_readChosen_104 ⟨⟨rfl, rfl⟩, hw⟩
    · refine wm_bipush hC dX6_readChosen_99 (k := ?_)
      refine y_callV_v_I hC hRm noS ml_X6_200 kk_141 (c6_emit hRF  hw) (by omega) (by omega) ⟨Nat.zero_le _, Nat.zero_le _⟩ rfl (st := []) rfl (Nat.le_of_ble_eq_true rfl) dX6_readChosen_101 (fun I11 hw => ?_)
      exact wm_return hC hE dX6_readChosen_104 ⟨⟨rfl, rfl⟩, hw⟩
def p6_readChosen (rc : RTrd2) (l1 : Int) (I : mI) (R : mR) (Q : mI → Prop) : Prop := (p10_step I (fun I1 => (p6_isSign 40 I1 (fun r1 => (if r1 = 0 then (p6_fail 1 I1 (fun I5 => (Q I5))) else (p6_opens I1 (fun r2 I2 => (if r2 = 0 then (Q I2) else (if l1 = 21 then (rc 0 0 I2 R (fun I3 => (p6_expect 44 I3 (fun I4 => (p6_readChosen_b46 rc l1 I4 R Q))))) else (p6_readChosen_b46 rc l1 I2 R Q))))))))))
set_option maxRecDepth 20000 in
theorem c6_readChosen {ad : Nat → Nat} {n : Nat} {I J : mI} {R : mR} {Q : mI → Prop} {rc : RTrd2} {d : Nat}  (hrc0 : ∀ {I J : mI} {R : mR} {Q : mI → Prop}, RF R → rc 0 0 I R Q → wMet yX6_readTest cX6_readTest 2 none (12 + d) (600 + 40 * d) false ad n I J R [vr 141] (fun _ I' J' R' => (J' = J ∧ R' = R) ∧ Q I')) (hrc1 : ∀ {I J : mI} {R : mR} {Q : mI → Prop}, RF R → rc 1 0 I R Q → wMet yX6_readBoth cX6_readBoth 2 none (12 + d) (600 + 40 * d) false ad n I J R [vr 141] (fun _ I' J' R' => (J' = J ∧ R' = R) ∧ Q I')) (hrc2 : ∀ {I J : mI} {R : mR} {Q : mI → Prop}, RF R → rc 2 0 I R Q → wMet yX6_readFact cX6_readFact 1 none (12 + d) (600 + 40 * d) false ad n I J R [vr 141] (fun _ I' J' R' => (J' = J ∧ R' = R) ∧ Q I')) (hrc3 : ∀ {I J : mI} {R : mR} {Q : mI → Prop}, RF R → rc 3 0 I R Q → wMet yX6_readComparison cX6_readComparison 2 none (12 + d) (600 + 40 * d) false ad n I J R [vr 141] (fun _ I' J' R' => (J' = J ∧ R' = R) ∧ Q I')) (hrc4 : ∀ {I J : mI} {R : mR} {Q : mI → Prop}, RF R → rc 4 0 I R Q → wMet yX6_readSum cX6_readSum 3 none (12 + d) (600 + 40 * d) false ad n I J R [vr 141] (fun _ I' J' R' => (J' = J ∧ R' = R) ∧ Q I')) (hrc5 : ∀ {I J : mI} {R : mR} {Q : mI → Prop}, RF R → rc 5 0 I R Q → wMet yX6_readProduct cX6_readProduct 3 none (12 + d) (600 + 40 * d) false ad n I J R [vr 141] (fun _ I' J' R' => (J' = J ∧ R' = R) ∧ Q I')) (hrc6 : ∀ {I J : mI} {R : mR} {Q : mI → Prop}, RF R → rc 6 0 I R Q → wMet yX6_readPart cX6_readPart 2 none (12 + d) (600 + 40 * d) false ad n I J R [vr 141] (fun _ I' J' R' => (J' = J ∧ R' = R) ∧ Q I')) (hrc7 : ∀ {l1 : Int} {I J : mI} {R : mR} {Q : mI → Prop}, RF R → rc 7 l1 I R Q → wMet yX6_readChosen cX6_readChosen 2 none (12 + d) (600 + 40 * d) false ad n I J R [vr 141, vi l1] (fun _ I' J' R' => (J' = J ∧ R' = R) ∧ Q I')) (hRF : RF R) {l1 : Int}   (hw : p6_readChosen rc l1 I R Q) : wMet yX6_readChosen cX6_readChosen 2 none (12 + (d + 1)) (600 + 40 * (d + 1)) false ad n I J R [vr 141, vi l1] (fun _ I' J' R' => (J' = J ∧ R' = R) ∧ Q I') := by
  refine wMet_of (by decide) (Nat.le_of_ble_eq_true rfl) (fun C hC hRm hE hS => ?_)
  refine (show WM C ad n I J R 0 0 0 [(0, vr 141), (1, vi l1)] [] from ?_)
  unfold p6_readChosen at hw
  refine wm_aload_n hC 0 dX6_readChosen_0 rfl (k_ne0 kk_141 (by decide)) ?_
  refine x_getR3 hC 1 fl_X6_12 rfl kk_141 (rf_141_1 hRF) dX6_readChosen_1 ?_
  refine y_callV_v_I hC hRm noS ml_X6_89 kk_142 (c10_step hRF  hw) (by omega) (by omega) ⟨Nat.zero_le _, Nat.zero_le _⟩ rfl (st := []) rfl (Nat.le_of_ble_eq_true rfl) dX6_readChosen_4 (fun I1 hw => ?_)
  refine wm_aload_n hC 0 dX6_readChosen_7 rfl (k_ne0 kk_141 (by decide)) ?_
  refine wm_bipush hC dX6_readChosen_8 (k := ?_)
  refine y_callV_z_n hC hRm noS ml_X6_85 kk_141 (c6_isSign hRF  hw) (by omega) (by omega) ⟨Nat.zero_le _, Nat.zero_le _⟩ rfl (st := []) rfl (Nat.le_of_ble_eq_true rfl) dX6_readChosen_10 (fun r1 hw => ?_)
  refine wm_if_ne (tgt := 22) hC dX6_readChosen_13 (by decide) hw (fun hw => ?_) (fun hw => ?_)
  · refine wm_aload_n hC 0 dX6_readChosen_16 rfl (k_ne0 kk_141 (by decide)) ?_
    refine wm_iconst hC dX6_readChosen_17 (k := ?_)
    refine y_callV_v_I hC hRm noS ml_X6_92 kk_141 (c6_fail hRF  hw) (by omega) (by omega) ⟨Nat.zero_le _, Nat.zero_le _⟩ rfl (st := []) rfl (Nat.le_of_ble_eq_true rfl) dX6_readChosen_18 (fun I5 hw => ?_)
    exact wm_return hC hE dX6_readChosen_21 ⟨⟨rfl, rfl⟩, hw⟩
  · refine wm_aload_n hC 0 dX6_readChosen_22 rfl (k_ne0 kk_141 (by decide)) ?_
    refine y_callV_z_I hC hRm noS ml_X6_206 kk_141 (c6_opens hRF  hw) (by omega) (by omega) ⟨Nat.zero_le _, Nat.zero_le _⟩ rfl (st := []) rfl (Nat.le_of_ble_eq_true rfl) dX6_readChosen_23 (fun r2 I2 hw => ?_)
    refine wm_if_ne (tgt := 30) hC dX6_readChosen_26 (by decide) hw (fun hw => ?_) (fun hw => ?_)
    · exact wm_return hC hE dX6_readChosen_29 ⟨⟨rfl, rfl⟩, hw⟩
    · refine wm_iload_n hC 1 dX6_readChosen_30 rfl ?_
      refine wm_bipush hC dX6_readChosen_31 (k := ?_)
      refine wm_icmp_ne (tgt := 46) hC dX6_readChosen_33 (by decide) hw (fun hw => ?_) (fun hw => ?_)
      · refine wm_aload_n hC 0 dX6_readChosen_36 rfl (k_ne0 kk_141 (by decide)) ?_
        refine y_callV_v_I hC hRm noS ml_X6_183 kk_141 (hrc0 hRF  hw) (by omega) (by omega) ⟨Nat.zero_le _, Nat.zero_le _⟩ rfl (st := []) rfl (Nat.le_of_ble_eq_true rfl) dX6_readChosen_37 (fun I3 hw => ?_)
        refine wm_aload_n hC 0 dX6_readChosen_40 rfl (k_ne0 kk_141 (by decide)) ?_
        refine wm_bipush hC dX6_readChosen_41 (k := ?_)
        refine y_callV_v_I hC hRm noS ml_X6_128 kk_141 (c6_expect hRF  hw) (by omega) (by omega) ⟨Nat.zero_le _, Nat.zero_le _⟩ rfl (st := []) rfl (Nat.le_of_ble_eq_true rfl) dX6_readChosen_43 (fun I4 hw => ?_)
        exact w6_readChosen_b46 hC hRm hE hRF hrc0 hrc1 hrc2 hrc3 hrc4 hrc5 hrc6 hrc7  hw
      · exact w6_readChosen_b46 hC hRm hE hRF hrc0 hrc1 hrc2 hrc3 hrc4 hrc5 hrc6 hrc7  hw
def pGrd : Nat → RTrd2
  | 0 => fun _ _ _ _ _ => False
  | d + 1 => fun w l1 I R Q => if w = 0 then p6_readTest (pGrd d) I R Q else if w = 1 then p6_readBoth (pGrd d) I R Q else if w = 2 then p6_readFact (pGrd d) I R Q else if w = 3 then p6_readComparison (pGrd d) I R Q else if w = 4 then p6_readSum (pGrd d) I R Q else if w = 5 then p6_readProduct (pGrd d) I R Q else if w = 6 then p6_readPart (pGrd d) I R Q else p6_readChosen (pGrd d) l1 I R Q
set_option maxRecDepth 20000 in
theorem cGrd {ad : Nat → Nat} {n : Nat} : ∀ (d : Nat), (∀ {I J : mI} {R : mR} {Q : mI → Prop}, RF R → pGrd d 0 0 I R Q → wMet yX6_readTest cX6_readTest 2 none (12 + d) (600 + 40 * d) false ad n I J R [vr 141] (fun _ I' J' R' => (J' = J ∧ R' = R) ∧ Q I')) ∧ (∀ {I J : mI} {R : mR} {Q : mI → Prop}, RF R → pGrd d 1 0 I R Q → wMet yX6_readBoth cX6_readBoth 2 none (12 + d) (600 + 40 * d) false ad n I J R [vr 141] (fun _ I' J' R' => (J' = J ∧ R' = R) ∧ Q I')) ∧ (∀ {I J : mI} {R : mR} {Q : mI → Prop}, RF R → pGrd d 2 0 I R Q → wMet yX6_readFact cX6_readFact 1 none (12 + d) (600 + 40 * d) false ad n I J R [vr 141] (fun _ I' J' R' => (J' = J ∧ R' = R) ∧ Q I')) ∧ (∀ {I J : mI} {R : mR} {Q : mI → Prop}, RF R → pGrd d 3 0 I R Q → wMet yX6_readComparison cX6_readComparison 2 none (12 + d) (600 + 40 * d) false ad n I J R [vr 141] (fun _ I' J' R' => (J' = J ∧ R' = R) ∧ Q I')) ∧ (∀ {I J : mI} {R : mR} {Q : mI → Prop}, RF R → pGrd d 4 0 I R Q → wMet yX6_readSum cX6_readSum 3 none (12 + d) (600 + 40 * d) false ad n I J R [vr 141] (fun _ I' J' R' => (J' = J ∧ R' = R) ∧ Q I')) ∧ (∀ {I J : mI} {R : mR} {Q : mI → Prop}, RF R → pGrd d 5 0 I R Q → wMet yX6_readProduct cX6_readProduct 3 none (12 + d) (600 + 40 * d) false ad n I J R [vr 141] (fun _ I' J' R' => (J' = J ∧ R' = R) ∧ Q I')) ∧ (∀ {I J : mI} {R : mR} {Q : mI → Prop}, RF R → pGrd d 6 0 I R Q → wMet yX6_readPart cX6_readPart 2 none (12 + d) (600 + 40 * d) false ad n I J R [vr 141] (fun _ I' J' R' => (J' = J ∧ R' = R) ∧ Q I')) ∧ (∀ {l1 : Int} {I J : mI} {R : mR} {Q : mI → Prop}, RF R → pGrd d 7 l1 I R Q → wMet yX6_readChosen cX6_readChosen 2 none (12 + d) (600 + 40 * d) false ad n I J R [vr 141, vi l1] (fun _ I' J' R' => (J' = J ∧ R' = R) ∧ Q I')) := by
  intro d
  induction d with
  | zero => exact ⟨fun _ hw => hw.elim, fun _ hw => hw.elim, fun _ hw => hw.elim, fun _ hw => hw.elim, fun _ hw => hw.elim, fun _ hw => hw.elim, fun _ hw => hw.elim, fun _ hw => hw.elim⟩
  | succ d ih =>
    obtain ⟨h0, h1, h2, h3, h4, h5, h6, h7⟩ := ih
    exact ⟨fun hRF hw => c6_readTest h0 h1 h2 h3 h4 h5 h6 h7 hRF hw, fun hRF hw => c6_readBoth h0 h1 h2 h3 h4 h5 h6 h7 hRF hw, fun hRF hw => c6_readFact h0 h1 h2 h3 h4 h5 h6 h7 hRF hw, fun hRF hw => c6_readComparison h0 h1 h2 h3 h4 h5 h6 h7 hRF hw, fun hRF hw => c6_readSum h0 h1 h2 h3 h4 h5 h6 h7 hRF hw, fun hRF hw => c6_readProduct h0 h1 h2 h3 h4 h5 h6 h7 hRF hw, fun hRF hw => c6_readPart h0 h1 h2 h3 h4 h5 h6 h7 hRF hw, fun hRF hw => c6_readChosen h0 h1 h2 h3 h4 h5 h6 h7 hRF hw⟩
theorem cGrd_0 {ad : Nat → Nat} {n : Nat} {I J : mI} {R : mR} {Q : mI → Prop} (hRF : RF R) (hw : pGrd 90 0 0 I R Q) : wMet yX6_readTest cX6_readTest 2 none 102 4200 false ad n I J R [vr 141] (fun _ I' J' R' => (J' = J ∧ R' = R) ∧ Q I') := (cGrd 90).1 hRF hw
theorem cGrd_4 {ad : Nat → Nat} {n : Nat} {I J : mI} {R : mR} {Q : mI → Prop} (hRF : RF R) (hw : pGrd 90 4 0 I R Q) : wMet yX6_readSum cX6_readSum 3 none 102 4200 false ad n I J R [vr 141] (fun _ I' J' R' => (J' = J ∧ R' = R) ∧ Q I') := (cGrd 90).2.2.2.2.1 hRF hw
