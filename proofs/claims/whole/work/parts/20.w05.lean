abbrev RTrd : Type := Nat → Nat → Int → mI → mR → (mI → Prop) → Prop
def P6_readTest_b6_body (rc : RTrd) (l0 : Nat) (R : mR) (Q : mI → Prop) (k6 : Int → mI → Prop) (l1 : Int) (I : mI) : Prop := (if (1600 : Int) ≤ l1 then (Q I) else (P6_isOwn l0 22 I R (fun r1 => (if r1 = 0 then (Q I) else (kK (R l0 1) = 10 ∧ (P10_step (R l0 1) I (fun I2 => (rc 1 l0 0 I2 R (fun I3 => (P6_emit l0 (-21) I3 R (fun I4 => (rg (l1 + 1) ∧ (k6 (l1 + 1) I4)))))))))))))
def P6_readTest_b6 (rc : RTrd) (l0 : Nat) (R : mR) (Q : mI → Prop) : Nat → Int → mI → Prop
  | 0 => fun _ _ => False
  | f + 1 => fun l1 I => P6_readTest_b6_body rc l0 R Q (P6_readTest_b6 rc l0 R Q f) l1 I
set_option maxRecDepth 20000 in
theorem W6_readTest_b6_body {rc : RTrd} {d : Nat} {C : wX} {ad : Nat → Nat} {n : Nat} {I J : mI} {R : mR} {Q : mI → Prop} (hC : wOK C cX6_readTest 2 RX6) (hRm : wRm C (12 + (d + 1)) (600 + 40 * (d + 1)) 0 0) (hE : wEnd C none ad n (fun _ I' J' R' => (J' = J ∧ R' = R) ∧ Q I')) (hrc0 : ∀ {l0 : Nat} {I J : mI} {R : mR} {Q : mI → Prop}, kK l0 = 6 → rc 0 l0 0 I R Q → wMet yX6_readTest cX6_readTest 2 none (12 + d) (600 + 40 * d) false ad n I J R [vr l0] (fun _ I' J' R' => (J' = J ∧ R' = R) ∧ Q I')) (hrc1 : ∀ {l0 : Nat} {I J : mI} {R : mR} {Q : mI → Prop}, kK l0 = 6 → rc 1 l0 0 I R Q → wMet yX6_readBoth cX6_readBoth 2 none (12 + d) (600 + 40 * d) false ad n I J R [vr l0] (fun _ I' J' R' => (J' = J ∧ R' = R) ∧ Q I')) (hrc2 : ∀ {l0 : Nat} {I J : mI} {R : mR} {Q : mI → Prop}, kK l0 = 6 → rc 2 l0 0 I R Q → wMet yX6_readFact cX6_readFact 1 none (12 + d) (600 + 40 * d) false ad n I J R [vr l0] (fun _ I' J' R' => (J' = J ∧ R' = R) ∧ Q I')) (hrc3 : ∀ {l0 : Nat} {I J : mI} {R : mR} {Q : mI → Prop}, kK l0 = 6 → rc 3 l0 0 I R Q → wMet yX6_readComparison cX6_readComparison 2 none (12 + d) (600 + 40 * d) false ad n I J R [vr l0] (fun _ I' J' R' => (J' = J ∧ R' = R) ∧ Q I')) (hrc4 : ∀ {l0 : Nat} {I J : mI} {R : mR} {Q : mI → Prop}, kK l0 = 6 → rc 4 l0 0 I R Q → wMet yX6_readSum cX6_readSum 3 none (12 + d) (600 + 40 * d) false ad n I J R [vr l0] (fun _ I' J' R' => (J' = J ∧ R' = R) ∧ Q I')) (hrc5 : ∀ {l0 : Nat} {I J : mI} {R : mR} {Q : mI → Prop}, kK l0 = 6 → rc 5 l0 0 I R Q → wMet yX6_readProduct cX6_readProduct 3 none (12 + d) (600 + 40 * d) false ad n I J R [vr l0] (fun _ I' J' R' => (J' = J ∧ R' = R) ∧ Q I')) (hrc6 : ∀ {l0 : Nat} {I J : mI} {R : mR} {Q : mI → Prop}, kK l0 = 6 → rc 6 l0 0 I R Q → wMet yX6_readPart cX6_readPart 2 none (12 + d) (600 + 40 * d) false ad n I J R [vr l0] (fun _ I' J' R' => (J' = J ∧ R' = R) ∧ Q I')) (hrc7 : ∀ {l0 : Nat} {l1 : Int} {I J : mI} {R : mR} {Q : mI → Prop}, kK l0 = 6 → rc 7 l0 l1 I R Q → wMet yX6_readChosen cX6_readChosen 2 none (12 + d) (600 + 40 * d) false ad n I J R [vr l0, vi l1] (fun _ I' J' R' => (J' = J ∧ R' = R) ∧ Q I')) {l0 : Nat} {l1 : Int}   (hk0 : kK l0 = 6)  {k6 : Int → mI → Prop} (kk6 : ∀ (y1 : Int) (I' : mI), k6 y1 I' → WM C ad n I' J R 0 0 6 [(0, vr l0), (1, vi y1)] []) (hw : P6_readTest_b6_body rc l0 R Q k6 l1 I) : WM C ad n I J R 0 0 6 [(0, vr l0), (1, vi l1)] [] := by
  unfold P6_readTest_b6_body at hw
  refine wm_iload_n hC 1 dX6_readTest_6 rfl ?_
  refine wm_sipush hC dX6_readTest_7 (k := ?_)
  refine wm_icmp_ge (tgt := 45) hC dX6_readTest_10 (by decide) hw (fun hw => ?_) (fun hw => ?_)
  · exact wm_return hC hE dX6_readTest_45 ⟨⟨rfl, rfl⟩, hw⟩
  · refine wm_aload_n hC 0 dX6_readTest_13 rfl (k_ne0 hk0 (by decide)) ?_
    refine wm_bipush hC dX6_readTest_14 (k := ?_)
    refine y_callV_z_n hC hRm noS ml_X6_156 hk0 (C6_isOwn hk0 hw) (by omega) (by omega) ⟨Nat.zero_le _, Nat.zero_le _⟩ rfl (st := []) rfl (Nat.le_of_ble_eq_true rfl) dX6_readTest_16 (fun r1 hw => ?_)
    refine wm_if_eq (tgt := 45) hC dX6_readTest_19 (by decide) hw (fun hw => ?_) (fun hw => ?_)
    · exact wm_return hC hE dX6_readTest_45 ⟨⟨rfl, rfl⟩, hw⟩
    · refine wm_aload_n hC 0 dX6_readTest_22 rfl (k_ne0 hk0 (by decide)) ?_
      refine x_getR2 hC 1 fl_X6_12 rfl hk0 dX6_readTest_23 hw (fun g1 hw => ?_)
      refine y_callV_v_I hC hRm noS ml_X6_89 g1 (C10_step g1 hw) (by omega) (by omega) ⟨Nat.zero_le _, Nat.zero_le _⟩ rfl (st := []) rfl (Nat.le_of_ble_eq_true rfl) dX6_readTest_26 (fun I2 hw => ?_)
      refine wm_aload_n hC 0 dX6_readTest_29 rfl (k_ne0 hk0 (by decide)) ?_
      refine y_callV_v_I hC hRm noS ml_X6_195 hk0 (hrc1 hk0 hw) (by omega) (by omega) ⟨Nat.zero_le _, Nat.zero_le _⟩ rfl (st := []) rfl (Nat.le_of_ble_eq_true rfl) dX6_readTest_30 (fun I3 hw => ?_)
      refine wm_aload_n hC 0 dX6_readTest_33 rfl (k_ne0 hk0 (by decide)) ?_
      refine wm_bipush hC dX6_readTest_34 (k := ?_)
      refine y_callV_v_I hC hRm noS ml_X6_200 hk0 (C6_emit hk0 hw) (by omega) (by omega) ⟨Nat.zero_le _, Nat.zero_le _⟩ rfl (st := []) rfl (Nat.le_of_ble_eq_true rfl) dX6_readTest_36 (fun I4 hw => ?_)
      refine x_iinc hC 1 dX6_readTest_39 rfl (by decide) (L2 := [(1, vi (l1 + 1)), (0, vr l0)]) rfl hw (fun hw => ?_)
      refine wm_goto (tgt := 6) hC dX6_readTest_42 (by decide) ?_
      refine wm_sub [1, 0] (L2 := [(0, vr l0), (1, vi (l1 + 1))]) rfl ?_
      exact kk6 _ _ hw
set_option maxRecDepth 20000 in
theorem W6_readTest_b6 {rc : RTrd} {d : Nat} {C : wX} {ad : Nat → Nat} {n : Nat} {J : mI} {R : mR} {Q : mI → Prop} (hC : wOK C cX6_readTest 2 RX6) (hRm : wRm C (12 + (d + 1)) (600 + 40 * (d + 1)) 0 0) (hE : wEnd C none ad n (fun _ I' J' R' => (J' = J ∧ R' = R) ∧ Q I')) (hrc0 : ∀ {l0 : Nat} {I J : mI} {R : mR} {Q : mI → Prop}, kK l0 = 6 → rc 0 l0 0 I R Q → wMet yX6_readTest cX6_readTest 2 none (12 + d) (600 + 40 * d) false ad n I J R [vr l0] (fun _ I' J' R' => (J' = J ∧ R' = R) ∧ Q I')) (hrc1 : ∀ {l0 : Nat} {I J : mI} {R : mR} {Q : mI → Prop}, kK l0 = 6 → rc 1 l0 0 I R Q → wMet yX6_readBoth cX6_readBoth 2 none (12 + d) (600 + 40 * d) false ad n I J R [vr l0] (fun _ I' J' R' => (J' = J ∧ R' = R) ∧ Q I')) (hrc2 : ∀ {l0 : Nat} {I J : mI} {R : mR} {Q : mI → Prop}, kK l0 = 6 → rc 2 l0 0 I R Q → wMet yX6_readFact cX6_readFact 1 none (12 + d) (600 + 40 * d) false ad n I J R [vr l0] (fun _ I' J' R' => (J' = J ∧ R' = R) ∧ Q I')) (hrc3 : ∀ {l0 : Nat} {I J : mI} {R : mR} {Q : mI → Prop}, kK l0 = 6 → rc 3 l0 0 I R Q → wMet yX6_readComparison cX6_readComparison 2 none (12 + d) (600 + 40 * d) false ad n I J R [vr l0] (fun _ I' J' R' => (J' = J ∧ R' = R) ∧ Q I')) (hrc4 : ∀ {l0 : Nat} {I J : mI} {R : mR} {Q : mI → Prop}, kK l0 = 6 → rc 4 l0 0 I R Q → wMet yX6_readSum cX6_readSum 3 none (12 + d) (600 + 40 * d) false ad n I J R [vr l0] (fun _ I' J' R' => (J' = J ∧ R' = R) ∧ Q I')) (hrc5 : ∀ {l0 : Nat} {I J : mI} {R : mR} {Q : mI → Prop}, kK l0 = 6 → rc 5 l0 0 I R Q → wMet yX6_readProduct cX6_readProduct 3 none (12 + d) (600 + 40 * d) false ad n I J R [vr l0] (fun _ I' J' R' => (J' = J ∧ R' = R) ∧ Q I')) (hrc6 : ∀ {l0 : Nat} {I J : mI} {R : mR} {Q : mI → Prop}, kK l0 = 6 → rc 6 l0 0 I R Q → wMet yX6_readPart cX6_readPart 2 none (12 + d) (600 + 40 * d) false ad n I J R [vr l0] (fun _ I' J' R' => (J' = J ∧ R' = R) ∧ Q I')) (hrc7 : ∀ {l0 : Nat} {l1 : Int} {I J : mI} {R : mR} {Q : mI → Prop}, kK l0 = 6 → rc 7 l0 l1 I R Q → wMet yX6_readChosen cX6_readChosen 2 none (12 + d) (600 + 40 * d) false ad n I J R [vr l0, vi l1] (fun _ I' J' R' => (J' = J ∧ R' = R) ∧ Q I')) {l0 : Nat}   (hk0 : kK l0 = 6)  : ∀ (f : Nat) (l1 : Int) (I : mI), P6_readTest_b6 rc l0 R Q f l1 I → WM C ad n I J R 0 0 6 [(0, vr l0), (1, vi l1)] [] := by
  intro f
  induction f with
  | zero => intro l1 I hw; exact hw.elim
  | succ f ih => intro l1 I hw; exact W6_readTest_b6_body hC hRm hE hrc0 hrc1 hrc2 hrc3 hrc4 hrc5 hrc6 hrc7 hk0 (fun a0 a1 hw => ih a0 a1 hw) hw
def P6_readTest (rc : RTrd) (l0 : Nat) (I : mI) (R : mR) (Q : mI → Prop) : Prop := (rc 1 l0 0 I R (fun I1 => (∃ f, P6_readTest_b6 rc l0 R Q f 0 I1)))
set_option maxRecDepth 20000 in
theorem C6_readTest {ad : Nat → Nat} {n : Nat} {I J : mI} {R : mR} {Q : mI → Prop} {rc : RTrd} {d : Nat}  (hrc0 : ∀ {l0 : Nat} {I J : mI} {R : mR} {Q : mI → Prop}, kK l0 = 6 → rc 0 l0 0 I R Q → wMet yX6_readTest cX6_readTest 2 none (12 + d) (600 + 40 * d) false ad n I J R [vr l0] (fun _ I' J' R' => (J' = J ∧ R' = R) ∧ Q I')) (hrc1 : ∀ {l0 : Nat} {I J : mI} {R : mR} {Q : mI → Prop}, kK l0 = 6 → rc 1 l0 0 I R Q → wMet yX6_readBoth cX6_readBoth 2 none (12 + d) (600 + 40 * d) false ad n I J R [vr l0] (fun _ I' J' R' => (J' = J ∧ R' = R) ∧ Q I')) (hrc2 : ∀ {l0 : Nat} {I J : mI} {R : mR} {Q : mI → Prop}, kK l0 = 6 → rc 2 l0 0 I R Q → wMet yX6_readFact cX6_readFact 1 none (12 + d) (600 + 40 * d) false ad n I J R [vr l0] (fun _ I' J' R' => (J' = J ∧ R' = R) ∧ Q I')) (hrc3 : ∀ {l0 : Nat} {I J : mI} {R : mR} {Q : mI → Prop}, kK l0 = 6 → rc 3 l0 0 I R Q → wMet yX6_readComparison cX6_readComparison 2 none (12 + d) (600 + 40 * d) false ad n I J R [vr l0] (fun _ I' J' R' => (J' = J ∧ R' = R) ∧ Q I')) (hrc4 : ∀ {l0 : Nat} {I J : mI} {R : mR} {Q : mI → Prop}, kK l0 = 6 → rc 4 l0 0 I R Q → wMet yX6_readSum cX6_readSum 3 none (12 + d) (600 + 40 * d) false ad n I J R [vr l0] (fun _ I' J' R' => (J' = J ∧ R' = R) ∧ Q I')) (hrc5 : ∀ {l0 : Nat} {I J : mI} {R : mR} {Q : mI → Prop}, kK l0 = 6 → rc 5 l0 0 I R Q → wMet yX6_readProduct cX6_readProduct 3 none (12 + d) (600 + 40 * d) false ad n I J R [vr l0] (fun _ I' J' R' => (J' = J ∧ R' = R) ∧ Q I')) (hrc6 : ∀ {l0 : Nat} {I J : mI} {R : mR} {Q : mI → Prop}, kK l0 = 6 → rc 6 l0 0 I R Q → wMet yX6_readPart cX6_readPart 2 none (12 + d) (600 + 40 * d) false ad n I J R [vr l0] (fun _ I' J' R' => (J' = J ∧ R' = R) ∧ Q I')) (hrc7 : ∀ {l0 : Nat} {l1 : Int} {I J : mI} {R : mR} {Q : mI → Prop}, kK l0 = 6 → rc 7 l0 l1 I R Q → wMet yX6_readChosen cX6_readChosen 2 none (12 + d) (600 + 40 * d) false ad n I J R [vr l0, vi l1] (fun _ I' J' R' => (J' = J ∧ R' = R) ∧ Q I')) {l0 : Nat} (hk0 : kK l0 = 6) (hw : P6_readTest rc l0 I R Q) : wMet yX6_readTest cX6_readTest 2 none (12 + (d + 1)) (600 + 40 * (d + 1)) false ad n I J R [vr l0] (fun _ I' J' R' => (J' = J ∧ R' = R) ∧ Q I') := by
  refine wMet_of (by decide) (Nat.le_of_ble_eq_true rfl) (fun C hC hRm hE hS => ?_)
  refine (show WM C ad n I J R 0 0 0 [(0, vr l0)] [] from ?_)
  unfold P6_readTest at hw
  refine wm_aload_n hC 0 dX6_readTest_0 rfl (k_ne0 hk0 (by decide)) ?_
  refine y_callV_v_I hC hRm noS ml_X6_195 hk0 (hrc1 hk0 hw) (by omega) (by omega) ⟨Nat.zero_le _, Nat.zero_le _⟩ rfl (st := []) rfl (Nat.le_of_ble_eq_true rfl) dX6_readTest_1 (fun I1 hw => ?_)
  refine wm_iconst hC dX6_readTest_4 (k := ?_)
  refine wm_istore_n hC dX6_readTest_5 (by decide) (L2 := [(1, vi 0), (0, vr l0)]) rfl ?_
  obtain ⟨f, hw⟩ := hw
  refine wm_sub [1, 0] (L2 := [(0, vr l0), (1, vi 0)]) rfl ?_
  exact W6_readTest_b6 hC hRm hE hrc0 hrc1 hrc2 hrc3 hrc4 hrc5 hrc6 hrc7 hk0 f _ _ hw
def P6_readBoth_b6_body (rc : RTrd) (l0 : Nat) (R : mR) (Q : mI → Prop) (k6 : Int → mI → Prop) (l1 : Int) (I : mI) : Prop := (if (1600 : Int) ≤ l1 then (Q I) else (P6_isOwn l0 23 I R (fun r1 => (if r1 = 0 then (Q I) else (kK (R l0 1) = 10 ∧ (P10_step (R l0 1) I (fun I2 => (rc 2 l0 0 I2 R (fun I3 => (P6_emit l0 (-20) I3 R (fun I4 => (rg (l1 + 1) ∧ (k6 (l1 + 1) I4)))))))))))))
def P6_readBoth_b6 (rc : RTrd) (l0 : Nat) (R : mR) (Q : mI → Prop) : Nat → Int → mI → Prop
  | 0 => fun _ _ => False
  | f + 1 => fun l1 I => P6_readBoth_b6_body rc l0 R Q (P6_readBoth_b6 rc l0 R Q f) l1 I
set_option maxRecDepth 20000 in
theorem W6_readBoth_b6_body {rc : RTrd} {d : Nat} {C : wX} {ad : Nat → Nat} {n : Nat} {I J : mI} {R : mR} {Q : mI → Prop} (hC : wOK C cX6_readBoth 2 RX6) (hRm : wRm C (12 + (d + 1)) (600 + 40 * (d + 1)) 0 0) (hE : wEnd C none ad n (fun _ I' J' R' => (J' = J ∧ R' = R) ∧ Q I')) (hrc0 : ∀ {l0 : Nat} {I J : mI} {R : mR} {Q : mI → Prop}, kK l0 = 6 → rc 0 l0 0 I R Q → wMet yX6_readTest cX6_readTest 2 none (12 + d) (600 + 40 * d) false ad n I J R [vr l0] (fun _ I' J' R' => (J' = J ∧ R' = R) ∧ Q I')) (hrc1 : ∀ {l0 : Nat} {I J : mI} {R : mR} {Q : mI → Prop}, kK l0 = 6 → rc 1 l0 0 I R Q → wMet yX6_readBoth cX6_readBoth 2 none (12 + d) (600 + 40 * d) false ad n I J R [vr l0] (fun _ I' J' R' => (J' = J ∧ R' = R) ∧ Q I')) (hrc2 : ∀ {l0 : Nat} {I J : mI} {R : mR} {Q : mI → Prop}, kK l0 = 6 → rc 2 l0 0 I R Q → wMet yX6_readFact cX6_readFact 1 none (12 + d) (600 + 40 * d) false ad n I J R [vr l0] (fun _ I' J' R' => (J' = J ∧ R' = R) ∧ Q I')) (hrc3 : ∀ {l0 : Nat} {I J : mI} {R : mR} {Q : mI → Prop}, kK l0 = 6 → rc 3 l0 0 I R Q → wMet yX6_readComparison cX6_readComparison 2 none (12 + d) (600 + 40 * d) false ad n I J R [vr l0] (fun _ I' J' R' => (J' = J ∧ R' = R) ∧ Q I')) (hrc4 : ∀ {l0 : Nat} {I J : mI} {R : mR} {Q : mI → Prop}, kK l0 = 6 → rc 4 l0 0 I R Q → wMet yX6_readSum cX6_readSum 3 none (12 + d) (600 + 40 * d) false ad n I J R [vr l0] (fun _ I' J' R' => (J' = J ∧ R' = R) ∧ Q I')) (hrc5 : ∀ {l0 : Nat} {I J : mI} {R : mR} {Q : mI → Prop}, kK l0 = 6 → rc 5 l0 0 I R Q → wMet yX6_readProduct cX6_readProduct 3 none (12 + d) (600 + 40 * d) false ad n I J R [vr l0] (fun _ I' J' R' => (J' = J ∧ R' = R) ∧ Q I')) (hrc6 : ∀ {l0 : Nat} {I J : mI} {R : mR} {Q : mI → Prop}, kK l0 = 6 → rc 6 l0 0 I R Q → wMet yX6_readPart cX6_readPart 2 none (12 + d) (600 + 40 * d) false ad n I J R [vr l0] (fun _ I' J' R' => (J' = J ∧ R' = R) ∧ Q I')) (hrc7 : ∀ {l0 : Nat} {l1 : Int} {I J : mI} {R : mR} {Q : mI → Prop}, kK l0 = 6 → rc 7 l0 l1 I R Q → wMet yX6_readChosen cX6_readChosen 2 none (12 + d) (600 + 40 * d) false ad n I J R [vr l0, vi l1] (fun _ I' J' R' => (J' = J ∧ R' = R) ∧ Q I')) {l0 : Nat} {l1 : Int}   (hk0 : kK l0 = 6)  {k6 : Int → mI → Prop} (kk6 : ∀ (y1 : Int) (I' : mI), k6 y1 I' → WM C ad n I' J R 0 0 6 [(0, vr l0), (1, vi y1)] []) (hw : P6_readBoth_b6_body rc l0 R Q k6 l1 I) : WM C ad n I J R 0 0 6 [(0, vr l0), (1, vi l1)] [] := by
  unfold P6_readBoth_b6_body at hw
  refine wm_iload_n hC 1 dX6_readBoth_6 rfl ?_
  refine wm_sipush hC dX6_readBoth_7 (k := ?_)
  refine wm_icmp_ge (tgt := 45) hC dX6_readBoth_10 (by decide) hw (fun hw => ?_) (fun hw => ?_)
  · exact wm_return hC hE dX6_readBoth_45 ⟨⟨rfl, rfl⟩, hw⟩
  · refine wm_aload_n hC 0 dX6_readBoth_13 rfl (k_ne0 hk0 (by decide)) ?_
    refine wm_bipush hC dX6_readBoth_14 (k := ?_)
    refine y_callV_z_n hC hRm noS ml_X6_156 hk0 (C6_isOwn hk0 hw) (by omega) (by omega) ⟨Nat.zero_le _, Nat.zero_le _⟩ rfl (st := []) rfl (Nat.le_of_ble_eq_true rfl) dX6_readBoth_16 (fun r1 hw => ?_)
    refine wm_if_eq (tgt := 45) hC dX6_readBoth_19 (by decide) hw (fun hw => ?_) (fun hw => ?_)
    · exact wm_return hC hE dX6_readBoth_45 ⟨⟨rfl, rfl⟩, hw⟩
    · refine wm_aload_n hC 0 dX6_readBoth_22 rfl (k_ne0 hk0 (by decide)) ?_
      refine x_getR2 hC 1 fl_X6_12 rfl hk0 dX6_readBoth_23 hw (fun g1 hw => ?_)
      refine y_callV_v_I hC hRm noS ml_X6_89 g1 (C10_step g1 hw) (by omega) (by omega) ⟨Nat.zero_le _, Nat.zero_le _⟩ rfl (st := []) rfl (Nat.le_of_ble_eq_true rfl) dX6_readBoth_26 (fun I2 hw => ?_)
      refine wm_aload_n hC 0 dX6_readBoth_29 rfl (k_ne0 hk0 (by decide)) ?_
      refine y_callV_v_I hC hRm noS ml_X6_203 hk0 (hrc2 hk0 hw) (by omega) (by omega) ⟨Nat.zero_le _, Nat.zero_le _⟩ rfl (st := []) rfl (Nat.le_of_ble_eq_true rfl) dX6_readBoth_30 (fun I3 hw => ?_)
      refine wm_aload_n hC 0 dX6_readBoth_33 rfl (k_ne0 hk0 (by decide)) ?_
      refine wm_bipush hC dX6_readBoth_34 (k := ?_)
      refine y_callV_v_I hC hRm noS ml_X6_200 hk0 (C6_emit hk0 hw) (by omega) (by omega) ⟨Nat.zero_le _, Nat.zero_le _⟩ rfl (st := []) rfl (Nat.le_of_ble_eq_true rfl) dX6_readBoth_36 (fun I4 hw => ?_)
      refine x_iinc hC 1 dX6_readBoth_39 rfl (by decide) (L2 := [(1, vi (l1 + 1)), (0, vr l0)]) rfl hw (fun hw => ?_)
      refine wm_goto (tgt := 6) hC dX6_readBoth_42 (by decide) ?_
      refine wm_sub [1, 0] (L2 := [(0, vr l0), (1, vi (l1 + 1))]) rfl ?_
      exact kk6 _ _ hw
set_option maxRecDepth 20000 in
theorem W6_readBoth_b6 {rc : RTrd} {d : Nat} {C : wX} {ad : Nat → Nat} {n : Nat} {J : mI} {R : mR} {Q : mI → Prop} (hC : wOK C cX6_readBoth 2 RX6) (hRm : wRm C (12 + (d + 1)) (600 + 40 * (d + 1)) 0 0) (hE : wEnd C none ad n (fun _ I' J' R' => (J' = J ∧ R' = R) ∧ Q I')) (hrc0 : ∀ {l0 : Nat} {I J : mI} {R : mR} {Q : mI → Prop}, kK l0 = 6 → rc 0 l0 0 I R Q → wMet yX6_readTest cX6_readTest 2 none (12 + d) (600 + 40 * d) false ad n I J R [vr l0] (fun _ I' J' R' => (J' = J ∧ R' = R) ∧ Q I')) (hrc1 : ∀ {l0 : Nat} {I J : mI} {R : mR} {Q : mI → Prop}, kK l0 = 6 → rc 1 l0 0 I R Q → wMet yX6_readBoth cX6_readBoth 2 none (12 + d) (600 + 40 * d) false ad n I J R [vr l0] (fun _ I' J' R' => (J' = J ∧ R' = R) ∧ Q I')) (hrc2 : ∀ {l0 : Nat} {I J : mI} {R : mR} {Q : mI → Prop}, kK l0 = 6 → rc 2 l0 0 I R Q → wMet yX6_readFact cX6_readFact 1 none (12 + d) (600 + 40 * d) false ad n I J R [vr l0] (fun _ I' J' R' => (J' = J ∧ R' = R) ∧ Q I')) (hrc3 : ∀ {l0 : Nat} {I J : mI} {R : mR} {Q : mI → Prop}, kK l0 = 6 → rc 3 l0 0 I R Q → wMet yX6_readComparison cX6_readComparison 2 none (12 + d) (600 + 40 * d) false ad n I J R [vr l0] (fun _ I' J' R' => (J' = J ∧ R' = R) ∧ Q I')) (hrc4 : ∀ {l0 : Nat} {I J : mI} {R : mR} {Q : mI → Prop}, kK l0 = 6 → rc 4 l0 0 I R Q → wMet yX6_readSum cX6_readSum 3 none (12 + d) (600 + 40 * d) false ad n I J R [vr l0] (fun _ I' J' R' => (J' = J ∧ R' = R) ∧ Q I')) (hrc5 : ∀ {l0 : Nat} {I J : mI} {R : mR} {Q : mI → Prop}, kK l0 = 6 → rc 5 l0 0 I R Q → wMet yX6_readProduct cX6_readProduct 3 none (12 + d) (600 + 40 * d) false ad n I J R [vr l0] (fun _ I' J' R' => (J' = J ∧ R' = R) ∧ Q I')) (hrc6 : ∀ {l0 : Nat} {I J : mI} {R : mR} {Q : mI → Prop}, kK l0 = 6 → rc 6 l0 0 I R Q → wMet yX6_readPart cX6_readPart 2 none (12 + d) (600 + 40 * d) false ad n I J R [vr l0] (fun _ I' J' R' => (J' = J ∧ R' = R) ∧ Q I')) (hrc7 : ∀ {l0 : Nat} {l1 : Int} {I J : mI} {R : mR} {Q : mI → Prop}, kK l0 = 6 → rc 7 l0 l1 I R Q → wMet yX6_readChosen cX6_readChosen 2 none (12 + d) (600 + 40 * d) false ad n I J R [vr l0, vi l1] (fun _ I' J' R' => (J' = J ∧ R' = R) ∧ Q I')) {l0 : Nat}   (hk0 : kK l0 = 6)  : ∀ (f : Nat) (l1 : Int) (I : mI), P6_readBoth_b6 rc l0 R Q f l1 I → WM C ad n I J R 0 0 6 [(0, vr l0), (1, vi l1)] [] := by
  intro f
  induction f with
  | zero => intro l1 I hw; exact hw.elim
  | succ f ih => intro l1 I hw; exact W6_readBoth_b6_body hC hRm hE hrc0 hrc1 hrc2 hrc3 hrc4 hrc5 hrc6 hrc7 hk0 (fun a0 a1 hw => ih a0 a1 hw) hw
def P6_readBoth (rc : RTrd) (l0 : Nat) (I : mI) (R : mR) (Q : mI → Prop) : Prop := (rc 2 l0 0 I R (fun I1 => (∃ f, P6_readBoth_b6 rc l0 R Q f 0 I1)))
set_option maxRecDepth 20000 in
theorem C6_readBoth {ad : Nat → Nat} {n : Nat} {I J : mI} {R : mR} {Q : mI → Prop} {rc : RTrd} {d : Nat}  (hrc0 : ∀ {l0 : Nat} {I J : mI} {R : mR} {Q : mI → Prop}, kK l0 = 6 → rc 0 l0 0 I R Q → wMet yX6_readTest cX6_readTest 2 none (12 + d) (600 + 40 * d) false ad n I J R [vr l0] (fun _ I' J' R' => (J' = J ∧ R' = R) ∧ Q I')) (hrc1 : ∀ {l0 : Nat} {I J : mI} {R : mR} {Q : mI → Prop}, kK l0 = 6 → rc 1 l0 0 I R Q → wMet yX6_readBoth cX6_readBoth 2 none (12 + d) (600 + 40 * d) false ad n I J R [vr l0] (fun _ I' J' R' => (J' = J ∧ R' = R) ∧ Q I')) (hrc2 : ∀ {l0 : Nat} {I J : mI} {R : mR} {Q : mI → Prop}, kK l0 = 6 → rc 2 l0 0 I R Q → wMet yX6_readFact cX6_readFact 1 none (12 + d) (600 + 40 * d) false ad n I J R [vr l0] (fun _ I' J' R' => (J' = J ∧ R' = R) ∧ Q I')) (hrc3 : ∀ {l0 : Nat} {I J : mI} {R : mR} {Q : mI → Prop}, kK l0 = 6 → rc 3 l0 0 I R Q → wMet yX6_readComparison cX6_readComparison 2 none (12 + d) (600 + 40 * d) false ad n I J R [vr l0] (fun _ I' J' R' => (J' = J ∧ R' = R) ∧ Q I')) (hrc4 : ∀ {l0 : Nat} {I J : mI} {R : mR} {Q : mI → Prop}, kK l0 = 6 → rc 4 l0 0 I R Q → wMet yX6_readSum cX6_readSum 3 none (12 + d) (600 + 40 * d) false ad n I J R [vr l0] (fun _ I' J' R' => (J' = J ∧ R' = R) ∧ Q I')) (hrc5 : ∀ {l0 : Nat} {I J : mI} {R : mR} {Q : mI → Prop}, kK l0 = 6 → rc 5 l0 0 I R Q → wMet yX6_readProduct cX6_readProduct 3 none (12 + d) (600 + 40 * d) false ad n I J R [vr l0] (fun _ I' J' R' => (J' = J ∧ R' = R) ∧ Q I')) (hrc6 : ∀ {l0 : Nat} {I J : mI} {R : mR} {Q : mI → Prop}, kK l0 = 6 → rc 6 l0 0 I R Q → wMet yX6_readPart cX6_readPart 2 none (12 + d) (600 + 40 * d) false ad n I J R [vr l0] (fun _ I' J' R' => (J' = J ∧ R' = R) ∧ Q I')) (hrc7 : ∀ {l0 : Nat} {l1 : Int} {I J : mI} {R : mR} {Q : mI → Prop}, kK l0 = 6 → rc 7 l0 l1 I R Q → wMet yX6_readChosen cX6_readChosen 2 none (12 + d) (600 + 40 * d) false ad n I J R [vr l0, vi l1] (fun _ I' J' R' => (J' = J ∧ R' = R) ∧ Q I')) {l0 : Nat} (hk0 : kK l0 = 6) (hw : P6_readBoth rc l0 I R Q) : wMet yX6_readBoth cX6_readBoth 2 none (12 + (d + 1)) (600 + 40 * (d + 1)) false ad n I J R [vr l0] (fun _ I' J' R' => (J' = J ∧ R' = R) ∧ Q I') := by
  refine wMet_of (by decide) (Nat.le_of_ble_eq_true rfl) (fun C hC hRm hE hS => ?_)
  refine (show WM C ad n I J R 0 0 0 [(0, vr l0)] [] from ?_)
  unfold P6_readBoth at hw
  refine wm_aload_n hC 0 dX6_readBoth_0 rfl (k_ne0 hk0 (by decide)) ?_
  refine y_callV_v_I hC hRm noS ml_X6_203 hk0 (hrc2 hk0 hw) (by omega) (by omega) ⟨Nat.zero_le _, Nat.zero_le _⟩ rfl (st := []) rfl (Nat.le_of_ble_eq_true rfl) dX6_readBoth_1 (fun I1 hw => ?_)
  refine wm_iconst hC dX6_readBoth_4 (k := ?_)
  refine wm_istore_n hC dX6_readBoth_5 (by decide) (L2 := [(1, vi 0), (0, vr l0)]) rfl ?_
  obtain ⟨f, hw⟩ := hw
  refine wm_sub [1, 0] (L2 := [(0, vr l0), (1, vi 0)]) rfl ?_
  exact W6_readBoth_b6 hC hRm hE hrc0 hrc1 hrc2 hrc3 hrc4 hrc5 hrc6 hrc7 hk0 f _ _ hw
def P6_readFact (rc : RTrd) (l0 : Nat) (I : mI) (R : mR) (Q : mI → Prop) : Prop := (P6_isOwn l0 24 I R (fun r1 => (if r1 = 0 then (P6_isSign l0 91 I R (fun r2 => (if r2 = 0 then (P6_isOwn l0 25 I R (fun r3 => (if r3 = 0 then (rc 3 l0 0 I R (fun I1 => (Q I1))) else (P6_emit l0 1 I R (fun I2 => (kK (R l0 1) = 10 ∧ (P10_step (R l0 1) I2 (fun I3 => (Q I3))))))))) else (P6_opens l0 I R (fun r4 I4 => (if r4 = 0 then (Q I4) else (rc 0 l0 0 I4 R (fun I5 => (rg ((I5 l0 3) - 1) ∧ (wLet (up I5 l0 3 ((I5 l0 3) - 1)) (fun I6 => (P6_expect l0 93 I6 R (fun I7 => (Q I7)))))))))))))) else (P6_opens l0 I R (fun r5 I8 => (if r5 = 0 then (Q I8) else (rc 2 l0 0 I8 R (fun I9 => (rg ((I9 l0 3) - 1) ∧ (wLet (up I9 l0 3 ((I9 l0 3) - 1)) (fun I10 => (P6_emit l0 (-22) I10 R (fun I11 => (Q I11))))))))))))))
set_option maxRecDepth 20000 in
theorem C6_readFact {ad : Nat → Nat} {n : Nat} {I J : mI} {R : mR} {Q : mI → Prop} {rc : RTrd} {d : Nat}  (hrc0 : ∀ {l0 : Nat} {I J : mI} {R : mR} {Q : mI → Prop}, kK l0 = 6 → rc 0 l0 0 I R Q → wMet yX6_readTest cX6_readTest 2 none (12 + d) (600 + 40 * d) false ad n I J R [vr l0] (fun _ I' J' R' => (J' = J ∧ R' = R) ∧ Q I')) (hrc1 : ∀ {l0 : Nat} {I J : mI} {R : mR} {Q : mI → Prop}, kK l0 = 6 → rc 1 l0 0 I R Q → wMet yX6_readBoth cX6_readBoth 2 none (12 + d) (600 + 40 * d) false ad n I J R [vr l0] (fun _ I' J' R' => (J' = J ∧ R' = R) ∧ Q I')) (hrc2 : ∀ {l0 : Nat} {I J : mI} {R : mR} {Q : mI → Prop}, kK l0 = 6 → rc 2 l0 0 I R Q → wMet yX6_readFact cX6_readFact 1 none (12 + d) (600 + 40 * d) false ad n I J R [vr l0] (fun _ I' J' R' => (J' = J ∧ R' = R) ∧ Q I')) (hrc3 : ∀ {l0 : Nat} {I J : mI} {R : mR} {Q : mI → Prop}, kK l0 = 6 → rc 3 l0 0 I R Q → wMet yX6_readComparison cX6_readComparison 2 none (12 + d) (600 + 40 * d) false ad n I J R [vr l0] (fun _ I' J' R' => (J' = J ∧ R' = R) ∧ Q I')) (hrc4 : ∀ {l0 : Nat} {I J : mI} {R : mR} {Q : mI → Prop}, kK l0 = 6 → rc 4 l0 0 I R Q → wMet yX6_readSum cX6_readSum 3 none (12 + d) (600 + 40 * d) false ad n I J R [vr l0] (fun _ I' J' R' => (J' = J ∧ R' = R) ∧ Q I')) (hrc5 : ∀ {l0 : Nat} {I J : mI} {R : mR} {Q : mI → Prop}, kK l0 = 6 → rc 5 l0 0 I R Q → wMet yX6_readProduct cX6_readProduct 3 none (12 + d) (600 + 40 * d) false ad n I J R [vr l0] (fun _ I' J' R' => (J' = J ∧ R' = R) ∧ Q I')) (hrc6 : ∀ {l0 : Nat} {I J : mI} {R : mR} {Q : mI → Prop}, kK l0 = 6 → rc 6 l0 0 I R Q → wMet yX6_readPart cX6_readPart 2 none (12 + d) (600 + 40 * d) false ad n I J R [vr l0] (fun _ I' J' R' => (J' = J ∧ R' = R) ∧ Q I')) (hrc7 : ∀ {l0 : Nat} {l1 : Int} {I J : mI} {R : mR} {Q : mI → Prop}, kK l0 = 6 → rc 7 l0 l1 I R Q → wMet yX6_readChosen cX6_readChosen 2 none (12 + d) (600 + 40 * d) false ad n I J R [vr l0, vi l1] (fun _ I' J' R' => (J' = J ∧ R' = R) ∧ Q I')) {l0 : Nat} (hk0 : kK l0 = 6) (hw : P6_readFact rc l0 I R Q) : wMet yX6_readFact cX6_readFact 1 none (12 + (d + 1)) (600 + 40 * (d + 1)) false ad n I J R [vr l0] (fun _ I' J' R' => (J' = J ∧ R' = R) ∧ Q I') := by
  refine wMet_of (by decide) (Nat.le_of_ble_eq_true rfl) (fun C hC hRm hE hS => ?_)
  refine (show WM C ad n I J R 0 0 0 [(0, vr l0)] [] from ?_)
  unfold P6_readFact at hw
  refine wm_aload_n hC 0 dX6_readFact_0 rfl (k_ne0 hk0 (by decide)) ?_
  refine wm_bipush hC dX6_readFact_1 (k := ?_)
  refine y_callV_z_n hC hRm noS ml_X6_156 hk0 (C6_isOwn hk0 hw) (by omega) (by omega) ⟨Nat.zero_le _, Nat.zero_le _⟩ rfl (st := []) rfl (Nat.le_of_ble_eq_true rfl) dX6_readFact_3 (fun r1 hw => ?_)
  refine wm_if_eq (tgt := 39) hC dX6_readFact_6 (by decide) hw (fun hw => ?_) (fun hw => ?_)
  · refine wm_aload_n hC 0 dX6_readFact_39 rfl (k_ne0 hk0 (by decide)) ?_
    refine wm_bipush hC dX6_readFact_40 (k := ?_)
    refine y_callV_z_n hC hRm noS ml_X6_85 hk0 (C6_isSign hk0 hw) (by omega) (by omega) ⟨Nat.zero_le _, Nat.zero_le _⟩ rfl (st := []) rfl (Nat.le_of_ble_eq_true rfl) dX6_readFact_42 (fun r2 hw => ?_)
    refine wm_if_eq (tgt := 78) hC dX6_readFact_45 (by decide) hw (fun hw => ?_) (fun hw => ?_)
    · refine wm_aload_n hC 0 dX6_readFact_78 rfl (k_ne0 hk0 (by decide)) ?_
      refine wm_bipush hC dX6_readFact_79 (k := ?_)
      refine y_callV_z_n hC hRm noS ml_X6_156 hk0 (C6_isOwn hk0 hw) (by omega) (by omega) ⟨Nat.zero_le _, Nat.zero_le _⟩ rfl (st := []) rfl (Nat.le_of_ble_eq_true rfl) dX6_readFact_81 (fun r3 hw => ?_)
      refine wm_if_eq (tgt := 102) hC dX6_readFact_84 (by decide) hw (fun hw => ?_) (fun hw => ?_)
      · refine wm_aload_n hC 0 dX6_readFact_102 rfl (k_ne0 hk0 (by decide)) ?_
        refine y_callV_v_I hC hRm noS ml_X6_209 hk0 (hrc3 hk0 hw) (by omega) (by omega) ⟨Nat.zero_le _, Nat.zero_le _⟩ rfl (st := []) rfl (Nat.le_of_ble_eq_true rfl) dX6_readFact_103 (fun I1 hw => ?_)
        exact wm_return hC hE dX6_readFact_106 ⟨⟨rfl, rfl⟩, hw⟩
      · refine wm_aload_n hC 0 dX6_readFact_87 rfl (k_ne0 hk0 (by decide)) ?_
        refine wm_iconst hC dX6_readFact_88 (k := ?_)
        refine y_callV_v_I hC hRm noS ml_X6_200 hk0 (C6_emit hk0 hw) (by omega) (by omega) ⟨Nat.zero_le _, Nat.zero_le _⟩ rfl (st := []) rfl (Nat.le_of_ble_eq_true rfl) dX6_readFact_89 (fun I2 hw => ?_)
        refine wm_aload_n hC 0 dX6_readFact_92 rfl (k_ne0 hk0 (by decide)) ?_
        refine x_getR2 hC 1 fl_X6_12 rfl hk0 dX6_readFact_93 hw (fun g1 hw => ?_)
        refine y_callV_v_I hC hRm noS ml_X6_89 g1 (C10_step g1 hw) (by omega) (by omega) ⟨Nat.zero_le _, Nat.zero_le _⟩ rfl (st := []) rfl (Nat.le_of_ble_eq_true rfl) dX6_readFact_96 (fun I3 hw => ?_)
        refine wm_goto (tgt := 106) hC dX6_readFact_99 (by decide) ?_
        exact wm_return hC hE dX6_readFact_106 ⟨⟨rfl, rfl⟩, hw⟩
    · refine wm_aload_n hC 0 dX6_readFact_48 rfl (k_ne0 hk0 (by decide)) ?_
      refine y_callV_z_I hC hRm noS ml_X6_206 hk0 (C6_opens hk0 hw) (by omega) (by omega) ⟨Nat.zero_le _, Nat.zero_le _⟩ rfl (st := []) rfl (Nat.le_of_ble_eq_true rfl) dX6_readFact_49 (fun r4 I4 hw => ?_)
      refine wm_if_eq (tgt := 106) hC dX6_readFact_52 (by decide) hw (fun hw => ?_) (fun hw => ?_)
      · exact wm_return hC hE dX6_readFact_106 ⟨⟨rfl, rfl⟩, hw⟩
      · refine wm_aload_n hC 0 dX6_readFact_55 rfl (k_ne0 hk0 (by decide)) ?_
        refine y_callV_v_I hC hRm noS ml_X6_183 hk0 (hrc0 hk0 hw) (by omega) (by omega) ⟨Nat.zero_le _, Nat.zero_le _⟩ rfl (st := []) rfl (Nat.le_of_ble_eq_true rfl) dX6_readFact_56 (fun I5 hw => ?_)
        refine wm_aload_n hC 0 dX6_readFact_59 rfl (k_ne0 hk0 (by decide)) ?_
        refine wm_dup hC dX6_readFact_60 (k := ?_)
        refine x_getI hC 3 fl_X6_18 rfl hk0 dX6_readFact_61 ?_
        refine wm_iconst hC dX6_readFact_64 (k := ?_)
        refine x_isub hC dX6_readFact_65 hw (fun hw => ?_)
        refine x_putI hC 3 fl_X6_18 rfl hk0 dX6_readFact_66 hw (fun I6 hw => ?_)
        refine wm_aload_n hC 0 dX6_readFact_69 rfl (k_ne0 hk0 (by decide)) ?_
        refine wm_bipush hC dX6_readFact_70 (k := ?_)
        refine y_callV_v_I hC hRm noS ml_X6_128 hk0 (C6_expect hk0 hw) (by omega) (by omega) ⟨Nat.zero_le _, Nat.zero_le _⟩ rfl (st := []) rfl (Nat.le_of_ble_eq_true rfl) dX6_readFact_72 (fun I7 hw => ?_)
        refine wm_goto (tgt := 106) hC dX6_readFact_75 (by decide) ?_
        exact wm_return hC hE dX6_readFact_106 ⟨⟨rfl, rfl⟩, hw⟩
  · refine wm_aload_n hC 0 dX6_readFact_9 rfl (k_ne0 hk0 (by decide)) ?_
    refine y_callV_z_I hC hRm noS ml_X6_206 hk0 (C6_opens hk0 hw) (by omega) (by omega) ⟨Nat.zero_le _, Nat.zero_le _⟩ rfl (st := []) rfl (Nat.le_of_ble_eq_true rfl) dX6_readFact_10 (fun r5 I8 hw => ?_)
    refine wm_if_eq (tgt := 106) hC dX6_readFact_13 (by decide) hw (fun hw => ?_) (fun hw => ?_)
    · exact wm_return hC hE dX6_readFact_106 ⟨⟨rfl, rfl⟩, hw⟩
    · refine wm_aload_n hC 0 dX6_readFact_16 rfl (k_ne0 hk0 (by decide)) ?_
      refine y_callV_v_I hC hRm noS ml_X6_203 hk0 (hrc2 hk0 hw) (by omega) (by omega) ⟨Nat.zero_le _, Nat.zero_le _⟩ rfl (st := []) rfl (Nat.le_of_ble_eq_true rfl) dX6_readFact_17 (fun I9 hw => ?_)
      refine wm_aload_n hC 0 dX6_readFact_20 rfl (k_ne0 hk0 (by decide)) ?_
      refine wm_dup hC dX6_readFact_21 (k := ?_)
      refine x_getI hC 3 fl_X6_18 rfl hk0 dX6_readFact_22 ?_
      refine wm_iconst hC dX6_readFact_25 (k := ?_)
      refine x_isub hC dX6_readFact_26 hw (fun hw => ?_)
      refine x_putI hC 3 fl_X6_18 rfl hk0 dX6_readFact_27 hw (fun I10 hw => ?_)
      refine wm_aload_n hC 0 dX6_readFact_30 rfl (k_ne0 hk0 (by decide)) ?_
      refine wm_bipush hC dX6_readFact_31 (k := ?_)
      refine y_callV_v_I hC hRm noS ml_X6_200 hk0 (C6_emit hk0 hw) (by omega) (by omega) ⟨Nat.zero_le _, Nat.zero_le _⟩ rfl (st := []) rfl (Nat.le_of_ble_eq_true rfl) dX6_readFact_33 (fun I11 hw => ?_)
      refine wm_goto (tgt := 106) hC dX6_readFact_36 (by decide) ?_
      exact wm_return hC hE dX6_readFact_106 ⟨⟨rfl, rfl⟩, hw⟩
def P6_readComparison_b56 (rc : RTrd) (l0 : Nat) (l1 : Int) (I : mI) (R : mR) (Q : mI → Prop) : Prop := (kK (R l0 1) = 10 ∧ (P10_step (R l0 1) I (fun I3 => (rc 4 l0 0 I3 R (fun I4 => (P6_emit l0 l1 I4 R (fun I5 => (Q I5))))))))
set_option maxRecDepth 20000 in
theorem W6_readComparison_b56 {rc : RTrd} {d : Nat} {C : wX} {ad : Nat → Nat} {n : Nat} {I J : mI} {R : mR} {Q : mI → Prop} (hC : wOK C cX6_readComparison 2 RX6) (hRm : wRm C (12 + (d + 1)) (600 + 40 * (d + 1)) 0 0) (hE : wEnd C none ad n (fun _ I' J' R' => (J' = J ∧ R' = R) ∧ Q I')) (hrc0 : ∀ {l0 : Nat} {I J : mI} {R : mR} {Q : mI → Prop}, kK l0 = 6 → rc 0 l0 0 I R Q → wMet yX6_readTest cX6_readTest 2 none (12 + d) (600 + 40 * d) false ad n I J R [vr l0] (fun _ I' J' R' => (J' = J ∧ R' = R) ∧ Q I')) (hrc1 : ∀ {l0 : Nat} {I J : mI} {R : mR} {Q : mI → Prop}, kK l0 = 6 → rc 1 l0 0 I R Q → wMet yX6_readBoth cX6_readBoth 2 none (12 + d) (600 + 40 * d) false ad n I J R [vr l0] (fun _ I' J' R' => (J' = J ∧ R' = R) ∧ Q I')) (hrc2 : ∀ {l0 : Nat} {I J : mI} {R : mR} {Q : mI → Prop}, kK l0 = 6 → rc 2 l0 0 I R Q → wMet yX6_readFact cX6_readFact 1 none (12 + d) (600 + 40 * d) false ad n I J R [vr l0] (fun _ I' J' R' => (J' = J ∧ R' = R) ∧ Q I')) (hrc3 : ∀ {l0 : Nat} {I J : mI} {R : mR} {Q : mI → Prop}, kK l0 = 6 → rc 3 l0 0 I R Q → wMet yX6_readComparison cX6_readComparison 2 none (12 + d) (600 + 40 * d) false ad n I J R [vr l0] (fun _ I' J' R' => (J' = J ∧ R' = R) ∧ Q I')) (hrc4 : ∀ {l0 : Nat} {I J : mI} {R : mR} {Q : mI → Prop}, kK l0 = 6 → rc 4 l0 0 I R Q → wMet yX6_readSum cX6_readSum 3 none (12 + d) (600 + 40 * d) false ad n I J R [vr l0] (fun _ I' J' R' => (J' = J ∧ R' = R) ∧ Q I')) (hrc5 : ∀ {l0 : Nat} {I J : mI} {R : mR} {Q : mI → Prop}, kK l0 = 6 → rc 5 l0 0 I R Q → wMet yX6_readProduct cX6_readProduct 3 none (12 + d) (600 + 40 * d) false ad n I J R [vr l0] (fun _ I' J' R' => (J' = J ∧ R' = R) ∧ Q I')) (hrc6 : ∀ {l0 : Nat} {I J : mI} {R : mR} {Q : mI → Prop}, kK l0 = 6 → rc 6 l0 0 I R Q → wMet yX6_readPart cX6_readPart 2 none (12 + d) (600 + 40 * d) false ad n I J R [vr l0] (fun _ I' J' R' => (J' = J ∧ R' = R) ∧ Q I')) (hrc7 : ∀ {l0 : Nat} {l1 : Int} {I J : mI} {R : mR} {Q : mI → Prop}, kK l0 = 6 → rc 7 l0 l1 I R Q → wMet yX6_readChosen cX6_readChosen 2 none (12 + d) (600 + 40 * d) false ad n I J R [vr l0, vi l1] (fun _ I' J' R' => (J' = J ∧ R' = R) ∧ Q I')) {l0 : Nat} {l1 : Int}   (hk0 : kK l0 = 6)  (hw : P6_readComparison_b56 rc l0 l1 I R Q) : WM C ad n I J R 0 0 56 [(0, vr l0), (1, vi l1)] [] := by
  unfold P6_readComparison_b56 at hw
  refine wm_aload_n hC 0 dX6_readComparison_56 rfl (k_ne0 hk0 (by decide)) ?_
  refine x_getR2 hC 1 fl_X6_12 rfl hk0 dX6_readComparison_57 hw (fun g1 hw => ?_)
  refine y_callV_v_I hC hRm noS ml_X6_89 g1 (C10_step g1 hw) (by omega) (by omega) ⟨Nat.zero_le _, Nat.zero_le _⟩ rfl (st := []) rfl (Nat.le_of_ble_eq_true rfl) dX6_readComparison_60 (fun I3 hw => ?_)
  refine wm_aload_n hC 0 dX6_readComparison_63 rfl (k_ne0 hk0 (by decide)) ?_
  refine y_callV_v_I hC hRm noS ml_X6_186 hk0 (hrc4 hk0 hw) (by omega) (by omega) ⟨Nat.zero_le _, Nat.zero_le _⟩ rfl (st := []) rfl (Nat.le_of_ble_eq_true rfl) dX6_readComparison_64 (fun I4 hw => ?_)
  refine wm_aload_n hC 0 dX6_readComparison_67 rfl (k_ne0 hk0 (by decide)) ?_
  refine wm_iload_n hC 1 dX6_readComparison_68 rfl ?_
  refine y_callV_v_I hC hRm noS ml_X6_200 hk0 (C6_emit hk0 hw) (by omega) (by omega) ⟨Nat.zero_le _, Nat.zero_le _⟩ rfl (st := []) rfl (Nat.le_of_ble_eq_true rfl) dX6_readComparison_69 (fun I5 hw => ?_)
  exact wm_return hC hE dX6_readComparison_72 ⟨⟨rfl, rfl⟩, hw⟩
def P6_readComparison_b34 (rc : RTrd) (l0 : Nat) (s0 : Int) (I : mI) (R : mR) (Q : mI → Prop) : Prop := (if s0 = (-19) then (P6_isSign l0 61 I R (fun r3 => (if r3 = 0 then (P6_fail l0 1 I R (fun I2 => (Q I2))) else (P6_readComparison_b56 rc l0 s0 I R Q)))) else (P6_readComparison_b56 rc l0 s0 I R Q))
set_option maxRecDepth 20000 in
theorem W6_readComparison_b34 {rc : RTrd} {d : Nat} {C : wX} {ad : Nat → Nat} {n : Nat} {I J : mI} {R : mR} {Q : mI → Prop} (hC : wOK C cX6_readComparison 2 RX6) (hRm : wRm C (12 + (d + 1)) (600 + 40 * (d + 1)) 0 0) (hE : wEnd C none ad n (fun _ I' J' R' => (J' = J ∧ R' = R) ∧ Q I')) (hrc0 : ∀ {l0 : Nat} {I J : mI} {R : mR} {Q : mI → Prop}, kK l0 = 6 → rc 0 l0 0 I R Q → wMet yX6_readTest cX6_readTest 2 none (12 + d) (600 + 40 * d) false ad n I J R [vr l0] (fun _ I' J' R' => (J' = J ∧ R' = R) ∧ Q I')) (hrc1 : ∀ {l0 : Nat} {I J : mI} {R : mR} {Q : mI → Prop}, kK l0 = 6 → rc 1 l0 0 I R Q → wMet yX6_readBoth cX6_readBoth 2 none (12 + d) (600 + 40 * d) false ad n I J R [vr l0] (fun _ I' J' R' => (J' = J ∧ R' = R) ∧ Q I')) (hrc2 : ∀ {l0 : Nat} {I J : mI} {R : mR} {Q : mI → Prop}, kK l0 = 6 → rc 2 l0 0 I R Q → wMet yX6_readFact cX6_readFact 1 none (12 + d) (600 + 40 * d) false ad n I J R [vr l0] (fun _ I' J' R' => (J' = J ∧ R' = R) ∧ Q I')) (hrc3 : ∀ {l0 : Nat} {I J : mI} {R : mR} {Q : mI → Prop}, kK l0 = 6 → rc 3 l0 0 I R Q → wMet yX6_readComparison cX6_readComparison 2 none (12 + d) (600 + 40 * d) false ad n I J R [vr l0] (fun _ I' J' R' => (J' = J ∧ R' = R) ∧ Q I')) (hrc4 : ∀ {l0 : Nat} {I J : mI} {R : mR} {Q : mI → Prop}, kK l0 = 6 → rc 4 l0 0 I R Q → wMet yX6_readSum cX6_readSum 3 none (12 + d) (600 + 40 * d) false ad n I J R [vr l0] (fun _ I' J' R' => (J' = J ∧ R' = R) ∧ Q I')) (hrc5 : ∀ {l0 : Nat} {I J : mI} {R : mR} {Q : mI → Prop}, kK l0 = 6 → rc 5 l0 0 I R Q → wMet yX6_readProduct cX6_readProduct 3 none (12 + d) (600 + 40 * d) false ad n I J R [vr l0] (fun _ I' J' R' => (J' = J ∧ R' = R) ∧ Q I')) (hrc6 : ∀ {l0 : Nat} {I J : mI} {R : mR} {Q : mI → Prop}, kK l0 = 6 → rc 6 l0 0 I R Q → wMet yX6_readPart cX6_readPart 2 none (12 + d) (600 + 40 * d) false ad n I J R [vr l0] (fun _ I' J' R' => (J' = J ∧ R' = R) ∧ Q I')) (hrc7 : ∀ {l0 : Nat} {l1 : Int} {I J : mI} {R : mR} {Q : mI → Prop}, kK l0 = 6 → rc 7 l0 l1 I R Q → wMet yX6_readChosen cX6_readChosen 2 none (12 + d) (600 + 40 * d) false ad n I J R [vr l0, vi l1] (fun _ I' J' R' => (J' = J ∧ R' = R) ∧ Q I')) {l0 : Nat} {s0 : Int}   (hk0 : kK l0 = 6)  (hw : P6_readComparison_b34 rc l0 s0 I R Q) : WM C ad n I J R 0 0 34 [(0, vr l0)] [vi s0] := by
  unfold P6_readComparison_b34 at hw
  refine wm_istore_n hC dX6_readComparison_34 (by decide) (L2 := [(1, vi s0), (0, vr l0)]) rfl ?_
  refine wm_iload_n hC 0 dX6_readComparison_35 rfl ?_
  refine wm_bipush hC dX6_readComparison_36 (k := ?_)
  refine wm_icmp_ne (tgt := 56) hC dX6_readComparison_38 (by decide) hw (fun hw => ?_) (fun hw => ?_)
  · refine wm_aload_n hC 1 dX6_readComparison_41 rfl (k_ne0 hk0 (by decide)) ?_
    refine wm_bipush hC dX6_readComparison_42 (k := ?_)
    refine y_callV_z_n hC hRm noS ml_X6_85 hk0 (C6_isSign hk0 hw) (by omega) (by omega) ⟨Nat.zero_le _, Nat.zero_le _⟩ rfl (st := []) rfl (Nat.le_of_ble_eq_true rfl) dX6_readComparison_44 (fun r3 hw => ?_)
    refine wm_if_ne (tgt := 56) hC dX6_readComparison_47 (by decide) hw (fun hw => ?_) (fun hw => ?_)
    · refine wm_aload_n hC 1 dX6_readComparison_50 rfl (k_ne0 hk0 (by decide)) ?_
      refine wm_iconst hC dX6_readComparison_51 (k := ?_)
      refine y_callV_v_I hC hRm noS ml_X6_92 hk0 (C6_fail hk0 hw) (by omega) (by omega) ⟨Nat.zero_le _, Nat.zero_le _⟩ rfl (st := []) rfl (Nat.le_of_ble_eq_true rfl) dX6_readComparison_52 (fun I2 hw => ?_)
      exact wm_return hC hE dX6_readComparison_55 ⟨⟨rfl, rfl⟩, hw⟩
    · refine wm_sub [1, 0] (L2 := [(0, vr l0), (1, vi s0)]) rfl ?_
      exact W6_readComparison_b56 hC hRm hE hrc0 hrc1 hrc2 hrc3 hrc4 hrc5 hrc6 hrc7 hk0 hw
  · refine wm_sub [1, 0] (L2 := [(0, vr l0), (1, vi s0)]) rfl ?_
    exact W6_readComparison_b56 hC hRm hE hrc0 hrc1 hrc2 hrc3 hrc4 hrc5 hrc6 hrc7 hk0 hw
def P6_readComparison (rc : RTrd) (l0 : Nat) (I : mI) (R : mR) (Q : mI → Prop) : Prop := (rc 4 l0 0 I R (fun I1 => (P6_isSign l0 60 I1 R (fun r1 => (if r1 = 0 then (P6_isSign l0 62 I1 R (fun r2 => (if r2 = 0 then (P6_readComparison_b34 rc l0 (-19) I1 R Q) else (P6_readComparison_b34 rc l0 (-18) I1 R Q)))) else (P6_readComparison_b34 rc l0 (-17) I1 R Q))))))
set_option maxRecDepth 20000 in
theorem C6_readComparison {ad : Nat → Nat} {n : Nat} {I J : mI} {R : mR} {Q : mI → Prop} {rc : RTrd} {d : Nat}  (hrc0 : ∀ {l0 : Nat} {I J : mI} {R : mR} {Q : mI → Prop}, kK l0 = 6 → rc 0 l0 0 I R Q → wMet yX6_readTest cX6_readTest 2 none (12 + d) (600 + 40 * d) false ad n I J R [vr l0] (fun _ I' J' R' => (J' = J ∧ R' = R) ∧ Q I')) (hrc1 : ∀ {l0 : Nat} {I J : mI} {R : mR} {Q : mI → Prop}, kK l0 = 6 → rc 1 l0 0 I R Q → wMet yX6_readBoth cX6_readBoth 2 none (12 + d) (600 + 40 * d) false ad n I J R [vr l0] (fun _ I' J' R' => (J' = J ∧ R' = R) ∧ Q I')) (hrc2 : ∀ {l0 : Nat} {I J : mI} {R : mR} {Q : mI → Prop}, kK l0 = 6 → rc 2 l0 0 I R Q → wMet yX6_readFact cX6_readFact 1 none (12 + d) (600 + 40 * d) false ad n I J R [vr l0] (fun _ I' J' R' => (J' = J ∧ R' = R) ∧ Q I')) (hrc3 : ∀ {l0 : Nat} {I J : mI} {R : mR} {Q : mI → Prop}, kK l0 = 6 → rc 3 l0 0 I R Q → wMet yX6_readComparison cX6_readComparison 2 none (12 + d) (600 + 40 * d) false ad n I J R [vr l0] (fun _ I' J' R' => (J' = J ∧ R' = R) ∧ Q I')) (hrc4 : ∀ {l0 : Nat} {I J : mI} {R : mR} {Q : mI → Prop}, kK l0 = 6 → rc 4 l0 0 I R Q → wMet yX6_readSum cX6_readSum 3 none (12 + d) (600 + 40 * d) false ad n I J R [vr l0] (fun _ I' J' R' => (J' = J ∧ R' = R) ∧ Q I')) (hrc5 : ∀ {l0 : Nat} {I J : mI} {R : mR} {Q : mI → Prop}, kK l0 = 6 → rc 5 l0 0 I R Q → wMet yX6_readProduct cX6_readProduct 3 none (12 + d) (600 + 40 * d) false ad n I J R [vr l0] (fun _ I' J' R' => (J' = J ∧ R' = R) ∧ Q I')) (hrc6 : ∀ {l0 : Nat} {I J : mI} {R : mR} {Q : mI → Prop}, kK l0 = 6 → rc 6 l0 0 I R Q → wMet yX6_readPart cX6_readPart 2 none (12 + d) (600 + 40 * d) false ad n I J R [vr l0] (fun _ I' J' R' => (J' = J ∧ R' = R) ∧ Q I')) (hrc7 : ∀ {l0 : Nat} {l1 : Int} {I J : mI} {R : mR} {Q : mI → Prop}, kK l0 = 6 → rc 7 l0 l1 I R Q → wMet yX6_readChosen cX6_readChosen 2 none (12 + d) (600 + 40 * d) false ad n I J R [vr l0, vi l1] (fun _ I' J' R' => (J' = J ∧ R' = R) ∧ Q I')) {l0 : Nat} (hk0 : kK l0 = 6) (hw : P6_readComparison rc l0 I R Q) : wMet yX6_readComparison cX6_readComparison 2 none (12 + (d + 1)) (600 + 40 * (d + 1)) false ad n I J R [vr l0] (fun _ I' J' R' => (J' = J ∧ R' = R) ∧ Q I') := by
  refine wMet_of (by decide) (Nat.le_of_ble_eq_true rfl) (fun C hC hRm hE hS => ?_)
  refine (show WM C ad n I J R 0 0 0 [(0, vr l0)] [] from ?_)
  unfold P6_readComparison at hw
  refine wm_aload_n hC 0 dX6_readComparison_0 rfl (k_ne0 hk0 (by decide)) ?_
  refine y_callV_v_I hC hRm noS ml_X6_186 hk0 (hrc4 hk0 hw) (by omega) (by omega) ⟨Nat.zero_le _, Nat.zero_le _⟩ rfl (st := []) rfl (Nat.le_of_ble_eq_true rfl) dX6_readComparison_1 (fun I1 hw => ?_)
  refine wm_aload_n hC 0 dX6_readComparison_4 rfl (k_ne0 hk0 (by decide)) ?_
  refine wm_bipush hC dX6_readComparison_5 (k := ?_)
  refine y_callV_z_n hC hRm noS ml_X6_85 hk0 (C6_isSign hk0 hw) (by omega) (by omega) ⟨Nat.zero_le _, Nat.zero_le _⟩ rfl (st := []) rfl (Nat.le_of_ble_eq_true rfl) dX6_readComparison_7 (fun r1 hw => ?_)
  refine wm_if_eq (tgt := 18) hC dX6_readComparison_10 (by decide) hw (fun hw => ?_) (fun hw => ?_)
  · refine wm_aload_n hC 0 dX6_readComparison_18 rfl (k_ne0 hk0 (by decide)) ?_
    refine wm_bipush hC dX6_readComparison_19 (k := ?_)
    refine y_callV_z_n hC hRm noS ml_X6_85 hk0 (C6_isSign hk0 hw) (by omega) (by omega) ⟨Nat.zero_le _, Nat.zero_le _⟩ rfl (st := []) rfl (Nat.le_of_ble_eq_true rfl) dX6_readComparison_21 (fun r2 hw => ?_)
    refine wm_if_eq (tgt := 32) hC dX6_readComparison_24 (by decide) hw (fun hw => ?_) (fun hw => ?_)
    · refine wm_bipush hC dX6_readComparison_32 (k := ?_)
      exact W6_readComparison_b34 hC hRm hE hrc0 hrc1 hrc2 hrc3 hrc4 hrc5 hrc6 hrc7 hk0 hw
    · refine wm_bipush hC dX6_readComparison_27 (k := ?_)
      refine wm_goto (tgt := 34) hC dX6_readComparison_29 (by decide) ?_
      exact W6_readComparison_b34 hC hRm hE hrc0 hrc1 hrc2 hrc3 hrc4 hrc5 hrc6 hrc7 hk0 hw
  · refine wm_bipush hC dX6_readComparison_13 (k := ?_)
    refine wm_goto (tgt := 34) hC dX6_readComparison_15 (by decide) ?_
    exact W6_readComparison_b34 hC hRm hE hrc0 hrc1 hrc2 hrc3 hrc4 hrc5 hrc6 hrc7 hk0 hw
def P6_readSum_b47 (rc : RTrd) (l0 : Nat) (l1 : Int) (s0 : Int) (I : mI) (R : mR) (k6 : Int → mI → Prop) (Q : mI → Prop) : Prop := (kK (R l0 1) = 10 ∧ (P10_step (R l0 1) I (fun I2 => (rc 5 l0 0 I2 R (fun I3 => (P6_emit l0 s0 I3 R (fun I4 => (rg (l1 + 1) ∧ (k6 (l1 + 1) I4)))))))))
set_option maxRecDepth 20000 in
theorem W6_readSum_b47 {rc : RTrd} {d : Nat} {C : wX} {ad : Nat → Nat} {n : Nat} {I J : mI} {R : mR} {Q : mI → Prop} (hC : wOK C cX6_readSum 3 RX6) (hRm : wRm C (12 + (d + 1)) (600 + 40 * (d + 1)) 0 0) (hE : wEnd C none ad n (fun _ I' J' R' => (J' = J ∧ R' = R) ∧ Q I')) (hrc0 : ∀ {l0 : Nat} {I J : mI} {R : mR} {Q : mI → Prop}, kK l0 = 6 → rc 0 l0 0 I R Q → wMet yX6_readTest cX6_readTest 2 none (12 + d) (600 + 40 * d) false ad n I J R [vr l0] (fun _ I' J' R' => (J' = J ∧ R' = R) ∧ Q I')) (hrc1 : ∀ {l0 : Nat} {I J : mI} {R : mR} {Q : mI → Prop}, kK l0 = 6 → rc 1 l0 0 I R Q → wMet yX6_readBoth cX6_readBoth 2 none (12 + d) (600 + 40 * d) false ad n I J R [vr l0] (fun _ I' J' R' => (J' = J ∧ R' = R) ∧ Q I')) (hrc2 : ∀ {l0 : Nat} {I J : mI} {R : mR} {Q : mI → Prop}, kK l0 = 6 → rc 2 l0 0 I R Q → wMet yX6_readFact cX6_readFact 1 none (12 + d) (600 + 40 * d) false ad n I J R [vr l0] (fun _ I' J' R' => (J' = J ∧ R' = R) ∧ Q I')) (hrc3 : ∀ {l0 : Nat} {I J : mI} {R : mR} {Q : mI → Prop}, kK l0 = 6 → rc 3 l0 0 I R Q → wMet yX6_readComparison cX6_readComparison 2 none (12 + d) (600 + 40 * d) false ad n I J R [vr l0] (fun _ I' J' R' => (J' = J ∧ R' = R) ∧ Q I')) (hrc4 : ∀ {l0 : Nat} {I J : mI} {R : mR} {Q : mI → Prop}, kK l0 = 6 → rc 4 l0 0 I R Q → wMet yX6_readSum cX6_readSum 3 none (12 + d) (600 + 40 * d) false ad n I J R [vr l0] (fun _ I' J' R' => (J' = J ∧ R' = R) ∧ Q I')) (hrc5 : ∀ {l0 : Nat} {I J : mI} {R : mR} {Q : mI → Prop}, kK l0 = 6 → rc 5 l0 0 I R Q → wMet yX6_readProduct cX6_readProduct 3 none (12 + d) (600 + 40 * d) false ad n I J R [vr l0] (fun _ I' J' R' => (J' = J ∧ R' = R) ∧ Q I')) (hrc6 : ∀ {l0 : Nat} {I J : mI} {R : mR} {Q : mI → Prop}, kK l0 = 6 → rc 6 l0 0 I R Q → wMet yX6_readPart cX6_readPart 2 none (12 + d) (600 + 40 * d) false ad n I J R [vr l0] (fun _ I' J' R' => (J' = J ∧ R' = R) ∧ Q I')) (hrc7 : ∀ {l0 : Nat} {l1 : Int} {I J : mI} {R : mR} {Q : mI → Prop}, kK l0 = 6 → rc 7 l0 l1 I R Q → wMet yX6_readChosen cX6_readChosen 2 none (12 + d) (600 + 40 * d) false ad n I J R [vr l0, vi l1] (fun _ I' J' R' => (J' = J ∧ R' = R) ∧ Q I')) {l0 : Nat} {l1 : Int} {s0 : Int}  {k6 : Int → mI → Prop} (hk0 : kK l0 = 6) (kk6 : ∀ (y1 : Int) (I' : mI), k6 y1 I' → WM C ad n I' J R 0 0 6 [(0, vr l0), (1, vi y1)] []) (hw : P6_readSum_b47 rc l0 l1 s0 I R k6 Q) : WM C ad n I J R 0 0 47 [(0, vr l0), (1, vi l1)] [vi s0] := by
  unfold P6_readSum_b47 at hw
  refine wm_istore_n hC dX6_readSum_47 (by decide) (L2 := [(2, vi s0), (0, vr l0), (1, vi l1)]) rfl ?_
  refine wm_aload_n hC 1 dX6_readSum_48 rfl (k_ne0 hk0 (by decide)) ?_
  refine x_getR2 hC 1 fl_X6_12 rfl hk0 dX6_readSum_49 hw (fun g1 hw => ?_)
  refine y_callV_v_I hC hRm noS ml_X6_89 g1 (C10_step g1 hw) (by omega) (by omega) ⟨Nat.zero_le _, Nat.zero_le _⟩ rfl (st := []) rfl (Nat.le_of_ble_eq_true rfl) dX6_readSum_52 (fun I2 hw => ?_)
  refine wm_aload_n hC 1 dX6_readSum_55 rfl (k_ne0 hk0 (by decide)) ?_
  refine y_callV_v_I hC hRm noS ml_X6_212 hk0 (hrc5 hk0 hw) (by omega) (by omega) ⟨Nat.zero_le _, Nat.zero_le _⟩ rfl (st := []) rfl (Nat.le_of_ble_eq_true rfl) dX6_readSum_56 (fun I3 hw => ?_)
  refine wm_aload_n hC 1 dX6_readSum_59 rfl (k_ne0 hk0 (by decide)) ?_
  refine wm_iload_n hC 0 dX6_readSum_60 rfl ?_
  refine y_callV_v_I hC hRm noS ml_X6_200 hk0 (C6_emit hk0 hw) (by omega) (by omega) ⟨Nat.zero_le _, Nat.zero_le _⟩ rfl (st := []) rfl (Nat.le_of_ble_eq_true rfl) dX6_readSum_61 (fun I4 hw => ?_)
  refine x_iinc hC 2 dX6_readSum_64 rfl (by decide) (L2 := [(1, vi (l1 + 1)), (2, vi s0), (0, vr l0)]) rfl hw (fun hw => ?_)
  refine wm_goto (tgt := 6) hC dX6_readSum_67 (by decide) ?_
  refine wm_sub [2, 0] (L2 := [(0, vr l0), (1, vi (l1 + 1))]) rfl ?_
  exact kk6 _ _ hw
def P6_readSum_b31 (rc : RTrd) (l0 : Nat) (l1 : Int) (I : mI) (R : mR) (k6 : Int → mI → Prop) (Q : mI → Prop) : Prop := (P6_isSign l0 43 I R (fun r3 => (if r3 = 0 then (P6_readSum_b47 rc l0 l1 (-11) I R k6 Q) else (P6_readSum_b47 rc l0 l1 (-10) I R k6 Q))))
set_option maxRecDepth 20000 in
theorem W6_readSum_b31 {rc : RTrd} {d : Nat} {C : wX} {ad : Nat → Nat} {n : Nat} {I J : mI} {R : mR} {Q : mI → Prop} (hC : wOK C cX6_readSum 3 RX6) (hRm : wRm C (12 + (d + 1)) (600 + 40 * (d + 1)) 0 0) (hE : wEnd C none ad n (fun _ I' J' R' => (J' = J ∧ R' = R) ∧ Q I')) (hrc0 : ∀ {l0 : Nat} {I J : mI} {R : mR} {Q : mI → Prop}, kK l0 = 6 → rc 0 l0 0 I R Q → wMet yX6_readTest cX6_readTest 2 none (12 + d) (600 + 40 * d) false ad n I J R [vr l0] (fun _ I' J' R' => (J' = J ∧ R' = R) ∧ Q I')) (hrc1 : ∀ {l0 : Nat} {I J : mI} {R : mR} {Q : mI → Prop}, kK l0 = 6 → rc 1 l0 0 I R Q → wMet yX6_readBoth cX6_readBoth 2 none (12 + d) (600 + 40 * d) false ad n I J R [vr l0] (fun _ I' J' R' => (J' = J ∧ R' = R) ∧ Q I')) (hrc2 : ∀ {l0 : Nat} {I J : mI} {R : mR} {Q : mI → Prop}, kK l0 = 6 → rc 2 l0 0 I R Q → wMet yX6_readFact cX6_readFact 1 none (12 + d) (600 + 40 * d) false ad n I J R [vr l0] (fun _ I' J' R' => (J' = J ∧ R' = R) ∧ Q I')) (hrc3 : ∀ {l0 : Nat} {I J : mI} {R : mR} {Q : mI → Prop}, kK l0 = 6 → rc 3 l0 0 I R Q → wMet yX6_readComparison cX6_readComparison 2 none (12 + d) (600 + 40 * d) false ad n I J R [vr l0] (fun _ I' J' R' => (J' = J ∧ R' = R) ∧ Q I')) (hrc4 : ∀ {l0 : Nat} {I J : mI} {R : mR} {Q : mI → Prop}, kK l0 = 6 → rc 4 l0 0 I R Q → wMet yX6_readSum cX6_readSum 3 none (12 + d) (600 + 40 * d) false ad n I J R [vr l0] (fun _ I' J' R' => (J' = J ∧ R' = R) ∧ Q I')) (hrc5 : ∀ {l0 : Nat} {I J : mI} {R : mR} {Q : mI → Prop}, kK l0 = 6 → rc 5 l0 0 I R Q → wMet yX6_readProduct cX6_readProduct 3 none (12 + d) (600 + 40 * d) false ad n I J R [vr l0] (fun _ I' J' R' => (J' = J ∧ R' = R) ∧ Q I')) (hrc6 : ∀ {l0 : Nat} {I J : mI} {R : mR} {Q : mI → Prop}, kK l0 = 6 → rc 6 l0 0 I R Q → wMet yX6_readPart cX6_readPart 2 none (12 + d) (600 + 40 * d) false ad n I J R [vr l0] (fun _ I' J' R' => (J' = J ∧ R' = R) ∧ Q I')) (hrc7 : ∀ {l0 : Nat} {l1 : Int} {I J : mI} {R : mR} {Q : mI → Prop}, kK l0 = 6 → rc 7 l0 l1 I R Q → wMet yX6_readChosen cX6_readChosen 2 none (12 + d) (600 + 40 * d) false ad n I J R [vr l0, vi l1] (fun _ I' J' R' => (J' = J ∧ R' = R) ∧ Q I')) {l0 : Nat} {l1 : Int}  {k6 : Int → mI → Prop} (hk0 : kK l0 = 6) (kk6 : ∀ (y1 : Int) (I' : mI), k6 y1 I' → WM C ad n I' J R 0 0 6 [(0, vr l0), (1, vi y1)] []) (hw : P6_readSum_b31 rc l0 l1 I R k6 Q) : WM C ad n I J R 0 0 31 [(0, vr l0), (1, vi l1)] [] := by
  unfold P6_readSum_b31 at hw
  refine wm_aload_n hC 0 dX6_readSum_31 rfl (k_ne0 hk0 (by decide)) ?_
  refine wm_bipush hC dX6_readSum_32 (k := ?_)
  refine y_callV_z_n hC hRm noS ml_X6_85 hk0 (C6_isSign hk0 hw) (by omega) (by omega) ⟨Nat.zero_le _, Nat.zero_le _⟩ rfl (st := []) rfl (Nat.le_of_ble_eq_true rfl) dX6_readSum_34 (fun r3 hw => ?_)
  refine wm_if_eq (tgt := 45) hC dX6_readSum_37 (by decide) hw (fun hw => ?_) (fun hw => ?_)
  · refine wm_bipush hC dX6_readSum_45 (k := ?_)
    exact W6_readSum_b47 hC hRm hE hrc0 hrc1 hrc2 hrc3 hrc4 hrc5 hrc6 hrc7 hk0 kk6 hw
  · refine wm_bipush hC dX6_readSum_40 (k := ?_)
    refine wm_goto (tgt := 47) hC dX6_readSum_42 (by decide) ?_
    exact W6_readSum_b47 hC hRm hE hrc0 hrc1 hrc2 hrc3 hrc4 hrc5 hrc6 hrc7 hk0 kk6 hw
def P6_readSum_b6_body (rc : RTrd) (l0 : Nat) (R : mR) (Q : mI → Prop) (k6 : Int → mI → Prop) (l1 : Int) (I : mI) : Prop := (if (1600 : Int) ≤ l1 then (Q I) else (P6_isSign l0 43 I R (fun r1 => (if r1 = 0 then (P6_isSign l0 45 I R (fun r2 => (if r2 = 0 then (Q I) else (P6_readSum_b31 rc l0 l1 I R k6 Q)))) else (P6_readSum_b31 rc l0 l1 I R k6 Q)))))
def P6_readSum_b6 (rc : RTrd) (l0 : Nat) (R : mR) (Q : mI → Prop) : Nat → Int → mI → Prop
  | 0 => fun _ _ => False
  | f + 1 => fun l1 I => P6_readSum_b6_body rc l0 R Q (P6_readSum_b6 rc l0 R Q f) l1 I
set_option maxRecDepth 20000 in
theorem W6_readSum_b6_body {rc : RTrd} {d : Nat} {C : wX} {ad : Nat → Nat} {n : Nat} {I J : mI} {R : mR} {Q : mI → Prop} (hC : wOK C cX6_readSum 3 RX6) (hRm : wRm C (12 + (d + 1)) (600 + 40 * (d + 1)) 0 0) (hE : wEnd C none ad n (fun _ I' J' R' => (J' = J ∧ R' = R) ∧ Q I')) (hrc0 : ∀ {l0 : Nat} {I J : mI} {R : mR} {Q : mI → Prop}, kK l0 = 6 → rc 0 l0 0 I R Q → wMet yX6_readTest cX6_readTest 2 none (12 + d) (600 + 40 * d) false ad n I J R [vr l0] (fun _ I' J' R' => (J' = J ∧ R' = R) ∧ Q I')) (hrc1 : ∀ {l0 : Nat} {I J : mI} {R : mR} {Q : mI → Prop}, kK l0 = 6 → rc 1 l0 0 I R Q → wMet yX6_readBoth cX6_readBoth 2 none (12 + d) (600 + 40 * d) false ad n I J R [vr l0] (fun _ I' J' R' => (J' = J ∧ R' = R) ∧ Q I')) (hrc2 : ∀ {l0 : Nat} {I J : mI} {R : mR} {Q : mI → Prop}, kK l0 = 6 → rc 2 l0 0 I R Q → wMet yX6_readFact cX6_readFact 1 none (12 + d) (600 + 40 * d) false ad n I J R [vr l0] (fun _ I' J' R' => (J' = J ∧ R' = R) ∧ Q I')) (hrc3 : ∀ {l0 : Nat} {I J : mI} {R : mR} {Q : mI → Prop}, kK l0 = 6 → rc 3 l0 0 I R Q → wMet yX6_readComparison cX6_readComparison 2 none (12 + d) (600 + 40 * d) false ad n I J R [vr l0] (fun _ I' J' R' => (J' = J ∧ R' = R) ∧ Q I')) (hrc4 : ∀ {l0 : Nat} {I J : mI} {R : mR} {Q : mI → Prop}, kK l0 = 6 → rc 4 l0 0 I R Q → wMet yX6_readSum cX6_readSum 3 none (12 + d) (600 + 40 * d) false ad n I J R [vr l0] (fun _ I' J' R' => (J' = J ∧ R' = R) ∧ Q I')) (hrc5 : ∀ {l0 : Nat} {I J : mI} {R : mR} {Q : mI → Prop}, kK l0 = 6 → rc 5 l0 0 I R Q → wMet yX6_readProduct cX6_readProduct 3 none (12 + d) (600 + 40 * d) false ad n I J R [vr l0] (fun _ I' J' R' => (J' = J ∧ R' = R) ∧ Q I')) (hrc6 : ∀ {l0 : Nat} {I J : mI} {R : mR} {Q : mI → Prop}, kK l0 = 6 → rc 6 l0 0 I R Q → wMet yX6_readPart cX6_readPart 2 none (12 + d) (600 + 40 * d) false ad n I J R [vr l0] (fun _ I' J' R' => (J' = J ∧ R' = R) ∧ Q I')) (hrc7 : ∀ {l0 : Nat} {l1 : Int} {I J : mI} {R : mR} {Q : mI → Prop}, kK l0 = 6 → rc 7 l0 l1 I R Q → wMet yX6_readChosen cX6_readChosen 2 none (12 + d) (600 + 40 * d) false ad n I J R [vr l0, vi l1] (fun _ I' J' R' => (J' = J ∧ R' = R) ∧ Q I')) {l0 : Nat} {l1 : Int}   (hk0 : kK l0 = 6)  {k6 : Int → mI → Prop} (kk6 : ∀ (y1 : Int) (I' : mI), k6 y1 I' → WM C ad n I' J R 0 0 6 [(0, vr l0), (1, vi y1)] []) (hw : P6_readSum_b6_body rc l0 R Q k6 l1 I) : WM C ad n I J R 0 0 6 [(0, vr l0), (1, vi l1)] [] := by
  unfold P6_readSum_b6_body at hw
  refine wm_iload_n hC 1 dX6_readSum_6 rfl ?_
  refine wm_sipush hC dX6_readSum_7 (k := ?_)
  refine wm_icmp_ge (tgt := 70) hC dX6_readSum_10 (by decide) hw (fun hw => ?_) (fun hw => ?_)
  · exact wm_return hC hE dX6_readSum_70 ⟨⟨rfl, rfl⟩, hw⟩
  · refine wm_aload_n hC 0 dX6_readSum_13 rfl (k_ne0 hk0 (by decide)) ?_
    refine wm_bipush hC dX6_readSum_14 (k := ?_)
    refine y_callV_z_n hC hRm noS ml_X6_85 hk0 (C6_isSign hk0 hw) (by omega) (by omega) ⟨Nat.zero_le _, Nat.zero_le _⟩ rfl (st := []) rfl (Nat.le_of_ble_eq_true rfl) dX6_readSum_16 (fun r1 hw => ?_)
    refine wm_if_ne (tgt := 31) hC dX6_readSum_19 (by decide) hw (fun hw => ?_) (fun hw => ?_)
    · refine wm_aload_n hC 0 dX6_readSum_22 rfl (k_ne0 hk0 (by decide)) ?_
      refine wm_bipush hC dX6_readSum_23 (k := ?_)
      refine y_callV_z_n hC hRm noS ml_X6_85 hk0 (C6_isSign hk0 hw) (by omega) (by omega) ⟨Nat.zero_le _, Nat.zero_le _⟩ rfl (st := []) rfl (Nat.le_of_ble_eq_true rfl) dX6_readSum_25 (fun r2 hw => ?_)
      refine wm_if_eq (tgt := 70) hC dX6_readSum_28 (by decide) hw (fun hw => ?_) (fun hw => ?_)
      · exact wm_return hC hE dX6_readSum_70 ⟨⟨rfl, rfl⟩, hw⟩
      · exact W6_readSum_b31 hC hRm hE hrc0 hrc1 hrc2 hrc3 hrc4 hrc5 hrc6 hrc7 hk0 kk6 hw
    · exact W6_readSum_b31 hC hRm hE hrc0 hrc1 hrc2 hrc3 hrc4 hrc5 hrc6 hrc7 hk0 kk6 hw
set_option maxRecDepth 20000 in
theorem W6_readSum_b6 {rc : RTrd} {d : Nat} {C : wX} {ad : Nat → Nat} {n : Nat} {J : mI} {R : mR} {Q : mI → Prop} (hC : wOK C cX6_readSum 3 RX6) (hRm : wRm C (12 + (d + 1)) (600 + 40 * (d + 1)) 0 0) (hE : wEnd C none ad n (fun _ I' J' R' => (J' = J ∧ R' = R) ∧ Q I')) (hrc0 : ∀ {l0 : Nat} {I J : mI} {R : mR} {Q : mI → Prop}, kK l0 = 6 → rc 0 l0 0 I R Q → wMet yX6_readTest cX6_readTest 2 none (12 + d) (600 + 40 * d) false ad n I J R [vr l0] (fun _ I' J' R' => (J' = J ∧ R' = R) ∧ Q I')) (hrc1 : ∀ {l0 : Nat} {I J : mI} {R : mR} {Q : mI → Prop}, kK l0 = 6 → rc 1 l0 0 I R Q → wMet yX6_readBoth cX6_readBoth 2 none (12 + d) (600 + 40 * d) false ad n I J R [vr l0] (fun _ I' J' R' => (J' = J ∧ R' = R) ∧ Q I')) (hrc2 : ∀ {l0 : Nat} {I J : mI} {R : mR} {Q : mI → Prop}, kK l0 = 6 → rc 2 l0 0 I R Q → wMet yX6_readFact cX6_readFact 1 none (12 + d) (600 + 40 * d) false ad n I J R [vr l0] (fun _ I' J' R' => (J' = J ∧ R' = R) ∧ Q I')) (hrc3 : ∀ {l0 : Nat} {I J : mI} {R : mR} {Q : mI → Prop}, kK l0 = 6 → rc 3 l0 0 I R Q → wMet yX6_readComparison cX6_readComparison 2 none (12 + d) (600 + 40 * d) false ad n I J R [vr l0] (fun _ I' J' R' => (J' = J ∧ R' = R) ∧ Q I')) (hrc4 : ∀ {l0 : Nat} {I J : mI} {R : mR} {Q : mI → Prop}, kK l0 = 6 → rc 4 l0 0 I R Q → wMet yX6_readSum cX6_readSum 3 none (12 + d) (600 + 40 * d) false ad n I J R [vr l0] (fun _ I' J' R' => (J' = J ∧ R' = R) ∧ Q I')) (hrc5 : ∀ {l0 : Nat} {I J : mI} {R : mR} {Q : mI → Prop}, kK l0 = 6 → rc 5 l0 0 I R Q → wMet yX6_readProduct cX6_readProduct 3 none (12 + d) (600 + 40 * d) false ad n I J R [vr l0] (fun _ I' J' R' => (J' = J ∧ R' = R) ∧ Q I')) (hrc6 : ∀ {l0 : Nat} {I J : mI} {R : mR} {Q : mI → Prop}, kK l0 = 6 → rc 6 l0 0 I R Q → wMet yX6_readPart cX6_readPart 2 none (12 + d) (600 + 40 * d) false ad n I J R [vr l0] (fun _ I' J' R' => (J' = J ∧ R' = R) ∧ Q I')) (hrc7 : ∀ {l0 : Nat} {l1 : Int} {I J : mI} {R : mR} {Q : mI → Prop}, kK l0 = 6 → rc 7 l0 l1 I R Q → wMet yX6_readChosen cX6_readChosen 2 none (12 + d) (600 + 40 * d) false ad n I J R [vr l0, vi l1] (fun _ I' J' R' => (J' = J ∧ R' = R) ∧ Q I')) {l0 : Nat}   (hk0 : kK l0 = 6)  : ∀ (f : Nat) (l1 : Int) (I : mI), P6_readSum_b6 rc l0 R Q f l1 I → WM C ad n I J R 0 0 6 [(0, vr l0), (1, vi l1)] [] := by
  intro f
  induction f with
  | zero => intro l1 I hw; exact hw.elim
  | succ f ih => intro l1 I hw; exact W6_readSum_b6_body hC hRm hE hrc0 hrc1 hrc2 hrc3 hrc4 hrc5 hrc6 hrc7 hk0 (fun a0 a1 hw => ih a0 a1 hw) hw
def P6_readSum (rc : RTrd) (l0 : Nat) (I : mI) (R : mR) (Q : mI → Prop) : Prop := (rc 5 l0 0 I R (fun I1 => (∃ f, P6_readSum_b6 rc l0 R Q f 0 I1)))
set_option maxRecDepth 20000 in
theorem C6_readSum {ad : Nat → Nat} {n : Nat} {I J : mI} {R : mR} {Q : mI → Prop} {rc : RTrd} {d : Nat}  (hrc0 : ∀ {l0 : Nat} {I J : mI} {R : mR} {Q : mI → Prop}, kK l0 = 6 → rc 0 l0 0 I R Q → wMet yX6_readTest cX6_readTest 2 none (12 + d) (600 + 40 * d) false ad n I J R [vr l0] (fun _ I' J' R' => (J' = J ∧ R' = R) ∧ Q I')) (hrc1 : ∀ {l0 : Nat} {I J : mI} {R : mR} {Q : mI → Prop}, kK l0 = 6 → rc 1 l0 0 I R Q → wMet yX6_readBoth cX6_readBoth 2 none (12 + d) (600 + 40 * d) false ad n I J R [vr l0] (fun _ I' J' R' => (J' = J ∧ R' = R) ∧ Q I')) (hrc2 : ∀ {l0 : Nat} {I J : mI} {R : mR} {Q : mI → Prop}, kK l0 = 6 → rc 2 l0 0 I R Q → wMet yX6_readFact cX6_readFact 1 none (12 + d) (600 + 40 * d) false ad n I J R [vr l0] (fun _ I' J' R' => (J' = J ∧ R' = R) ∧ Q I')) (hrc3 : ∀ {l0 : Nat} {I J : mI} {R : mR} {Q : mI → Prop}, kK l0 = 6 → rc 3 l0 0 I R Q → wMet yX6_readComparison cX6_readComparison 2 none (12 + d) (600 + 40 * d) false ad n I J R [vr l0] (fun _ I' J' R' => (J' = J ∧ R' = R) ∧ Q I')) (hrc4 : ∀ {l0 : Nat} {I J : mI} {R : mR} {Q : mI → Prop}, kK l0 = 6 → rc 4 l0 0 I R Q → wMet yX6_readSum cX6_readSum 3 none (12 + d) (600 + 40 * d) false ad n I J R [vr l0] (fun _ I' J' R' => (J' = J ∧ R' = R) ∧ Q I')) (hrc5 : ∀ {l0 : Nat} {I J : mI} {R : mR} {Q : mI → Prop}, kK l0 = 6 → rc 5 l0 0 I R Q → wMet yX6_readProduct cX6_readProduct 3 none (12 + d) (600 + 40 * d) false ad n I J R [vr l0] (fun _ I' J' R' => (J' = J ∧ R' = R) ∧ Q I')) (hrc6 : ∀ {l0 : Nat} {I J : mI} {R : mR} {Q : mI → Prop}, kK l0 = 6 → rc 6 l0 0 I R Q → wMet yX6_readPart cX6_readPart 2 none (12 + d) (600 + 40 * d) false ad n I J R [vr l0] (fun _ I' J' R' => (J' = J ∧ R' = R) ∧ Q I')) (hrc7 : ∀ {l0 : Nat} {l1 : Int} {I J : mI} {R : mR} {Q : mI → Prop}, kK l0 = 6 → rc 7 l0 l1 I R Q → wMet yX6_readChosen cX6_readChosen 2 none (12 + d) (600 + 40 * d) false ad n I J R [vr l0, vi l1] (fun _ I' J' R' => (J' = J ∧ R' = R) ∧ Q I')) {l0 : Nat} (hk0 : kK l0 = 6) (hw : P6_readSum rc l0 I R Q) : wMet yX6_readSum cX6_readSum 3 none (12 + (d + 1)) (600 + 40 * (d + 1)) false ad n I J R [vr l0] (fun _ I' J' R' => (J' = J ∧ R' = R) ∧ Q I') := by
  refine wMet_of (by decide) (Nat.le_of_ble_eq_true rfl) (fun C hC hRm hE hS => ?_)
  refine (show WM C ad n I J R 0 0 0 [(0, vr l0)] [] from ?_)
  unfold P6_readSum at hw
  refine wm_aload_n hC 0 dX6_readSum_0 rfl (k_ne0 hk0 (by decide)) ?_
  refine y_callV_v_I hC hRm noS ml_X6_212 hk0 (hrc5 hk0 hw) (by omega) (by omega) ⟨Nat.zero_le _, Nat.zero_le _⟩ rfl (st := []) rfl (Nat.le_of_ble_eq_true rfl) dX6_readSum_1 (fun I1 hw => ?_)
  refine wm_iconst hC dX6_readSum_4 (k := ?_)
  refine wm_istore_n hC dX6_readSum_5 (by decide) (L2 := [(1, vi 0), (0, vr l0)]) rfl ?_
  obtain ⟨f, hw⟩ := hw
  refine wm_sub [1, 0] (L2 := [(0, vr l0), (1, vi 0)]) rfl ?_
  exact W6_readSum_b6 hC hRm hE hrc0 hrc1 hrc2 hrc3 hrc4 hrc5 hrc6 hrc7 hk0 f _ _ hw
def P6_readProduct_b70 (rc : RTrd) (l0 : Nat) (l1 : Int) (s0 : Int) (I : mI) (R : mR) (k6 : Int → mI → Prop) (Q : mI → Prop) : Prop := (kK (R l0 1) = 10 ∧ (P10_step (R l0 1) I (fun I2 => (rc 6 l0 0 I2 R (fun I3 => (P6_emit l0 s0 I3 R (fun I4 => (rg (l1 + 1) ∧ (k6 (l1 + 1) I4)))))))))
set_option maxRecDepth 20000 in
theorem W6_readProduct_b70 {rc : RTrd} {d : Nat} {C : wX} {ad : Nat → Nat} {n : Nat} {I J : mI} {R : mR} {Q : mI → Prop} (hC : wOK C cX6_readProduct 3 RX6) (hRm : wRm C (12 + (d + 1)) (600 + 40 * (d + 1)) 0 0) (hE : wEnd C none ad n (fun _ I' J' R' => (J' = J ∧ R' = R) ∧ Q I')) (hrc0 : ∀ {l0 : Nat} {I J : mI} {R : mR} {Q : mI → Prop}, kK l0 = 6 → rc 0 l0 0 I R Q → wMet yX6_readTest cX6_readTest 2 none (12 + d) (600 + 40 * d) false ad n I J R [vr l0] (fun _ I' J' R' => (J' = J ∧ R' = R) ∧ Q I')) (hrc1 : ∀ {l0 : Nat} {I J : mI} {R : mR} {Q : mI → Prop}, kK l0 = 6 → rc 1 l0 0 I R Q → wMet yX6_readBoth cX6_readBoth 2 none (12 + d) (600 + 40 * d) false ad n I J R [vr l0] (fun _ I' J' R' => (J' = J ∧ R' = R) ∧ Q I')) (hrc2 : ∀ {l0 : Nat} {I J : mI} {R : mR} {Q : mI → Prop}, kK l0 = 6 → rc 2 l0 0 I R Q → wMet yX6_readFact cX6_readFact 1 none (12 + d) (600 + 40 * d) false ad n I J R [vr l0] (fun _ I' J' R' => (J' = J ∧ R' = R) ∧ Q I')) (hrc3 : ∀ {l0 : Nat} {I J : mI} {R : mR} {Q : mI → Prop}, kK l0 = 6 → rc 3 l0 0 I R Q → wMet yX6_readComparison cX6_readComparison 2 none (12 + d) (600 + 40 * d) false ad n I J R [vr l0] (fun _ I' J' R' => (J' = J ∧ R' = R) ∧ Q I')) (hrc4 : ∀ {l0 : Nat} {I J : mI} {R : mR} {Q : mI → Prop}, kK l0 = 6 → rc 4 l0 0 I R Q → wMet yX6_readSum cX6_readSum 3 none (12 + d) (600 + 40 * d) false ad n I J R [vr l0] (fun _ I' J' R' => (J' = J ∧ R' = R) ∧ Q I')) (hrc5 : ∀ {l0 : Nat} {I J : mI} {R : mR} {Q : mI → Prop}, kK l0 = 6 → rc 5 l0 0 I R Q → wMet yX6_readProduct cX6_readProduct 3 none (12 + d) (600 + 40 * d) false ad n I J R [vr l0] (fun _ I' J' R' => (J' = J ∧ R' = R) ∧ Q I')) (hrc6 : ∀ {l0 : Nat} {I J : mI} {R : mR} {Q : mI → Prop}, kK l0 = 6 → rc 6 l0 0 I R Q → wMet yX6_readPart cX6_readPart 2 none (12 + d) (600 + 40 * d) false ad n I J R [vr l0] (fun _ I' J' R' => (J' = J ∧ R' = R) ∧ Q I')) (hrc7 : ∀ {l0 : Nat} {l1 : Int} {I J : mI} {R : mR} {Q : mI → Prop}, kK l0 = 6 → rc 7 l0 l1 I R Q → wMet yX6_readChosen cX6_readChosen 2 none (12 + d) (600 + 40 * d) false ad n I J R [vr l0, vi l1] (fun _ I' J' R' => (J' = J ∧ R' = R) ∧ Q I')) {l0 : Nat} {l1 : Int} {s0 : Int}  {k6 : Int → mI → Prop} (hk0 : kK l0 = 6) (kk6 : ∀ (y1 : Int) (I' : mI), k6 y1 I' → WM C ad n I' J R 0 0 6 [(0, vr l0), (1, vi y1)] []) (hw : P6_readProduct_b70 rc l0 l1 s0 I R k6 Q) : WM C ad n I J R 0 0 70 [(0, vr l0), (1, vi l1)] [vi s0] := by
  unfold P6_readProduct_b70 at hw
  refine wm_istore_n hC dX6_readProduct_70 (by decide) (L2 := [(2, vi s0), (0, vr l0), (1, vi l1)]) rfl ?_
  refine wm_aload_n hC 1 dX6_readProduct_71 rfl (k_ne0 hk0 (by decide)) ?_
  refine x_getR2 hC 1 fl_X6_12 rfl hk0 dX6_readProduct_72 hw (fun g1 hw => ?_)
  refine y_callV_v_I hC hRm noS ml_X6_89 g1 (C10_step g1 hw) (by omega) (by omega) ⟨Nat.zero_le _, Nat.zero_le _⟩ rfl (st := []) rfl (Nat.le_of_ble_eq_true rfl) dX6_readProduct_75 (fun I2 hw => ?_)
  refine wm_aload_n hC 1 dX6_readProduct_78 rfl (k_ne0 hk0 (by decide)) ?_
  refine y_callV_v_I hC hRm noS ml_X6_215 hk0 (hrc6 hk0 hw) (by omega) (by omega) ⟨Nat.zero_le _, Nat.zero_le _⟩ rfl (st := []) rfl (Nat.le_of_ble_eq_true rfl) dX6_readProduct_79 (fun I3 hw => ?_)
  refine wm_aload_n hC 1 dX6_readProduct_82 rfl (k_ne0 hk0 (by decide)) ?_
  refine wm_iload_n hC 0 dX6_readProduct_83 rfl ?_
  refine y_callV_v_I hC hRm noS ml_X6_200 hk0 (C6_emit hk0 hw) (by omega) (by omega) ⟨Nat.zero_le _, Nat.zero_le _⟩ rfl (st := []) rfl (Nat.le_of_ble_eq_true rfl) dX6_readProduct_84 (fun I4 hw => ?_)
  refine x_iinc hC 2 dX6_readProduct_87 rfl (by decide) (L2 := [(1, vi (l1 + 1)), (2, vi s0), (0, vr l0)]) rfl hw (fun hw => ?_)
  refine wm_goto (tgt := 6) hC dX6_readProduct_90 (by decide) ?_
  refine wm_sub [2, 0] (L2 := [(0, vr l0), (1, vi (l1 + 1))]) rfl ?_
  exact kk6 _ _ hw
def P6_readProduct_b40 (rc : RTrd) (l0 : Nat) (l1 : Int) (I : mI) (R : mR) (k6 : Int → mI → Prop) (Q : mI → Prop) : Prop := (P6_isSign l0 42 I R (fun r4 => (if r4 = 0 then (P6_isSign l0 47 I R (fun r5 => (if r5 = 0 then (P6_readProduct_b70 rc l0 l1 (-14) I R k6 Q) else (P6_readProduct_b70 rc l0 l1 (-13) I R k6 Q)))) else (P6_readProduct_b70 rc l0 l1 (-12) I R k6 Q))))
set_option maxRecDepth 20000 in
theorem W6_readProduct_b40 {rc : RTrd} {d : Nat} {C : wX} {ad : Nat → Nat} {n : Nat} {I J : mI} {R : mR} {Q : mI → Prop} (hC : wOK C cX6_readProduct 3 RX6) (hRm : wRm C (12 + (d + 1)) (600 + 40 * (d + 1)) 0 0) (hE : wEnd C none ad n (fun _ I' J' R' => (J' = J ∧ R' = R) ∧ Q I')) (hrc0 : ∀ {l0 : Nat} {I J : mI} {R : mR} {Q : mI → Prop}, kK l0 = 6 → rc 0 l0 0 I R Q → wMet yX6_readTest cX6_readTest 2 none (12 + d) (600 + 40 * d) false ad n I J R [vr l0] (fun _ I' J' R' => (J' = J ∧ R' = R) ∧ Q I')) (hrc1 : ∀ {l0 : Nat} {I J : mI} {R : mR} {Q : mI → Prop}, kK l0 = 6 → rc 1 l0 0 I R Q → wMet yX6_readBoth cX6_readBoth 2 none (12 + d) (600 + 40 * d) false ad n I J R [vr l0] (fun _ I' J' R' => (J' = J ∧ R' = R) ∧ Q I')) (hrc2 : ∀ {l0 : Nat} {I J : mI} {R : mR} {Q : mI → Prop}, kK l0 = 6 → rc 2 l0 0 I R Q → wMet yX6_readFact cX6_readFact 1 none (12 + d) (600 + 40 * d) false ad n I J R [vr l0] (fun _ I' J' R' => (J' = J ∧ R' = R) ∧ Q I')) (hrc3 : ∀ {l0 : Nat} {I J : mI} {R : mR} {Q : mI → Prop}, kK l0 = 6 → rc 3 l0 0 I R Q → wMet yX6_readComparison cX6_readComparison 2 none (12 + d) (600 + 40 * d) false ad n I J R [vr l0] (fun _ I' J' R' => (J' = J ∧ R' = R) ∧ Q I')) (hrc4 : ∀ {l0 : Nat} {I J : mI} {R : mR} {Q : mI → Prop}, kK l0 = 6 → rc 4 l0 0 I R Q → wMet yX6_readSum cX6_readSum 3 none (12 + d) (600 + 40 * d) false ad n I J R [vr l0] (fun _ I' J' R' => (J' = J ∧ R' = R) ∧ Q I')) (hrc5 : ∀ {l0 : Nat} {I J : mI} {R : mR} {Q : mI → Prop}, kK l0 = 6 → rc 5 l0 0 I R Q → wMet yX6_readProduct cX6_readProduct 3 none (12 + d) (600 + 40 * d) false ad n I J R [vr l0] (fun _ I' J' R' => (J' = J ∧ R' = R) ∧ Q I')) (hrc6 : ∀ {l0 : Nat} {I J : mI} {R : mR} {Q : mI → Prop}, kK l0 = 6 → rc 6 l0 0 I R Q → wMet yX6_readPart cX6_readPart 2 none (12 + d) (600 + 40 * d) false ad n I J R [vr l0] (fun _ I' J' R' => (J' = J ∧ R' = R) ∧ Q I')) (hrc7 : ∀ {l0 : Nat} {l1 : Int} {I J : mI} {R : mR} {Q : mI → Prop}, kK l0 = 6 → rc 7 l0 l1 I R Q → wMet yX6_readChosen cX6_readChosen 2 none (12 + d) (600 + 40 * d) false ad n I J R [vr l0, vi l1] (fun _ I' J' R' => (J' = J ∧ R' = R) ∧ Q I')) {l0 : Nat} {l1 : Int}  {k6 : Int → mI → Prop} (hk0 : kK l0 = 6) (kk6 : ∀ (y1 : Int) (I' : mI), k6 y1 I' → WM C ad n I' J R 0 0 6 [(0, vr l0), (1, vi y1)] []) (hw : P6_readProduct_b40 rc l0 l1 I R k6 Q) : WM C ad n I J R 0 0 40 [(0, vr l0), (1, vi l1)] [] := by
  unfold P6_readProduct_b40 at hw
  refine wm_aload_n hC 0 dX6_readProduct_40 rfl (k_ne0 hk0 (by decide)) ?_
  refine wm_bipush hC dX6_readProduct_41 (k := ?_)
  refine y_callV_z_n hC hRm noS ml_X6_85 hk0 (C6_isSign hk0 hw) (by omega) (by omega) ⟨Nat.zero_le _, Nat.zero_le _⟩ rfl (st := []) rfl (Nat.le_of_ble_eq_true rfl) dX6_readProduct_43 (fun r4 hw => ?_)
  refine wm_if_eq (tgt := 54) hC dX6_readProduct_46 (by decide) hw (fun hw => ?_) (fun hw => ?_)
  · refine wm_aload_n hC 0 dX6_readProduct_54 rfl (k_ne0 hk0 (by decide)) ?_
    refine wm_bipush hC dX6_readProduct_55 (k := ?_)
    refine y_callV_z_n hC hRm noS ml_X6_85 hk0 (C6_isSign hk0 hw) (by omega) (by omega) ⟨Nat.zero_le _, Nat.zero_le _⟩ rfl (st := []) rfl (Nat.le_of_ble_eq_true rfl) dX6_readProduct_57 (fun r5 hw => ?_)
    refine wm_if_eq (tgt := 68) hC dX6_readProduct_60 (by decide) hw (fun hw => ?_) (fun hw => ?_)
    · refine wm_bipush hC dX6_readProduct_68 (k := ?_)
      exact W6_readProduct_b70 hC hRm hE hrc0 hrc1 hrc2 hrc3 hrc4 hrc5 hrc6 hrc7 hk0 kk6 hw
    · refine wm_bipush hC dX6_readProduct_63 (k := ?_)
      refine wm_goto (tgt := 70) hC dX6_readProduct_65 (by decide) ?_
      exact W6_readProduct_b70 hC hRm hE hrc0 hrc1 hrc2 hrc3 hrc4 hrc5 hrc6 hrc7 hk0 kk6 hw
  · refine wm_bipush hC dX6_readProduct_49 (k := ?_)
    refine wm_goto (tgt := 70) hC dX6_readProduct_51 (by decide) ?_
    exact W6_readProduct_b70 hC hRm hE hrc0 hrc1 hrc2 hrc3 hrc4 hrc5 hrc6 hrc7 hk0 kk6 hw
def P6_readProduct_b6_body (rc : RTrd) (l0 : Nat) (R : mR) (Q : mI → Prop) (k6 : Int → mI → Prop) (l1 : Int) (I : mI) : Prop := (if (1600 : Int) ≤ l1 then (Q I) else (P6_isSign l0 42 I R (fun r1 => (if r1 = 0 then (P6_isSign l0 47 I R (fun r2 => (if r2 = 0 then (P6_isSign l0 37 I R (fun r3 => (if r3 = 0 then (Q I) else (P6_readProduct_b40 rc l0 l1 I R k6 Q)))) else (P6_readProduct_b40 rc l0 l1 I R k6 Q)))) else (P6_readProduct_b40 rc l0 l1 I R k6 Q)))))
def P6_readProduct_b6 (rc : RTrd) (l0 : Nat) (R : mR) (Q : mI → Prop) : Nat → Int → mI → Prop
  | 0 => fun _ _ => False
  | f + 1 => fun l1 I => P6_readProduct_b6_body rc l0 R Q (P6_readProduct_b6 rc l0 R Q f) l1 I
set_option maxRecDepth 20000 in
theorem W6_readProduct_b6_body {rc : RTrd} {d : Nat} {C : wX} {ad : Nat → Nat} {n : Nat} {I J : mI} {R : mR} {Q : mI → Prop} (hC : wOK C cX6_readProduct 3 RX6) (hRm : wRm C (12 + (d + 1)) (600 + 40 * (d + 1)) 0 0) (hE : wEnd C none ad n (fun _ I' J' R' => (J' = J ∧ R' = R) ∧ Q I')) (hrc0 : ∀ {l0 : Nat} {I J : mI} {R : mR} {Q : mI → Prop}, kK l0 = 6 → rc 0 l0 0 I R Q → wMet yX6_readTest cX6_readTest 2 none (12 + d) (600 + 40 * d) false ad n I J R [vr l0] (fun _ I' J' R' => (J' = J ∧ R' = R) ∧ Q I')) (hrc1 : ∀ {l0 : Nat} {I J : mI} {R : mR} {Q : mI → Prop}, kK l0 = 6 → rc 1 l0 0 I R Q → wMet yX6_readBoth cX6_readBoth 2 none (12 + d) (600 + 40 * d) false ad n I J R [vr l0] (fun _ I' J' R' => (J' = J ∧ R' = R) ∧ Q I')) (hrc2 : ∀ {l0 : Nat} {I J : mI} {R : mR} {Q : mI → Prop}, kK l0 = 6 → rc 2 l0 0 I R Q → wMet yX6_readFact cX6_readFact 1 none (12 + d) (600 + 40 * d) false ad n I J R [vr l0] (fun _ I' J' R' => (J' = J ∧ R' = R) ∧ Q I')) (hrc3 : ∀ {l0 : Nat} {I J : mI} {R : mR} {Q : mI → Prop}, kK l0 = 6 → rc 3 l0 0 I R Q → wMet yX6_readComparison cX6_readComparison 2 none (12 + d) (600 + 40 * d) false ad n I J R [vr l0] (fun _ I' J' R' => (J' = J ∧ R' = R) ∧ Q I')) (hrc4 : ∀ {l0 : Nat} {I J : mI} {R : mR} {Q : mI → Prop}, kK l0 = 6 → rc 4 l0 0 I R Q → wMet yX6_readSum cX6_readSum 3 none (12 + d) (600 + 40 * d) false ad n I J R [vr l0] (fun _ I' J' R' => (J' = J ∧ R' = R) ∧ Q I')) (hrc5 : ∀ {l0 : Nat} {I J : mI} {R : mR} {Q : mI → Prop}, kK l0 = 6 → rc 5 l0 0 I R Q → wMet yX6_readProduct cX6_readProduct 3 none (12 + d) (600 + 40 * d) false ad n I J R [vr l0] (fun _ I' J' R' => (J' = J ∧ R' = R) ∧ Q I')) (hrc6 : ∀ {l0 : Nat} {I J : mI} {R : mR} {Q : mI → Prop}, kK l0 = 6 → rc 6 l0 0 I R Q → wMet yX6_readPart cX6_readPart 2 none (12 + d) (600 + 40 * d) false ad n I J R [vr l0] (fun _ I' J' R' => (J' = J ∧ R' = R) ∧ Q I')) (hrc7 : ∀ {l0 : Nat} {l1 : Int} {I J : mI} {R : mR} {Q : mI → Prop}, kK l0 = 6 → rc 7 l0 l1 I R Q → wMet yX6_readChosen cX6_readChosen 2 none (12 + d) (600 + 40 * d) false ad n I J R [vr l0, vi l1] (fun _ I' J' R' => (J' = J ∧ R' = R) ∧ Q I')) {l0 : Nat} {l1 : Int}   (hk0 : kK l0 = 6)  {k6 : Int → mI → Prop} (kk6 : ∀ (y1 : Int) (I' : mI), k6 y1 I' → WM C ad n I' J R 0 0 6 [(0, vr l0), (1, vi y1)] []) (hw : P6_readProduct_b6_body rc l0 R Q k6 l1 I) : WM C ad n I J R 0 0 6 [(0, vr l0), (1, vi l1)] [] := by
  unfold P6_readProduct_b6_body at hw
  refine wm_iload_n hC 1 dX6_readProduct_6 rfl ?_
  refine wm_sipush hC dX6_readProduct_7 (k := ?_)
  refine wm_icmp_ge (tgt := 93) hC dX6_readProduct_10 (by decide) hw (fun hw => ?_) (fun hw => ?_)
  · exact wm_return hC hE dX6_readProduct_93 ⟨⟨rfl, rfl⟩, hw⟩
  · refine wm_aload_n hC 0 dX6_readProduct_13 rfl (k_ne0 hk0 (by decide)) ?_
    refine wm_bipush hC dX6_readProduct_14 (k := ?_)
    refine y_callV_z_n hC hRm noS ml_X6_85 hk0 (C6_isSign hk0 hw) (by omega) (by omega) ⟨Nat.zero_le _, Nat.zero_le _⟩ rfl (st := []) rfl (Nat.le_of_ble_eq_true rfl) dX6_readProduct_16 (fun r1 hw => ?_)
    refine wm_if_ne (tgt := 40) hC dX6_readProduct_19 (by decide) hw (fun hw => ?_) (fun hw => ?_)
    · refine wm_aload_n hC 0 dX6_readProduct_22 rfl (k_ne0 hk0 (by decide)) ?_
      refine wm_bipush hC dX6_readProduct_23 (k := ?_)
      refine y_callV_z_n hC hRm noS ml_X6_85 hk0 (C6_isSign hk0 hw) (by omega) (by omega) ⟨Nat.zero_le _, Nat.zero_le _⟩ rfl (st := []) rfl (Nat.le_of_ble_eq_true rfl) dX6_readProduct_25 (fun r2 hw => ?_)
      refine wm_if_ne (tgt := 40) hC dX6_readProduct_28 (by decide) hw (fun hw => ?_) (fun hw => ?_)
      · refine wm_aload_n hC 0 dX6_readProduct_31 rfl (k_ne0 hk0 (by decide)) ?_
        refine wm_bipush hC dX6_readProduct_32 (k := ?_)
        refine y_callV_z_n hC hRm noS ml_X6_85 hk0 (C6_isSign hk0 hw) (by omega) (by omega) ⟨Nat.zero_le _, Nat.zero_le _⟩ rfl (st := []) rfl (Nat.le_of_ble_eq_true rfl) dX6_readProduct_34 (fun r3 hw => ?_)
        refine wm_if_eq (tgt := 93) hC dX6_readProduct_37 (by decide) hw (fun hw => ?_) (fun hw => ?_)
        · exact wm_return hC hE dX6_readProduct_93 ⟨⟨rfl, rfl⟩, hw⟩
        · exact W6_readProduct_b40 hC hRm hE hrc0 hrc1 hrc2 hrc3 hrc4 hrc5 hrc6 hrc7 hk0 kk6 hw
      · exact W6_readProduct_b40 hC hRm hE hrc0 hrc1 hrc2 hrc3 hrc4 hrc5 hrc6 hrc7 hk0 kk6 hw
    · exact W6_readProduct_b40 hC hRm hE hrc0 hrc1 hrc2 hrc3 hrc4 hrc5 hrc6 hrc7 hk0 kk6 hw
set_option maxRecDepth 20000 in
theorem W6_readProduct_b6 {rc : RTrd} {d : Nat} {C : wX} {ad : Nat → Nat} {n : Nat} {J : mI} {R : mR} {Q : mI → Prop} (hC : wOK C cX6_readProduct 3 RX6) (hRm : wRm C (12 + (d + 1)) (600 + 40 * (d + 1)) 0 0) (hE : wEnd C none ad n (fun _ I' J' R' => (J' = J ∧ R' = R) ∧ Q I')) (hrc0 : ∀ {l0 : Nat} {I J : mI} {R : mR} {Q : mI → Prop}, kK l0 = 6 → rc 0 l0 0 I R Q → wMet yX6_readTest cX6_readTest 2 none (12 + d) (600 + 40 * d) false ad n I J R [vr l0] (fun _ I' J' R' => (J' = J ∧ R' = R) ∧ Q I')) (hrc1 : ∀ {l0 : Nat} {I J : mI} {R : mR} {Q : mI → Prop}, kK l0 = 6 → rc 1 l0 0 I R Q → wMet yX6_readBoth cX6_readBoth 2 none (12 + d) (600 + 40 * d) false ad n I J R [vr l0] (fun _ I' J' R' => (J' = J ∧ R' = R) ∧ Q I')) (hrc2 : ∀ {l0 : Nat} {I J : mI} {R : mR} {Q : mI → Prop}, kK l0 = 6 → rc 2 l0 0 I R Q → wMet yX6_readFact cX6_readFact 1 none (12 + d) (600 + 40 * d) false ad n I J R [vr l0] (fun _ I' J' R' => (J' = J ∧ R' = R) ∧ Q I')) (hrc3 : ∀ {l0 : Nat} {I J : mI} {R : mR} {Q : mI → Prop}, kK l0 = 6 → rc 3 l0 0 I R Q → wMet yX6_readComparison cX6_readComparison 2 none (12 + d) (600 + 40 * d) false ad n I J R [vr l0] (fun _ I' J' R' => (J' = J ∧ R' = R) ∧ Q I')) (hrc4 : ∀ {l0 : Nat} {I J : mI} {R : mR} {Q : mI → Prop}, kK l0 = 6 → rc 4 l0 0 I R Q → wMet yX6_readSum cX6_readSum 3 none (12 + d) (600 + 40 * d) false ad n I J R [vr l0] (fun _ I' J' R' => (J' = J ∧ R' = R) ∧ Q I')) (hrc5 : ∀ {l0 : Nat} {I J : mI} {R : mR} {Q : mI → Prop}, kK l0 = 6 → rc 5 l0 0 I R Q → wMet yX6_readProduct cX6_readProduct 3 none (12 + d) (600 + 40 * d) false ad n I J R [vr l0] (fun _ I' J' R' => (J' = J ∧ R' = R) ∧ Q I')) (hrc6 : ∀ {l0 : Nat} {I J : mI} {R : mR} {Q : mI → Prop}, kK l0 = 6 → rc 6 l0 0 I R Q → wMet yX6_readPart cX6_readPart 2 none (12 + d) (600 + 40 * d) false ad n I J R [vr l0] (fun _ I' J' R' => (J' = J ∧ R' = R) ∧ Q I')) (hrc7 : ∀ {l0 : Nat} {l1 : Int} {I J : mI} {R : mR} {Q : mI → Prop}, kK l0 = 6 → rc 7 l0 l1 I R Q → wMet yX6_readChosen cX6_readChosen 2 none (12 + d) (600 + 40 * d) false ad n I J R [vr l0, vi l1] (fun _ I' J' R' => (J' = J ∧ R' = R) ∧ Q I')) {l0 : Nat}   (hk0 : kK l0 = 6)  : ∀ (f : Nat) (l1 : Int) (I : mI), P6_readProduct_b6 rc l0 R Q f l1 I → WM C ad n I J R 0 0 6 [(0, vr l0), (1, vi l1)] [] := by
  intro f
  induction f with
  | zero => intro l1 I hw; exact hw.elim
  | succ f ih => intro l1 I hw; exact W6_readProduct_b6_body hC hRm hE hrc0 hrc1 hrc2 hrc3 hrc4 hrc5 hrc6 hrc7 hk0 (fun a0 a1 hw => ih a0 a1 hw) hw
def P6_readProduct (rc : RTrd) (l0 : Nat) (I : mI) (R : mR) (Q : mI → Prop) : Prop := (rc 6 l0 0 I R (fun I1 => (∃ f, P6_readProduct_b6 rc l0 R Q f 0 I1)))
set_option maxRecDepth 20000 in
theorem C6_readProduct {ad : Nat → Nat} {n : Nat} {I J : mI} {R : mR} {Q : mI → Prop} {rc : RTrd} {d : Nat}  (hrc0 : ∀ {l0 : Nat} {I J : mI} {R : mR} {Q : mI → Prop}, kK l0 = 6 → rc 0 l0 0 I R Q → wMet yX6_readTest cX6_readTest 2 none (12 + d) (600 + 40 * d) false ad n I J R [vr l0] (fun _ I' J' R' => (J' = J ∧ R' = R) ∧ Q I')) (hrc1 : ∀ {l0 : Nat} {I J : mI} {R : mR} {Q : mI → Prop}, kK l0 = 6 → rc 1 l0 0 I R Q → wMet yX6_readBoth cX6_readBoth 2 none (12 + d) (600 + 40 * d) false ad n I J R [vr l0] (fun _ I' J' R' => (J' = J ∧ R' = R) ∧ Q I')) (hrc2 : ∀ {l0 : Nat} {I J : mI} {R : mR} {Q : mI → Prop}, kK l0 = 6 → rc 2 l0 0 I R Q → wMet yX6_readFact cX6_readFact 1 none (12 + d) (600 + 40 * d) false ad n I J R [vr l0] (fun _ I' J' R' => (J' = J ∧ R' = R) ∧ Q I')) (hrc3 : ∀ {l0 : Nat} {I J : mI} {R : mR} {Q : mI → Prop}, kK l0 = 6 → rc 3 l0 0 I R Q → wMet yX6_readComparison cX6_readComparison 2 none (12 + d) (600 + 40 * d) false ad n I J R [vr l0] (fun _ I' J' R' => (J' = J ∧ R' = R) ∧ Q I')) (hrc4 : ∀ {l0 : Nat} {I J : mI} {R : mR} {Q : mI → Prop}, kK l0 = 6 → rc 4 l0 0 I R Q → wMet yX6_readSum cX6_readSum 3 none (12 + d) (600 + 40 * d) false ad n I J R [vr l0] (fun _ I' J' R' => (J' = J ∧ R' = R) ∧ Q I')) (hrc5 : ∀ {l0 : Nat} {I J : mI} {R : mR} {Q : mI → Prop}, kK l0 = 6 → rc 5 l0 0 I R Q → wMet yX6_readProduct cX6_readProduct 3 none (12 + d) (600 + 40 * d) false ad n I J R [vr l0] (fun _ I' J' R' => (J' = J ∧ R' = R) ∧ Q I')) (hrc6 : ∀ {l0 : Nat} {I J : mI} {R : mR} {Q : mI → Prop}, kK l0 = 6 → rc 6 l0 0 I R Q → wMet yX6_readPart cX6_readPart 2 none (12 + d) (600 + 40 * d) false ad n I J R [vr l0] (fun _ I' J' R' => (J' = J ∧ R' = R) ∧ Q I')) (hrc7 : ∀ {l0 : Nat} {l1 : Int} {I J : mI} {R : mR} {Q : mI → Prop}, kK l0 = 6 → rc 7 l0 l1 I R Q → wMet yX6_readChosen cX6_readChosen 2 none (12 + d) (600 + 40 * d) false ad n I J R [vr l0, vi l1] (fun _ I' J' R' => (J' = J ∧ R' = R) ∧ Q I')) {l0 : Nat} (hk0 : kK l0 = 6) (hw : P6_readProduct rc l0 I R Q) : wMet yX6_readProduct cX6_readProduct 3 none (12 + (d + 1)) (600 + 40 * (d + 1)) false ad n I J R [vr l0] (fun _ I' J' R' => (J' = J ∧ R' = R) ∧ Q I') := by
  refine wMet_of (by decide) (Nat.le_of_ble_eq_true rfl) (fun C hC hRm hE hS => ?_)
  refine (show WM C ad n I J R 0 0 0 [(0, vr l0)] [] from ?_)
  unfold P6_readProduct at hw
  refine wm_aload_n hC 0 dX6_readProduct_0 rfl (k_ne0 hk0 (by decide)) ?_
  refine y_callV_v_I hC hRm noS ml_X6_215 hk0 (hrc6 hk0 hw) (by omega) (by omega) ⟨Nat.zero_le _, Nat.zero_le _⟩ rfl (st := []) rfl (Nat.le_of_ble_eq_true rfl) dX6_readProduct_1 (fun I1 hw => ?_)
  refine wm_iconst hC dX6_readProduct_4 (k := ?_)
  refine wm_istore_n hC dX6_readProduct_5 (by decide) (L2 := [(1, vi 0), (0, vr l0)]) rfl ?_
  obtain ⟨f, hw⟩ := hw
  refine wm_sub [1, 0] (L2 := [(0, vr l0), (1, vi 0)]) rfl ?_
  exact W6_readProduct_b6 hC hRm hE hrc0 hrc1 hrc2 hrc3 hrc4 hrc5 hrc6 hrc7 hk0 f _ _ hw
def P6_readPart (rc : RTrd) (l0 : Nat) (I : mI) (R : mR) (Q : mI → Prop) : Prop := (P6_ownHere l0 I R (fun r1 => (P6_variable l0 r1 I (fun r2 => (kK (R l0 1) = 10 ∧ (P10_sortHere (R l0 1) I R (fun r3 => (if r3 = 3 then (kK (R l0 1) = 10 ∧ (P10_valueHere (R l0 1) I R (fun r12 => (P6_emit l0 r12 I R (fun I11 => (kK (R l0 1) = 10 ∧ (P10_step (R l0 1) I11 (fun I12 => (Q I12))))))))) else (if r2 = 0 then (P6_isSign l0 40 I R (fun r4 => (if r4 = 0 then (P6_isOwn l0 26 I R (fun r5 => (if r5 = 0 then (P6_isOwn l0 27 I R (fun r7 => (if r7 = 0 then (P6_isOwn l0 21 I R (fun r9 => (if r9 = 0 then (P6_fail l0 1 I R (fun I3 => (Q I3))) else (P6_ownHere l0 I R (fun r10 => (rc 7 l0 r10 I R (fun I4 => (Q I4)))))))) else (P6_ownHere l0 I R (fun r8 => (rc 7 l0 r8 I R (fun I2 => (Q I2)))))))) else (P6_ownHere l0 I R (fun r6 => (rc 7 l0 r6 I R (fun I1 => (Q I1)))))))) else (P6_opens l0 I R (fun r11 I5 => (if r11 = 0 then (Q I5) else (rc 4 l0 0 I5 R (fun I6 => (rg ((I6 l0 3) - 1) ∧ (wLet (up I6 l0 3 ((I6 l0 3) - 1)) (fun I7 => (P6_expect l0 41 I7 R (fun I8 => (Q I8)))))))))))))) else (P6_emit l0 r2 I R (fun I9 => (kK (R l0 1) = 10 ∧ (P10_step (R l0 1) I9 (fun I10 => (Q I10)))))))))))))))
set_option maxRecDepth 20000 in
theorem C6_readPart {ad : Nat → Nat} {n : Nat} {I J : mI} {R : mR} {Q : mI → Prop} {rc : RTrd} {d : Nat}  (hrc0 : ∀ {l0 : Nat} {I J : mI} {R : mR} {Q : mI → Prop}, kK l0 = 6 → rc 0 l0 0 I R Q → wMet yX6_readTest cX6_readTest 2 none (12 + d) (600 + 40 * d) false ad n I J R [vr l0] (fun _ I' J' R' => (J' = J ∧ R' = R) ∧ Q I')) (hrc1 : ∀ {l0 : Nat} {I J : mI} {R : mR} {Q : mI → Prop}, kK l0 = 6 → rc 1 l0 0 I R Q → wMet yX6_readBoth cX6_readBoth 2 none (12 + d) (600 + 40 * d) false ad n I J R [vr l0] (fun _ I' J' R' => (J' = J ∧ R' = R) ∧ Q I')) (hrc2 : ∀ {l0 : Nat} {I J : mI} {R : mR} {Q : mI → Prop}, kK l0 = 6 → rc 2 l0 0 I R Q → wMet yX6_readFact cX6_readFact 1 none (12 + d) (600 + 40 * d) false ad n I J R [vr l0] (fun _ I' J' R' => (J' = J ∧ R' = R) ∧ Q I')) (hrc3 : ∀ {l0 : Nat} {I J : mI} {R : mR} {Q : mI → Prop}, kK l0 = 6 → rc 3 l0 0 I R Q → wMet yX6_readComparison cX6_readComparison 2 none (12 + d) (600 + 40 * d) false ad n I J R [vr l0] (fun _ I' J' R' => (J' = J ∧ R' = R) ∧ Q I')) (hrc4 : ∀ {l0 : Nat} {I J : mI} {R : mR} {Q : mI → Prop}, kK l0 = 6 → rc 4 l0 0 I R Q → wMet yX6_readSum cX6_readSum 3 none (12 + d) (600 + 40 * d) false ad n I J R [vr l0] (fun _ I' J' R' => (J' = J ∧ R' = R) ∧ Q I')) (hrc5 : ∀ {l0 : Nat} {I J : mI} {R : mR} {Q : mI → Prop}, kK l0 = 6 → rc 5 l0 0 I R Q → wMet yX6_readProduct cX6_readProduct 3 none (12 + d) (600 + 40 * d) false ad n I J R [vr l0] (fun _ I' J' R' => (J' = J ∧ R' = R) ∧ Q I')) (hrc6 : ∀ {l0 : Nat} {I J : mI} {R : mR} {Q : mI → Prop}, kK l0 = 6 → rc 6 l0 0 I R Q → wMet yX6_readPart cX6_readPart 2 none (12 + d) (600 + 40 * d) false ad n I J R [vr l0] (fun _ I' J' R' => (J' = J ∧ R' = R) ∧ Q I')) (hrc7 : ∀ {l0 : Nat} {l1 : Int} {I J : mI} {R : mR} {Q : mI → Prop}, kK l0 = 6 → rc 7 l0 l1 I R Q → wMet yX6_readChosen cX6_readChosen 2 none (12 + d) (600 + 40 * d) false ad n I J R [vr l0, vi l1] (fun _ I' J' R' => (J' = J ∧ R' = R) ∧ Q I')) {l0 : Nat} (hk0 : kK l0 = 6) (hw : P6_readPart rc l0 I R Q) : wMet yX6_readPart cX6_readPart 2 none (12 + (d + 1)) (600 + 40 * (d + 1)) false ad n I J R [vr l0] (fun _ I' J' R' => (J' = J ∧ R' = R) ∧ Q I') := by
  refine wMet_of (by decide) (Nat.le_of_ble_eq_true rfl) (fun C hC hRm hE hS => ?_)
  refine (show WM C ad n I J R 0 0 0 [(0, vr l0)] [] from ?_)
  unfold P6_readPart at hw
  refine wm_aload_n hC 0 dX6_readPart_0 rfl (k_ne0 hk0 (by decide)) ?_
  refine wm_aload_n hC 0 dX6_readPart_1 rfl (k_ne0 hk0 (by decide)) ?_
  refine y_callV_i_n hC hRm noS ml_X6_96 hk0 (C6_ownHere hk0 hw) (by omega) (by omega) ⟨Nat.zero_le _, Nat.zero_le _⟩ rfl (st := [vr l0]) rfl (Nat.le_of_ble_eq_true rfl) dX6_readPart_2 (fun r1 hw => ?_)
  refine y_callV_i_n hC hRm noS ml_X6_218 hk0 (C6_variable hk0 hw) (by omega) (by omega) ⟨Nat.zero_le _, Nat.zero_le _⟩ rfl (st := []) rfl (Nat.le_of_ble_eq_true rfl) dX6_readPart_5 (fun r2 hw => ?_)
  refine wm_istore_n hC dX6_readPart_8 (by decide) (L2 := [(1, vi r2), (0, vr l0)]) rfl ?_
  refine wm_aload_n hC 1 dX6_readPart_9 rfl (k_ne0 hk0 (by decide)) ?_
  refine x_getR2 hC 1 fl_X6_12 rfl hk0 dX6_readPart_10 hw (fun g1 hw => ?_)
  refine y_callV_i_n hC hRm noS ml_X6_51 g1 (C10_sortHere g1 hw) (by omega) (by omega) ⟨Nat.zero_le _, Nat.zero_le _⟩ rfl (st := []) rfl (Nat.le_of_ble_eq_true rfl) dX6_readPart_13 (fun r3 hw => ?_)
  refine wm_iconst hC dX6_readPart_16 (k := ?_)
  refine wm_icmp_ne (tgt := 41) hC dX6_readPart_17 (by decide) hw (fun hw => ?_) (fun hw => ?_)
  · refine wm_aload_n hC 1 dX6_readPart_20 rfl (k_ne0 hk0 (by decide)) ?_
    refine wm_aload_n hC 1 dX6_readPart_21 rfl (k_ne0 hk0 (by decide)) ?_
    refine x_getR2 hC 1 fl_X6_12 rfl hk0 dX6_readPart_22 hw (fun g3 hw => ?_)
    refine y_callV_i_n hC hRm noS ml_X6_78 g3 (C10_valueHere g3 hw) (by omega) (by omega) ⟨Nat.zero_le _, Nat.zero_le _⟩ rfl (st := [vr l0]) rfl (Nat.le_of_ble_eq_true rfl) dX6_readPart_25 (fun r12 hw => ?_)
    refine y_callV_v_I hC hRm noS ml_X6_200 hk0 (C6_emit hk0 hw) (by omega) (by omega) ⟨Nat.zero_le _, Nat.zero_le _⟩ rfl (st := []) rfl (Nat.le_of_ble_eq_true rfl) dX6_readPart_28 (fun I11 hw => ?_)
    refine wm_aload_n hC 1 dX6_readPart_31 rfl (k_ne0 hk0 (by decide)) ?_
    refine x_getR2 hC 1 fl_X6_12 rfl hk0 dX6_readPart_32 hw (fun g4 hw => ?_)
    refine y_callV_v_I hC hRm noS ml_X6_89 g4 (C10_step g4 hw) (by omega) (by omega) ⟨Nat.zero_le _, Nat.zero_le _⟩ rfl (st := []) rfl (Nat.le_of_ble_eq_true rfl) dX6_readPart_35 (fun I12 hw => ?_)
    refine wm_goto (tgt := 142) hC dX6_readPart_38 (by decide) ?_
    exact wm_return hC hE dX6_readPart_142 ⟨⟨rfl, rfl⟩, hw⟩
  · refine wm_iload_n hC 0 dX6_readPart_41 rfl ?_
    refine wm_if_eq (tgt := 60) hC dX6_readPart_42 (by decide) hw (fun hw => ?_) (fun hw => ?_)
    · refine wm_aload_n hC 1 dX6_readPart_60 rfl (k_ne0 hk0 (by decide)) ?_
      refine wm_bipush hC dX6_readPart_61 (k := ?_)
      refine y_callV_z_n hC hRm noS ml_X6_85 hk0 (C6_isSign hk0 hw) (by omega) (by omega) ⟨Nat.zero_le _, Nat.zero_le _⟩ rfl (st := []) rfl (Nat.le_of_ble_eq_true rfl) dX6_readPart_63 (fun r4 hw => ?_)
      refine wm_if_eq (tgt := 99) hC dX6_readPart_66 (by decide) hw (fun hw => ?_) (fun hw => ?_)
      · refine wm_aload_n hC 1 dX6_readPart_99 rfl (k_ne0 hk0 (by decide)) ?_
        refine wm_bipush hC dX6_readPart_100 (k := ?_)
        refine y_callV_z_n hC hRm noS ml_X6_156 hk0 (C6_isOwn hk0 hw) (by omega) (by omega) ⟨Nat.zero_le _, Nat.zero_le _⟩ rfl (st := []) rfl (Nat.le_of_ble_eq_true rfl) dX6_readPart_102 (fun r5 hw => ?_)
        refine wm_if_ne (tgt := 126) hC dX6_readPart_105 (by decide) hw (fun hw => ?_) (fun hw => ?_)
        · refine wm_aload_n hC 1 dX6_readPart_108 rfl (k_ne0 hk0 (by decide)) ?_
          refine wm_bipush hC dX6_readPart_109 (k := ?_)
          refine y_callV_z_n hC hRm noS ml_X6_156 hk0 (C6_isOwn hk0 hw) (by omega) (by omega) ⟨Nat.zero_le _, Nat.zero_le _⟩ rfl (st := []) rfl (Nat.le_of_ble_eq_true rfl) dX6_readPart_111 (fun r7 hw => ?_)
          refine wm_if_ne (tgt := 126) hC dX6_readPart_114 (by decide) hw (fun hw => ?_) (fun hw => ?_)
          · refine wm_aload_n hC 1 dX6_readPart_117 rfl (k_ne0 hk0 (by decide)) ?_
            refine wm_bipush hC dX6_readPart_118 (k := ?_)
            refine y_callV_z_n hC hRm noS ml_X6_156 hk0 (C6_isOwn hk0 hw) (by omega) (by omega) ⟨Nat.zero_le _, Nat.zero_le _⟩ rfl (st := []) rfl (Nat.le_of_ble_eq_true rfl) dX6_readPart_120 (fun r9 hw => ?_)
            refine wm_if_eq (tgt := 137) hC dX6_readPart_123 (by decide) hw (fun hw => ?_) (fun hw => ?_)
            · refine wm_aload_n hC 1 dX6_readPart_137 rfl (k_ne0 hk0 (by decide)) ?_
              refine wm_iconst hC dX6_readPart_138 (k := ?_)
              refine y_callV_v_I hC hRm noS ml_X6_92 hk0 (C6_fail hk0 hw) (by omega) (by omega) ⟨Nat.zero_le _, Nat.zero_le _⟩ rfl (st := []) rfl (Nat.le_of_ble_eq_true rfl) dX6_readPart_139 (fun I3 hw => ?_)
              exact wm_return hC hE dX6_readPart_142 ⟨⟨rfl, rfl⟩, hw⟩
            · refine wm_aload_n hC 1 dX6_readPart_126 rfl (k_ne0 hk0 (by decide)) ?_
              refine wm_aload_n hC 1 dX6_readPart_127 rfl (k_ne0 hk0 (by decide)) ?_
              refine y_callV_i_n hC hRm noS ml_X6_96 hk0 (C6_ownHere hk0 hw) (by omega) (by omega) ⟨Nat.zero_le _, Nat.zero_le _⟩ rfl (st := [vr l0]) rfl (Nat.le_of_ble_eq_true rfl) dX6_readPart_128 (fun r10 hw => ?_)
              refine y_callV_v_I hC hRm noS ml_X6_221 hk0 (hrc7 hk0 hw) (by omega) (by omega) ⟨Nat.zero_le _, Nat.zero_le _⟩ rfl (st := []) rfl (Nat.le_of_ble_eq_true rfl) dX6_readPart_131 (fun I4 hw => ?_)
              refine wm_goto (tgt := 142) hC dX6_readPart_134 (by decide) ?_
              exact wm_return hC hE dX6_readPart_142 ⟨⟨rfl, rfl⟩, hw⟩
          · refine wm_aload_n hC 1 dX6_readPart_126 rfl (k_ne0 hk0 (by decide)) ?_
            refine wm_aload_n hC 1 dX6_readPart_127 rfl (k_ne0 hk0 (by decide)) ?_
            refine y_callV_i_n hC hRm noS ml_X6_96 hk0 (C6_ownHere hk0 hw) (by omega) (by omega) ⟨Nat.zero_le _, Nat.zero_le _⟩ rfl (st := [vr l0]) rfl (Nat.le_of_ble_eq_true rfl) dX6_readPart_128 (fun r8 hw => ?_)
            refine y_callV_v_I hC hRm noS ml_X6_221 hk0 (hrc7 hk0 hw) (by omega) (by omega) ⟨Nat.zero_le _, Nat.zero_le _⟩ rfl (st := []) rfl (Nat.le_of_ble_eq_true rfl) dX6_readPart_131 (fun I2 hw => ?_)
            refine wm_goto (tgt := 142) hC dX6_readPart_134 (by decide) ?_
            exact wm_return hC hE dX6_readPart_142 ⟨⟨rfl, rfl⟩, hw⟩
        · refine wm_aload_n hC 1 dX6_readPart_126 rfl (k_ne0 hk0 (by decide)) ?_
          refine wm_aload_n hC 1 dX6_readPart_127 rfl (k_ne0 hk0 (by decide)) ?_
          refine y_callV_i_n hC hRm noS ml_X6_96 hk0 (C6_ownHere hk0 hw) (by omega) (by omega) ⟨Nat.zero_le _, Nat.zero_le _⟩ rfl (st := [vr l0]) rfl (Nat.le_of_ble_eq_true rfl) dX6_readPart_128 (fun r6 hw => ?_)
          refine y_callV_v_I hC hRm noS ml_X6_221 hk0 (hrc7 hk0 hw) (by omega) (by omega) ⟨Nat.zero_le _, Nat.zero_le _⟩ rfl (st := []) rfl (Nat.le_of_ble_eq_true rfl) dX6_readPart_131 (fun I1 hw => ?_)
          refine wm_goto (tgt := 142) hC dX6_readPart_134 (by decide) ?_
          exact wm_return hC hE dX6_readPart_142 ⟨⟨rfl, rfl⟩, hw⟩
      · refine wm_aload_n hC 1 dX6_readPart_69 rfl (k_ne0 hk0 (by decide)) ?_
        refine y_callV_z_I hC hRm noS ml_X6_206 hk0 (C6_opens hk0 hw) (by omega) (by omega) ⟨Nat.zero_le _, Nat.zero_le _⟩ rfl (st := []) rfl (Nat.le_of_ble_eq_true rfl) dX6_readPart_70 (fun r11 I5 hw => ?_)
        refine wm_if_eq (tgt := 142) hC dX6_readPart_73 (by decide) hw (fun hw => ?_) (fun hw => ?_)
        · exact wm_return hC hE dX6_readPart_142 ⟨⟨rfl, rfl⟩, hw⟩
        · refine wm_aload_n hC 1 dX6_readPart_76 rfl (k_ne0 hk0 (by decide)) ?_
          refine y_callV_v_I hC hRm noS ml_X6_186 hk0 (hrc4 hk0 hw) (by omega) (by omega) ⟨Nat.zero_le _, Nat.zero_le _⟩ rfl (st := []) rfl (Nat.le_of_ble_eq_true rfl) dX6_readPart_77 (fun I6 hw => ?_)
          refine wm_aload_n hC 1 dX6_readPart_80 rfl (k_ne0 hk0 (by decide)) ?_
          refine wm_dup hC dX6_readPart_81 (k := ?_)
          refine x_getI hC 3 fl_X6_18 rfl hk0 dX6_readPart_82 ?_
          refine wm_iconst hC dX6_readPart_85 (k := ?_)
          refine x_isub hC dX6_readPart_86 hw (fun hw => ?_)
          refine x_putI hC 3 fl_X6_18 rfl hk0 dX6_readPart_87 hw (fun I7 hw => ?_)
          refine wm_aload_n hC 1 dX6_readPart_90 rfl (k_ne0 hk0 (by decide)) ?_
          refine wm_bipush hC dX6_readPart_91 (k := ?_)
          refine y_callV_v_I hC hRm noS ml_X6_128 hk0 (C6_expect hk0 hw) (by omega) (by omega) ⟨Nat.zero_le _, Nat.zero_le _⟩ rfl (st := []) rfl (Nat.le_of_ble_eq_true rfl) dX6_readPart_93 (fun I8 hw => ?_)
          refine wm_goto (tgt := 142) hC dX6_readPart_96 (by decide) ?_
          exact wm_return hC hE dX6_readPart_142 ⟨⟨rfl, rfl⟩, hw⟩
    · refine wm_aload_n hC 1 dX6_readPart_45 rfl (k_ne0 hk0 (by decide)) ?_
      refine wm_iload_n hC 0 dX6_readPart_46 rfl ?_
      refine y_callV_v_I hC hRm noS ml_X6_200 hk0 (C6_emit hk0 hw) (by omega) (by omega) ⟨Nat.zero_le _, Nat.zero_le _⟩ rfl (st := []) rfl (Nat.le_of_ble_eq_true rfl) dX6_readPart_47 (fun I9 hw => ?_)
      refine wm_aload_n hC 1 dX6_readPart_50 rfl (k_ne0 hk0 (by decide)) ?_
      refine x_getR2 hC 1 fl_X6_12 rfl hk0 dX6_readPart_51 hw (fun g2 hw => ?_)
      refine y_callV_v_I hC hRm noS ml_X6_89 g2 (C10_step g2 hw) (by omega) (by omega) ⟨Nat.zero_le _, Nat.zero_le _⟩ rfl (st := []) rfl (Nat.le_of_ble_eq_true rfl) dX6_readPart_54 (fun I10 hw => ?_)
      refine wm_goto (tgt := 142) hC dX6_readPart_57 (by decide) ?_
      exact wm_return hC hE dX6_readPart_142 ⟨⟨rfl, rfl⟩, hw⟩
def P6_readChosen_b46 (rc : RTrd) (l0 : Nat) (l1 : Int) (I : mI) (R : mR) (Q : mI → Prop) : Prop := (rc 4 l0 0 I R (fun I6 => (P6_expect l0 44 I6 R (fun I7 => (rc 4 l0 0 I7 R (fun I8 => (rg ((I8 l0 3) - 1) ∧ (wLet (up I8 l0 3 ((I8 l0 3) - 1)) (fun I9 => (P6_expect l0 41 I9 R (fun I10 => (if l1 = 26 then (P6_emit l0 (-15) I10 R (fun I13 => (Q I13))) else (if l1 = 27 then (P6_emit l0 (-16) I10 R (fun I12 => (Q I12))) else (P6_emit l0 (-23) I10 R (fun I11 => (Q I11))))))))))))))))
set_option maxRecDepth 20000 in
theorem W6_readChosen_b46 {rc : RTrd} {d : Nat} {C : wX} {ad : Nat → Nat} {n : Nat} {I J : mI} {R : mR} {Q : mI → Prop} (hC : wOK C cX6_readChosen 2 RX6) (hRm : wRm C (12 + (d + 1)) (600 + 40 * (d + 1)) 0 0) (hE : wEnd C none ad n (fun _ I' J' R' => (J' = J ∧ R' = R) ∧ Q I')) (hrc0 : ∀ {l0 : Nat} {I J : mI} {R : mR} {Q : mI → Prop}, kK l0 = 6 → rc 0 l0 0 I R Q → wMet yX6_readTest cX6_readTest 2 none (12 + d) (600 + 40 * d) false ad n I J R [vr l0] (fun _ I' J' R' => (J' = J ∧ R' = R) ∧ Q I')) (hrc1 : ∀ {l0 : Nat} {I J : mI} {R : mR} {Q : mI → Prop}, kK l0 = 6 → rc 1 l0 0 I R Q → wMet yX6_readBoth cX6_readBoth 2 none (12 + d) (600 + 40 * d) false ad n I J R [vr l0] (fun _ I' J' R' => (J' = J ∧ R' = R) ∧ Q I')) (hrc2 : ∀ {l0 : Nat} {I J : mI} {R : mR} {Q : mI → Prop}, kK l0 = 6 → rc 2 l0 0 I R Q → wMet yX6_readFact cX6_readFact 1 none (12 + d) (600 + 40 * d) false ad n I J R [vr l0] (fun _ I' J' R' => (J' = J ∧ R' = R) ∧ Q I')) (hrc3 : ∀ {l0 : Nat} {I J : mI} {R : mR} {Q : mI → Prop}, kK l0 = 6 → rc 3 l0 0 I R Q → wMet yX6_readComparison cX6_readComparison 2 none (12 + d) (600 + 40 * d) false ad n I J R [vr l0] (fun _ I' J' R' => (J' = J ∧ R' = R) ∧ Q I')) (hrc4 : ∀ {l0 : Nat} {I J : mI} {R : mR} {Q : mI → Prop}, kK l0 = 6 → rc 4 l0 0 I R Q → wMet yX6_readSum cX6_readSum 3 none (12 + d) (600 + 40 * d) false ad n I J R [vr l0] (fun _ I' J' R' => (J' = J ∧ R' = R) ∧ Q I')) (hrc5 : ∀ {l0 : Nat} {I J : mI} {R : mR} {Q : mI → Prop}, kK l0 = 6 → rc 5 l0 0 I R Q → wMet yX6_readProduct cX6_readProduct 3 none (12 + d) (600 + 40 * d) false ad n I J R [vr l0] (fun _ I' J' R' => (J' = J ∧ R' = R) ∧ Q I')) (hrc6 : ∀ {l0 : Nat} {I J : mI} {R : mR} {Q : mI → Prop}, kK l0 = 6 → rc 6 l0 0 I R Q → wMet yX6_readPart cX6_readPart 2 none (12 + d) (600 + 40 * d) false ad n I J R [vr l0] (fun _ I' J' R' => (J' = J ∧ R' = R) ∧ Q I')) (hrc7 : ∀ {l0 : Nat} {l1 : Int} {I J : mI} {R : mR} {Q : mI → Prop}, kK l0 = 6 → rc 7 l0 l1 I R Q → wMet yX6_readChosen cX6_readChosen 2 none (12 + d) (600 + 40 * d) false ad n I J R [vr l0, vi l1] (fun _ I' J' R' => (J' = J ∧ R' = R) ∧ Q I')) {l0 : Nat} {l1 : Int}   (hk0 : kK l0 = 6)  (hw : P6_readChosen_b46 rc l0 l1 I R Q) : WM C ad n I J R 0 0 46 [(0, vr l0), (1, vi l1)] [] := by
  unfold P6_readChosen_b46 at hw
  refine wm_aload_n hC 0 dX6_readChosen_46 rfl (k_ne0 hk0 (by decide)) ?_
  refine y_callV_v_I hC hRm noS ml_X6_186 hk0 (hrc4 hk0 hw) (by omega) (by omega) ⟨Nat.zero_le _, Nat.zero_le _⟩ rfl (st := []) rfl (Nat.le_of_ble_eq_true rfl) dX6_readChosen_47 (fun I6 hw => ?_)
  refine wm_aload_n hC 0 dX6_readChosen_50 rfl (k_ne0 hk0 (by decide)) ?_
  refine wm_bipush hC dX6_readChosen_51 (k := ?_)
  refine y_callV_v_I hC hRm noS ml_X6_128 hk0 (C6_expect hk0 hw) (by omega) (by omega) ⟨Nat.zero_le _, Nat.zero_le _⟩ rfl (st := []) rfl (Nat.le_of_ble_eq_true rfl) dX6_readChosen_53 (fun I7 hw => ?_)
  refine wm_aload_n hC 0 dX6_readChosen_56 rfl (k_ne0 hk0 (by decide)) ?_
  refine y_callV_v_I hC hRm noS ml_X6_186 hk0 (hrc4 hk0 hw) (by omega) (by omega) ⟨Nat.zero_le _, Nat.zero_le _⟩ rfl (st := []) rfl (Nat.le_of_ble_eq_true rfl) dX6_readChosen_57 (fun I8 hw => ?_)
  refine wm_aload_n hC 0 dX6_readChosen_60 rfl (k_ne0 hk0 (by decide)) ?_
  refine wm_dup hC dX6_readChosen_61 (k := ?_)
  refine x_getI hC 3 fl_X6_18 rfl hk0 dX6_readChosen_62 ?_
  refine wm_iconst hC dX6_readChosen_65 (k := ?_)
  refine x_isub hC dX6_readChosen_66 hw (fun hw => ?_)
  refine x_putI hC 3 fl_X6_18 rfl hk0 dX6_readChosen_67 hw (fun I9 hw => ?_)
  refine wm_aload_n hC 0 dX6_readChosen_70 rfl (k_ne0 hk0 (by decide)) ?_
  refine wm_bipush hC dX6_readChosen_71 (k := ?_)
  refine y_callV_v_I hC hRm noS ml_X6_128 hk0 (C6_expect hk0 hw) (by omega) (by omega) ⟨Nat.zero_le _, Nat.zero_le _⟩ rfl (st := []) rfl (Nat.le_of_ble_eq_true rfl) dX6_readChosen_73 (fun I10 hw => ?_)
  refine wm_aload_n hC 0 dX6_readChosen_76 rfl (k_ne0 hk0 (by decide)) ?_
  refine wm_iload_n hC 1 dX6_readChosen_77 rfl ?_
  refine wm_bipush hC dX6_readChosen_78 (k := ?_)
  refine wm_icmp_ne (tgt := 88) hC dX6_readChosen_80 (by decide) hw (fun hw => ?_) (fun hw => ?_)
  · refine wm_bipush hC dX6_readChosen_83 (k := ?_)
    refine wm_goto (tgt := 101) hC dX6_readChosen_85 (by decide) ?_
    refine y_callV_v_I hC hRm noS ml_X6_200 hk0 (C6_emit hk0 hw) (by omega) (by omega) ⟨Nat.zero_le _, Nat.zero_le _⟩ rfl (st := []) rfl (Nat.le_of_ble_eq_true rfl) dX6_readChosen_101 (fun I13 hw => ?_)
    exact wm_return hC hE dX6_readChosen_104 ⟨⟨rfl, rfl⟩, hw⟩
  · refine wm_iload_n hC 1 dX6_readChosen_88 rfl ?_
    refine wm_bipush hC dX6_readChosen_89 (k := ?_)
    refine wm_icmp_ne (tgt := 99) hC dX6_readChosen_91 (by decide) hw (fun hw => ?_) (fun hw => ?_)
    · refine wm_bipush hC dX6_readChosen_94 (k := ?_)
      refine wm_goto (tgt := 101) hC dX6_readChosen_96 (by decide) ?_
      refine y_callV_v_I hC hRm noS ml_X6_200 hk0 (C6_emit hk0 hw) (by omega) (by omega) ⟨Nat.zero_le _, Nat.zero_le _⟩ rfl (st := []) rfl (Nat.le_of_ble_eq_true rfl) dX6_readChosen_101 (fun I12 hw => ?_)
      exact wm_return hC hE dX6_readChosen_104 ⟨⟨rfl, rfl⟩, hw⟩
    · refine wm_bipush hC dX6_readChosen_99 (k := ?_)
      refine y_callV_v_I hC hRm noS ml_X6_200 hk0 (C6_emit hk0 hw) (by omega) (by omega) ⟨Nat.zero_le _, Nat.zero_le _⟩ rfl (st := []) rfl (Nat.le_of_ble_eq_true rfl) dX6_readChosen_101 (fun I11 hw => ?_)
      exact wm_return hC hE dX6_readChosen_104 ⟨⟨rfl, rfl⟩, hw⟩
def P6_readChosen (rc : RTrd) (l0 : Nat) (l1 : Int) (I : mI) (R : mR) (Q : mI → Prop) : Prop := (kK (R l0 1) = 10 ∧ (P10_step (R l0 1) I (fun I1 => (P6_isSign l0 40 I1 R (fun r1 => (if r1 = 0 then (P6_fail l0 1 I1 R (fun I5 => (Q I5))) else (P6_opens l0 I1 R (fun r2 I2 => (if r2 = 0 then (Q I2) else (if l1 = 21 then (rc 0 l0 0 I2 R (fun I3 => (P6_expect l0 44 I3 R (fun I4 => (P6_readChosen_b46 rc l0 l1 I4 R Q))))) else (P6_readChosen_b46 rc l0 l1 I2 R Q)))))))))))
set_option maxRecDepth 20000 in
theorem C6_readChosen {ad : Nat → Nat} {n : Nat} {I J : mI} {R : mR} {Q : mI → Prop} {rc : RTrd} {d : Nat}  (hrc0 : ∀ {l0 : Nat} {I J : mI} {R : mR} {Q : mI → Prop}, kK l0 = 6 → rc 0 l0 0 I R Q → wMet yX6_readTest cX6_readTest 2 none (12 + d) (600 + 40 * d) false ad n I J R [vr l0] (fun _ I' J' R' => (J' = J ∧ R' = R) ∧ Q I')) (hrc1 : ∀ {l0 : Nat} {I J : mI} {R : mR} {Q : mI → Prop}, kK l0 = 6 → rc 1 l0 0 I R Q → wMet yX6_readBoth cX6_readBoth 2 none (12 + d) (600 + 40 * d) false ad n I J R [vr l0] (fun _ I' J' R' => (J' = J ∧ R' = R) ∧ Q I')) (hrc2 : ∀ {l0 : Nat} {I J : mI} {R : mR} {Q : mI → Prop}, kK l0 = 6 → rc 2 l0 0 I R Q → wMet yX6_readFact cX6_readFact 1 none (12 + d) (600 + 40 * d) false ad n I J R [vr l0] (fun _ I' J' R' => (J' = J ∧ R' = R) ∧ Q I')) (hrc3 : ∀ {l0 : Nat} {I J : mI} {R : mR} {Q : mI → Prop}, kK l0 = 6 → rc 3 l0 0 I R Q → wMet yX6_readComparison cX6_readComparison 2 none (12 + d) (600 + 40 * d) false ad n I J R [vr l0] (fun _ I' J' R' => (J' = J ∧ R' = R) ∧ Q I')) (hrc4 : ∀ {l0 : Nat} {I J : mI} {R : mR} {Q : mI → Prop}, kK l0 = 6 → rc 4 l0 0 I R Q → wMet yX6_readSum cX6_readSum 3 none (12 + d) (600 + 40 * d) false ad n I J R [vr l0] (fun _ I' J' R' => (J' = J ∧ R' = R) ∧ Q I')) (hrc5 : ∀ {l0 : Nat} {I J : mI} {R : mR} {Q : mI → Prop}, kK l0 = 6 → rc 5 l0 0 I R Q → wMet yX6_readProduct cX6_readProduct 3 none (12 + d) (600 + 40 * d) false ad n I J R [vr l0] (fun _ I' J' R' => (J' = J ∧ R' = R) ∧ Q I')) (hrc6 : ∀ {l0 : Nat} {I J : mI} {R : mR} {Q : mI → Prop}, kK l0 = 6 → rc 6 l0 0 I R Q → wMet yX6_readPart cX6_readPart 2 none (12 + d) (600 + 40 * d) false ad n I J R [vr l0] (fun _ I' J' R' => (J' = J ∧ R' = R) ∧ Q I')) (hrc7 : ∀ {l0 : Nat} {l1 : Int} {I J : mI} {R : mR} {Q : mI → Prop}, kK l0 = 6 → rc 7 l0 l1 I R Q → wMet yX6_readChosen cX6_readChosen 2 none (12 + d) (600 + 40 * d) false ad n I J R [vr l0, vi l1] (fun _ I' J' R' => (J' = J ∧ R' = R) ∧ Q I')) {l0 : Nat} {l1 : Int} (hk0 : kK l0 = 6) (hw : P6_readChosen rc l0 l1 I R Q) : wMet yX6_readChosen cX6_readChosen 2 none (12 + (d + 1)) (600 + 40 * (d + 1)) false ad n I J R [vr l0, vi l1] (fun _ I' J' R' => (J' = J ∧ R' = R) ∧ Q I') := by
  refine wMet_of (by decide) (Nat.le_of_ble_eq_true rfl) (fun C hC hRm hE hS => ?_)
  refine (show WM C ad n I J R 0 0 0 [(0, vr l0), (1, vi l1)] [] from ?_)
  unfold P6_readChosen at hw
  refine wm_aload_n hC 0 dX6_readChosen_0 rfl (k_ne0 hk0 (by decide)) ?_
  refine x_getR2 hC 1 fl_X6_12 rfl hk0 dX6_readChosen_1 hw (fun g1 hw => ?_)
  refine y_callV_v_I hC hRm noS ml_X6_89 g1 (C10_step g1 hw) (by omega) (by omega) ⟨Nat.zero_le _, Nat.zero_le _⟩ rfl (st := []) rfl (Nat.le_of_ble_eq_true rfl) dX6_readChosen_4 (fun I1 hw => ?_)
  refine wm_aload_n hC 0 dX6_readChosen_7 rfl (k_ne0 hk0 (by decide)) ?_
  refine wm_bipush hC dX6_readChosen_8 (k := ?_)
  refine y_callV_z_n hC hRm noS ml_X6_85 hk0 (C6_isSign hk0 hw) (by omega) (by omega) ⟨Nat.zero_le _, Nat.zero_le _⟩ rfl (st := []) rfl (Nat.le_of_ble_eq_true rfl) dX6_readChosen_10 (fun r1 hw => ?_)
  refine wm_if_ne (tgt := 22) hC dX6_readChosen_13 (by decide) hw (fun hw => ?_) (fun hw => ?_)
  · refine wm_aload_n hC 0 dX6_readChosen_16 rfl (k_ne0 hk0 (by decide)) ?_
    refine wm_iconst hC dX6_readChosen_17 (k := ?_)
    refine y_callV_v_I hC hRm noS ml_X6_92 hk0 (C6_fail hk0 hw) (by omega) (by omega) ⟨Nat.zero_le _, Nat.zero_le _⟩ rfl (st := []) rfl (Nat.le_of_ble_eq_true rfl) dX6_readChosen_18 (fun I5 hw => ?_)
    exact wm_return hC hE dX6_readChosen_21 ⟨⟨rfl, rfl⟩, hw⟩
  · refine wm_aload_n hC 0 dX6_readChosen_22 rfl (k_ne0 hk0 (by decide)) ?_
    refine y_callV_z_I hC hRm noS ml_X6_206 hk0 (C6_opens hk0 hw) (by omega) (by omega) ⟨Nat.zero_le _, Nat.zero_le _⟩ rfl (st := []) rfl (Nat.le_of_ble_eq_true rfl) dX6_readChosen_23 (fun r2 I2 hw => ?_)
    refine wm_if_ne (tgt := 30) hC dX6_readChosen_26 (by decide) hw (fun hw => ?_) (fun hw => ?_)
    · exact wm_return hC hE dX6_readChosen_29 ⟨⟨rfl, rfl⟩, hw⟩
    · refine wm_iload_n hC 1 dX6_readChosen_30 rfl ?_
      refine wm_bipush hC dX6_readChosen_31 (k := ?_)
      refine wm_icmp_ne (tgt := 46) hC dX6_readChosen_33 (by decide) hw (fun hw => ?_) (fun hw => ?_)
      · refine wm_aload_n hC 0 dX6_readChosen_36 rfl (k_ne0 hk0 (by decide)) ?_
        refine y_callV_v_I hC hRm noS ml_X6_183 hk0 (hrc0 hk0 hw) (by omega) (by omega) ⟨Nat.zero_le _, Nat.zero_le _⟩ rfl (st := []) rfl (Nat.le_of_ble_eq_true rfl) dX6_readChosen_37 (fun I3 hw => ?_)
        refine wm_aload_n hC 0 dX6_readChosen_40 rfl (k_ne0 hk0 (by decide)) ?_
        refine wm_bipush hC dX6_readChosen_41 (k := ?_)
        refine y_callV_v_I hC hRm noS ml_X6_128 hk0 (C6_expect hk0 hw) (by omega) (by omega) ⟨Nat.zero_le _, Nat.zero_le _⟩ rfl (st := []) rfl (Nat.le_of_ble_eq_true rfl) dX6_readChosen_43 (fun I4 hw => ?_)
        exact W6_readChosen_b46 hC hRm hE hrc0 hrc1 hrc2 hrc3 hrc4 hrc5 hrc6 hrc7 hk0 hw
      · exact W6_readChosen_b46 hC hRm hE hrc0 hrc1 hrc2 hrc3 hrc4 hrc5 hrc6 hrc7 hk0 hw
def PGrd : Nat → RTrd
  | 0 => fun _ _ _ _ _ _ => False
  | d + 1 => fun w l0 l1 I R Q => if w = 0 then P6_readTest (PGrd d) l0 I R Q else if w = 1 then P6_readBoth (PGrd d) l0 I R Q else if w = 2 then P6_readFact (PGrd d) l0 I R Q else if w = 3 then P6_readComparison (PGrd d) l0 I R Q else if w = 4 then P6_readSum (PGrd d) l0 I R Q else if w = 5 then P6_readProduct (PGrd d) l0 I R Q else if w = 6 then P6_readPart (PGrd d) l0 I R Q else P6_readChosen (PGrd d) l0 l1 I R Q
set_option maxRecDepth 20000 in
theorem CGrd {ad : Nat → Nat} {n : Nat} : ∀ (d : Nat), (∀ {l0 : Nat} {I J : mI} {R : mR} {Q : mI → Prop}, kK l0 = 6 → PGrd d 0 l0 0 I R Q → wMet yX6_readTest cX6_readTest 2 none (12 + d) (600 + 40 * d) false ad n I J R [vr l0] (fun _ I' J' R' => (J' = J ∧ R' = R) ∧ Q I')) ∧ (∀ {l0 : Nat} {I J : mI} {R : mR} {Q : mI → Prop}, kK l0 = 6 → PGrd d 1 l0 0 I R Q → wMet yX6_readBoth cX6_readBoth 2 none (12 + d) (600 + 40 * d) false ad n I J R [vr l0] (fun _ I' J' R' => (J' = J ∧ R' = R) ∧ Q I')) ∧ (∀ {l0 : Nat} {I J : mI} {R : mR} {Q : mI → Prop}, kK l0 = 6 → PGrd d 2 l0 0 I R Q → wMet yX6_readFact cX6_readFact 1 none (12 + d) (600 + 40 * d) false ad n I J R [vr l0] (fun _ I' J' R' => (J' = J ∧ R' = R) ∧ Q I')) ∧ (∀ {l0 : Nat} {I J : mI} {R : mR} {Q : mI → Prop}, kK l0 = 6 → PGrd d 3 l0 0 I R Q → wMet yX6_readComparison cX6_readComparison 2 none (12 + d) (600 + 40 * d) false ad n I J R [vr l0] (fun _ I' J' R' => (J' = J ∧ R' = R) ∧ Q I')) ∧ (∀ {l0 : Nat} {I J : mI} {R : mR} {Q : mI → Prop}, kK l0 = 6 → PGrd d 4 l0 0 I R Q → wMet yX6_readSum cX6_readSum 3 none (12 + d) (600 + 40 * d) false ad n I J R [vr l0] (fun _ I' J' R' => (J' = J ∧ R' = R) ∧ Q I')) ∧ (∀ {l0 : Nat} {I J : mI} {R : mR} {Q : mI → Prop}, kK l0 = 6 → PGrd d 5 l0 0 I R Q → wMet yX6_readProduct cX6_readProduct 3 none (12 + d) (600 + 40 * d) false ad n I J R [vr l0] (fun _ I' J' R' => (J' = J ∧ R' = R) ∧ Q I')) ∧ (∀ {l0 : Nat} {I J : mI} {R : mR} {Q : mI → Prop}, kK l0 = 6 → PGrd d 6 l0 0 I R Q → wMet yX6_readPart cX6_readPart 2 none (12 + d) (600 + 40 * d) false ad n I J R [vr l0] (fun _ I' J' R' => (J' = J ∧ R' = R) ∧ Q I')) ∧ (∀ {l0 : Nat} {l1 : Int} {I J : mI} {R : mR} {Q : mI → Prop}, kK l0 = 6 → PGrd d 7 l0 l1 I R Q → wMet yX6_readChosen cX6_readChosen 2 none (12 + d) (600 + 40 * d) false ad n I J R [vr l0, vi l1] (fun _ I' J' R' => (J' = J ∧ R' = R) ∧ Q I')) := by
  intro d
  induction d with
  | zero => exact ⟨fun _ hw => hw.elim, fun _ hw => hw.elim, fun _ hw => hw.elim, fun _ hw => hw.elim, fun _ hw => hw.elim, fun _ hw => hw.elim, fun _ hw => hw.elim, fun _ hw => hw.elim⟩
  | succ d ih =>
    obtain ⟨h0, h1, h2, h3, h4, h5, h6, h7⟩ := ih
    exact ⟨fun hk hw => C6_readTest h0 h1 h2 h3 h4 h5 h6 h7 hk hw, fun hk hw => C6_readBoth h0 h1 h2 h3 h4 h5 h6 h7 hk hw, fun hk hw => C6_readFact h0 h1 h2 h3 h4 h5 h6 h7 hk hw, fun hk hw => C6_readComparison h0 h1 h2 h3 h4 h5 h6 h7 hk hw, fun hk hw => C6_readSum h0 h1 h2 h3 h4 h5 h6 h7 hk hw, fun hk hw => C6_readProduct h0 h1 h2 h3 h4 h5 h6 h7 hk hw, fun hk hw => C6_readPart h0 h1 h2 h3 h4 h5 h6 h7 hk hw, fun hk hw => C6_readChosen h0 h1 h2 h3 h4 h5 h6 h7 hk hw⟩
theorem CGrd_0 {ad : Nat → Nat} {n : Nat} {l0 : Nat} {I J : mI} {R : mR} {Q : mI → Prop} (hk : kK l0 = 6) (hw : PGrd 90 0 l0 0 I R Q) : wMet yX6_readTest cX6_readTest 2 none 102 4200 false ad n I J R [vr l0] (fun _ I' J' R' => (J' = J ∧ R' = R) ∧ Q I') := (CGrd 90).1 hk hw
theorem CGrd_4 {ad : Nat → Nat} {n : Nat} {l0 : Nat} {I J : mI} {R : mR} {Q : mI → Prop} (hk : kK l0 = 6) (hw : PGrd 90 4 l0 0 I R Q) : wMet yX6_readSum cX6_readSum 3 none 102 4200 false ad n I J R [vr l0] (fun _ I' J' R' => (J' = J ∧ R' = R) ∧ Q I') := (CGrd 90).2.2.2.2.1 hk hw
