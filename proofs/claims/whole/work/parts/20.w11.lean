def P12_isBlind (l0 : Nat) (l1 : Int) (I : mI) (R : mR) (Q : Int → Prop) : Prop := (if l1 < 0 then (Q 0) else (kK (R l0 14) = 21 ∧ (((0 : Int) ≤ (I l0 13) ∧ (I l0 13) < (kN (R l0 14) : Int)) ∧ (if (I (R l0 14) (I l0 13)) ≤ l1 then (Q 0) else (Q 1)))))
set_option maxRecDepth 20000 in
theorem C12_isBlind {ad : Nat → Nat} {n : Nat} {I J : mI} {R : mR} {Q : Int → Prop}  {l0 : Nat} {l1 : Int} (hk0 : kK l0 = 12) (hw : P12_isBlind l0 l1 I R Q) : wMet yX12_isBlind cX12_isBlind 2 (some .boolean) 1 12 false ad n I J R [vr l0, vi l1] (fun r I' J' R' => (I' = I ∧ J' = J ∧ R' = R) ∧ Q r) := by
  refine wMet_of (by decide) (Nat.le_of_ble_eq_true rfl) (fun C hC hRm hE hS => ?_)
  refine (show WM C ad n I J R 0 0 0 [(0, vr l0), (1, vi l1)] [] from ?_)
  unfold P12_isBlind at hw
  refine wm_iload_n hC 1 dX12_isBlind_0 rfl ?_
  refine wm_if_lt (tgt := 21) hC dX12_isBlind_1 (by decide) hw (fun hw => ?_) (fun hw => ?_)
  · refine wm_iconst hC dX12_isBlind_21 (k := ?_)
    exact wm_zreturn hC hE (Or.inl rfl) dX12_isBlind_22 ⟨⟨rfl, rfl, rfl⟩, hw⟩
  · refine wm_iload_n hC 1 dX12_isBlind_4 rfl ?_
    refine wm_aload_n hC 0 dX12_isBlind_5 rfl (k_ne0 hk0 (by decide)) ?_
    refine x_getR2 hC 14 fl_X12_54 rfl hk0 dX12_isBlind_6 hw (fun g1 hw => ?_)
    refine wm_aload_n hC 0 dX12_isBlind_9 rfl (k_ne0 hk0 (by decide)) ?_
    refine x_getI hC 13 fl_X12_51 rfl hk0 dX12_isBlind_10 ?_
    refine x_iald hC g1 dX12_isBlind_13 hw (fun hw => ?_)
    refine wm_icmp_ge (tgt := 21) hC dX12_isBlind_14 (by decide) hw (fun hw => ?_) (fun hw => ?_)
    · refine wm_iconst hC dX12_isBlind_21 (k := ?_)
      exact wm_zreturn hC hE (Or.inl rfl) dX12_isBlind_22 ⟨⟨rfl, rfl, rfl⟩, hw⟩
    · refine wm_iconst hC dX12_isBlind_17 (k := ?_)
      refine wm_goto (tgt := 22) hC dX12_isBlind_18 (by decide) ?_
      exact wm_zreturn hC hE (Or.inr rfl) dX12_isBlind_22 ⟨⟨rfl, rfl, rfl⟩, hw⟩
def P12_isColour (l0 : Nat) (l1 : Int) (I : mI) (R : mR) (Q : Int → Prop) : Prop := (if l1 < 0 then (Q 0) else (kK (R l0 17) = 21 ∧ (((0 : Int) ≤ (I l0 13) ∧ (I l0 13) < (kN (R l0 17) : Int)) ∧ (if (I (R l0 17) (I l0 13)) ≤ l1 then (Q 0) else (Q 1)))))
set_option maxRecDepth 20000 in
theorem C12_isColour {ad : Nat → Nat} {n : Nat} {I J : mI} {R : mR} {Q : Int → Prop}  {l0 : Nat} {l1 : Int} (hk0 : kK l0 = 12) (hw : P12_isColour l0 l1 I R Q) : wMet yX12_isColour cX12_isColour 2 (some .boolean) 1 12 false ad n I J R [vr l0, vi l1] (fun r I' J' R' => (I' = I ∧ J' = J ∧ R' = R) ∧ Q r) := by
  refine wMet_of (by decide) (Nat.le_of_ble_eq_true rfl) (fun C hC hRm hE hS => ?_)
  refine (show WM C ad n I J R 0 0 0 [(0, vr l0), (1, vi l1)] [] from ?_)
  unfold P12_isColour at hw
  refine wm_iload_n hC 1 dX12_isColour_0 rfl ?_
  refine wm_if_lt (tgt := 21) hC dX12_isColour_1 (by decide) hw (fun hw => ?_) (fun hw => ?_)
  · refine wm_iconst hC dX12_isColour_21 (k := ?_)
    exact wm_zreturn hC hE (Or.inl rfl) dX12_isColour_22 ⟨⟨rfl, rfl, rfl⟩, hw⟩
  · refine wm_iload_n hC 1 dX12_isColour_4 rfl ?_
    refine wm_aload_n hC 0 dX12_isColour_5 rfl (k_ne0 hk0 (by decide)) ?_
    refine x_getR2 hC 17 fl_X12_63 rfl hk0 dX12_isColour_6 hw (fun g1 hw => ?_)
    refine wm_aload_n hC 0 dX12_isColour_9 rfl (k_ne0 hk0 (by decide)) ?_
    refine x_getI hC 13 fl_X12_51 rfl hk0 dX12_isColour_10 ?_
    refine x_iald hC g1 dX12_isColour_13 hw (fun hw => ?_)
    refine wm_icmp_ge (tgt := 21) hC dX12_isColour_14 (by decide) hw (fun hw => ?_) (fun hw => ?_)
    · refine wm_iconst hC dX12_isColour_21 (k := ?_)
      exact wm_zreturn hC hE (Or.inl rfl) dX12_isColour_22 ⟨⟨rfl, rfl, rfl⟩, hw⟩
    · refine wm_iconst hC dX12_isColour_17 (k := ?_)
      refine wm_goto (tgt := 22) hC dX12_isColour_18 (by decide) ?_
      exact wm_zreturn hC hE (Or.inr rfl) dX12_isColour_22 ⟨⟨rfl, rfl, rfl⟩, hw⟩
def P12_isThing (l0 : Nat) (l1 : Int) (I : mI) (R : mR) (Q : Int → Prop) : Prop := (if l1 < 0 then (Q 0) else (kK (R l0 20) = 21 ∧ (((0 : Int) ≤ (I l0 13) ∧ (I l0 13) < (kN (R l0 20) : Int)) ∧ (if (I (R l0 20) (I l0 13)) ≤ l1 then (Q 0) else (Q 1)))))
set_option maxRecDepth 20000 in
theorem C12_isThing {ad : Nat → Nat} {n : Nat} {I J : mI} {R : mR} {Q : Int → Prop}  {l0 : Nat} {l1 : Int} (hk0 : kK l0 = 12) (hw : P12_isThing l0 l1 I R Q) : wMet yX12_isThing cX12_isThing 2 (some .boolean) 1 12 false ad n I J R [vr l0, vi l1] (fun r I' J' R' => (I' = I ∧ J' = J ∧ R' = R) ∧ Q r) := by
  refine wMet_of (by decide) (Nat.le_of_ble_eq_true rfl) (fun C hC hRm hE hS => ?_)
  refine (show WM C ad n I J R 0 0 0 [(0, vr l0), (1, vi l1)] [] from ?_)
  unfold P12_isThing at hw
  refine wm_iload_n hC 1 dX12_isThing_0 rfl ?_
  refine wm_if_lt (tgt := 21) hC dX12_isThing_1 (by decide) hw (fun hw => ?_) (fun hw => ?_)
  · refine wm_iconst hC dX12_isThing_21 (k := ?_)
    exact wm_zreturn hC hE (Or.inl rfl) dX12_isThing_22 ⟨⟨rfl, rfl, rfl⟩, hw⟩
  · refine wm_iload_n hC 1 dX12_isThing_4 rfl ?_
    refine wm_aload_n hC 0 dX12_isThing_5 rfl (k_ne0 hk0 (by decide)) ?_
    refine x_getR2 hC 20 fl_X12_72 rfl hk0 dX12_isThing_6 hw (fun g1 hw => ?_)
    refine wm_aload_n hC 0 dX12_isThing_9 rfl (k_ne0 hk0 (by decide)) ?_
    refine x_getI hC 13 fl_X12_51 rfl hk0 dX12_isThing_10 ?_
    refine x_iald hC g1 dX12_isThing_13 hw (fun hw => ?_)
    refine wm_icmp_ge (tgt := 21) hC dX12_isThing_14 (by decide) hw (fun hw => ?_) (fun hw => ?_)
    · refine wm_iconst hC dX12_isThing_21 (k := ?_)
      exact wm_zreturn hC hE (Or.inl rfl) dX12_isThing_22 ⟨⟨rfl, rfl, rfl⟩, hw⟩
    · refine wm_iconst hC dX12_isThing_17 (k := ?_)
      refine wm_goto (tgt := 22) hC dX12_isThing_18 (by decide) ?_
      exact wm_zreturn hC hE (Or.inr rfl) dX12_isThing_22 ⟨⟨rfl, rfl, rfl⟩, hw⟩
def P12_nearSet (l0 : Nat) (l1 : Int) (I : mI) (R : mR) (Q : Int → Prop) : Prop := (kK (R l0 22) = 21 ∧ (rg (6 * (I l0 13)) ∧ (rg ((6 * (I l0 13)) + l1) ∧ (((0 : Int) ≤ ((6 * (I l0 13)) + l1) ∧ ((6 * (I l0 13)) + l1) < (kN (R l0 22) : Int)) ∧ (Q (I (R l0 22) ((6 * (I l0 13)) + l1)))))))
set_option maxRecDepth 20000 in
theorem C12_nearSet {ad : Nat → Nat} {n : Nat} {I J : mI} {R : mR} {Q : Int → Prop}  {l0 : Nat} {l1 : Int} (hk0 : kK l0 = 12) (hw : P12_nearSet l0 l1 I R Q) : wMet yX12_nearSet cX12_nearSet 2 (some .int) 1 12 false ad n I J R [vr l0, vi l1] (fun r I' J' R' => (I' = I ∧ J' = J ∧ R' = R) ∧ Q r) := by
  refine wMet_of (by decide) (Nat.le_of_ble_eq_true rfl) (fun C hC hRm hE hS => ?_)
  refine (show WM C ad n I J R 0 0 0 [(0, vr l0), (1, vi l1)] [] from ?_)
  unfold P12_nearSet at hw
  refine wm_aload_n hC 0 dX12_nearSet_0 rfl (k_ne0 hk0 (by decide)) ?_
  refine x_getR2 hC 22 fl_X12_78 rfl hk0 dX12_nearSet_1 hw (fun g1 hw => ?_)
  refine wm_bipush hC dX12_nearSet_4 (k := ?_)
  refine wm_aload_n hC 0 dX12_nearSet_6 rfl (k_ne0 hk0 (by decide)) ?_
  refine x_getI hC 13 fl_X12_51 rfl hk0 dX12_nearSet_7 ?_
  refine x_imul hC dX12_nearSet_10 hw (fun hw => ?_)
  refine wm_iload_n hC 1 dX12_nearSet_11 rfl ?_
  refine x_iadd hC dX12_nearSet_12 hw (fun hw => ?_)
  refine x_iald hC g1 dX12_nearSet_13 hw (fun hw => ?_)
  exact wm_ireturn hC hE dX12_nearSet_14 ⟨⟨rfl, rfl, rfl⟩, hw⟩
def P12_clashes_b21_body (l0 : Nat) (l2 : Int) (I : mI) (R : mR) (k4 : Int → Int → Prop) (Q : Int → Prop) (k21 : Int → Int → Prop) (l1 : Int) (l3 : Int) : Prop := (kK (R l0 20) = 21 ∧ (((0 : Int) ≤ (I l0 13) ∧ (I l0 13) < (kN (R l0 20) : Int)) ∧ (if (I (R l0 20) (I l0 13)) ≤ l3 then (rg (l2 + 1) ∧ (k4 l1 (l2 + 1))) else (P12_nearSet l0 l2 I R (fun r1 => (P12_has2 r1 l3 (fun r2 => (if r2 = 0 then (rg (l1 + 0) ∧ (rg (l3 + 1) ∧ (k21 (l1 + 0) (l3 + 1)))) else (kK (R l0 49) = 21 ∧ (((0 : Int) ≤ l2 ∧ l2 < (kN (R l0 49) : Int)) ∧ (if (I (R l0 49) l2) = (-1) then (rg (l1 + 0) ∧ (rg (l3 + 1) ∧ (k21 (l1 + 0) (l3 + 1)))) else (kK (R l0 49) = 21 ∧ (((0 : Int) ≤ l2 ∧ l2 < (kN (R l0 49) : Int)) ∧ (kK (R l0 49) = 21 ∧ (((0 : Int) ≤ l3 ∧ l3 < (kN (R l0 49) : Int)) ∧ (if (I (R l0 49) l2) = (I (R l0 49) l3) then (rg (l1 + 1) ∧ (rg (l3 + 1) ∧ (k21 (l1 + 1) (l3 + 1)))) else (rg (l1 + 0) ∧ (rg (l3 + 1) ∧ (k21 (l1 + 0) (l3 + 1))))))))))))))))))))
def P12_clashes_b21 (l0 : Nat) (l2 : Int) (I : mI) (R : mR) (k4 : Int → Int → Prop) (Q : Int → Prop) : Nat → Int → Int → Prop
  | 0 => fun _ _ => False
  | f + 1 => fun l1 l3 => P12_clashes_b21_body l0 l2 I R k4 Q (P12_clashes_b21 l0 l2 I R k4 Q f) l1 l3
set_option maxRecDepth 20000 in
theorem W12_clashes_b21_body {C : wX} {ad : Nat → Nat} {n : Nat} {I J : mI} {R : mR} {Q : Int → Prop} (hC : wOK C cX12_clashes 4 RX12) (hRm : wRm C 2 33 0 0) (hE : wEnd C (some .int) ad n (fun r I' J' R' => (I' = I ∧ J' = J ∧ R' = R) ∧ Q r)) {l0 : Nat} {l2 : Int} {l1 : Int} {l3 : Int}  {k4 : Int → Int → Prop} (hk0 : kK l0 = 12) (kk4 : ∀ (y1 : Int) (y2 : Int), k4 y1 y2 → WM C ad n I J R 0 0 4 [(0, vr l0), (1, vi y1), (2, vi y2)] []) {k21 : Int → Int → Prop} (kk21 : ∀ (y1 : Int) (y3 : Int), k21 y1 y3 → WM C ad n I J R 0 0 21 [(0, vr l0), (1, vi y1), (2, vi l2), (3, vi y3)] []) (hw : P12_clashes_b21_body l0 l2 I R k4 Q k21 l1 l3) : WM C ad n I J R 0 0 21 [(0, vr l0), (1, vi l1), (2, vi l2), (3, vi l3)] [] := by
  unfold P12_clashes_b21_body at hw
  refine wm_iload_n hC 3 dX12_clashes_21 rfl ?_
  refine wm_aload_n hC 0 dX12_clashes_22 rfl (k_ne0 hk0 (by decide)) ?_
  refine x_getR2 hC 20 fl_X12_72 rfl hk0 dX12_clashes_23 hw (fun g2 hw => ?_)
  refine wm_aload_n hC 0 dX12_clashes_26 rfl (k_ne0 hk0 (by decide)) ?_
  refine x_getI hC 13 fl_X12_51 rfl hk0 dX12_clashes_27 ?_
  refine x_iald hC g2 dX12_clashes_30 hw (fun hw => ?_)
  refine wm_icmp_ge (tgt := 85) hC dX12_clashes_31 (by decide) hw (fun hw => ?_) (fun hw => ?_)
  · refine x_iinc hC 2 dX12_clashes_85 rfl (by decide) (L2 := [(2, vi (l2 + 1)), (0, vr l0), (1, vi l1), (3, vi l3)]) rfl hw (fun hw => ?_)
    refine wm_goto (tgt := 4) hC dX12_clashes_88 (by decide) ?_
    refine wm_sub [1, 2, 0] (L2 := [(0, vr l0), (1, vi l1), (2, vi (l2 + 1))]) rfl ?_
    exact kk4 _ _ hw
  · refine wm_iload_n hC 1 dX12_clashes_34 rfl ?_
    refine wm_aload_n hC 0 dX12_clashes_35 rfl (k_ne0 hk0 (by decide)) ?_
    refine wm_iload_n hC 2 dX12_clashes_36 rfl ?_
    refine y_callV_i_n hC hRm noS ml_X12_501 hk0 (C12_nearSet hk0 hw) (Nat.le_of_ble_eq_true rfl) (Nat.le_of_ble_eq_true rfl) ⟨Nat.zero_le _, Nat.zero_le _⟩ rfl (st := [vi l1]) rfl (Nat.le_of_ble_eq_true rfl) dX12_clashes_37 (fun r1 hw => ?_)
    refine wm_iload_n hC 3 dX12_clashes_40 rfl ?_
    refine y_callS_z_n hC hRm noS ml_X12_351 (C12_has2  hw) (Nat.le_of_ble_eq_true rfl) (Nat.le_of_ble_eq_true rfl) ⟨Nat.zero_le _, Nat.zero_le _⟩ rfl (st := [vi l1]) rfl (Nat.le_of_ble_eq_true rfl) dX12_clashes_41 (fun r2 hw => ?_)
    refine wm_if_eq (tgt := 76) hC dX12_clashes_44 (by decide) hw (fun hw => ?_) (fun hw => ?_)
    · refine wm_iconst hC dX12_clashes_76 (k := ?_)
      refine x_iadd hC dX12_clashes_77 hw (fun hw => ?_)
      refine wm_istore_n hC dX12_clashes_78 (by decide) (L2 := [(1, vi (l1 + 0)), (0, vr l0), (2, vi l2), (3, vi l3)]) rfl ?_
      refine x_iinc hC 3 dX12_clashes_79 rfl (by decide) (L2 := [(3, vi (l3 + 1)), (1, vi (l1 + 0)), (0, vr l0), (2, vi l2)]) rfl hw (fun hw => ?_)
      refine wm_goto (tgt := 21) hC dX12_clashes_82 (by decide) ?_
      refine wm_sub [2, 1, 3, 0] (L2 := [(0, vr l0), (1, vi (l1 + 0)), (2, vi l2), (3, vi (l3 + 1))]) rfl ?_
      exact kk21 _ _ hw
    · refine wm_aload_n hC 0 dX12_clashes_47 rfl (k_ne0 hk0 (by decide)) ?_
      refine x_getR2 hC 49 fl_X12_162 rfl hk0 dX12_clashes_48 hw (fun g3 hw => ?_)
      refine wm_iload_n hC 2 dX12_clashes_51 rfl ?_
      refine x_iald hC g3 dX12_clashes_52 hw (fun hw => ?_)
      refine wm_iconst hC dX12_clashes_53 (k := ?_)
      refine wm_icmp_eq (tgt := 76) hC dX12_clashes_54 (by decide) hw (fun hw => ?_) (fun hw => ?_)
      · refine wm_iconst hC dX12_clashes_76 (k := ?_)
        refine x_iadd hC dX12_clashes_77 hw (fun hw => ?_)
        refine wm_istore_n hC dX12_clashes_78 (by decide) (L2 := [(1, vi (l1 + 0)), (0, vr l0), (2, vi l2), (3, vi l3)]) rfl ?_
        refine x_iinc hC 3 dX12_clashes_79 rfl (by decide) (L2 := [(3, vi (l3 + 1)), (1, vi (l1 + 0)), (0, vr l0), (2, vi l2)]) rfl hw (fun hw => ?_)
        refine wm_goto (tgt := 21) hC dX12_clashes_82 (by decide) ?_
        refine wm_sub [2, 1, 3, 0] (L2 := [(0, vr l0), (1, vi (l1 + 0)), (2, vi l2), (3, vi (l3 + 1))]) rfl ?_
        exact kk21 _ _ hw
      · refine wm_aload_n hC 0 dX12_clashes_57 rfl (k_ne0 hk0 (by decide)) ?_
        refine x_getR2 hC 49 fl_X12_162 rfl hk0 dX12_clashes_58 hw (fun g4 hw => ?_)
        refine wm_iload_n hC 2 dX12_clashes_61 rfl ?_
        refine x_iald hC g4 dX12_clashes_62 hw (fun hw => ?_)
        refine wm_aload_n hC 0 dX12_clashes_63 rfl (k_ne0 hk0 (by decide)) ?_
        refine x_getR2 hC 49 fl_X12_162 rfl hk0 dX12_clashes_64 hw (fun g5 hw => ?_)
        refine wm_iload_n hC 3 dX12_clashes_67 rfl ?_
        refine x_iald hC g5 dX12_clashes_68 hw (fun hw => ?_)
        refine wm_icmp_ne (tgt := 76) hC dX12_clashes_69 (by decide) hw (fun hw => ?_) (fun hw => ?_)
        · refine wm_iconst hC dX12_clashes_72 (k := ?_)
          refine wm_goto (tgt := 77) hC dX12_clashes_73 (by decide) ?_
          refine x_iadd hC dX12_clashes_77 hw (fun hw => ?_)
          refine wm_istore_n hC dX12_clashes_78 (by decide) (L2 := [(1, vi (l1 + 1)), (0, vr l0), (2, vi l2), (3, vi l3)]) rfl ?_
          refine x_iinc hC 3 dX12_clashes_79 rfl (by decide) (L2 := [(3, vi (l3 + 1)), (1, vi (l1 + 1)), (0, vr l0), (2, vi l2)]) rfl hw (fun hw => ?_)
          refine wm_goto (tgt := 21) hC dX12_clashes_82 (by decide) ?_
          refine wm_sub [2, 1, 3, 0] (L2 := [(0, vr l0), (1, vi (l1 + 1)), (2, vi l2), (3, vi (l3 + 1))]) rfl ?_
          exact kk21 _ _ hw
        · refine wm_iconst hC dX12_clashes_76 (k := ?_)
          refine x_iadd hC dX12_clashes_77 hw (fun hw => ?_)
          refine wm_istore_n hC dX12_clashes_78 (by decide) (L2 := [(1, vi (l1 + 0)), (0, vr l0), (2, vi l2), (3, vi l3)]) rfl ?_
          refine x_iinc hC 3 dX12_clashes_79 rfl (by decide) (L2 := [(3, vi (l3 + 1)), (1, vi (l1 + 0)), (0, vr l0), (2, vi l2)]) rfl hw (fun hw => ?_)
          refine wm_goto (tgt := 21) hC dX12_clashes_82 (by decide) ?_
          refine wm_sub [2, 1, 3, 0] (L2 := [(0, vr l0), (1, vi (l1 + 0)), (2, vi l2), (3, vi (l3 + 1))]) rfl ?_
          exact kk21 _ _ hw
set_option maxRecDepth 20000 in
theorem W12_clashes_b21 {C : wX} {ad : Nat → Nat} {n : Nat} {I J : mI} {R : mR} {Q : Int → Prop} (hC : wOK C cX12_clashes 4 RX12) (hRm : wRm C 2 33 0 0) (hE : wEnd C (some .int) ad n (fun r I' J' R' => (I' = I ∧ J' = J ∧ R' = R) ∧ Q r)) {l0 : Nat} {l2 : Int}  {k4 : Int → Int → Prop} (hk0 : kK l0 = 12) (kk4 : ∀ (y1 : Int) (y2 : Int), k4 y1 y2 → WM C ad n I J R 0 0 4 [(0, vr l0), (1, vi y1), (2, vi y2)] []) : ∀ (f : Nat) (l1 : Int) (l3 : Int), P12_clashes_b21 l0 l2 I R k4 Q f l1 l3 → WM C ad n I J R 0 0 21 [(0, vr l0), (1, vi l1), (2, vi l2), (3, vi l3)] [] := by
  intro f
  induction f with
  | zero => intro l1 l3 hw; exact hw.elim
  | succ f ih => intro l1 l3 hw; exact W12_clashes_b21_body hC hRm hE hk0 kk4 (fun a0 a1 hw => ih a0 a1 hw) hw
def P12_clashes_b4_body (l0 : Nat) (I : mI) (R : mR) (Q : Int → Prop) (k4 : Int → Int → Prop) (l1 : Int) (l2 : Int) : Prop := (kK (R l0 20) = 21 ∧ (((0 : Int) ≤ (I l0 13) ∧ (I l0 13) < (kN (R l0 20) : Int)) ∧ (if (I (R l0 20) (I l0 13)) ≤ l2 then (Q l1) else (rg (l2 + 1) ∧ (∃ f, P12_clashes_b21 l0 l2 I R k4 Q f l1 (l2 + 1))))))
def P12_clashes_b4 (l0 : Nat) (I : mI) (R : mR) (Q : Int → Prop) : Nat → Int → Int → Prop
  | 0 => fun _ _ => False
  | f + 1 => fun l1 l2 => P12_clashes_b4_body l0 I R Q (P12_clashes_b4 l0 I R Q f) l1 l2
set_option maxRecDepth 20000 in
theorem W12_clashes_b4_body {C : wX} {ad : Nat → Nat} {n : Nat} {I J : mI} {R : mR} {Q : Int → Prop} (hC : wOK C cX12_clashes 4 RX12) (hRm : wRm C 2 33 0 0) (hE : wEnd C (some .int) ad n (fun r I' J' R' => (I' = I ∧ J' = J ∧ R' = R) ∧ Q r)) {l0 : Nat} {l1 : Int} {l2 : Int}   (hk0 : kK l0 = 12)  {k4 : Int → Int → Prop} (kk4 : ∀ (y1 : Int) (y2 : Int), k4 y1 y2 → WM C ad n I J R 0 0 4 [(0, vr l0), (1, vi y1), (2, vi y2)] []) (hw : P12_clashes_b4_body l0 I R Q k4 l1 l2) : WM C ad n I J R 0 0 4 [(0, vr l0), (1, vi l1), (2, vi l2)] [] := by
  unfold P12_clashes_b4_body at hw
  refine wm_iload_n hC 2 dX12_clashes_4 rfl ?_
  refine wm_aload_n hC 0 dX12_clashes_5 rfl (k_ne0 hk0 (by decide)) ?_
  refine x_getR2 hC 20 fl_X12_72 rfl hk0 dX12_clashes_6 hw (fun g1 hw => ?_)
  refine wm_aload_n hC 0 dX12_clashes_9 rfl (k_ne0 hk0 (by decide)) ?_
  refine x_getI hC 13 fl_X12_51 rfl hk0 dX12_clashes_10 ?_
  refine x_iald hC g1 dX12_clashes_13 hw (fun hw => ?_)
  refine wm_icmp_ge (tgt := 91) hC dX12_clashes_14 (by decide) hw (fun hw => ?_) (fun hw => ?_)
  · refine wm_iload_n hC 1 dX12_clashes_91 rfl ?_
    exact wm_ireturn hC hE dX12_clashes_92 ⟨⟨rfl, rfl, rfl⟩, hw⟩
  · refine wm_iload_n hC 2 dX12_clashes_17 rfl ?_
    refine wm_iconst hC dX12_clashes_18 (k := ?_)
    refine x_iadd hC dX12_clashes_19 hw (fun hw => ?_)
    refine wm_istore_n hC dX12_clashes_20 (by decide) (L2 := [(3, vi (l2 + 1)), (0, vr l0), (1, vi l1), (2, vi l2)]) rfl ?_
    obtain ⟨f, hw⟩ := hw
    refine wm_sub [1, 2, 3, 0] (L2 := [(0, vr l0), (1, vi l1), (2, vi l2), (3, vi (l2 + 1))]) rfl ?_
    exact W12_clashes_b21 hC hRm hE hk0 kk4 f _ _ hw
set_option maxRecDepth 20000 in
theorem W12_clashes_b4 {C : wX} {ad : Nat → Nat} {n : Nat} {I J : mI} {R : mR} {Q : Int → Prop} (hC : wOK C cX12_clashes 4 RX12) (hRm : wRm C 2 33 0 0) (hE : wEnd C (some .int) ad n (fun r I' J' R' => (I' = I ∧ J' = J ∧ R' = R) ∧ Q r)) {l0 : Nat}   (hk0 : kK l0 = 12)  : ∀ (f : Nat) (l1 : Int) (l2 : Int), P12_clashes_b4 l0 I R Q f l1 l2 → WM C ad n I J R 0 0 4 [(0, vr l0), (1, vi l1), (2, vi l2)] [] := by
  intro f
  induction f with
  | zero => intro l1 l2 hw; exact hw.elim
  | succ f ih => intro l1 l2 hw; exact W12_clashes_b4_body hC hRm hE hk0 (fun a0 a1 hw => ih a0 a1 hw) hw
def P12_clashes (l0 : Nat) (I : mI) (R : mR) (Q : Int → Prop) : Prop := (∃ f, P12_clashes_b4 l0 I R Q f 0 0)
set_option maxRecDepth 20000 in
theorem C12_clashes {ad : Nat → Nat} {n : Nat} {I J : mI} {R : mR} {Q : Int → Prop}  {l0 : Nat} (hk0 : kK l0 = 12) (hw : P12_clashes l0 I R Q) : wMet yX12_clashes cX12_clashes 4 (some .int) 2 33 false ad n I J R [vr l0] (fun r I' J' R' => (I' = I ∧ J' = J ∧ R' = R) ∧ Q r) := by
  refine wMet_of (by decide) (Nat.le_of_ble_eq_true rfl) (fun C hC hRm hE hS => ?_)
  refine (show WM C ad n I J R 0 0 0 [(0, vr l0)] [] from ?_)
  unfold P12_clashes at hw
  refine wm_iconst hC dX12_clashes_0 (k := ?_)
  refine wm_istore_n hC dX12_clashes_1 (by decide) (L2 := [(1, vi 0), (0, vr l0)]) rfl ?_
  refine wm_iconst hC dX12_clashes_2 (k := ?_)
  refine wm_istore_n hC dX12_clashes_3 (by decide) (L2 := [(2, vi 0), (1, vi 0), (0, vr l0)]) rfl ?_
  obtain ⟨f, hw⟩ := hw
  refine wm_sub [2, 1, 0] (L2 := [(0, vr l0), (1, vi 0), (2, vi 0)]) rfl ?_
  exact W12_clashes_b4 hC hRm hE hk0 f _ _ hw
def P12_has (l0 : Nat) (l1 : Int) (I : mI) (J : mI) (R : mR) (Q : Int → Prop) : Prop := (if l1 = 0 then (kK (R l0 14) = 21 ∧ (((0 : Int) ≤ (I l0 13) ∧ (I l0 13) < (kN (R l0 14) : Int)) ∧ (Q (I (R l0 14) (I l0 13))))) else (if l1 = 1 then (kK (R l0 17) = 21 ∧ (((0 : Int) ≤ (I l0 13) ∧ (I l0 13) < (kN (R l0 17) : Int)) ∧ (Q (I (R l0 17) (I l0 13))))) else (if l1 = 2 then (kK (R l0 20) = 21 ∧ (((0 : Int) ≤ (I l0 13) ∧ (I l0 13) < (kN (R l0 20) : Int)) ∧ (Q (I (R l0 20) (I l0 13))))) else (if l1 = 3 then (kK (R l0 45) = 21 ∧ (((0 : Int) ≤ (0 : Int) ∧ (0 : Int) < (kN (R l0 45) : Int)) ∧ (Q (I (R l0 45) (0 : Int))))) else (if l1 = 4 then (kK (R l0 46) = 21 ∧ (((0 : Int) ≤ (0 : Int) ∧ (0 : Int) < (kN (R l0 46) : Int)) ∧ (Q (I (R l0 46) (0 : Int))))) else (if l1 = 5 then (P12_wornOf l0 0 (-1) I R (fun r1 => (Q r1))) else (if l1 = 6 then (P12_clashes l0 I R (fun r2 => (Q r2))) else (if l1 = 7 then (kK (R l0 50) = 21 ∧ (((0 : Int) ≤ (0 : Int) ∧ (0 : Int) < (kN (R l0 50) : Int)) ∧ (Q (I (R l0 50) (0 : Int))))) else (if l1 = 8 then (Q (I l0 62)) else (if l1 = 9 then (Q (I l0 53)) else (if l1 = 10 then (rg (J l0 54) ∧ (Q (J l0 54))) else (Q (-1)))))))))))))
set_option maxRecDepth 20000 in
theorem C12_has {ad : Nat → Nat} {n : Nat} {I J : mI} {R : mR} {Q : Int → Prop}  {l0 : Nat} {l1 : Int} (hk0 : kK l0 = 12) (hw : P12_has l0 l1 I J R Q) : wMet yX12_has cX12_has 2 (some .int) 3 56 false ad n I J R [vr l0, vi l1] (fun r I' J' R' => (I' = I ∧ J' = J ∧ R' = R) ∧ Q r) := by
  refine wMet_of (by decide) (Nat.le_of_ble_eq_true rfl) (fun C hC hRm hE hS => ?_)
  refine (show WM C ad n I J R 0 0 0 [(0, vr l0), (1, vi l1)] [] from ?_)
  unfold P12_has at hw
  refine wm_iload_n hC 1 dX12_has_0 rfl ?_
  by_cases hc1 : l1 = 0
  · rw [if_pos hc1] at hw
    refine wm_tableIn (v := 0) (tgt := 60) hC dX12_has_1 hc1 (by decide) (by decide) rfl rfl ?_
    refine wm_aload_n hC 0 dX12_has_60 rfl (k_ne0 hk0 (by decide)) ?_
    refine x_getR2 hC 14 fl_X12_54 rfl hk0 dX12_has_61 hw (fun g1 hw => ?_)
    refine wm_aload_n hC 0 dX12_has_64 rfl (k_ne0 hk0 (by decide)) ?_
    refine x_getI hC 13 fl_X12_51 rfl hk0 dX12_has_65 ?_
    refine x_iald hC g1 dX12_has_68 hw (fun hw => ?_)
    exact wm_ireturn hC hE dX12_has_69 ⟨⟨rfl, rfl, rfl⟩, hw⟩
  rw [if_neg hc1] at hw
  by_cases hc2 : l1 = 1
  · rw [if_pos hc2] at hw
    refine wm_tableIn (v := 1) (tgt := 70) hC dX12_has_1 hc2 (by decide) (by decide) rfl rfl ?_
    refine wm_aload_n hC 0 dX12_has_70 rfl (k_ne0 hk0 (by decide)) ?_
    refine x_getR2 hC 17 fl_X12_63 rfl hk0 dX12_has_71 hw (fun g2 hw => ?_)
    refine wm_aload_n hC 0 dX12_has_74 rfl (k_ne0 hk0 (by decide)) ?_
    refine x_getI hC 13 fl_X12_51 rfl hk0 dX12_has_75 ?_
    refine x_iald hC g2 dX12_has_78 hw (fun hw => ?_)
    exact wm_ireturn hC hE dX12_has_79 ⟨⟨rfl, rfl, rfl⟩, hw⟩
  rw [if_neg hc2] at hw
  by_cases hc3 : l1 = 2
  · rw [if_pos hc3] at hw
    refine wm_tableIn (v := 2) (tgt := 80) hC dX12_has_1 hc3 (by decide) (by decide) rfl rfl ?_
    refine wm_aload_n hC 0 dX12_has_80 rfl (k_ne0 hk0 (by decide)) ?_
    refine x_getR2 hC 20 fl_X12_72 rfl hk0 dX12_has_81 hw (fun g3 hw => ?_)
    refine wm_aload_n hC 0 dX12_has_84 rfl (k_ne0 hk0 (by decide)) ?_
    refine x_getI hC 13 fl_X12_51 rfl hk0 dX12_has_85 ?_
    refine x_iald hC g3 dX12_has_88 hw (fun hw => ?_)
    exact wm_ireturn hC hE dX12_has_89 ⟨⟨rfl, rfl, rfl⟩, hw⟩
  rw [if_neg hc3] at hw
  by_cases hc4 : l1 = 3
  · rw [if_pos hc4] at hw
    refine wm_tableIn (v := 3) (tgt := 90) hC dX12_has_1 hc4 (by decide) (by decide) rfl rfl ?_
    refine wm_aload_n hC 0 dX12_has_90 rfl (k_ne0 hk0 (by decide)) ?_
    refine x_getR2 hC 45 fl_X12_150 rfl hk0 dX12_has_91 hw (fun g4 hw => ?_)
    refine wm_iconst hC dX12_has_94 (k := ?_)
    refine x_iald hC g4 dX12_has_95 hw (fun hw => ?_)
    exact wm_ireturn hC hE dX12_has_96 ⟨⟨rfl, rfl, rfl⟩, hw⟩
  rw [if_neg hc4] at hw
  by_cases hc5 : l1 = 4
  · rw [if_pos hc5] at hw
    refine wm_tableIn (v := 4) (tgt := 97) hC dX12_has_1 hc5 (by decide) (by decide) rfl rfl ?_
    refine wm_aload_n hC 0 dX12_has_97 rfl (k_ne0 hk0 (by decide)) ?_
    refine x_getR2 hC 46 fl_X12_153 rfl hk0 dX12_has_98 hw (fun g5 hw => ?_)
    refine wm_iconst hC dX12_has_101 (k := ?_)
    refine x_iald hC g5 dX12_has_102 hw (fun hw => ?_)
    exact wm_ireturn hC hE dX12_has_103 ⟨⟨rfl, rfl, rfl⟩, hw⟩
  rw [if_neg hc5] at hw
  by_cases hc6 : l1 = 5
  · rw [if_pos hc6] at hw
    refine wm_tableIn (v := 5) (tgt := 104) hC dX12_has_1 hc6 (by decide) (by decide) rfl rfl ?_
    refine wm_aload_n hC 0 dX12_has_104 rfl (k_ne0 hk0 (by decide)) ?_
    refine wm_iconst hC dX12_has_105 (k := ?_)
    refine wm_iconst hC dX12_has_106 (k := ?_)
    refine y_callV_i_n hC hRm noS ml_X12_456 hk0 (C12_wornOf hk0 hw) (Nat.le_of_ble_eq_true rfl) (Nat.le_of_ble_eq_true rfl) ⟨Nat.zero_le _, Nat.zero_le _⟩ rfl (st := []) rfl (Nat.le_of_ble_eq_true rfl) dX12_has_107 (fun r1 hw => ?_)
    exact wm_ireturn hC hE dX12_has_110 ⟨⟨rfl, rfl, rfl⟩, hw⟩
  rw [if_neg hc6] at hw
  by_cases hc7 : l1 = 6
  · rw [if_pos hc7] at hw
    refine wm_tableIn (v := 6) (tgt := 111) hC dX12_has_1 hc7 (by decide) (by decide) rfl rfl ?_
    refine wm_aload_n hC 0 dX12_has_111 rfl (k_ne0 hk0 (by decide)) ?_
    refine y_callV_i_n hC hRm noS ml_X12_504 hk0 (C12_clashes hk0 hw) (Nat.le_of_ble_eq_true rfl) (Nat.le_of_ble_eq_true rfl) ⟨Nat.zero_le _, Nat.zero_le _⟩ rfl (st := []) rfl (Nat.le_of_ble_eq_true rfl) dX12_has_112 (fun r2 hw => ?_)
    exact wm_ireturn hC hE dX12_has_115 ⟨⟨rfl, rfl, rfl⟩, hw⟩
  rw [if_neg hc7] at hw
  by_cases hc8 : l1 = 7
  · rw [if_pos hc8] at hw
    refine wm_tableIn (v := 7) (tgt := 116) hC dX12_has_1 hc8 (by decide) (by decide) rfl rfl ?_
    refine wm_aload_n hC 0 dX12_has_116 rfl (k_ne0 hk0 (by decide)) ?_
    refine x_getR2 hC 50 fl_X12_165 rfl hk0 dX12_has_117 hw (fun g6 hw => ?_)
    refine wm_iconst hC dX12_has_120 (k := ?_)
    refine x_iald hC g6 dX12_has_121 hw (fun hw => ?_)
    exact wm_ireturn hC hE dX12_has_122 ⟨⟨rfl, rfl, rfl⟩, hw⟩
  rw [if_neg hc8] at hw
  by_cases hc9 : l1 = 8
  · rw [if_pos hc9] at hw
    refine wm_tableIn (v := 8) (tgt := 123) hC dX12_has_1 hc9 (by decide) (by decide) rfl rfl ?_
    refine wm_aload_n hC 0 dX12_has_123 rfl (k_ne0 hk0 (by decide)) ?_
    refine x_getI hC 62 fl_X12_201 rfl hk0 dX12_has_124 ?_
    exact wm_ireturn hC hE dX12_has_127 ⟨⟨rfl, rfl, rfl⟩, hw⟩
  rw [if_neg hc9] at hw
  by_cases hc10 : l1 = 9
  · rw [if_pos hc10] at hw
    refine wm_tableIn (v := 9) (tgt := 128) hC dX12_has_1 hc10 (by decide) (by decide) rfl rfl ?_
    refine wm_aload_n hC 0 dX12_has_128 rfl (k_ne0 hk0 (by decide)) ?_
    refine x_getI hC 53 fl_X12_174 rfl hk0 dX12_has_129 ?_
    exact wm_ireturn hC hE dX12_has_132 ⟨⟨rfl, rfl, rfl⟩, hw⟩
  rw [if_neg hc10] at hw
  by_cases hc11 : l1 = 10
  · rw [if_pos hc11] at hw
    refine wm_tableIn (v := 10) (tgt := 133) hC dX12_has_1 hc11 (by decide) (by decide) rfl rfl ?_
    refine wm_aload_n hC 0 dX12_has_133 rfl (k_ne0 hk0 (by decide)) ?_
    refine x_getJ hC 54 fl_X12_177 rfl hk0 dX12_has_134 ?_
    refine x_l2i hC dX12_has_137 hw (fun hw => ?_)
    exact wm_ireturn hC hE dX12_has_138 ⟨⟨rfl, rfl, rfl⟩, hw⟩
  rw [if_neg hc11] at hw
  refine wm_tableOut (tgt := 139) hC dX12_has_1 (by omega) rfl ?_
  refine wm_iconst hC dX12_has_139 (k := ?_)
  exact wm_ireturn hC hE dX12_has_140 ⟨⟨rfl, rfl, rfl⟩, hw⟩
def P12_letter_b89_body (l3 : Int) (l5 : Int) (I : mI) (J : mI) (R : mR) (Q : Int → Prop) (k89 : Int → Int → Prop) (l7 : Int) (l8 : Int) : Prop := (if l8 ≤ 0 then (if l3 < l7 then (rg (l7 - 1) ∧ (rg ((l7 - 1) - l3) ∧ (rg (8 * ((l7 - 1) - l3)) ∧ (rg (lAnd (lShr l5 (8 * ((l7 - 1) - l3))) 255) ∧ (rg ((lAnd (lShr l5 (8 * ((l7 - 1) - l3))) 255) - 97) ∧ (rg (((lAnd (lShr l5 (8 * ((l7 - 1) - l3))) 255) - 97) + 1) ∧ (Q (((lAnd (lShr l5 (8 * ((l7 - 1) - l3))) 255) - 97) + 1)))))))) else (Q 0)) else (rg (l7 + 1) ∧ (k89 (l7 + 1) (lShr l8 8))))
def P12_letter_b89 (l3 : Int) (l5 : Int) (I : mI) (J : mI) (R : mR) (Q : Int → Prop) : Nat → Int → Int → Prop
  | 0 => fun _ _ => False
  | f + 1 => fun l7 l8 => P12_letter_b89_body l3 l5 I J R Q (P12_letter_b89 l3 l5 I J R Q f) l7 l8
set_option maxRecDepth 20000 in
theorem W12_letter_b89_body {C : wX} {ad : Nat → Nat} {n : Nat} {I J : mI} {R : mR} {Q : Int → Prop} (hC : wOK C cX12_letter 10 RX12) (hRm : wRm C 2 34 0 0) (hE : wEnd C (some .int) ad n (fun r I' J' R' => (I' = I ∧ J' = J ∧ R' = R) ∧ Q r)) {l3 : Int} {l5 : Int} {l7 : Int} {l8 : Int}     {k89 : Int → Int → Prop} (kk89 : ∀ (y7 : Int) (y8 : Int), k89 y7 y8 → WM C ad n I J R 0 0 89 [(3, vi l3), (5, vl l5), (7, vi y7), (8, vl y8)] []) (hw : P12_letter_b89_body l3 l5 I J R Q k89 l7 l8) : WM C ad n I J R 0 0 89 [(3, vi l3), (5, vl l5), (7, vi l7), (8, vl l8)] [] := by
  unfold P12_letter_b89_body at hw
  refine wm_lload hC 3 dX12_letter_89 rfl ?_
  refine wm_lconst hC (x := 0) dX12_letter_91 (k := ?_)
  refine wm_lcmp_le (tgt := 109) hC dX12_letter_92 dX12_letter_93 (by decide) hw (fun hw => ?_) (fun hw => ?_)
  · refine wm_iload_n hC 0 dX12_letter_109 rfl ?_
    refine wm_iload hC 2 dX12_letter_110 rfl ?_
    refine wm_icmp_lt (tgt := 119) hC dX12_letter_112 (by decide) hw (fun hw => ?_) (fun hw => ?_)
    · refine wm_lload hC 1 dX12_letter_119 rfl ?_
      refine wm_bipush hC dX12_letter_121 (k := ?_)
      refine wm_iload hC 2 dX12_letter_123 rfl ?_
      refine wm_iconst hC dX12_letter_125 (k := ?_)
      refine x_isub hC dX12_letter_126 hw (fun hw => ?_)
      refine wm_iload_n hC 0 dX12_letter_127 rfl ?_
      refine x_isub hC dX12_letter_128 hw (fun hw => ?_)
      refine x_imul hC dX12_letter_129 hw (fun hw => ?_)
      refine wm_lshr hC dX12_letter_130 ?_
      refine wm_ldc2 hC (x := 255) tc_X12_516 rfl dX12_letter_131 (k := ?_)
      refine wm_land hC dX12_letter_134 ?_
      refine x_l2i hC dX12_letter_135 hw (fun hw => ?_)
      refine wm_bipush hC dX12_letter_136 (k := ?_)
      refine x_isub hC dX12_letter_138 hw (fun hw => ?_)
      refine wm_iconst hC dX12_letter_139 (k := ?_)
      refine x_iadd hC dX12_letter_140 hw (fun hw => ?_)
      exact wm_ireturn hC hE dX12_letter_141 ⟨⟨rfl, rfl, rfl⟩, hw⟩
    · refine wm_iconst hC dX12_letter_115 (k := ?_)
      refine wm_goto (tgt := 141) hC dX12_letter_116 (by decide) ?_
      exact wm_ireturn hC hE dX12_letter_141 ⟨⟨rfl, rfl, rfl⟩, hw⟩
  · refine x_iinc hC 2 dX12_letter_96 rfl (by decide) (L2 := [(7, vi (l7 + 1)), (3, vi l3), (5, vl l5), (8, vl l8)]) rfl hw (fun hw => ?_)
    refine wm_lload hC 3 dX12_letter_99 rfl ?_
    refine wm_bipush hC dX12_letter_101 (k := ?_)
    refine wm_lshr hC dX12_letter_103 ?_
    refine wm_lstore hC dX12_letter_104 (by decide) (L2 := [(8, vl (lShr l8 8)), (7, vi (l7 + 1)), (3, vi l3), (5, vl l5)]) rfl ?_
    refine wm_goto (tgt := 89) hC dX12_letter_106 (by decide) ?_
    refine wm_sub [2, 3, 1, 0] (L2 := [(3, vi l3), (5, vl l5), (7, vi (l7 + 1)), (8, vl (lShr l8 8))]) rfl ?_
    exact kk89 _ _ hw
set_option maxRecDepth 20000 in
theorem W12_letter_b89 {C : wX} {ad : Nat → Nat} {n : Nat} {I J : mI} {R : mR} {Q : Int → Prop} (hC : wOK C cX12_letter 10 RX12) (hRm : wRm C 2 34 0 0) (hE : wEnd C (some .int) ad n (fun r I' J' R' => (I' = I ∧ J' = J ∧ R' = R) ∧ Q r)) {l3 : Int} {l5 : Int}     : ∀ (f : Nat) (l7 : Int) (l8 : Int), P12_letter_b89 l3 l5 I J R Q f l7 l8 → WM C ad n I J R 0 0 89 [(3, vi l3), (5, vl l5), (7, vi l7), (8, vl l8)] [] := by
  intro f
  induction f with
  | zero => intro l7 l8 hw; exact hw.elim
  | succ f ih => intro l7 l8 hw; exact W12_letter_b89_body hC hRm hE  (fun a0 a1 hw => ih a0 a1 hw) hw
def P12_letter_b43 (l0 : Nat) (l1 : Int) (l2 : Int) (l3 : Int) (s0 : Int) (I : mI) (J : mI) (R : mR) (Q : Int → Prop) : Prop := (if s0 = 0 then (Q (-1)) else (P12_is l3 0 5 (fun r4 => (if r4 = 0 then (Q (-1)) else (kK (R l0 30) = 22 ∧ (rg (18 * (I l0 13)) ∧ (rg (6 * l1) ∧ (rg ((18 * (I l0 13)) + (6 * l1)) ∧ (rg (((18 * (I l0 13)) + (6 * l1)) + l2) ∧ (((0 : Int) ≤ (((18 * (I l0 13)) + (6 * l1)) + l2) ∧ (((18 * (I l0 13)) + (6 * l1)) + l2) < (kN (R l0 30) : Int)) ∧ (wLet (J (R l0 30) (((18 * (I l0 13)) + (6 * l1)) + l2)) (fun x1 => (∃ f, P12_letter_b89 l3 x1 I J R Q f 0 x1)))))))))))))
set_option maxRecDepth 20000 in
theorem W12_letter_b43 {C : wX} {ad : Nat → Nat} {n : Nat} {I J : mI} {R : mR} {Q : Int → Prop} (hC : wOK C cX12_letter 10 RX12) (hRm : wRm C 2 34 0 0) (hE : wEnd C (some .int) ad n (fun r I' J' R' => (I' = I ∧ J' = J ∧ R' = R) ∧ Q r)) {l0 : Nat} {l1 : Int} {l2 : Int} {l3 : Int} {s0 : Int}   (hk0 : kK l0 = 12)  (hw : P12_letter_b43 l0 l1 l2 l3 s0 I J R Q) : WM C ad n I J R 0 0 43 [(0, vr l0), (1, vi l1), (2, vi l2), (3, vi l3)] [vi s0] := by
  unfold P12_letter_b43 at hw
  refine wm_istore hC dX12_letter_43 (by decide) (L2 := [(4, vi s0), (0, vr l0), (1, vi l1), (2, vi l2), (3, vi l3)]) rfl ?_
  refine wm_iload hC 0 dX12_letter_45 rfl ?_
  refine wm_if_eq (tgt := 59) hC dX12_letter_47 (by decide) hw (fun hw => ?_) (fun hw => ?_)
  · refine wm_iconst hC dX12_letter_59 (k := ?_)
    exact wm_ireturn hC hE dX12_letter_60 ⟨⟨rfl, rfl, rfl⟩, hw⟩
  · refine wm_iload_n hC 4 dX12_letter_50 rfl ?_
    refine wm_iconst hC dX12_letter_51 (k := ?_)
    refine wm_iconst hC dX12_letter_52 (k := ?_)
    refine y_callS_z_n hC hRm noS ml_X12_309 (C12_is  hw) (Nat.le_of_ble_eq_true rfl) (Nat.le_of_ble_eq_true rfl) ⟨Nat.zero_le _, Nat.zero_le _⟩ rfl (st := []) rfl (Nat.le_of_ble_eq_true rfl) dX12_letter_53 (fun r4 hw => ?_)
    refine wm_if_ne (tgt := 61) hC dX12_letter_56 (by decide) hw (fun hw => ?_) (fun hw => ?_)
    · refine wm_iconst hC dX12_letter_59 (k := ?_)
      exact wm_ireturn hC hE dX12_letter_60 ⟨⟨rfl, rfl, rfl⟩, hw⟩
    · refine wm_aload_n hC 1 dX12_letter_61 rfl (k_ne0 hk0 (by decide)) ?_
      refine x_getR2 hC 30 fl_X12_102 rfl hk0 dX12_letter_62 hw (fun g1 hw => ?_)
      refine wm_bipush hC dX12_letter_65 (k := ?_)
      refine wm_aload_n hC 1 dX12_letter_67 rfl (k_ne0 hk0 (by decide)) ?_
      refine x_getI hC 13 fl_X12_51 rfl hk0 dX12_letter_68 ?_
      refine x_imul hC dX12_letter_71 hw (fun hw => ?_)
      refine wm_bipush hC dX12_letter_72 (k := ?_)
      refine wm_iload_n hC 2 dX12_letter_74 rfl ?_
      refine x_imul hC dX12_letter_75 hw (fun hw => ?_)
      refine x_iadd hC dX12_letter_76 hw (fun hw => ?_)
      refine wm_iload_n hC 3 dX12_letter_77 rfl ?_
      refine x_iadd hC dX12_letter_78 hw (fun hw => ?_)
      refine x_lald hC g1 dX12_letter_79 hw (fun hw => ?_)
      refine x_nameL hw (fun x1 hw => ?_)
      refine wm_lstore hC dX12_letter_80 (by decide) (L2 := [(5, vl x1), (4, vi s0), (0, vr l0), (1, vi l1), (2, vi l2), (3, vi l3)]) rfl ?_
      refine wm_iconst hC dX12_letter_82 (k := ?_)
      refine wm_istore hC dX12_letter_83 (by decide) (L2 := [(7, vi 0), (5, vl x1), (4, vi s0), (0, vr l0), (1, vi l1), (2, vi l2), (3, vi l3)]) rfl ?_
      refine wm_lload hC 1 dX12_letter_85 rfl ?_
      refine wm_lstore hC dX12_letter_87 (by decide) (L2 := [(8, vl x1), (7, vi 0), (5, vl x1), (4, vi s0), (0, vr l0), (1, vi l1), (2, vi l2), (3, vi l3)]) rfl ?_
      obtain ⟨f, hw⟩ := hw
      refine wm_sub [7, 2, 1, 0] (L2 := [(3, vi l3), (5, vl x1), (7, vi 0), (8, vl x1)]) rfl ?_
      exact W12_letter_b89 hC hRm hE  f _ _ hw
def P12_letter_b42 (l0 : Nat) (l1 : Int) (l2 : Int) (l3 : Int) (I : mI) (J : mI) (R : mR) (Q : Int → Prop) : Prop := (P12_letter_b43 l0 l1 l2 l3 0 I J R Q)
set_option maxRecDepth 20000 in
theorem W12_letter_b42 {C : wX} {ad : Nat → Nat} {n : Nat} {I J : mI} {R : mR} {Q : Int → Prop} (hC : wOK C cX12_letter 10 RX12) (hRm : wRm C 2 34 0 0) (hE : wEnd C (some .int) ad n (fun r I' J' R' => (I' = I ∧ J' = J ∧ R' = R) ∧ Q r)) {l0 : Nat} {l1 : Int} {l2 : Int} {l3 : Int}   (hk0 : kK l0 = 12)  (hw : P12_letter_b42 l0 l1 l2 l3 I J R Q) : WM C ad n I J R 0 0 42 [(0, vr l0), (1, vi l1), (2, vi l2), (3, vi l3)] [] := by
  unfold P12_letter_b42 at hw
  refine wm_iconst hC dX12_letter_42 (k := ?_)
  exact W12_letter_b43 hC hRm hE hk0 hw
def P12_letter (l0 : Nat) (l1 : Int) (l2 : Int) (l3 : Int) (I : mI) (J : mI) (R : mR) (Q : Int → Prop) : Prop := (if l1 = 0 then (P12_isBlind l0 l2 I R (fun r3 => (P12_letter_b43 l0 l1 l2 l3 r3 I J R Q))) else (if l1 = 1 then (P12_isColour l0 l2 I R (fun r2 => (P12_letter_b43 l0 l1 l2 l3 r2 I J R Q))) else (if l1 = 2 then (P12_isThing l0 l2 I R (fun r1 => (if r1 = 0 then (P12_letter_b42 l0 l1 l2 l3 I J R Q) else (P12_letter_b43 l0 l1 l2 l3 1 I J R Q)))) else (P12_letter_b42 l0 l1 l2 l3 I J R Q))))
set_option maxRecDepth 20000 in
theorem C12_letter {ad : Nat → Nat} {n : Nat} {I J : mI} {R : mR} {Q : Int → Prop}  {l0 : Nat} {l1 : Int} {l2 : Int} {l3 : Int} (hk0 : kK l0 = 12) (hw : P12_letter l0 l1 l2 l3 I J R Q) : wMet yX12_letter cX12_letter 10 (some .int) 2 34 false ad n I J R [vr l0, vi l1, vi l2, vi l3] (fun r I' J' R' => (I' = I ∧ J' = J ∧ R' = R) ∧ Q r) := by
  refine wMet_of (by decide) (Nat.le_of_ble_eq_true rfl) (fun C hC hRm hE hS => ?_)
  refine (show WM C ad n I J R 0 0 0 [(0, vr l0), (1, vi l1), (2, vi l2), (3, vi l3)] [] from ?_)
  unfold P12_letter at hw
  refine wm_iload_n hC 1 dX12_letter_0 rfl ?_
  refine wm_if_ne (tgt := 12) hC dX12_letter_1 (by decide) hw (fun hw => ?_) (fun hw => ?_)
  · refine wm_aload_n hC 0 dX12_letter_4 rfl (k_ne0 hk0 (by decide)) ?_
    refine wm_iload_n hC 2 dX12_letter_5 rfl ?_
    refine y_callV_z_n hC hRm noS ml_X12_507 hk0 (C12_isBlind hk0 hw) (Nat.le_of_ble_eq_true rfl) (Nat.le_of_ble_eq_true rfl) ⟨Nat.zero_le _, Nat.zero_le _⟩ rfl (st := []) rfl (Nat.le_of_ble_eq_true rfl) dX12_letter_6 (fun r3 hw => ?_)
    refine wm_goto (tgt := 43) hC dX12_letter_9 (by decide) ?_
    exact W12_letter_b43 hC hRm hE hk0 hw
  · refine wm_iload_n hC 1 dX12_letter_12 rfl ?_
    refine wm_iconst hC dX12_letter_13 (k := ?_)
    refine wm_icmp_ne (tgt := 25) hC dX12_letter_14 (by decide) hw (fun hw => ?_) (fun hw => ?_)
    · refine wm_aload_n hC 0 dX12_letter_17 rfl (k_ne0 hk0 (by decide)) ?_
      refine wm_iload_n hC 2 dX12_letter_18 rfl ?_
      refine y_callV_z_n hC hRm noS ml_X12_510 hk0 (C12_isColour hk0 hw) (Nat.le_of_ble_eq_true rfl) (Nat.le_of_ble_eq_true rfl) ⟨Nat.zero_le _, Nat.zero_le _⟩ rfl (st := []) rfl (Nat.le_of_ble_eq_true rfl) dX12_letter_19 (fun r2 hw => ?_)
      refine wm_goto (tgt := 43) hC dX12_letter_22 (by decide) ?_
      exact W12_letter_b43 hC hRm hE hk0 hw
    · refine wm_iload_n hC 1 dX12_letter_25 rfl ?_
      refine wm_iconst hC dX12_letter_26 (k := ?_)
      refine wm_icmp_ne (tgt := 42) hC dX12_letter_27 (by decide) hw (fun hw => ?_) (fun hw => ?_)
      · refine wm_aload_n hC 0 dX12_letter_30 rfl (k_ne0 hk0 (by decide)) ?_
        refine wm_iload_n hC 2 dX12_letter_31 rfl ?_
        refine y_callV_z_n hC hRm noS ml_X12_513 hk0 (C12_isThing hk0 hw) (Nat.le_of_ble_eq_true rfl) (Nat.le_of_ble_eq_true rfl) ⟨Nat.zero_le _, Nat.zero_le _⟩ rfl (st := []) rfl (Nat.le_of_ble_eq_true rfl) dX12_letter_32 (fun r1 hw => ?_)
        refine wm_if_eq (tgt := 42) hC dX12_letter_35 (by decide) hw (fun hw => ?_) (fun hw => ?_)
        · exact W12_letter_b42 hC hRm hE hk0 hw
        · refine wm_iconst hC dX12_letter_38 (k := ?_)
          refine wm_goto (tgt := 43) hC dX12_letter_39 (by decide) ?_
          exact W12_letter_b43 hC hRm hE hk0 hw
      · exact W12_letter_b42 hC hRm hE hk0 hw
def P12_placeOf_b2_body (l0 : Nat) (l1 : Int) (I : mI) (R : mR) (Q : Int → Prop) (k2 : Int → Prop) (l2 : Int) : Prop := (kK (R l0 14) = 21 ∧ (((0 : Int) ≤ (I l0 13) ∧ (I l0 13) < (kN (R l0 14) : Int)) ∧ (if (I (R l0 14) (I l0 13)) ≤ l2 then (Q (-1)) else (kK (R l0 47) = 21 ∧ (((0 : Int) ≤ l2 ∧ l2 < (kN (R l0 47) : Int)) ∧ (if (I (R l0 47) l2) = l1 then (Q l2) else (rg (l2 + 1) ∧ (k2 (l2 + 1)))))))))
def P12_placeOf_b2 (l0 : Nat) (l1 : Int) (I : mI) (R : mR) (Q : Int → Prop) : Nat → Int → Prop
  | 0 => fun _ => False
  | f + 1 => fun l2 => P12_placeOf_b2_body l0 l1 I R Q (P12_placeOf_b2 l0 l1 I R Q f) l2
set_option maxRecDepth 20000 in
theorem W12_placeOf_b2_body {C : wX} {ad : Nat → Nat} {n : Nat} {I J : mI} {R : mR} {Q : Int → Prop} (hC : wOK C cX12_placeOf 3 RX12) (hRm : wRm C 1 12 0 0) (hE : wEnd C (some .int) ad n (fun r I' J' R' => (I' = I ∧ J' = J ∧ R' = R) ∧ Q r)) {l0 : Nat} {l1 : Int} {l2 : Int}   (hk0 : kK l0 = 12)  {k2 : Int → Prop} (kk2 : ∀ (y2 : Int), k2 y2 → WM C ad n I J R 0 0 2 [(0, vr l0), (1, vi l1), (2, vi y2)] []) (hw : P12_placeOf_b2_body l0 l1 I R Q k2 l2) : WM C ad n I J R 0 0 2 [(0, vr l0), (1, vi l1), (2, vi l2)] [] := by
  unfold P12_placeOf_b2_body at hw
  refine wm_iload_n hC 2 dX12_placeOf_2 rfl ?_
  refine wm_aload_n hC 0 dX12_placeOf_3 rfl (k_ne0 hk0 (by decide)) ?_
  refine x_getR2 hC 14 fl_X12_54 rfl hk0 dX12_placeOf_4 hw (fun g1 hw => ?_)
  refine wm_aload_n hC 0 dX12_placeOf_7 rfl (k_ne0 hk0 (by decide)) ?_
  refine x_getI hC 13 fl_X12_51 rfl hk0 dX12_placeOf_8 ?_
  refine x_iald hC g1 dX12_placeOf_11 hw (fun hw => ?_)
  refine wm_icmp_ge (tgt := 33) hC dX12_placeOf_12 (by decide) hw (fun hw => ?_) (fun hw => ?_)
  · refine wm_iconst hC dX12_placeOf_33 (k := ?_)
    exact wm_ireturn hC hE dX12_placeOf_34 ⟨⟨rfl, rfl, rfl⟩, hw⟩
  · refine wm_aload_n hC 0 dX12_placeOf_15 rfl (k_ne0 hk0 (by decide)) ?_
    refine x_getR2 hC 47 fl_X12_156 rfl hk0 dX12_placeOf_16 hw (fun g2 hw => ?_)
    refine wm_iload_n hC 2 dX12_placeOf_19 rfl ?_
    refine x_iald hC g2 dX12_placeOf_20 hw (fun hw => ?_)
    refine wm_iload_n hC 1 dX12_placeOf_21 rfl ?_
    refine wm_icmp_ne (tgt := 27) hC dX12_placeOf_22 (by decide) hw (fun hw => ?_) (fun hw => ?_)
    · refine wm_iload_n hC 2 dX12_placeOf_25 rfl ?_
      exact wm_ireturn hC hE dX12_placeOf_26 ⟨⟨rfl, rfl, rfl⟩, hw⟩
    · refine x_iinc hC 2 dX12_placeOf_27 rfl (by decide) (L2 := [(2, vi (l2 + 1)), (0, vr l0), (1, vi l1)]) rfl hw (fun hw => ?_)
      refine wm_goto (tgt := 2) hC dX12_placeOf_30 (by decide) ?_
      refine wm_sub [1, 2, 0] (L2 := [(0, vr l0), (1, vi l1), (2, vi (l2 + 1))]) rfl ?_
      exact kk2 _ hw
set_option maxRecDepth 20000 in
theorem W12_placeOf_b2 {C : wX} {ad : Nat → Nat} {n : Nat} {I J : mI} {R : mR} {Q : Int → Prop} (hC : wOK C cX12_placeOf 3 RX12) (hRm : wRm C 1 12 0 0) (hE : wEnd C (some .int) ad n (fun r I' J' R' => (I' = I ∧ J' = J ∧ R' = R) ∧ Q r)) {l0 : Nat} {l1 : Int}   (hk0 : kK l0 = 12)  : ∀ (f : Nat) (l2 : Int), P12_placeOf_b2 l0 l1 I R Q f l2 → WM C ad n I J R 0 0 2 [(0, vr l0), (1, vi l1), (2, vi l2)] [] := by
  intro f
  induction f with
  | zero => intro l2 hw; exact hw.elim
  | succ f ih => intro l2 hw; exact W12_placeOf_b2_body hC hRm hE hk0 (fun a0 hw => ih a0 hw) hw
def P12_placeOf (l0 : Nat) (l1 : Int) (I : mI) (R : mR) (Q : Int → Prop) : Prop := (∃ f, P12_placeOf_b2 l0 l1 I R Q f 0)
set_option maxRecDepth 20000 in
theorem C12_placeOf {ad : Nat → Nat} {n : Nat} {I J : mI} {R : mR} {Q : Int → Prop}  {l0 : Nat} {l1 : Int} (hk0 : kK l0 = 12) (hw : P12_placeOf l0 l1 I R Q) : wMet yX12_placeOf cX12_placeOf 3 (some .int) 1 12 false ad n I J R [vr l0, vi l1] (fun r I' J' R' => (I' = I ∧ J' = J ∧ R' = R) ∧ Q r) := by
  refine wMet_of (by decide) (Nat.le_of_ble_eq_true rfl) (fun C hC hRm hE hS => ?_)
  refine (show WM C ad n I J R 0 0 0 [(0, vr l0), (1, vi l1)] [] from ?_)
  unfold P12_placeOf at hw
  refine wm_iconst hC dX12_placeOf_0 (k := ?_)
  refine wm_istore_n hC dX12_placeOf_1 (by decide) (L2 := [(2, vi 0), (0, vr l0), (1, vi l1)]) rfl ?_
  obtain ⟨f, hw⟩ := hw
  refine wm_sub [1, 2, 0] (L2 := [(0, vr l0), (1, vi l1), (2, vi 0)]) rfl ?_
  exact W12_placeOf_b2 hC hRm hE hk0 f _ hw
def P12_blind (l0 : Nat) (l1 : Int) (l2 : Int) (I : mI) (J : mI) (R : mR) (Q : Int → mI → mI → Prop) : Prop := (P12_isBlind l0 l1 I R (fun r1 => (if r1 = 0 then (Q (-1) I J) else (if l2 = 0 then (kK (R l0 15) = 21 ∧ (rg (18 * (I l0 13)) ∧ (rg (3 * l1) ∧ (rg ((18 * (I l0 13)) + (3 * l1)) ∧ (rg (((18 * (I l0 13)) + (3 * l1)) + l2) ∧ (((0 : Int) ≤ (((18 * (I l0 13)) + (3 * l1)) + l2) ∧ (((18 * (I l0 13)) + (3 * l1)) + l2) < (kN (R l0 15) : Int)) ∧ (Q (I (R l0 15) (((18 * (I l0 13)) + (3 * l1)) + l2)) I J))))))) else (if l2 = 1 then (kK (R l0 15) = 21 ∧ (rg (18 * (I l0 13)) ∧ (rg (3 * l1) ∧ (rg ((18 * (I l0 13)) + (3 * l1)) ∧ (rg (((18 * (I l0 13)) + (3 * l1)) + l2) ∧ (((0 : Int) ≤ (((18 * (I l0 13)) + (3 * l1)) + l2) ∧ (((18 * (I l0 13)) + (3 * l1)) + l2) < (kN (R l0 15) : Int)) ∧ (Q (I (R l0 15) (((18 * (I l0 13)) + (3 * l1)) + l2)) I J))))))) else (if l2 = 2 then (kK (R l0 15) = 21 ∧ (rg (18 * (I l0 13)) ∧ (rg (3 * l1) ∧ (rg ((18 * (I l0 13)) + (3 * l1)) ∧ (rg (((18 * (I l0 13)) + (3 * l1)) + l2) ∧ (((0 : Int) ≤ (((18 * (I l0 13)) + (3 * l1)) + l2) ∧ (((18 * (I l0 13)) + (3 * l1)) + l2) < (kN (R l0 15) : Int)) ∧ (Q (I (R l0 15) (((18 * (I l0 13)) + (3 * l1)) + l2)) I J))))))) else (if l2 = 3 then (kK (R l0 16) = 21 ∧ (((0 : Int) ≤ (I l0 13) ∧ (I l0 13) < (kN (R l0 16) : Int)) ∧ (P12_has2 (I (R l0 16) (I l0 13)) l1 (fun r2 => (if r2 = 0 then (Q 0 I J) else (Q 1 I J)))))) else (if l2 = 4 then (kK (R l0 48) = 21 ∧ (((0 : Int) ≤ l1 ∧ l1 < (kN (R l0 48) : Int)) ∧ (Q (I (R l0 48) l1) I J))) else (if l2 = 5 then (P12_placeOf l0 l1 I R (fun r3 => (Q r3 I J))) else (if l2 = 6 then (P12_isCounting l0 0 l1 I J R (fun r4 I1 J1 => (if r4 = 0 then (Q 0 I1 J1) else (Q 1 I1 J1)))) else (Q (-1) I J)))))))))))
set_option maxRecDepth 20000 in
theorem C12_blind {ad : Nat → Nat} {n : Nat} {I J : mI} {R : mR} {Q : Int → mI → mI → Prop}  {l0 : Nat} {l1 : Int} {l2 : Int} (hk0 : kK l0 = 12) (hw : P12_blind l0 l1 l2 I J R Q) : wMet yX12_blind cX12_blind 3 (some .int) 5 107 false ad n I J R [vr l0, vi l1, vi l2] (fun r I' J' R' => (R' = R) ∧ Q r I' J') := by
  refine wMet_of (by decide) (Nat.le_of_ble_eq_true rfl) (fun C hC hRm hE hS => ?_)
  refine (show WM C ad n I J R 0 0 0 [(0, vr l0), (1, vi l1), (2, vi l2)] [] from ?_)
  unfold P12_blind at hw
  refine wm_aload_n hC 0 dX12_blind_0 rfl (k_ne0 hk0 (by decide)) ?_
  refine wm_iload_n hC 1 dX12_blind_1 rfl ?_
  refine y_callV_z_n hC hRm noS ml_X12_507 hk0 (C12_isBlind hk0 hw) (Nat.le_of_ble_eq_true rfl) (Nat.le_of_ble_eq_true rfl) ⟨Nat.zero_le _, Nat.zero_le _⟩ rfl (st := []) rfl (Nat.le_of_ble_eq_true rfl) dX12_blind_2 (fun r1 hw => ?_)
  refine wm_if_ne (tgt := 10) hC dX12_blind_5 (by decide) hw (fun hw => ?_) (fun hw => ?_)
  · refine wm_iconst hC dX12_blind_8 (k := ?_)
    exact wm_ireturn hC hE dX12_blind_9 ⟨rfl, hw⟩
  · refine wm_iload_n hC 2 dX12_blind_10 rfl ?_
    by_cases hc1 : l2 = 0
    · rw [if_pos hc1] at hw
      refine wm_tableIn (v := 0) (tgt := 52) hC dX12_blind_11 hc1 (by decide) (by decide) rfl rfl ?_
      refine wm_aload_n hC 0 dX12_blind_52 rfl (k_ne0 hk0 (by decide)) ?_
      refine x_getR2 hC 15 fl_X12_57 rfl hk0 dX12_blind_53 hw (fun g1 hw => ?_)
      refine wm_bipush hC dX12_blind_56 (k := ?_)
      refine wm_aload_n hC 0 dX12_blind_58 rfl (k_ne0 hk0 (by decide)) ?_
      refine x_getI hC 13 fl_X12_51 rfl hk0 dX12_blind_59 ?_
      refine x_imul hC dX12_blind_62 hw (fun hw => ?_)
      refine wm_iconst hC dX12_blind_63 (k := ?_)
      refine wm_iload_n hC 1 dX12_blind_64 rfl ?_
      refine x_imul hC dX12_blind_65 hw (fun hw => ?_)
      refine x_iadd hC dX12_blind_66 hw (fun hw => ?_)
      refine wm_iload_n hC 2 dX12_blind_67 rfl ?_
      refine x_iadd hC dX12_blind_68 hw (fun hw => ?_)
      refine x_iald hC g1 dX12_blind_69 hw (fun hw => ?_)
      exact wm_ireturn hC hE dX12_blind_70 ⟨rfl, hw⟩
    rw [if_neg hc1] at hw
    by_cases hc2 : l2 = 1
    · rw [if_pos hc2] at hw
      refine wm_tableIn (v := 1) (tgt := 52) hC dX12_blind_11 hc2 (by decide) (by decide) rfl rfl ?_
      refine wm_aload_n hC 0 dX12_blind_52 rfl (k_ne0 hk0 (by decide)) ?_
      refine x_getR2 hC 15 fl_X12_57 rfl hk0 dX12_blind_53 hw (fun g2 hw => ?_)
      refine wm_bipush hC dX12_blind_56 (k := ?_)
      refine wm_aload_n hC 0 dX12_blind_58 rfl (k_ne0 hk0 (by decide)) ?_
      refine x_getI hC 13 fl_X12_51 rfl hk0 dX12_blind_59 ?_
      refine x_imul hC dX12_blind_62 hw (fun hw => ?_)
      refine wm_iconst hC dX12_blind_63 (k := ?_)
      refine wm_iload_n hC 1 dX12_blind_64 rfl ?_
      refine x_imul hC dX12_blind_65 hw (fun hw => ?_)
      refine x_iadd hC dX12_blind_66 hw (fun hw => ?_)
      refine wm_iload_n hC 2 dX12_blind_67 rfl ?_
      refine x_iadd hC dX12_blind_68 hw (fun hw => ?_)
      refine x_iald hC g2 dX12_blind_69 hw (fun hw => ?_)
      exact wm_ireturn hC hE dX12_blind_70 ⟨rfl, hw⟩
    rw [if_neg hc2] at hw
    by_cases hc3 : l2 = 2
    · rw [if_pos hc3] at hw
      refine wm_tableIn (v := 2) (tgt := 52) hC dX12_blind_11 hc3 (by decide) (by decide) rfl rfl ?_
      refine wm_aload_n hC 0 dX12_blind_52 rfl (k_ne0 hk0 (by decide)) ?_
      refine x_getR2 hC 15 fl_X12_57 rfl hk0 dX12_blind_53 hw (fun g3 hw => ?_)
      refine wm_bipush hC dX12_blind_56 (k := ?_)
      refine wm_aload_n hC 0 dX12_blind_58 rfl (k_ne0 hk0 (by decide)) ?_
      refine x_getI hC 13 fl_X12_51 rfl hk0 dX12_blind_59 ?_
      refine x_imul hC dX12_blind_62 hw (fun hw => ?_)
      refine wm_iconst hC dX12_blind_63 (k := ?_)
      refine wm_iload_n hC 1 dX12_blind_64 rfl ?_
      refine x_imul hC dX12_blind_65 hw (fun hw => ?_)
      refine x_iadd hC dX12_blind_66 hw (fun hw => ?_)
      refine wm_iload_n hC 2 dX12_blind_67 rfl ?_
      refine x_iadd hC dX12_blind_68 hw (fun hw => ?_)
      refine x_iald hC g3 dX12_blind_69 hw (fun hw => ?_)
      exact wm_ireturn hC hE dX12_blind_70 ⟨rfl, hw⟩
    rw [if_neg hc3] at hw
    by_cases hc4 : l2 = 3
    · rw [if_pos hc4] at hw
      refine wm_tableIn (v := 3) (tgt := 71) hC dX12_blind_11 hc4 (by decide) (by decide) rfl rfl ?_
      refine wm_aload_n hC 0 dX12_blind_71 rfl (k_ne0 hk0 (by decide)) ?_
      refine x_getR2 hC 16 fl_X12_60 rfl hk0 dX12_blind_72 hw (fun g4 hw => ?_)
      refine wm_aload_n hC 0 dX12_blind_75 rfl (k_ne0 hk0 (by decide)) ?_
      refine x_getI hC 13 fl_X12_51 rfl hk0 dX12_blind_76 ?_
      refine x_iald hC g4 dX12_blind_79 hw (fun hw => ?_)
      refine wm_iload_n hC 1 dX12_blind_80 rfl ?_
      refine y_callS_z_n hC hRm noS ml_X12_351 (C12_has2  hw) (Nat.le_of_ble_eq_true rfl) (Nat.le_of_ble_eq_true rfl) ⟨Nat.zero_le _, Nat.zero_le _⟩ rfl (st := []) rfl (Nat.le_of_ble_eq_true rfl) dX12_blind_81 (fun r2 hw => ?_)
      refine wm_if_eq (tgt := 91) hC dX12_blind_84 (by decide) hw (fun hw => ?_) (fun hw => ?_)
      · refine wm_iconst hC dX12_blind_91 (k := ?_)
        exact wm_ireturn hC hE dX12_blind_92 ⟨rfl, hw⟩
      · refine wm_iconst hC dX12_blind_87 (k := ?_)
        refine wm_goto (tgt := 92) hC dX12_blind_88 (by decide) ?_
        exact wm_ireturn hC hE dX12_blind_92 ⟨rfl, hw⟩
    rw [if_neg hc4] at hw
    by_cases hc5 : l2 = 4
    · rw [if_pos hc5] at hw
      refine wm_tableIn (v := 4) (tgt := 93) hC dX12_blind_11 hc5 (by decide) (by decide) rfl rfl ?_
      refine wm_aload_n hC 0 dX12_blind_93 rfl (k_ne0 hk0 (by decide)) ?_
      refine x_getR2 hC 48 fl_X12_159 rfl hk0 dX12_blind_94 hw (fun g5 hw => ?_)
      refine wm_iload_n hC 1 dX12_blind_97 rfl ?_
      refine x_iald hC g5 dX12_blind_98 hw (fun hw => ?_)
      exact wm_ireturn hC hE dX12_blind_99 ⟨rfl, hw⟩
    rw [if_neg hc5] at hw
    by_cases hc6 : l2 = 5
    · rw [if_pos hc6] at hw
      refine wm_tableIn (v := 5) (tgt := 100) hC dX12_blind_11 hc6 (by decide) (by decide) rfl rfl ?_
      refine wm_aload_n hC 0 dX12_blind_100 rfl (k_ne0 hk0 (by decide)) ?_
      refine wm_iload_n hC 1 dX12_blind_101 rfl ?_
      refine y_callV_i_n hC hRm noS ml_X12_518 hk0 (C12_placeOf hk0 hw) (Nat.le_of_ble_eq_true rfl) (Nat.le_of_ble_eq_true rfl) ⟨Nat.zero_le _, Nat.zero_le _⟩ rfl (st := []) rfl (Nat.le_of_ble_eq_true rfl) dX12_blind_102 (fun r3 hw => ?_)
      exact wm_ireturn hC hE dX12_blind_105 ⟨rfl, hw⟩
    rw [if_neg hc6] at hw
    by_cases hc7 : l2 = 6
    · rw [if_pos hc7] at hw
      refine wm_tableIn (v := 6) (tgt := 106) hC dX12_blind_11 hc7 (by decide) (by decide) rfl rfl ?_
      refine wm_aload_n hC 0 dX12_blind_106 rfl (k_ne0 hk0 (by decide)) ?_
      refine wm_iconst hC dX12_blind_107 (k := ?_)
      refine wm_iload_n hC 1 dX12_blind_108 rfl ?_
      refine y_callV_z_IJ hC hRm noS ml_X12_473 hk0 (C12_isCounting hk0 hw) (Nat.le_of_ble_eq_true rfl) (Nat.le_of_ble_eq_true rfl) ⟨Nat.zero_le _, Nat.zero_le _⟩ rfl (st := []) rfl (Nat.le_of_ble_eq_true rfl) dX12_blind_109 (fun r4 I1 J1 hw => ?_)
      refine wm_if_eq (tgt := 119) hC dX12_blind_112 (by decide) hw (fun hw => ?_) (fun hw => ?_)
      · refine wm_iconst hC dX12_blind_119 (k := ?_)
        exact wm_ireturn hC hE dX12_blind_120 ⟨rfl, hw⟩
      · refine wm_iconst hC dX12_blind_115 (k := ?_)
        refine wm_goto (tgt := 120) hC dX12_blind_116 (by decide) ?_
        exact wm_ireturn hC hE dX12_blind_120 ⟨rfl, hw⟩
    rw [if_neg hc7] at hw
    refine wm_tableOut (tgt := 121) hC dX12_blind_11 (by omega) rfl ?_
    refine wm_iconst hC dX12_blind_121 (k := ?_)
    exact wm_ireturn hC hE dX12_blind_122 ⟨rfl, hw⟩
def P12_colour (l0 : Nat) (l1 : Int) (l2 : Int) (I : mI) (R : mR) (Q : Int → Prop) : Prop := (P12_isColour l0 l1 I R (fun r1 => (if r1 = 0 then (Q (-1)) else (if l2 = 0 then (kK (R l0 18) = 21 ∧ (rg (18 * (I l0 13)) ∧ (rg (3 * l1) ∧ (rg ((18 * (I l0 13)) + (3 * l1)) ∧ (rg (((18 * (I l0 13)) + (3 * l1)) + l2) ∧ (((0 : Int) ≤ (((18 * (I l0 13)) + (3 * l1)) + l2) ∧ (((18 * (I l0 13)) + (3 * l1)) + l2) < (kN (R l0 18) : Int)) ∧ (Q (I (R l0 18) (((18 * (I l0 13)) + (3 * l1)) + l2))))))))) else (if l2 = 1 then (kK (R l0 18) = 21 ∧ (rg (18 * (I l0 13)) ∧ (rg (3 * l1) ∧ (rg ((18 * (I l0 13)) + (3 * l1)) ∧ (rg (((18 * (I l0 13)) + (3 * l1)) + l2) ∧ (((0 : Int) ≤ (((18 * (I l0 13)) + (3 * l1)) + l2) ∧ (((18 * (I l0 13)) + (3 * l1)) + l2) < (kN (R l0 18) : Int)) ∧ (Q (I (R l0 18) (((18 * (I l0 13)) + (3 * l1)) + l2))))))))) else (if l2 = 2 then (kK (R l0 18) = 21 ∧ (rg (18 * (I l0 13)) ∧ (rg (3 * l1) ∧ (rg ((18 * (I l0 13)) + (3 * l1)) ∧ (rg (((18 * (I l0 13)) + (3 * l1)) + l2) ∧ (((0 : Int) ≤ (((18 * (I l0 13)) + (3 * l1)) + l2) ∧ (((18 * (I l0 13)) + (3 * l1)) + l2) < (kN (R l0 18) : Int)) ∧ (Q (I (R l0 18) (((18 * (I l0 13)) + (3 * l1)) + l2))))))))) else (if l2 = 3 then (kK (R l0 19) = 21 ∧ (rg (6 * (I l0 13)) ∧ (rg ((6 * (I l0 13)) + l1) ∧ (((0 : Int) ≤ ((6 * (I l0 13)) + l1) ∧ ((6 * (I l0 13)) + l1) < (kN (R l0 19) : Int)) ∧ (Q (I (R l0 19) ((6 * (I l0 13)) + l1))))))) else (if l2 = 4 then (P12_wornOf l0 0 l1 I R (fun r2 => (Q r2))) else (Q (-1))))))))))
set_option maxRecDepth 20000 in
theorem C12_colour {ad : Nat → Nat} {n : Nat} {I J : mI} {R : mR} {Q : Int → Prop}  {l0 : Nat} {l1 : Int} {l2 : Int} (hk0 : kK l0 = 12) (hw : P12_colour l0 l1 l2 I R Q) : wMet yX12_colour cX12_colour 3 (some .int) 2 36 false ad n I J R [vr l0, vi l1, vi l2] (fun r I' J' R' => (I' = I ∧ J' = J ∧ R' = R) ∧ Q r) := by
  refine wMet_of (by decide) (Nat.le_of_ble_eq_true rfl) (fun C hC hRm hE hS => ?_)
  refine (show WM C ad n I J R 0 0 0 [(0, vr l0), (1, vi l1), (2, vi l2)] [] from ?_)
  unfold P12_colour at hw
  refine wm_aload_n hC 0 dX12_colour_0 rfl (k_ne0 hk0 (by decide)) ?_
  refine wm_iload_n hC 1 dX12_colour_1 rfl ?_
  refine y_callV_z_n hC hRm noS ml_X12_510 hk0 (C12_isColour hk0 hw) (Nat.le_of_ble_eq_true rfl) (Nat.le_of_ble_eq_true rfl) ⟨Nat.zero_le _, Nat.zero_le _⟩ rfl (st := []) rfl (Nat.le_of_ble_eq_true rfl) dX12_colour_2 (fun r1 hw => ?_)
  refine wm_if_ne (tgt := 10) hC dX12_colour_5 (by decide) hw (fun hw => ?_) (fun hw => ?_)
  · refine wm_iconst hC dX12_colour_8 (k := ?_)
    exact wm_ireturn hC hE dX12_colour_9 ⟨⟨rfl, rfl, rfl⟩, hw⟩
  · refine wm_iload_n hC 2 dX12_colour_10 rfl ?_
    by_cases hc1 : l2 = 0
    · rw [if_pos hc1] at hw
      refine wm_tableIn (v := 0) (tgt := 44) hC dX12_colour_11 hc1 (by decide) (by decide) rfl rfl ?_
      refine wm_aload_n hC 0 dX12_colour_44 rfl (k_ne0 hk0 (by decide)) ?_
      refine x_getR2 hC 18 fl_X12_66 rfl hk0 dX12_colour_45 hw (fun g1 hw => ?_)
      refine wm_bipush hC dX12_colour_48 (k := ?_)
      refine wm_aload_n hC 0 dX12_colour_50 rfl (k_ne0 hk0 (by decide)) ?_
      refine x_getI hC 13 fl_X12_51 rfl hk0 dX12_colour_51 ?_
      refine x_imul hC dX12_colour_54 hw (fun hw => ?_)
      refine wm_iconst hC dX12_colour_55 (k := ?_)
      refine wm_iload_n hC 1 dX12_colour_56 rfl ?_
      refine x_imul hC dX12_colour_57 hw (fun hw => ?_)
      refine x_iadd hC dX12_colour_58 hw (fun hw => ?_)
      refine wm_iload_n hC 2 dX12_colour_59 rfl ?_
      refine x_iadd hC dX12_colour_60 hw (fun hw => ?_)
      refine x_iald hC g1 dX12_colour_61 hw (fun hw => ?_)
      exact wm_ireturn hC hE dX12_colour_62 ⟨⟨rfl, rfl, rfl⟩, hw⟩
    rw [if_neg hc1] at hw
    by_cases hc2 : l2 = 1
    · rw [if_pos hc2] at hw
      refine wm_tableIn (v := 1) (tgt := 44) hC dX12_colour_11 hc2 (by decide) (by decide) rfl rfl ?_
      refine wm_aload_n hC 0 dX12_colour_44 rfl (k_ne0 hk0 (by decide)) ?_
      refine x_getR2 hC 18 fl_X12_66 rfl hk0 dX12_colour_45 hw (fun g2 hw => ?_)
      refine wm_bipush hC dX12_colour_48 (k := ?_)
      refine wm_aload_n hC 0 dX12_colour_50 rfl (k_ne0 hk0 (by decide)) ?_
      refine x_getI hC 13 fl_X12_51 rfl hk0 dX12_colour_51 ?_
      refine x_imul hC dX12_colour_54 hw (fun hw => ?_)
      refine wm_iconst hC dX12_colour_55 (k := ?_)
      refine wm_iload_n hC 1 dX12_colour_56 rfl ?_
      refine x_imul hC dX12_colour_57 hw (fun hw => ?_)
      refine x_iadd hC dX12_colour_58 hw (fun hw => ?_)
      refine wm_iload_n hC 2 dX12_colour_59 rfl ?_
      refine x_iadd hC dX12_colour_60 hw (fun hw => ?_)
      refine x_iald hC g2 dX12_colour_61 hw (fun hw => ?_)
      exact wm_ireturn hC hE dX12_colour_62 ⟨⟨rfl, rfl, rfl⟩, hw⟩
    rw [if_neg hc2] at hw
    by_cases hc3 : l2 = 2
    · rw [if_pos hc3] at hw
      refine wm_tableIn (v := 2) (tgt := 44) hC dX12_colour_11 hc3 (by decide) (by decide) rfl rfl ?_
      refine wm_aload_n hC 0 dX12_colour_44 rfl (k_ne0 hk0 (by decide)) ?_
      refine x_getR2 hC 18 fl_X12_66 rfl hk0 dX12_colour_45 hw (fun g3 hw => ?_)
      refine wm_bipush hC dX12_colour_48 (k := ?_)
      refine wm_aload_n hC 0 dX12_colour_50 rfl (k_ne0 hk0 (by decide)) ?_
      refine x_getI hC 13 fl_X12_51 rfl hk0 dX12_colour_51 ?_
      refine x_imul hC dX12_colour_54 hw (fun hw => ?_)
      refine wm_iconst hC dX12_colour_55 (k := ?_)
      refine wm_iload_n hC 1 dX12_colour_56 rfl ?_
      refine x_imul hC dX12_colour_57 hw (fun hw => ?_)
      refine x_iadd hC dX12_colour_58 hw (fun hw => ?_)
      refine wm_iload_n hC 2 dX12_colour_59 rfl ?_
      refine x_iadd hC dX12_colour_60 hw (fun hw => ?_)
      refine x_iald hC g3 dX12_colour_61 hw (fun hw => ?_)
      exact wm_ireturn hC hE dX12_colour_62 ⟨⟨rfl, rfl, rfl⟩, hw⟩
    rw [if_neg hc3] at hw
    by_cases hc4 : l2 = 3
    · rw [if_pos hc4] at hw
      refine wm_tableIn (v := 3) (tgt := 63) hC dX12_colour_11 hc4 (by decide) (by decide) rfl rfl ?_
      refine wm_aload_n hC 0 dX12_colour_63 rfl (k_ne0 hk0 (by decide)) ?_
      refine x_getR2 hC 19 fl_X12_69 rfl hk0 dX12_colour_64 hw (fun g4 hw => ?_)
      refine wm_bipush hC dX12_colour_67 (k := ?_)
      refine wm_aload_n hC 0 dX12_colour_69 rfl (k_ne0 hk0 (by decide)) ?_
      refine x_getI hC 13 fl_X12_51 rfl hk0 dX12_colour_70 ?_
      refine x_imul hC dX12_colour_73 hw (fun hw => ?_)
      refine wm_iload_n hC 1 dX12_colour_74 rfl ?_
      refine x_iadd hC dX12_colour_75 hw (fun hw => ?_)
      refine x_iald hC g4 dX12_colour_76 hw (fun hw => ?_)
      exact wm_ireturn hC hE dX12_colour_77 ⟨⟨rfl, rfl, rfl⟩, hw⟩
    rw [if_neg hc4] at hw
    by_cases hc5 : l2 = 4
    · rw [if_pos hc5] at hw
      refine wm_tableIn (v := 4) (tgt := 78) hC dX12_colour_11 hc5 (by decide) (by decide) rfl rfl ?_
      refine wm_aload_n hC 0 dX12_colour_78 rfl (k_ne0 hk0 (by decide)) ?_
      refine wm_iconst hC dX12_colour_79 (k := ?_)
      refine wm_iload_n hC 1 dX12_colour_80 rfl ?_
      refine y_callV_i_n hC hRm noS ml_X12_456 hk0 (C12_wornOf hk0 hw) (Nat.le_of_ble_eq_true rfl) (Nat.le_of_ble_eq_true rfl) ⟨Nat.zero_le _, Nat.zero_le _⟩ rfl (st := []) rfl (Nat.le_of_ble_eq_true rfl) dX12_colour_81 (fun r2 hw => ?_)
      exact wm_ireturn hC hE dX12_colour_84 ⟨⟨rfl, rfl, rfl⟩, hw⟩
    rw [if_neg hc5] at hw
    refine wm_tableOut (tgt := 85) hC dX12_colour_11 (by omega) rfl ?_
    refine wm_iconst hC dX12_colour_85 (k := ?_)
    exact wm_ireturn hC hE dX12_colour_86 ⟨⟨rfl, rfl, rfl⟩, hw⟩
def P12_thing (l0 : Nat) (l1 : Int) (l2 : Int) (I : mI) (R : mR) (Q : Int → Prop) : Prop := (P12_isThing l0 l1 I R (fun r1 => (if r1 = 0 then (Q (-1)) else (if l2 = 0 then (kK (R l0 21) = 21 ∧ (rg (18 * (I l0 13)) ∧ (rg (3 * l1) ∧ (rg ((18 * (I l0 13)) + (3 * l1)) ∧ (rg (((18 * (I l0 13)) + (3 * l1)) + l2) ∧ (((0 : Int) ≤ (((18 * (I l0 13)) + (3 * l1)) + l2) ∧ (((18 * (I l0 13)) + (3 * l1)) + l2) < (kN (R l0 21) : Int)) ∧ (Q (I (R l0 21) (((18 * (I l0 13)) + (3 * l1)) + l2))))))))) else (if l2 = 1 then (kK (R l0 21) = 21 ∧ (rg (18 * (I l0 13)) ∧ (rg (3 * l1) ∧ (rg ((18 * (I l0 13)) + (3 * l1)) ∧ (rg (((18 * (I l0 13)) + (3 * l1)) + l2) ∧ (((0 : Int) ≤ (((18 * (I l0 13)) + (3 * l1)) + l2) ∧ (((18 * (I l0 13)) + (3 * l1)) + l2) < (kN (R l0 21) : Int)) ∧ (Q (I (R l0 21) (((18 * (I l0 13)) + (3 * l1)) + l2))))))))) else (if l2 = 2 then (kK (R l0 21) = 21 ∧ (rg (18 * (I l0 13)) ∧ (rg (3 * l1) ∧ (rg ((18 * (I l0 13)) + (3 * l1)) ∧ (rg (((18 * (I l0 13)) + (3 * l1)) + l2) ∧ (((0 : Int) ≤ (((18 * (I l0 13)) + (3 * l1)) + l2) ∧ (((18 * (I l0 13)) + (3 * l1)) + l2) < (kN (R l0 21) : Int)) ∧ (Q (I (R l0 21) (((18 * (I l0 13)) + (3 * l1)) + l2))))))))) else (if l2 = 3 then (kK (R l0 49) = 21 ∧ (((0 : Int) ≤ l1 ∧ l1 < (kN (R l0 49) : Int)) ∧ (Q (I (R l0 49) l1)))) else (if l2 = 4 then (P12_nearSet l0 l1 I R (fun r2 => (P12_bits r2 (fun r3 => (Q r3))))) else (Q (-1))))))))))
set_option maxRecDepth 20000 in
theorem C12_thing {ad : Nat → Nat} {n : Nat} {I J : mI} {R : mR} {Q : Int → Prop}  {l0 : Nat} {l1 : Int} {l2 : Int} (hk0 : kK l0 = 12) (hw : P12_thing l0 l1 l2 I R Q) : wMet yX12_thing cX12_thing 3 (some .int) 2 34 false ad n I J R [vr l0, vi l1, vi l2] (fun r I' J' R' => (I' = I ∧ J' = J ∧ R' = R) ∧ Q r) := by
  refine wMet_of (by decide) (Nat.le_of_ble_eq_true rfl) (fun C hC hRm hE hS => ?_)
  refine (show WM C ad n I J R 0 0 0 [(0, vr l0), (1, vi l1), (2, vi l2)] [] from ?_)
  unfold P12_thing at hw
  refine wm_aload_n hC 0 dX12_thing_0 rfl (k_ne0 hk0 (by decide)) ?_
  refine wm_iload_n hC 1 dX12_thing_1 rfl ?_
  refine y_callV_z_n hC hRm noS ml_X12_513 hk0 (C12_isThing hk0 hw) (Nat.le_of_ble_eq_true rfl) (Nat.le_of_ble_eq_true rfl) ⟨Nat.zero_le _, Nat.zero_le _⟩ rfl (st := []) rfl (Nat.le_of_ble_eq_true rfl) dX12_thing_2 (fun r1 hw => ?_)
  refine wm_if_ne (tgt := 10) hC dX12_thing_5 (by decide) hw (fun hw => ?_) (fun hw => ?_)
  · refine wm_iconst hC dX12_thing_8 (k := ?_)
    exact wm_ireturn hC hE dX12_thing_9 ⟨⟨rfl, rfl, rfl⟩, hw⟩
  · refine wm_iload_n hC 2 dX12_thing_10 rfl ?_
    by_cases hc1 : l2 = 0
    · rw [if_pos hc1] at hw
      refine wm_tableIn (v := 0) (tgt := 44) hC dX12_thing_11 hc1 (by decide) (by decide) rfl rfl ?_
      refine wm_aload_n hC 0 dX12_thing_44 rfl (k_ne0 hk0 (by decide)) ?_
      refine x_getR2 hC 21 fl_X12_75 rfl hk0 dX12_thing_45 hw (fun g1 hw => ?_)
      refine wm_bipush hC dX12_thing_48 (k := ?_)
      refine wm_aload_n hC 0 dX12_thing_50 rfl (k_ne0 hk0 (by decide)) ?_
      refine x_getI hC 13 fl_X12_51 rfl hk0 dX12_thing_51 ?_
      refine x_imul hC dX12_thing_54 hw (fun hw => ?_)
      refine wm_iconst hC dX12_thing_55 (k := ?_)
      refine wm_iload_n hC 1 dX12_thing_56 rfl ?_
      refine x_imul hC dX12_thing_57 hw (fun hw => ?_)
      refine x_iadd hC dX12_thing_58 hw (fun hw => ?_)
      refine wm_iload_n hC 2 dX12_thing_59 rfl ?_
      refine x_iadd hC dX12_thing_60 hw (fun hw => ?_)
      refine x_iald hC g1 dX12_thing_61 hw (fun hw => ?_)
      exact wm_ireturn hC hE dX12_thing_62 ⟨⟨rfl, rfl, rfl⟩, hw⟩
    rw [if_neg hc1] at hw
    by_cases hc2 : l2 = 1
    · rw [if_pos hc2] at hw
      refine wm_tableIn (v := 1) (tgt := 44) hC dX12_thing_11 hc2 (by decide) (by decide) rfl rfl ?_
      refine wm_aload_n hC 0 dX12_thing_44 rfl (k_ne0 hk0 (by decide)) ?_
      refine x_getR2 hC 21 fl_X12_75 rfl hk0 dX12_thing_45 hw (fun g2 hw => ?_)
      refine wm_bipush hC dX12_thing_48 (k := ?_)
      refine wm_aload_n hC 0 dX12_thing_50 rfl (k_ne0 hk0 (by decide)) ?_
      refine x_getI hC 13 fl_X12_51 rfl hk0 dX12_thing_51 ?_
      refine x_imul hC dX12_thing_54 hw (fun hw => ?_)
      refine wm_iconst hC dX12_thing_55 (k := ?_)
      refine wm_iload_n hC 1 dX12_thing_56 rfl ?_
      refine x_imul hC dX12_thing_57 hw (fun hw => ?_)
      refine x_iadd hC dX12_thing_58 hw (fun hw => ?_)
      refine wm_iload_n hC 2 dX12_thing_59 rfl ?_
      refine x_iadd hC dX12_thing_60 hw (fun hw => ?_)
      refine x_iald hC g2 dX12_thing_61 hw (fun hw => ?_)
      exact wm_ireturn hC hE dX12_thing_62 ⟨⟨rfl, rfl, rfl⟩, hw⟩
    rw [if_neg hc2] at hw
    by_cases hc3 : l2 = 2
    · rw [if_pos hc3] at hw
      refine wm_tableIn (v := 2) (tgt := 44) hC dX12_thing_11 hc3 (by decide) (by decide) rfl rfl ?_
      refine wm_aload_n hC 0 dX12_thing_44 rfl (k_ne0 hk0 (by decide)) ?_
      refine x_getR2 hC 21 fl_X12_75 rfl hk0 dX12_thing_45 hw (fun g3 hw => ?_)
      refine wm_bipush hC dX12_thing_48 (k := ?_)
      refine wm_aload_n hC 0 dX12_thing_50 rfl (k_ne0 hk0 (by decide)) ?_
      refine x_getI hC 13 fl_X12_51 rfl hk0 dX12_thing_51 ?_
      refine x_imul hC dX12_thing_54 hw (fun hw => ?_)
      refine wm_iconst hC dX12_thing_55 (k := ?_)
      refine wm_iload_n hC 1 dX12_thing_56 rfl ?_
      refine x_imul hC dX12_thing_57 hw (fun hw => ?_)
      refine x_iadd hC dX12_thing_58 hw (fun hw => ?_)
      refine wm_iload_n hC 2 dX12_thing_59 rfl ?_
      refine x_iadd hC dX12_thing_60 hw (fun hw => ?_)
      refine x_iald hC g3 dX12_thing_61 hw (fun hw => ?_)
      exact wm_ireturn hC hE dX12_thing_62 ⟨⟨rfl, rfl, rfl⟩, hw⟩
    rw [if_neg hc3] at hw
    by_cases hc4 : l2 = 3
    · rw [if_pos hc4] at hw
      refine wm_tableIn (v := 3) (tgt := 63) hC dX12_thing_11 hc4 (by decide) (by decide) rfl rfl ?_
      refine wm_aload_n hC 0 dX12_thing_63 rfl (k_ne0 hk0 (by decide)) ?_
      refine x_getR2 hC 49 fl_X12_162 rfl hk0 dX12_thing_64 hw (fun g4 hw => ?_)
      refine wm_iload_n hC 1 dX12_thing_67 rfl ?_
      refine x_iald hC g4 dX12_thing_68 hw (fun hw => ?_)
      exact wm_ireturn hC hE dX12_thing_69 ⟨⟨rfl, rfl, rfl⟩, hw⟩
    rw [if_neg hc4] at hw
    by_cases hc5 : l2 = 4
    · rw [if_pos hc5] at hw
      refine wm_tableIn (v := 4) (tgt := 70) hC dX12_thing_11 hc5 (by decide) (by decide) rfl rfl ?_
      refine wm_aload_n hC 0 dX12_thing_70 rfl (k_ne0 hk0 (by decide)) ?_
      refine wm_iload_n hC 1 dX12_thing_71 rfl ?_
      refine y_callV_i_n hC hRm noS ml_X12_501 hk0 (C12_nearSet hk0 hw) (Nat.le_of_ble_eq_true rfl) (Nat.le_of_ble_eq_true rfl) ⟨Nat.zero_le _, Nat.zero_le _⟩ rfl (st := []) rfl (Nat.le_of_ble_eq_true rfl) dX12_thing_72 (fun r2 hw => ?_)
      refine y_callS_i_n hC hRm noS ml_X12_521 (C12_bits  hw) (Nat.le_of_ble_eq_true rfl) (Nat.le_of_ble_eq_true rfl) ⟨Nat.zero_le _, Nat.zero_le _⟩ rfl (st := []) rfl (Nat.le_of_ble_eq_true rfl) dX12_thing_75 (fun r3 hw => ?_)
      exact wm_ireturn hC hE dX12_thing_78 ⟨⟨rfl, rfl, rfl⟩, hw⟩
    rw [if_neg hc5] at hw
    refine wm_tableOut (tgt := 79) hC dX12_thing_11 (by omega) rfl ?_
    refine wm_iconst hC dX12_thing_79 (k := ?_)
    exact wm_ireturn hC hE dX12_thing_80 ⟨⟨rfl, rfl, rfl⟩, hw⟩
def P12_score (l0 : Nat) (l1 : Int) (l2 : Int) (l3 : Int) (I : mI) (J : mI) (R : mR) (Q : Int → mI → mI → Prop) : Prop := (P12_isBlind l0 l1 I R (fun r1 => (if r1 = 0 then (Q (-1000000000000000) I J) else (P12_isThing l0 l2 I R (fun r2 => (if r2 = 0 then (Q (-1000000000000000) I J) else (P12_isColour l0 l3 I R (fun r3 => (if r3 = 0 then (Q (-1000000000000000) I J) else (P12_scoreOf l0 0 l1 l2 l3 0 I J R (fun r4 I1 J1 => (Q r4 I1 J1))))))))))))
set_option maxRecDepth 20000 in
theorem C12_score {ad : Nat → Nat} {n : Nat} {I J : mI} {R : mR} {Q : Int → mI → mI → Prop}  {l0 : Nat} {l1 : Int} {l2 : Int} {l3 : Int} (hk0 : kK l0 = 12) (hw : P12_score l0 l1 l2 l3 I J R Q) : wMet yX12_score cX12_score 4 (some .long) 5 111 false ad n I J R [vr l0, vi l1, vi l2, vi l3] (fun r I' J' R' => (R' = R) ∧ Q r I' J') := by
  refine wMet_of (by decide) (Nat.le_of_ble_eq_true rfl) (fun C hC hRm hE hS => ?_)
  refine (show WM C ad n I J R 0 0 0 [(0, vr l0), (1, vi l1), (2, vi l2), (3, vi l3)] [] from ?_)
  unfold P12_score at hw
  refine wm_aload_n hC 0 dX12_score_0 rfl (k_ne0 hk0 (by decide)) ?_
  refine wm_iload_n hC 1 dX12_score_1 rfl ?_
  refine y_callV_z_n hC hRm noS ml_X12_507 hk0 (C12_isBlind hk0 hw) (Nat.le_of_ble_eq_true rfl) (Nat.le_of_ble_eq_true rfl) ⟨Nat.zero_le _, Nat.zero_le _⟩ rfl (st := []) rfl (Nat.le_of_ble_eq_true rfl) dX12_score_2 (fun r1 hw => ?_)
  refine wm_if_eq (tgt := 36) hC dX12_score_5 (by decide) hw (fun hw => ?_) (fun hw => ?_)
  · refine wm_ldc2 hC (x := (-1000000000000000)) tc_X12_524 rfl dX12_score_36 (k := ?_)
    exact wm_lreturn hC hE dX12_score_39 ⟨rfl, hw⟩
  · refine wm_aload_n hC 0 dX12_score_8 rfl (k_ne0 hk0 (by decide)) ?_
    refine wm_iload_n hC 2 dX12_score_9 rfl ?_
    refine y_callV_z_n hC hRm noS ml_X12_513 hk0 (C12_isThing hk0 hw) (Nat.le_of_ble_eq_true rfl) (Nat.le_of_ble_eq_true rfl) ⟨Nat.zero_le _, Nat.zero_le _⟩ rfl (st := []) rfl (Nat.le_of_ble_eq_true rfl) dX12_score_10 (fun r2 hw => ?_)
    refine wm_if_eq (tgt := 36) hC dX12_score_13 (by decide) hw (fun hw => ?_) (fun hw => ?_)
    · refine wm_ldc2 hC (x := (-1000000000000000)) tc_X12_524 rfl dX12_score_36 (k := ?_)
      exact wm_lreturn hC hE dX12_score_39 ⟨rfl, hw⟩
    · refine wm_aload_n hC 0 dX12_score_16 rfl (k_ne0 hk0 (by decide)) ?_
      refine wm_iload_n hC 3 dX12_score_17 rfl ?_
      refine y_callV_z_n hC hRm noS ml_X12_510 hk0 (C12_isColour hk0 hw) (Nat.le_of_ble_eq_true rfl) (Nat.le_of_ble_eq_true rfl) ⟨Nat.zero_le _, Nat.zero_le _⟩ rfl (st := []) rfl (Nat.le_of_ble_eq_true rfl) dX12_score_18 (fun r3 hw => ?_)
      refine wm_if_eq (tgt := 36) hC dX12_score_21 (by decide) hw (fun hw => ?_) (fun hw => ?_)
      · refine wm_ldc2 hC (x := (-1000000000000000)) tc_X12_524 rfl dX12_score_36 (k := ?_)
        exact wm_lreturn hC hE dX12_score_39 ⟨rfl, hw⟩
      · refine wm_aload_n hC 0 dX12_score_24 rfl (k_ne0 hk0 (by decide)) ?_
        refine wm_iconst hC dX12_score_25 (k := ?_)
        refine wm_iload_n hC 1 dX12_score_26 rfl ?_
        refine wm_iload_n hC 2 dX12_score_27 rfl ?_
        refine wm_iload_n hC 3 dX12_score_28 rfl ?_
        refine wm_iconst hC dX12_score_29 (k := ?_)
        refine y_callV_l_IJ hC hRm noS ml_X12_463 hk0 (C12_scoreOf hk0 hw) (Nat.le_of_ble_eq_true rfl) (Nat.le_of_ble_eq_true rfl) ⟨Nat.zero_le _, Nat.zero_le _⟩ rfl (st := []) rfl (Nat.le_of_ble_eq_true rfl) dX12_score_30 (fun r4 I1 J1 hw => ?_)
        refine wm_goto (tgt := 39) hC dX12_score_33 (by decide) ?_
        exact wm_lreturn hC hE dX12_score_39 ⟨rfl, hw⟩
def P12_word (l0 : Nat) (l1 : Int) (l2 : Int) (I : mI) (J : mI) (R : mR) (Q : Int → mI → mI → Prop) : Prop := (P12_isBlind l0 l1 I R (fun r1 => (if r1 = 0 then (Q (-1) I J) else (P12_isThing l0 l2 I R (fun r2 => (if r2 = 0 then (Q (-1) I J) else (P12_hushes l0 I R (fun I1 => (P12_wordBy l0 0 l1 l2 I1 J R (fun r3 I2 J1 => (Q r3 I2 J1)))))))))))
set_option maxRecDepth 20000 in
theorem C12_word {ad : Nat → Nat} {n : Nat} {I J : mI} {R : mR} {Q : Int → mI → mI → Prop}  {l0 : Nat} {l1 : Int} {l2 : Int} (hk0 : kK l0 = 12) (hw : P12_word l0 l1 l2 I J R Q) : wMet yX12_word cX12_word 3 (some .int) 6 140 false ad n I J R [vr l0, vi l1, vi l2] (fun r I' J' R' => (R' = R) ∧ Q r I' J') := by
  refine wMet_of (by decide) (Nat.le_of_ble_eq_true rfl) (fun C hC hRm hE hS => ?_)
  refine (show WM C ad n I J R 0 0 0 [(0, vr l0), (1, vi l1), (2, vi l2)] [] from ?_)
  unfold P12_word at hw
  refine wm_aload_n hC 0 dX12_word_0 rfl (k_ne0 hk0 (by decide)) ?_
  refine wm_iload_n hC 1 dX12_word_1 rfl ?_
  refine y_callV_z_n hC hRm noS ml_X12_507 hk0 (C12_isBlind hk0 hw) (Nat.le_of_ble_eq_true rfl) (Nat.le_of_ble_eq_true rfl) ⟨Nat.zero_le _, Nat.zero_le _⟩ rfl (st := []) rfl (Nat.le_of_ble_eq_true rfl) dX12_word_2 (fun r1 hw => ?_)
  refine wm_if_eq (tgt := 16) hC dX12_word_5 (by decide) hw (fun hw => ?_) (fun hw => ?_)
  · refine wm_iconst hC dX12_word_16 (k := ?_)
    exact wm_ireturn hC hE dX12_word_17 ⟨rfl, hw⟩
  · refine wm_aload_n hC 0 dX12_word_8 rfl (k_ne0 hk0 (by decide)) ?_
    refine wm_iload_n hC 2 dX12_word_9 rfl ?_
    refine y_callV_z_n hC hRm noS ml_X12_513 hk0 (C12_isThing hk0 hw) (Nat.le_of_ble_eq_true rfl) (Nat.le_of_ble_eq_true rfl) ⟨Nat.zero_le _, Nat.zero_le _⟩ rfl (st := []) rfl (Nat.le_of_ble_eq_true rfl) dX12_word_10 (fun r2 hw => ?_)
    refine wm_if_ne (tgt := 18) hC dX12_word_13 (by decide) hw (fun hw => ?_) (fun hw => ?_)
    · refine wm_iconst hC dX12_word_16 (k := ?_)
      exact wm_ireturn hC hE dX12_word_17 ⟨rfl, hw⟩
    · refine wm_aload_n hC 0 dX12_word_18 rfl (k_ne0 hk0 (by decide)) ?_
      refine y_callV_v_I hC hRm noS ml_X12_467 hk0 (C12_hushes hk0 hw) (Nat.le_of_ble_eq_true rfl) (Nat.le_of_ble_eq_true rfl) ⟨Nat.zero_le _, Nat.zero_le _⟩ rfl (st := []) rfl (Nat.le_of_ble_eq_true rfl) dX12_word_19 (fun I1 hw => ?_)
      refine wm_aload_n hC 0 dX12_word_22 rfl (k_ne0 hk0 (by decide)) ?_
      refine wm_iconst hC dX12_word_23 (k := ?_)
      refine wm_iload_n hC 1 dX12_word_24 rfl ?_
      refine wm_iload_n hC 2 dX12_word_25 rfl ?_
      refine y_callV_i_IJ hC hRm noS ml_X12_470 hk0 (C12_wordBy hk0 hw) (Nat.le_of_ble_eq_true rfl) (Nat.le_of_ble_eq_true rfl) ⟨Nat.zero_le _, Nat.zero_le _⟩ rfl (st := []) rfl (Nat.le_of_ble_eq_true rfl) dX12_word_26 (fun r3 I2 J1 hw => ?_)
      exact wm_ireturn hC hE dX12_word_29 ⟨rfl, hw⟩
def P12_choice (l0 : Nat) (l1 : Int) (l2 : Int) (I : mI) (J : mI) (R : mR) (Q : Int → mI → mI → Prop) : Prop := (P12_isThing l0 l1 I R (fun r1 => (if r1 = 0 then (Q (-1) I J) else (P12_is l2 0 1 (fun r2 => (if r2 = 0 then (Q (-1) I J) else (P12_everybody l0 I R (fun r3 => (P12_choiceOf l0 0 l1 r3 I J R (fun r4 I1 J1 => (if r4 = (-1) then (Q r4 I1 J1) else (if l2 = 0 then (Q r4 I1 J1) else (kK (R l0 58) = 21 ∧ (((0 : Int) ≤ r4 ∧ r4 < (kN (R l0 58) : Int)) ∧ (Q (I1 (R l0 58) r4) I1 J1)))))))))))))))
set_option maxRecDepth 20000 in
theorem C12_choice {ad : Nat → Nat} {n : Nat} {I J : mI} {R : mR} {Q : Int → mI → mI → Prop}  {l0 : Nat} {l1 : Int} {l2 : Int} (hk0 : kK l0 = 12) (hw : P12_choice l0 l1 l2 I J R Q) : wMet yX12_choice cX12_choice 4 (some .int) 8 188 false ad n I J R [vr l0, vi l1, vi l2] (fun r I' J' R' => (R' = R) ∧ Q r I' J') := by
  refine wMet_of (by decide) (Nat.le_of_ble_eq_true rfl) (fun C hC hRm hE hS => ?_)
  refine (show WM C ad n I J R 0 0 0 [(0, vr l0), (1, vi l1), (2, vi l2)] [] from ?_)
  unfold P12_choice at hw
  refine wm_aload_n hC 0 dX12_choice_0 rfl (k_ne0 hk0 (by decide)) ?_
  refine wm_iload_n hC 1 dX12_choice_1 rfl ?_
  refine y_callV_z_n hC hRm noS ml_X12_513 hk0 (C12_isThing hk0 hw) (Nat.le_of_ble_eq_true rfl) (Nat.le_of_ble_eq_true rfl) ⟨Nat.zero_le _, Nat.zero_le _⟩ rfl (st := []) rfl (Nat.le_of_ble_eq_true rfl) dX12_choice_2 (fun r1 hw => ?_)
  refine wm_if_eq (tgt := 17) hC dX12_choice_5 (by decide) hw (fun hw => ?_) (fun hw => ?_)
  · refine wm_iconst hC dX12_choice_17 (k := ?_)
    exact wm_ireturn hC hE dX12_choice_18 ⟨rfl, hw⟩
  · refine wm_iload_n hC 2 dX12_choice_8 rfl ?_
    refine wm_iconst hC dX12_choice_9 (k := ?_)
    refine wm_iconst hC dX12_choice_10 (k := ?_)
    refine y_callS_z_n hC hRm noS ml_X12_309 (C12_is  hw) (Nat.le_of_ble_eq_true rfl) (Nat.le_of_ble_eq_true rfl) ⟨Nat.zero_le _, Nat.zero_le _⟩ rfl (st := []) rfl (Nat.le_of_ble_eq_true rfl) dX12_choice_11 (fun r2 hw => ?_)
    refine wm_if_ne (tgt := 19) hC dX12_choice_14 (by decide) hw (fun hw => ?_) (fun hw => ?_)
    · refine wm_iconst hC dX12_choice_17 (k := ?_)
      exact wm_ireturn hC hE dX12_choice_18 ⟨rfl, hw⟩
    · refine wm_aload_n hC 0 dX12_choice_19 rfl (k_ne0 hk0 (by decide)) ?_
      refine wm_iconst hC dX12_choice_20 (k := ?_)
      refine wm_iload_n hC 1 dX12_choice_21 rfl ?_
      refine wm_aload_n hC 0 dX12_choice_22 rfl (k_ne0 hk0 (by decide)) ?_
      refine y_callV_i_n hC hRm noS ml_X12_487 hk0 (C12_everybody hk0 hw) (Nat.le_of_ble_eq_true rfl) (Nat.le_of_ble_eq_true rfl) ⟨Nat.zero_le _, Nat.zero_le _⟩ rfl (st := [vi l1, vi 0, vr l0]) rfl (Nat.le_of_ble_eq_true rfl) dX12_choice_23 (fun r3 hw => ?_)
      refine y_callV_i_IJ hC hRm noS ml_X12_491 hk0 (C12_choiceOf hk0 hw) (Nat.le_of_ble_eq_true rfl) (Nat.le_of_ble_eq_true rfl) ⟨Nat.zero_le _, Nat.zero_le _⟩ rfl (st := []) rfl (Nat.le_of_ble_eq_true rfl) dX12_choice_26 (fun r4 I1 J1 hw => ?_)
      refine wm_istore_n hC dX12_choice_29 (by decide) (L2 := [(3, vi r4), (0, vr l0), (1, vi l1), (2, vi l2)]) rfl ?_
      refine wm_iload_n hC 0 dX12_choice_30 rfl ?_
      refine wm_iconst hC dX12_choice_31 (k := ?_)
      refine wm_icmp_eq (tgt := 39) hC dX12_choice_32 (by decide) hw (fun hw => ?_) (fun hw => ?_)
      · refine wm_iload_n hC 0 dX12_choice_39 rfl ?_
        refine wm_goto (tgt := 49) hC dX12_choice_40 (by decide) ?_
        exact wm_ireturn hC hE dX12_choice_49 ⟨rfl, hw⟩
      · refine wm_iload_n hC 3 dX12_choice_35 rfl ?_
        refine wm_if_ne (tgt := 43) hC dX12_choice_36 (by decide) hw (fun hw => ?_) (fun hw => ?_)
        · refine wm_iload_n hC 0 dX12_choice_39 rfl ?_
          refine wm_goto (tgt := 49) hC dX12_choice_40 (by decide) ?_
          exact wm_ireturn hC hE dX12_choice_49 ⟨rfl, hw⟩
        · refine wm_aload_n hC 1 dX12_choice_43 rfl (k_ne0 hk0 (by decide)) ?_
          refine x_getR2 hC 58 fl_X12_189 rfl hk0 dX12_choice_44 hw (fun g1 hw => ?_)
          refine wm_iload_n hC 0 dX12_choice_47 rfl ?_
          refine x_iald hC g1 dX12_choice_48 hw (fun hw => ?_)
          exact wm_ireturn hC hE dX12_choice_49 ⟨rfl, hw⟩
def P12_isAhead (l0 : Nat) (l1 : Int) (l2 : Int) (l3 : Int) (I : mI) (R : mR) (Q : Int → Prop) : Prop := (P12_is l1 l2 l3 (fun r1 => (if r1 = 0 then (Q 0) else (kK (R l0 45) = 21 ∧ (((0 : Int) ≤ (0 : Int) ∧ (0 : Int) < (kN (R l0 45) : Int)) ∧ (rg (999 - l1) ∧ (if (999 - l1) < (I (R l0 45) (0 : Int)) then (Q 0) else (Q 1))))))))
set_option maxRecDepth 20000 in
theorem C12_isAhead {ad : Nat → Nat} {n : Nat} {I J : mI} {R : mR} {Q : Int → Prop}  {l0 : Nat} {l1 : Int} {l2 : Int} {l3 : Int} (hk0 : kK l0 = 12) (hw : P12_isAhead l0 l1 l2 l3 I R Q) : wMet yX12_isAhead cX12_isAhead 4 (some .boolean) 2 34 false ad n I J R [vr l0, vi l1, vi l2, vi l3] (fun r I' J' R' => (I' = I ∧ J' = J ∧ R' = R) ∧ Q r) := by
  refine wMet_of (by decide) (Nat.le_of_ble_eq_true rfl) (fun C hC hRm hE hS => ?_)
  refine (show WM C ad n I J R 0 0 0 [(0, vr l0), (1, vi l1), (2, vi l2), (3, vi l3)] [] from ?_)
  unfold P12_isAhead at hw
  refine wm_iload_n hC 1 dX12_isAhead_0 rfl ?_
  refine wm_iload_n hC 2 dX12_isAhead_1 rfl ?_
  refine wm_iload_n hC 3 dX12_isAhead_2 rfl ?_
  refine y_callS_z_n hC hRm noS ml_X12_309 (C12_is  hw) (Nat.le_of_ble_eq_true rfl) (Nat.le_of_ble_eq_true rfl) ⟨Nat.zero_le _, Nat.zero_le _⟩ rfl (st := []) rfl (Nat.le_of_ble_eq_true rfl) dX12_isAhead_3 (fun r1 hw => ?_)
  refine wm_if_eq (tgt := 27) hC dX12_isAhead_6 (by decide) hw (fun hw => ?_) (fun hw => ?_)
  · refine wm_iconst hC dX12_isAhead_27 (k := ?_)
    exact wm_zreturn hC hE (Or.inl rfl) dX12_isAhead_28 ⟨⟨rfl, rfl, rfl⟩, hw⟩
  · refine wm_aload_n hC 0 dX12_isAhead_9 rfl (k_ne0 hk0 (by decide)) ?_
    refine x_getR2 hC 45 fl_X12_150 rfl hk0 dX12_isAhead_10 hw (fun g1 hw => ?_)
    refine wm_iconst hC dX12_isAhead_13 (k := ?_)
    refine x_iald hC g1 dX12_isAhead_14 hw (fun hw => ?_)
    refine wm_sipush hC dX12_isAhead_15 (k := ?_)
    refine wm_iload_n hC 1 dX12_isAhead_18 rfl ?_
    refine x_isub hC dX12_isAhead_19 hw (fun hw => ?_)
    refine wm_icmp_gt (tgt := 27) hC dX12_isAhead_20 (by decide) hw (fun hw => ?_) (fun hw => ?_)
    · refine wm_iconst hC dX12_isAhead_27 (k := ?_)
      exact wm_zreturn hC hE (Or.inl rfl) dX12_isAhead_28 ⟨⟨rfl, rfl, rfl⟩, hw⟩
    · refine wm_iconst hC dX12_isAhead_23 (k := ?_)
      refine wm_goto (tgt := 28) hC dX12_isAhead_24 (by decide) ?_
      exact wm_zreturn hC hE (Or.inr rfl) dX12_isAhead_28 ⟨⟨rfl, rfl, rfl⟩, hw⟩
def P12_runsOn_b2_body (l0 : Nat) (l1 : Int) (R : mR) (Q : mI → mI → Prop) (k2 : Int → mI → mI → Prop) (l2 : Int) (I : mI) (J : mI) : Prop := (if l1 ≤ l2 then (Q I J) else (P12_ticks l0 1 (-1) I J R (fun r1 I1 J1 => (rg (l2 + 1) ∧ (k2 (l2 + 1) I1 J1)))))
def P12_runsOn_b2 (l0 : Nat) (l1 : Int) (R : mR) (Q : mI → mI → Prop) : Nat → Int → mI → mI → Prop
  | 0 => fun _ _ _ => False
  | f + 1 => fun l2 I J => P12_runsOn_b2_body l0 l1 R Q (P12_runsOn_b2 l0 l1 R Q f) l2 I J
set_option maxRecDepth 20000 in
theorem W12_runsOn_b2_body {C : wX} {ad : Nat → Nat} {n : Nat} {I J : mI} {R : mR} {Q : mI → mI → Prop} (hC : wOK C cX12_runsOn 3 RX12) (hRm : wRm C 9 214 0 0) (hE : wEnd C none ad n (fun _ I' J' R' => (R' = R) ∧ Q I' J')) {l0 : Nat} {l1 : Int} {l2 : Int}   (hk0 : kK l0 = 12)  {k2 : Int → mI → mI → Prop} (kk2 : ∀ (y2 : Int) (I' : mI) (J' : mI), k2 y2 I' J' → WM C ad n I' J' R 0 0 2 [(0, vr l0), (1, vi l1), (2, vi y2)] []) (hw : P12_runsOn_b2_body l0 l1 R Q k2 l2 I J) : WM C ad n I J R 0 0 2 [(0, vr l0), (1, vi l1), (2, vi l2)] [] := by
  unfold P12_runsOn_b2_body at hw
  refine wm_iload_n hC 2 dX12_runsOn_2 rfl ?_
  refine wm_iload_n hC 1 dX12_runsOn_3 rfl ?_
  refine wm_icmp_ge (tgt := 20) hC dX12_runsOn_4 (by decide) hw (fun hw => ?_) (fun hw => ?_)
  · exact wm_return hC hE dX12_runsOn_20 ⟨rfl, hw⟩
  · refine wm_aload_n hC 0 dX12_runsOn_7 rfl (k_ne0 hk0 (by decide)) ?_
    refine wm_iconst hC dX12_runsOn_8 (k := ?_)
    refine wm_iconst hC dX12_runsOn_9 (k := ?_)
    refine y_callV_z_IJ hC hRm noS ml_X12_526 hk0 (C12_ticks hk0 hw) (Nat.le_of_ble_eq_true rfl) (Nat.le_of_ble_eq_true rfl) ⟨Nat.zero_le _, Nat.zero_le _⟩ rfl (st := []) rfl (Nat.le_of_ble_eq_true rfl) dX12_runsOn_10 (fun r1 I1 J1 hw => ?_)
    refine wm_pop hC dX12_runsOn_13 (k := ?_)
    refine x_iinc hC 2 dX12_runsOn_14 rfl (by decide) (L2 := [(2, vi (l2 + 1)), (0, vr l0), (1, vi l1)]) rfl hw (fun hw => ?_)
    refine wm_goto (tgt := 2) hC dX12_runsOn_17 (by decide) ?_
    refine wm_sub [1, 2, 0] (L2 := [(0, vr l0), (1, vi l1), (2, vi (l2 + 1))]) rfl ?_
    exact kk2 _ _ _ hw
set_option maxRecDepth 20000 in
theorem W12_runsOn_b2 {C : wX} {ad : Nat → Nat} {n : Nat} {R : mR} {Q : mI → mI → Prop} (hC : wOK C cX12_runsOn 3 RX12) (hRm : wRm C 9 214 0 0) (hE : wEnd C none ad n (fun _ I' J' R' => (R' = R) ∧ Q I' J')) {l0 : Nat} {l1 : Int}   (hk0 : kK l0 = 12)  : ∀ (f : Nat) (l2 : Int) (I : mI) (J : mI), P12_runsOn_b2 l0 l1 R Q f l2 I J → WM C ad n I J R 0 0 2 [(0, vr l0), (1, vi l1), (2, vi l2)] [] := by
  intro f
  induction f with
  | zero => intro l2 I J hw; exact hw.elim
  | succ f ih => intro l2 I J hw; exact W12_runsOn_b2_body hC hRm hE hk0 (fun a0 a1 a2 hw => ih a0 a1 a2 hw) hw
def P12_runsOn (l0 : Nat) (l1 : Int) (I : mI) (J : mI) (R : mR) (Q : mI → mI → Prop) : Prop := (∃ f, P12_runsOn_b2 l0 l1 R Q f 0 I J)
set_option maxRecDepth 20000 in
theorem C12_runsOn {ad : Nat → Nat} {n : Nat} {I J : mI} {R : mR} {Q : mI → mI → Prop}  {l0 : Nat} {l1 : Int} (hk0 : kK l0 = 12) (hw : P12_runsOn l0 l1 I J R Q) : wMet yX12_runsOn cX12_runsOn 3 none 9 214 false ad n I J R [vr l0, vi l1] (fun _ I' J' R' => (R' = R) ∧ Q I' J') := by
  refine wMet_of (by decide) (Nat.le_of_ble_eq_true rfl) (fun C hC hRm hE hS => ?_)
  refine (show WM C ad n I J R 0 0 0 [(0, vr l0), (1, vi l1)] [] from ?_)
  unfold P12_runsOn at hw
  refine wm_iconst hC dX12_runsOn_0 (k := ?_)
  refine wm_istore_n hC dX12_runsOn_1 (by decide) (L2 := [(2, vi 0), (0, vr l0), (1, vi l1)]) rfl ?_
  obtain ⟨f, hw⟩ := hw
  refine wm_sub [1, 2, 0] (L2 := [(0, vr l0), (1, vi l1), (2, vi 0)]) rfl ?_
  exact W12_runsOn_b2 hC hRm hE hk0 f _ _ _ hw
def P12_later (l0 : Nat) (l1 : Int) (l2 : Int) (I : mI) (J : mI) (R : mR) (Q : Int → mI → mI → Prop) : Prop := (P12_isThing l0 l1 I R (fun r1 => (if r1 = 0 then (Q (-1) I J) else (P12_isAhead l0 l2 0 40 I R (fun r2 => (if r2 = 0 then (Q (-1) I J) else (P12_copies l0 1 0 I R (fun I1 => (P12_runsOn l0 l2 I1 J R (fun I2 J1 => (kK (R l0 49) = 21 ∧ (rg (6 + l1) ∧ (((0 : Int) ≤ (6 + l1) ∧ (6 + l1) < (kN (R l0 49) : Int)) ∧ (Q (I2 (R l0 49) (6 + l1)) I2 J1))))))))))))))
set_option maxRecDepth 20000 in
theorem C12_later {ad : Nat → Nat} {n : Nat} {I J : mI} {R : mR} {Q : Int → mI → mI → Prop}  {l0 : Nat} {l1 : Int} {l2 : Int} (hk0 : kK l0 = 12) (hw : P12_later l0 l1 l2 I J R Q) : wMet yX12_later cX12_later 3 (some .int) 10 236 false ad n I J R [vr l0, vi l1, vi l2] (fun r I' J' R' => (R' = R) ∧ Q r I' J') := by
  refine wMet_of (by decide) (Nat.le_of_ble_eq_true rfl) (fun C hC hRm hE hS => ?_)
  refine (show WM C ad n I J R 0 0 0 [(0, vr l0), (1, vi l1), (2, vi l2)] [] from ?_)
  unfold P12_later at hw
  refine wm_aload_n hC 0 dX12_later_0 rfl (k_ne0 hk0 (by decide)) ?_
  refine wm_iload_n hC 1 dX12_later_1 rfl ?_
  refine y_callV_z_n hC hRm noS ml_X12_513 hk0 (C12_isThing hk0 hw) (Nat.le_of_ble_eq_true rfl) (Nat.le_of_ble_eq_true rfl) ⟨Nat.zero_le _, Nat.zero_le _⟩ rfl (st := []) rfl (Nat.le_of_ble_eq_true rfl) dX12_later_2 (fun r1 hw => ?_)
  refine wm_if_eq (tgt := 19) hC dX12_later_5 (by decide) hw (fun hw => ?_) (fun hw => ?_)
  · refine wm_iconst hC dX12_later_19 (k := ?_)
    exact wm_ireturn hC hE dX12_later_20 ⟨rfl, hw⟩
  · refine wm_aload_n hC 0 dX12_later_8 rfl (k_ne0 hk0 (by decide)) ?_
    refine wm_iload_n hC 2 dX12_later_9 rfl ?_
    refine wm_iconst hC dX12_later_10 (k := ?_)
    refine wm_bipush hC dX12_later_11 (k := ?_)
    refine y_callV_z_n hC hRm noS ml_X12_529 hk0 (C12_isAhead hk0 hw) (Nat.le_of_ble_eq_true rfl) (Nat.le_of_ble_eq_true rfl) ⟨Nat.zero_le _, Nat.zero_le _⟩ rfl (st := []) rfl (Nat.le_of_ble_eq_true rfl) dX12_later_13 (fun r2 hw => ?_)
    refine wm_if_ne (tgt := 21) hC dX12_later_16 (by decide) hw (fun hw => ?_) (fun hw => ?_)
    · refine wm_iconst hC dX12_later_19 (k := ?_)
      exact wm_ireturn hC hE dX12_later_20 ⟨rfl, hw⟩
    · refine wm_aload_n hC 0 dX12_later_21 rfl (k_ne0 hk0 (by decide)) ?_
      refine wm_iconst hC dX12_later_22 (k := ?_)
      refine wm_iconst hC dX12_later_23 (k := ?_)
      refine y_callV_v_I hC hRm noS ml_X12_424 hk0 (C12_copies hk0 hw) (Nat.le_of_ble_eq_true rfl) (Nat.le_of_ble_eq_true rfl) ⟨Nat.zero_le _, Nat.zero_le _⟩ rfl (st := []) rfl (Nat.le_of_ble_eq_true rfl) dX12_later_24 (fun I1 hw => ?_)
      refine wm_aload_n hC 0 dX12_later_27 rfl (k_ne0 hk0 (by decide)) ?_
      refine wm_iload_n hC 2 dX12_later_28 rfl ?_
      refine y_callV_v_IJ hC hRm noS ml_X12_532 hk0 (C12_runsOn hk0 hw) (Nat.le_of_ble_eq_true rfl) (Nat.le_of_ble_eq_true rfl) ⟨Nat.zero_le _, Nat.zero_le _⟩ rfl (st := []) rfl (Nat.le_of_ble_eq_true rfl) dX12_later_29 (fun I2 J1 hw => ?_)
      refine wm_aload_n hC 0 dX12_later_32 rfl (k_ne0 hk0 (by decide)) ?_
      refine x_getR2 hC 49 fl_X12_162 rfl hk0 dX12_later_33 hw (fun g1 hw => ?_)
      refine wm_bipush hC dX12_later_36 (k := ?_)
      refine wm_iload_n hC 1 dX12_later_38 rfl ?_
      refine x_iadd hC dX12_later_39 hw (fun hw => ?_)
      refine x_iald hC g1 dX12_later_40 hw (fun hw => ?_)
      exact wm_ireturn hC hE dX12_later_41 ⟨rfl, hw⟩
def P12_mood (l0 : Nat) (l1 : Int) (l2 : Int) (I : mI) (J : mI) (R : mR) (Q : Int → mI → mI → Prop) : Prop := (P12_isBlind l0 l1 I R (fun r1 => (if r1 = 0 then (Q (-1) I J) else (P12_isAhead l0 l2 0 40 I R (fun r2 => (if r2 = 0 then (Q (-1) I J) else (P12_copies l0 1 0 I R (fun I1 => (P12_runsOn l0 l2 I1 J R (fun I2 J1 => (kK (R l0 48) = 21 ∧ (rg (6 + l1) ∧ (((0 : Int) ≤ (6 + l1) ∧ (6 + l1) < (kN (R l0 48) : Int)) ∧ (Q (I2 (R l0 48) (6 + l1)) I2 J1))))))))))))))
set_option maxRecDepth 20000 in
theorem C12_mood {ad : Nat → Nat} {n : Nat} {I J : mI} {R : mR} {Q : Int → mI → mI → Prop}  {l0 : Nat} {l1 : Int} {l2 : Int} (hk0 : kK l0 = 12) (hw : P12_mood l0 l1 l2 I J R Q) : wMet yX12_mood cX12_mood 3 (some .int) 10 236 false ad n I J R [vr l0, vi l1, vi l2] (fun r I' J' R' => (R' = R) ∧ Q r I' J') := by
  refine wMet_of (by decide) (Nat.le_of_ble_eq_true rfl) (fun C hC hRm hE hS => ?_)
  refine (show WM C ad n I J R 0 0 0 [(0, vr l0), (1, vi l1), (2, vi l2)] [] from ?_)
  unfold P12_mood at hw
  refine wm_aload_n hC 0 dX12_mood_0 rfl (k_ne0 hk0 (by decide)) ?_
  refine wm_iload_n hC 1 dX12_mood_1 rfl ?_
  refine y_callV_z_n hC hRm noS ml_X12_507 hk0 (C12_isBlind hk0 hw) (Nat.le_of_ble_eq_true rfl) (Nat.le_of_ble_eq_true rfl) ⟨Nat.zero_le _, Nat.zero_le _⟩ rfl (st := []) rfl (Nat.le_of_ble_eq_true rfl) dX12_mood_2 (fun r1 hw => ?_)
  refine wm_if_eq (tgt := 19) hC dX12_mood_5 (by decide) hw (fun hw => ?_) (fun hw => ?_)
  · refine wm_iconst hC dX12_mood_19 (k := ?_)
    exact wm_ireturn hC hE dX12_mood_20 ⟨rfl, hw⟩
  · refine wm_aload_n hC 0 dX12_mood_8 rfl (k_ne0 hk0 (by decide)) ?_
    refine wm_iload_n hC 2 dX12_mood_9 rfl ?_
    refine wm_iconst hC dX12_mood_10 (k := ?_)
    refine wm_bipush hC dX12_mood_11 (k := ?_)
    refine y_callV_z_n hC hRm noS ml_X12_529 hk0 (C12_isAhead hk0 hw) (Nat.le_of_ble_eq_true rfl) (Nat.le_of_ble_eq_true rfl) ⟨Nat.zero_le _, Nat.zero_le _⟩ rfl (st := []) rfl (Nat.le_of_ble_eq_true rfl) dX12_mood_13 (fun r2 hw => ?_)
    refine wm_if_ne (tgt := 21) hC dX12_mood_16 (by decide) hw (fun hw => ?_) (fun hw => ?_)
    · refine wm_iconst hC dX12_mood_19 (k := ?_)
      exact wm_ireturn hC hE dX12_mood_20 ⟨rfl, hw⟩
    · refine wm_aload_n hC 0 dX12_mood_21 rfl (k_ne0 hk0 (by decide)) ?_
      refine wm_iconst hC dX12_mood_22 (k := ?_)
      refine wm_iconst hC dX12_mood_23 (k := ?_)
      refine y_callV_v_I hC hRm noS ml_X12_424 hk0 (C12_copies hk0 hw) (Nat.le_of_ble_eq_true rfl) (Nat.le_of_ble_eq_true rfl) ⟨Nat.zero_le _, Nat.zero_le _⟩ rfl (st := []) rfl (Nat.le_of_ble_eq_true rfl) dX12_mood_24 (fun I1 hw => ?_)
      refine wm_aload_n hC 0 dX12_mood_27 rfl (k_ne0 hk0 (by decide)) ?_
      refine wm_iload_n hC 2 dX12_mood_28 rfl ?_
      refine y_callV_v_IJ hC hRm noS ml_X12_532 hk0 (C12_runsOn hk0 hw) (Nat.le_of_ble_eq_true rfl) (Nat.le_of_ble_eq_true rfl) ⟨Nat.zero_le _, Nat.zero_le _⟩ rfl (st := []) rfl (Nat.le_of_ble_eq_true rfl) dX12_mood_29 (fun I2 J1 hw => ?_)
      refine wm_aload_n hC 0 dX12_mood_32 rfl (k_ne0 hk0 (by decide)) ?_
      refine x_getR2 hC 48 fl_X12_159 rfl hk0 dX12_mood_33 hw (fun g1 hw => ?_)
      refine wm_bipush hC dX12_mood_36 (k := ?_)
      refine wm_iload_n hC 1 dX12_mood_38 rfl ?_
      refine x_iadd hC dX12_mood_39 hw (fun hw => ?_)
      refine x_iald hC g1 dX12_mood_40 hw (fun hw => ?_)
      exact wm_ireturn hC hE dX12_mood_41 ⟨rfl, hw⟩
def P12_purse (l0 : Nat) (l1 : Int) (I : mI) (J : mI) (R : mR) (Q : Int → mI → mI → Prop) : Prop := (P12_isAhead l0 l1 0 40 I R (fun r1 => (if r1 = 0 then (Q (-1) I J) else (P12_copies l0 1 0 I R (fun I1 => (P12_runsOn l0 l1 I1 J R (fun I2 J1 => (kK (R l0 46) = 21 ∧ (((0 : Int) ≤ (1 : Int) ∧ (1 : Int) < (kN (R l0 46) : Int)) ∧ (Q (I2 (R l0 46) (1 : Int)) I2 J1))))))))))
set_option maxRecDepth 20000 in
theorem C12_purse {ad : Nat → Nat} {n : Nat} {I J : mI} {R : mR} {Q : Int → mI → mI → Prop}  {l0 : Nat} {l1 : Int} (hk0 : kK l0 = 12) (hw : P12_purse l0 l1 I J R Q) : wMet yX12_purse cX12_purse 2 (some .int) 10 236 false ad n I J R [vr l0, vi l1] (fun r I' J' R' => (R' = R) ∧ Q r I' J') := by
  refine wMet_of (by decide) (Nat.le_of_ble_eq_true rfl) (fun C hC hRm hE hS => ?_)
  refine (show WM C ad n I J R 0 0 0 [(0, vr l0), (1, vi l1)] [] from ?_)
  unfold P12_purse at hw
  refine wm_aload_n hC 0 dX12_purse_0 rfl (k_ne0 hk0 (by decide)) ?_
  refine wm_iload_n hC 1 dX12_purse_1 rfl ?_
  refine wm_iconst hC dX12_purse_2 (k := ?_)
  refine wm_bipush hC dX12_purse_3 (k := ?_)
  refine y_callV_z_n hC hRm noS ml_X12_529 hk0 (C12_isAhead hk0 hw) (Nat.le_of_ble_eq_true rfl) (Nat.le_of_ble_eq_true rfl) ⟨Nat.zero_le _, Nat.zero_le _⟩ rfl (st := []) rfl (Nat.le_of_ble_eq_true rfl) dX12_purse_5 (fun r1 hw => ?_)
  refine wm_if_ne (tgt := 13) hC dX12_purse_8 (by decide) hw (fun hw => ?_) (fun hw => ?_)
  · refine wm_iconst hC dX12_purse_11 (k := ?_)
    exact wm_ireturn hC hE dX12_purse_12 ⟨rfl, hw⟩
  · refine wm_aload_n hC 0 dX12_purse_13 rfl (k_ne0 hk0 (by decide)) ?_
    refine wm_iconst hC dX12_purse_14 (k := ?_)
    refine wm_iconst hC dX12_purse_15 (k := ?_)
    refine y_callV_v_I hC hRm noS ml_X12_424 hk0 (C12_copies hk0 hw) (Nat.le_of_ble_eq_true rfl) (Nat.le_of_ble_eq_true rfl) ⟨Nat.zero_le _, Nat.zero_le _⟩ rfl (st := []) rfl (Nat.le_of_ble_eq_true rfl) dX12_purse_16 (fun I1 hw => ?_)
    refine wm_aload_n hC 0 dX12_purse_19 rfl (k_ne0 hk0 (by decide)) ?_
    refine wm_iload_n hC 1 dX12_purse_20 rfl ?_
    refine y_callV_v_IJ hC hRm noS ml_X12_532 hk0 (C12_runsOn hk0 hw) (Nat.le_of_ble_eq_true rfl) (Nat.le_of_ble_eq_true rfl) ⟨Nat.zero_le _, Nat.zero_le _⟩ rfl (st := []) rfl (Nat.le_of_ble_eq_true rfl) dX12_purse_21 (fun I2 J1 hw => ?_)
    refine wm_aload_n hC 0 dX12_purse_24 rfl (k_ne0 hk0 (by decide)) ?_
    refine x_getR2 hC 46 fl_X12_153 rfl hk0 dX12_purse_25 hw (fun g1 hw => ?_)
    refine wm_iconst hC dX12_purse_28 (k := ?_)
    refine x_iald hC g1 dX12_purse_29 hw (fun hw => ?_)
    exact wm_ireturn hC hE dX12_purse_30 ⟨rfl, hw⟩
def P12_rowsOf_b4_body (l0 : Nat) (I : mI) (R : mR) (Q : Int → Prop) (k4 : Int → Int → Prop) (l1 : Int) (l2 : Int) : Prop := (kK (R l0 14) = 21 ∧ (((0 : Int) ≤ (I l0 13) ∧ (I l0 13) < (kN (R l0 14) : Int)) ∧ (if (I (R l0 14) (I l0 13)) < l2 then (Q l1) else (rg (l1 * l2) ∧ (rg (l2 + 1) ∧ (k4 (l1 * l2) (l2 + 1)))))))
def P12_rowsOf_b4 (l0 : Nat) (I : mI) (R : mR) (Q : Int → Prop) : Nat → Int → Int → Prop
  | 0 => fun _ _ => False
  | f + 1 => fun l1 l2 => P12_rowsOf_b4_body l0 I R Q (P12_rowsOf_b4 l0 I R Q f) l1 l2
set_option maxRecDepth 20000 in
theorem W12_rowsOf_b4_body {C : wX} {ad : Nat → Nat} {n : Nat} {I J : mI} {R : mR} {Q : Int → Prop} (hC : wOK C cX12_rowsOf 3 RX12) (hRm : wRm C 1 12 0 0) (hE : wEnd C (some .int) ad n (fun r I' J' R' => (I' = I ∧ J' = J ∧ R' = R) ∧ Q r)) {l0 : Nat} {l1 : Int} {l2 : Int}   (hk0 : kK l0 = 12)  {k4 : Int → Int → Prop} (kk4 : ∀ (y1 : Int) (y2 : Int), k4 y1 y2 → WM C ad n I J R 0 0 4 [(0, vr l0), (1, vi y1), (2, vi y2)] []) (hw : P12_rowsOf_b4_body l0 I R Q k4 l1 l2) : WM C ad n I J R 0 0 4 [(0, vr l0), (1, vi l1), (2, vi l2)] [] := by
  unfold P12_rowsOf_b4_body at hw
  refine wm_iload_n hC 2 dX12_rowsOf_4 rfl ?_
  refine wm_aload_n hC 0 dX12_rowsOf_5 rfl (k_ne0 hk0 (by decide)) ?_
  refine x_getR2 hC 14 fl_X12_54 rfl hk0 dX12_rowsOf_6 hw (fun g1 hw => ?_)
  refine wm_aload_n hC 0 dX12_rowsOf_9 rfl (k_ne0 hk0 (by decide)) ?_
  refine x_getI hC 13 fl_X12_51 rfl hk0 dX12_rowsOf_10 ?_
  refine x_iald hC g1 dX12_rowsOf_13 hw (fun hw => ?_)
  refine wm_icmp_gt (tgt := 27) hC dX12_rowsOf_14 (by decide) hw (fun hw => ?_) (fun hw => ?_)
  · refine wm_iload_n hC 1 dX12_rowsOf_27 rfl ?_
    exact wm_ireturn hC hE dX12_rowsOf_28 ⟨⟨rfl, rfl, rfl⟩, hw⟩
  · refine wm_iload_n hC 1 dX12_rowsOf_17 rfl ?_
    refine wm_iload_n hC 2 dX12_rowsOf_18 rfl ?_
    refine x_imul hC dX12_rowsOf_19 hw (fun hw => ?_)
    refine wm_istore_n hC dX12_rowsOf_20 (by decide) (L2 := [(1, vi (l1 * l2)), (0, vr l0), (2, vi l2)]) rfl ?_
    refine x_iinc hC 2 dX12_rowsOf_21 rfl (by decide) (L2 := [(2, vi (l2 + 1)), (1, vi (l1 * l2)), (0, vr l0)]) rfl hw (fun hw => ?_)
    refine wm_goto (tgt := 4) hC dX12_rowsOf_24 (by decide) ?_
    refine wm_sub [2, 1, 0] (L2 := [(0, vr l0), (1, vi (l1 * l2)), (2, vi (l2 + 1))]) rfl ?_
    exact kk4 _ _ hw
set_option maxRecDepth 20000 in
theorem W12_rowsOf_b4 {C : wX} {ad : Nat → Nat} {n : Nat} {I J : mI} {R : mR} {Q : Int → Prop} (hC : wOK C cX12_rowsOf 3 RX12) (hRm : wRm C 1 12 0 0) (hE : wEnd C (some .int) ad n (fun r I' J' R' => (I' = I ∧ J' = J ∧ R' = R) ∧ Q r)) {l0 : Nat}   (hk0 : kK l0 = 12)  : ∀ (f : Nat) (l1 : Int) (l2 : Int), P12_rowsOf_b4 l0 I R Q f l1 l2 → WM C ad n I J R 0 0 4 [(0, vr l0), (1, vi l1), (2, vi l2)] [] := by
  intro f
  induction f with
  | zero => intro l1 l2 hw; exact hw.elim
  | succ f ih => intro l1 l2 hw; exact W12_rowsOf_b4_body hC hRm hE hk0 (fun a0 a1 hw => ih a0 a1 hw) hw
def P12_rowsOf (l0 : Nat) (I : mI) (R : mR) (Q : Int → Prop) : Prop := (∃ f, P12_rowsOf_b4 l0 I R Q f 1 2)
set_option maxRecDepth 20000 in
theorem C12_rowsOf {ad : Nat → Nat} {n : Nat} {I J : mI} {R : mR} {Q : Int → Prop}  {l0 : Nat} (hk0 : kK l0 = 12) (hw : P12_rowsOf l0 I R Q) : wMet yX12_rowsOf cX12_rowsOf 3 (some .int) 1 12 false ad n I J R [vr l0] (fun r I' J' R' => (I' = I ∧ J' = J ∧ R' = R) ∧ Q r) := by
  refine wMet_of (by decide) (Nat.le_of_ble_eq_true rfl) (fun C hC hRm hE hS => ?_)
  refine (show WM C ad n I J R 0 0 0 [(0, vr l0)] [] from ?_)
  unfold P12_rowsOf at hw
  refine wm_iconst hC dX12_rowsOf_0 (k := ?_)
  refine wm_istore_n hC dX12_rowsOf_1 (by decide) (L2 := [(1, vi 1), (0, vr l0)]) rfl ?_
  refine wm_iconst hC dX12_rowsOf_2 (k := ?_)
  refine wm_istore_n hC dX12_rowsOf_3 (by decide) (L2 := [(2, vi 2), (1, vi 1), (0, vr l0)]) rfl ?_
  obtain ⟨f, hw⟩ := hw
  refine wm_sub [2, 1, 0] (L2 := [(0, vr l0), (1, vi 1), (2, vi 2)]) rfl ?_
  exact W12_rowsOf_b4 hC hRm hE hk0 f _ _ hw
def P12_laysOrder_b55_body (l0 : Nat) (l2 : Int) (l3 : Int) (l4 : Int) (l5 : Int) (l6 : Int) (I : mI) (R : mR) (k24 : Int → Int → Int → Int → mI → Prop) (Q : mI → Prop) (k55 : Int → Int → Prop) (l7 : Int) (l8 : Int) : Prop := (if l4 ≤ l8 then (rg (l6 + 1) ∧ (k24 l2 l3 l5 (l6 + 1) I)) else (P12_has2 l3 l8 (fun r2 => (if r2 = 0 then (if l7 = 0 then (kK (R l0 60) = 21 ∧ (((0 : Int) ≤ l6 ∧ l6 < (kN (R l0 60) : Int)) ∧ wLet (up I (R l0 60) l6 l8) (fun I1 => (rg (l6 + 1) ∧ (k24 l2 (bOr l3 (bShl 1 l8)) l5 (l6 + 1) I1))))) else (rg (l7 + (-1)) ∧ (rg (l8 + 1) ∧ (k55 (l7 + (-1)) (l8 + 1))))) else (rg (l8 + 1) ∧ (k55 l7 (l8 + 1)))))))
def P12_laysOrder_b55 (l0 : Nat) (l2 : Int) (l3 : Int) (l4 : Int) (l5 : Int) (l6 : Int) (I : mI) (R : mR) (k24 : Int → Int → Int → Int → mI → Prop) (Q : mI → Prop) : Nat → Int → Int → Prop
  | 0 => fun _ _ => False
  | f + 1 => fun l7 l8 => P12_laysOrder_b55_body l0 l2 l3 l4 l5 l6 I R k24 Q (P12_laysOrder_b55 l0 l2 l3 l4 l5 l6 I R k24 Q f) l7 l8
set_option maxRecDepth 20000 in
theorem W12_laysOrder_b55_body {C : wX} {ad : Nat → Nat} {n : Nat} {I J : mI} {R : mR} {Q : mI → Prop} (hC : wOK C cX12_laysOrder 9 RX12) (hRm : wRm C 2 34 0 0) (hE : wEnd C none ad n (fun _ I' J' R' => (J' = J ∧ R' = R) ∧ Q I')) {l0 : Nat} {l2 : Int} {l3 : Int} {l4 : Int} {l5 : Int} {l6 : Int} {l7 : Int} {l8 : Int}  {k24 : Int → Int → Int → Int → mI → Prop} (hk0 : kK l0 = 12) (kk24 : ∀ (y2 : Int) (y3 : Int) (y5 : Int) (y6 : Int) (I' : mI), k24 y2 y3 y5 y6 I' → WM C ad n I' J R 0 0 24 [(0, vr l0), (2, vi y2), (3, vi y3), (4, vi l4), (5, vi y5), (6, vi y6)] []) {k55 : Int → Int → Prop} (kk55 : ∀ (y7 : Int) (y8 : Int), k55 y7 y8 → WM C ad n I J R 0 0 55 [(0, vr l0), (2, vi l2), (3, vi l3), (4, vi l4), (5, vi l5), (6, vi l6), (7, vi y7), (8, vi y8)] []) (hw : P12_laysOrder_b55_body l0 l2 l3 l4 l5 l6 I R k24 Q k55 l7 l8) : WM C ad n I J R 0 0 55 [(0, vr l0), (2, vi l2), (3, vi l3), (4, vi l4), (5, vi l5), (6, vi l6), (7, vi l7), (8, vi l8)] [] := by
  unfold P12_laysOrder_b55_body at hw
  refine wm_iload hC 7 dX12_laysOrder_55 rfl ?_
  refine wm_iload hC 3 dX12_laysOrder_57 rfl ?_
  refine wm_icmp_ge (tgt := 107) hC dX12_laysOrder_59 (by decide) hw (fun hw => ?_) (fun hw => ?_)
  · refine x_iinc hC 5 dX12_laysOrder_107 rfl (by decide) (L2 := [(6, vi (l6 + 1)), (0, vr l0), (2, vi l2), (3, vi l3), (4, vi l4), (5, vi l5), (7, vi l7), (8, vi l8)]) rfl hw (fun hw => ?_)
    refine wm_goto (tgt := 24) hC dX12_laysOrder_110 (by decide) ?_
    refine wm_sub [1, 2, 3, 4, 5, 0] (L2 := [(0, vr l0), (2, vi l2), (3, vi l3), (4, vi l4), (5, vi l5), (6, vi (l6 + 1))]) rfl ?_
    exact kk24 _ _ _ _ _ hw
  · refine wm_iload_n hC 2 dX12_laysOrder_62 rfl ?_
    refine wm_iload hC 7 dX12_laysOrder_63 rfl ?_
    refine y_callS_z_n hC hRm noS ml_X12_351 (C12_has2  hw) (Nat.le_of_ble_eq_true rfl) (Nat.le_of_ble_eq_true rfl) ⟨Nat.zero_le _, Nat.zero_le _⟩ rfl (st := []) rfl (Nat.le_of_ble_eq_true rfl) dX12_laysOrder_65 (fun r2 hw => ?_)
    refine wm_if_eq (tgt := 74) hC dX12_laysOrder_68 (by decide) hw (fun hw => ?_) (fun hw => ?_)
    · refine wm_iload hC 6 dX12_laysOrder_74 rfl ?_
      refine wm_if_ne (tgt := 98) hC dX12_laysOrder_76 (by decide) hw (fun hw => ?_) (fun hw => ?_)
      · refine wm_aload_n hC 0 dX12_laysOrder_79 rfl (k_ne0 hk0 (by decide)) ?_
        refine x_getR2 hC 60 fl_X12_195 rfl hk0 dX12_laysOrder_80 hw (fun g2 hw => ?_)
        refine wm_iload hC 5 dX12_laysOrder_83 rfl ?_
        refine wm_iload hC 7 dX12_laysOrder_85 rfl ?_
        refine x_iast hC g2 dX12_laysOrder_87 hw (fun I1 hw => ?_)
        refine wm_iload_n hC 2 dX12_laysOrder_88 rfl ?_
        refine wm_iconst hC dX12_laysOrder_89 (k := ?_)
        refine wm_iload hC 7 dX12_laysOrder_90 rfl ?_
        refine wm_ishl hC dX12_laysOrder_92 ?_
        refine wm_ior hC dX12_laysOrder_93 ?_
        refine wm_istore_n hC dX12_laysOrder_94 (by decide) (L2 := [(3, vi (bOr l3 (bShl 1 l8))), (0, vr l0), (2, vi l2), (4, vi l4), (5, vi l5), (6, vi l6), (7, vi l7), (8, vi l8)]) rfl ?_
        refine wm_goto (tgt := 107) hC dX12_laysOrder_95 (by decide) ?_
        refine x_iinc hC 5 dX12_laysOrder_107 rfl (by decide) (L2 := [(6, vi (l6 + 1)), (3, vi (bOr l3 (bShl 1 l8))), (0, vr l0), (2, vi l2), (4, vi l4), (5, vi l5), (7, vi l7), (8, vi l8)]) rfl hw (fun hw => ?_)
        refine wm_goto (tgt := 24) hC dX12_laysOrder_110 (by decide) ?_
        refine wm_sub [2, 3, 1, 4, 5, 0] (L2 := [(0, vr l0), (2, vi l2), (3, vi (bOr l3 (bShl 1 l8))), (4, vi l4), (5, vi l5), (6, vi (l6 + 1))]) rfl ?_
        exact kk24 _ _ _ _ _ hw
      · refine x_iinc hC 6 dX12_laysOrder_98 rfl (by decide) (L2 := [(7, vi (l7 + (-1))), (0, vr l0), (2, vi l2), (3, vi l3), (4, vi l4), (5, vi l5), (6, vi l6), (8, vi l8)]) rfl hw (fun hw => ?_)
        refine x_iinc hC 7 dX12_laysOrder_101 rfl (by decide) (L2 := [(8, vi (l8 + 1)), (7, vi (l7 + (-1))), (0, vr l0), (2, vi l2), (3, vi l3), (4, vi l4), (5, vi l5), (6, vi l6)]) rfl hw (fun hw => ?_)
        refine wm_goto (tgt := 55) hC dX12_laysOrder_104 (by decide) ?_
        refine wm_sub [2, 3, 4, 5, 6, 7, 1, 0] (L2 := [(0, vr l0), (2, vi l2), (3, vi l3), (4, vi l4), (5, vi l5), (6, vi l6), (7, vi (l7 + (-1))), (8, vi (l8 + 1))]) rfl ?_
        exact kk55 _ _ hw
    · refine wm_goto (tgt := 101) hC dX12_laysOrder_71 (by decide) ?_
      refine x_iinc hC 7 dX12_laysOrder_101 rfl (by decide) (L2 := [(8, vi (l8 + 1)), (0, vr l0), (2, vi l2), (3, vi l3), (4, vi l4), (5, vi l5), (6, vi l6), (7, vi l7)]) rfl hw (fun hw => ?_)
      refine wm_goto (tgt := 55) hC dX12_laysOrder_104 (by decide) ?_
      refine wm_sub [1, 2, 3, 4, 5, 6, 7, 0] (L2 := [(0, vr l0), (2, vi l2), (3, vi l3), (4, vi l4), (5, vi l5), (6, vi l6), (7, vi l7), (8, vi (l8 + 1))]) rfl ?_
      exact kk55 _ _ hw
set_option maxRecDepth 20000 in
theorem W12_laysOrder_b55 {C : wX} {ad : Nat → Nat} {n : Nat} {I J : mI} {R : mR} {Q : mI → Prop} (hC : wOK C cX12_laysOrder 9 RX12) (hRm : wRm C 2 34 0 0) (hE : wEnd C none ad n (fun _ I' J' R' => (J' = J ∧ R' = R) ∧ Q I')) {l0 : Nat} {l2 : Int} {l3 : Int} {l4 : Int} {l5 : Int} {l6 : Int}  {k24 : Int → Int → Int → Int → mI → Prop} (hk0 : kK l0 = 12) (kk24 : ∀ (y2 : Int) (y3 : Int) (y5 : Int) (y6 : Int) (I' : mI), k24 y2 y3 y5 y6 I' → WM C ad n I' J R 0 0 24 [(0, vr l0), (2, vi y2), (3, vi y3), (4, vi l4), (5, vi y5), (6, vi y6)] []) : ∀ (f : Nat) (l7 : Int) (l8 : Int), P12_laysOrder_b55 l0 l2 l3 l4 l5 l6 I R k24 Q f l7 l8 → WM C ad n I J R 0 0 55 [(0, vr l0), (2, vi l2), (3, vi l3), (4, vi l4), (5, vi l5), (6, vi l6), (7, vi l7), (8, vi l8)] [] := by
  intro f
  induction f with
  | zero => intro l7 l8 hw; exact hw.elim
  | succ f ih => intro l7 l8 hw; exact W12_laysOrder_b55_body hC hRm hE hk0 kk24 (fun a0 a1 hw => ih a0 a1 hw) hw
def P12_laysOrder_b24_body (l0 : Nat) (l4 : Int) (R : mR) (Q : mI → Prop) (k24 : Int → Int → Int → Int → mI → Prop) (l2 : Int) (l3 : Int) (l5 : Int) (l6 : Int) (I : mI) : Prop := (if l4 ≤ l6 then (Q I) else (rg (l4 - l6) ∧ (((l4 - l6) ≠ 0 ∧ rg (Int.tdiv l5 (l4 - l6))) ∧ (wLet (Int.tdiv l5 (l4 - l6)) (fun x2 => ((x2 ≠ 0 ∧ rg (Int.tdiv l2 x2)) ∧ (x2 ≠ 0 ∧ (∃ f, P12_laysOrder_b55 l0 (Int.tmod l2 x2) l3 l4 x2 l6 I R k24 Q f (Int.tdiv l2 x2) 0))))))))
def P12_laysOrder_b24 (l0 : Nat) (l4 : Int) (R : mR) (Q : mI → Prop) : Nat → Int → Int → Int → Int → mI → Prop
  | 0 => fun _ _ _ _ _ => False
  | f + 1 => fun l2 l3 l5 l6 I => P12_laysOrder_b24_body l0 l4 R Q (P12_laysOrder_b24 l0 l4 R Q f) l2 l3 l5 l6 I
set_option maxRecDepth 20000 in
theorem W12_laysOrder_b24_body {C : wX} {ad : Nat → Nat} {n : Nat} {I J : mI} {R : mR} {Q : mI → Prop} (hC : wOK C cX12_laysOrder 9 RX12) (hRm : wRm C 2 34 0 0) (hE : wEnd C none ad n (fun _ I' J' R' => (J' = J ∧ R' = R) ∧ Q I')) {l0 : Nat} {l4 : Int} {l2 : Int} {l3 : Int} {l5 : Int} {l6 : Int}   (hk0 : kK l0 = 12)  {k24 : Int → Int → Int → Int → mI → Prop} (kk24 : ∀ (y2 : Int) (y3 : Int) (y5 : Int) (y6 : Int) (I' : mI), k24 y2 y3 y5 y6 I' → WM C ad n I' J R 0 0 24 [(0, vr l0), (2, vi y2), (3, vi y3), (4, vi l4), (5, vi y5), (6, vi y6)] []) (hw : P12_laysOrder_b24_body l0 l4 R Q k24 l2 l3 l5 l6 I) : WM C ad n I J R 0 0 24 [(0, vr l0), (2, vi l2), (3, vi l3), (4, vi l4), (5, vi l5), (6, vi l6)] [] := by
  unfold P12_laysOrder_b24_body at hw
  refine wm_iload hC 5 dX12_laysOrder_24 rfl ?_
  refine wm_iload hC 3 dX12_laysOrder_26 rfl ?_
  refine wm_icmp_ge (tgt := 113) hC dX12_laysOrder_28 (by decide) hw (fun hw => ?_) (fun hw => ?_)
  · exact wm_return hC hE dX12_laysOrder_113 ⟨⟨rfl, rfl⟩, hw⟩
  · refine wm_iload hC 4 dX12_laysOrder_31 rfl ?_
    refine wm_iload hC 3 dX12_laysOrder_33 rfl ?_
    refine wm_iload hC 5 dX12_laysOrder_35 rfl ?_
    refine x_isub hC dX12_laysOrder_37 hw (fun hw => ?_)
    refine x_idiv hC dX12_laysOrder_38 hw (fun hw => ?_)
    refine x_nameI hw (fun x2 hw => ?_)
    refine wm_istore hC dX12_laysOrder_39 (by decide) (L2 := [(5, vi x2), (0, vr l0), (2, vi l2), (3, vi l3), (4, vi l4), (6, vi l6)]) rfl ?_
    refine wm_iload_n hC 2 dX12_laysOrder_41 rfl ?_
    refine wm_iload hC 0 dX12_laysOrder_42 rfl ?_
    refine x_idiv hC dX12_laysOrder_44 hw (fun hw => ?_)
    refine wm_istore hC dX12_laysOrder_45 (by decide) (L2 := [(7, vi (Int.tdiv l2 x2)), (5, vi x2), (0, vr l0), (2, vi l2), (3, vi l3), (4, vi l4), (6, vi l6)]) rfl ?_
    refine wm_iload_n hC 3 dX12_laysOrder_47 rfl ?_
    refine wm_iload hC 1 dX12_laysOrder_48 rfl ?_
    refine x_irem hC dX12_laysOrder_50 hw (fun hw => ?_)
    refine wm_istore_n hC dX12_laysOrder_51 (by decide) (L2 := [(2, vi (Int.tmod l2 x2)), (7, vi (Int.tdiv l2 x2)), (5, vi x2), (0, vr l0), (3, vi l3), (4, vi l4), (6, vi l6)]) rfl ?_
    refine wm_iconst hC dX12_laysOrder_52 (k := ?_)
    refine wm_istore hC dX12_laysOrder_53 (by decide) (L2 := [(8, vi 0), (2, vi (Int.tmod l2 x2)), (7, vi (Int.tdiv l2 x2)), (5, vi x2), (0, vr l0), (3, vi l3), (4, vi l4), (6, vi l6)]) rfl ?_
    obtain ⟨f, hw⟩ := hw
    refine wm_sub [4, 1, 5, 6, 3, 7, 2, 0] (L2 := [(0, vr l0), (2, vi (Int.tmod l2 x2)), (3, vi l3), (4, vi l4), (5, vi x2), (6, vi l6), (7, vi (Int.tdiv l2 x2)), (8, vi 0)]) rfl ?_
    exact W12_laysOrder_b55 hC hRm hE hk0 kk24 f _ _ hw
set_option maxRecDepth 20000 in
theorem W12_laysOrder_b24 {C : wX} {ad : Nat → Nat} {n : Nat} {J : mI} {R : mR} {Q : mI → Prop} (hC : wOK C cX12_laysOrder 9 RX12) (hRm : wRm C 2 34 0 0) (hE : wEnd C none ad n (fun _ I' J' R' => (J' = J ∧ R' = R) ∧ Q I')) {l0 : Nat} {l4 : Int}   (hk0 : kK l0 = 12)  : ∀ (f : Nat) (l2 : Int) (l3 : Int) (l5 : Int) (l6 : Int) (I : mI), P12_laysOrder_b24 l0 l4 R Q f l2 l3 l5 l6 I → WM C ad n I J R 0 0 24 [(0, vr l0), (2, vi l2), (3, vi l3), (4, vi l4), (5, vi l5), (6, vi l6)] [] := by
  intro f
  induction f with
  | zero => intro l2 l3 l5 l6 I hw; exact hw.elim
  | succ f ih => intro l2 l3 l5 l6 I hw; exact W12_laysOrder_b24_body hC hRm hE hk0 (fun a0 a1 a2 a3 a4 hw => ih a0 a1 a2 a3 a4 hw) hw
def P12_laysOrder (l0 : Nat) (l1 : Int) (I : mI) (R : mR) (Q : mI → Prop) : Prop := (kK (R l0 14) = 21 ∧ (((0 : Int) ≤ (I l0 13) ∧ (I l0 13) < (kN (R l0 14) : Int)) ∧ (wLet (I (R l0 14) (I l0 13)) (fun x1 => (P12_rowsOf l0 I R (fun r1 => (∃ f, P12_laysOrder_b24 l0 x1 R Q f l1 0 r1 0 I)))))))
set_option maxRecDepth 20000 in
theorem C12_laysOrder {ad : Nat → Nat} {n : Nat} {I J : mI} {R : mR} {Q : mI → Prop}  {l0 : Nat} {l1 : Int} (hk0 : kK l0 = 12) (hw : P12_laysOrder l0 l1 I R Q) : wMet yX12_laysOrder cX12_laysOrder 9 none 2 34 false ad n I J R [vr l0, vi l1] (fun _ I' J' R' => (J' = J ∧ R' = R) ∧ Q I') := by
  refine wMet_of (by decide) (Nat.le_of_ble_eq_true rfl) (fun C hC hRm hE hS => ?_)
  refine (show WM C ad n I J R 0 0 0 [(0, vr l0), (1, vi l1)] [] from ?_)
  unfold P12_laysOrder at hw
  refine wm_iload_n hC 1 dX12_laysOrder_0 rfl ?_
  refine wm_istore_n hC dX12_laysOrder_1 (by decide) (L2 := [(2, vi l1), (0, vr l0), (1, vi l1)]) rfl ?_
  refine wm_iconst hC dX12_laysOrder_2 (k := ?_)
  refine wm_istore_n hC dX12_laysOrder_3 (by decide) (L2 := [(3, vi 0), (2, vi l1), (0, vr l0), (1, vi l1)]) rfl ?_
  refine wm_aload_n hC 2 dX12_laysOrder_4 rfl (k_ne0 hk0 (by decide)) ?_
  refine x_getR2 hC 14 fl_X12_54 rfl hk0 dX12_laysOrder_5 hw (fun g1 hw => ?_)
  refine wm_aload_n hC 2 dX12_laysOrder_8 rfl (k_ne0 hk0 (by decide)) ?_
  refine x_getI hC 13 fl_X12_51 rfl hk0 dX12_laysOrder_9 ?_
  refine x_iald hC g1 dX12_laysOrder_12 hw (fun hw => ?_)
  refine x_nameI hw (fun x1 hw => ?_)
  refine wm_istore hC dX12_laysOrder_13 (by decide) (L2 := [(4, vi x1), (3, vi 0), (2, vi l1), (0, vr l0), (1, vi l1)]) rfl ?_
  refine wm_aload_n hC 3 dX12_laysOrder_15 rfl (k_ne0 hk0 (by decide)) ?_
  refine y_callV_i_n hC hRm noS ml_X12_535 hk0 (C12_rowsOf hk0 hw) (Nat.le_of_ble_eq_true rfl) (Nat.le_of_ble_eq_true rfl) ⟨Nat.zero_le _, Nat.zero_le _⟩ rfl (st := []) rfl (Nat.le_of_ble_eq_true rfl) dX12_laysOrder_16 (fun r1 hw => ?_)
  refine wm_istore hC dX12_laysOrder_19 (by decide) (L2 := [(5, vi r1), (4, vi x1), (3, vi 0), (2, vi l1), (0, vr l0), (1, vi l1)]) rfl ?_
  refine wm_iconst hC dX12_laysOrder_21 (k := ?_)
  refine wm_istore hC dX12_laysOrder_22 (by decide) (L2 := [(6, vi 0), (5, vi r1), (4, vi x1), (3, vi 0), (2, vi l1), (0, vr l0), (1, vi l1)]) rfl ?_
  obtain ⟨f, hw⟩ := hw
  refine wm_sub [5, 4, 3, 2, 1, 0] (L2 := [(0, vr l0), (2, vi l1), (3, vi 0), (4, vi x1), (5, vi r1), (6, vi 0)]) rfl ?_
  exact W12_laysOrder_b24 hC hRm hE hk0 f _ _ _ _ _ hw
def P12_order_b40_body (l0 : Nat) (l1 : Int) (l2 : Int) (l3 : Int) (R : mR) (Q : Int → mI → mI → Prop) (k40 : Int → mI → mI → Prop) (l4 : Int) (I : mI) (J : mI) : Prop := (P12_rowsOf l0 I R (fun r4 => (if r4 ≤ l4 then (Q (-1) I J) else (P12_laysOrder l0 l4 I R (fun I1 => (P12_everybody l0 I1 R (fun r5 => (P12_chosen l0 0 l1 r5 I1 J R (fun r6 I2 J1 => (if r6 = l2 then (kK (R l0 60) = 21 ∧ (((0 : Int) ≤ l3 ∧ l3 < (kN (R l0 60) : Int)) ∧ (Q (I2 (R l0 60) l3) I2 J1))) else (rg (l4 + 1) ∧ (k40 (l4 + 1) I2 J1))))))))))))
def P12_order_b40 (l0 : Nat) (l1 : Int) (l2 : Int) (l3 : Int) (R : mR) (Q : Int → mI → mI → Prop) : Nat → Int → mI → mI → Prop
  | 0 => fun _ _ _ => False
  | f + 1 => fun l4 I J => P12_order_b40_body l0 l1 l2 l3 R Q (P12_order_b40 l0 l1 l2 l3 R Q f) l4 I J
set_option maxRecDepth 20000 in
theorem W12_order_b40_body {C : wX} {ad : Nat → Nat} {n : Nat} {I J : mI} {R : mR} {Q : Int → mI → mI → Prop} (hC : wOK C cX12_order 5 RX12) (hRm : wRm C 7 165 0 0) (hE : wEnd C (some .int) ad n (fun r I' J' R' => (R' = R) ∧ Q r I' J')) {l0 : Nat} {l1 : Int} {l2 : Int} {l3 : Int} {l4 : Int}   (hk0 : kK l0 = 12)  {k40 : Int → mI → mI → Prop} (kk40 : ∀ (y4 : Int) (I' : mI) (J' : mI), k40 y4 I' J' → WM C ad n I' J' R 0 0 40 [(0, vr l0), (1, vi l1), (2, vi l2), (3, vi l3), (4, vi y4)] []) (hw : P12_order_b40_body l0 l1 l2 l3 R Q k40 l4 I J) : WM C ad n I J R 0 0 40 [(0, vr l0), (1, vi l1), (2, vi l2), (3, vi l3), (4, vi l4)] [] := by
  unfold P12_order_b40_body at hw
  refine wm_iload hC 4 dX12_order_40 rfl ?_
  refine wm_aload_n hC 0 dX12_order_42 rfl (k_ne0 hk0 (by decide)) ?_
  refine y_callV_i_n hC hRm noS ml_X12_535 hk0 (C12_rowsOf hk0 hw) (Nat.le_of_ble_eq_true rfl) (Nat.le_of_ble_eq_true rfl) ⟨Nat.zero_le _, Nat.zero_le _⟩ rfl (st := [vi l4]) rfl (Nat.le_of_ble_eq_true rfl) dX12_order_43 (fun r4 hw => ?_)
  refine wm_icmp_ge (tgt := 82) hC dX12_order_46 (by decide) hw (fun hw => ?_) (fun hw => ?_)
  · refine wm_iconst hC dX12_order_82 (k := ?_)
    exact wm_ireturn hC hE dX12_order_83 ⟨rfl, hw⟩
  · refine wm_aload_n hC 0 dX12_order_49 rfl (k_ne0 hk0 (by decide)) ?_
    refine wm_iload hC 4 dX12_order_50 rfl ?_
    refine y_callV_v_I hC hRm noS ml_X12_538 hk0 (C12_laysOrder hk0 hw) (Nat.le_of_ble_eq_true rfl) (Nat.le_of_ble_eq_true rfl) ⟨Nat.zero_le _, Nat.zero_le _⟩ rfl (st := []) rfl (Nat.le_of_ble_eq_true rfl) dX12_order_52 (fun I1 hw => ?_)
    refine wm_aload_n hC 0 dX12_order_55 rfl (k_ne0 hk0 (by decide)) ?_
    refine wm_iconst hC dX12_order_56 (k := ?_)
    refine wm_iload_n hC 1 dX12_order_57 rfl ?_
    refine wm_aload_n hC 0 dX12_order_58 rfl (k_ne0 hk0 (by decide)) ?_
    refine y_callV_i_n hC hRm noS ml_X12_487 hk0 (C12_everybody hk0 hw) (Nat.le_of_ble_eq_true rfl) (Nat.le_of_ble_eq_true rfl) ⟨Nat.zero_le _, Nat.zero_le _⟩ rfl (st := [vi l1, vi 0, vr l0]) rfl (Nat.le_of_ble_eq_true rfl) dX12_order_59 (fun r5 hw => ?_)
    refine y_callV_i_IJ hC hRm noS ml_X12_479 hk0 (C12_chosen hk0 hw) (Nat.le_of_ble_eq_true rfl) (Nat.le_of_ble_eq_true rfl) ⟨Nat.zero_le _, Nat.zero_le _⟩ rfl (st := []) rfl (Nat.le_of_ble_eq_true rfl) dX12_order_62 (fun r6 I2 J1 hw => ?_)
    refine wm_iload_n hC 2 dX12_order_65 rfl ?_
    refine wm_icmp_ne (tgt := 76) hC dX12_order_66 (by decide) hw (fun hw => ?_) (fun hw => ?_)
    · refine wm_aload_n hC 0 dX12_order_69 rfl (k_ne0 hk0 (by decide)) ?_
      refine x_getR2 hC 60 fl_X12_195 rfl hk0 dX12_order_70 hw (fun g2 hw => ?_)
      refine wm_iload_n hC 3 dX12_order_73 rfl ?_
      refine x_iald hC g2 dX12_order_74 hw (fun hw => ?_)
      exact wm_ireturn hC hE dX12_order_75 ⟨rfl, hw⟩
    · refine x_iinc hC 4 dX12_order_76 rfl (by decide) (L2 := [(4, vi (l4 + 1)), (0, vr l0), (1, vi l1), (2, vi l2), (3, vi l3)]) rfl hw (fun hw => ?_)
      refine wm_goto (tgt := 40) hC dX12_order_79 (by decide) ?_
      refine wm_sub [1, 2, 3, 4, 0] (L2 := [(0, vr l0), (1, vi l1), (2, vi l2), (3, vi l3), (4, vi (l4 + 1))]) rfl ?_
      exact kk40 _ _ _ hw
set_option maxRecDepth 20000 in
theorem W12_order_b40 {C : wX} {ad : Nat → Nat} {n : Nat} {R : mR} {Q : Int → mI → mI → Prop} (hC : wOK C cX12_order 5 RX12) (hRm : wRm C 7 165 0 0) (hE : wEnd C (some .int) ad n (fun r I' J' R' => (R' = R) ∧ Q r I' J')) {l0 : Nat} {l1 : Int} {l2 : Int} {l3 : Int}   (hk0 : kK l0 = 12)  : ∀ (f : Nat) (l4 : Int) (I : mI) (J : mI), P12_order_b40 l0 l1 l2 l3 R Q f l4 I J → WM C ad n I J R 0 0 40 [(0, vr l0), (1, vi l1), (2, vi l2), (3, vi l3), (4, vi l4)] [] := by
  intro f
  induction f with
  | zero => intro l4 I J hw; exact hw.elim
  | succ f ih => intro l4 I J hw; exact W12_order_b40_body hC hRm hE hk0 (fun a0 a1 a2 hw => ih a0 a1 a2 hw) hw
def P12_order (l0 : Nat) (l1 : Int) (l2 : Int) (l3 : Int) (I : mI) (J : mI) (R : mR) (Q : Int → mI → mI → Prop) : Prop := (P12_isThing l0 l1 I R (fun r1 => (if r1 = 0 then (Q (-1) I J) else (P12_isColour l0 l2 I R (fun r2 => (if r2 = 0 then (Q (-1) I J) else (kK (R l0 14) = 21 ∧ (((0 : Int) ≤ (I l0 13) ∧ (I l0 13) < (kN (R l0 14) : Int)) ∧ (rg ((I (R l0 14) (I l0 13)) - 1) ∧ (P12_is l3 0 ((I (R l0 14) (I l0 13)) - 1) (fun r3 => (if r3 = 0 then (Q (-1) I J) else (∃ f, P12_order_b40 l0 l1 l2 l3 R Q f 0 I J)))))))))))))
set_option maxRecDepth 20000 in
theorem C12_order {ad : Nat → Nat} {n : Nat} {I J : mI} {R : mR} {Q : Int → mI → mI → Prop}  {l0 : Nat} {l1 : Int} {l2 : Int} {l3 : Int} (hk0 : kK l0 = 12) (hw : P12_order l0 l1 l2 l3 I J R Q) : wMet yX12_order cX12_order 5 (some .int) 7 165 false ad n I J R [vr l0, vi l1, vi l2, vi l3] (fun r I' J' R' => (R' = R) ∧ Q r I' J') := by
  refine wMet_of (by decide) (Nat.le_of_ble_eq_true rfl) (fun C hC hRm hE hS => ?_)
  refine (show WM C ad n I J R 0 0 0 [(0, vr l0), (1, vi l1), (2, vi l2), (3, vi l3)] [] from ?_)
  unfold P12_order at hw
  refine wm_aload_n hC 0 dX12_order_0 rfl (k_ne0 hk0 (by decide)) ?_
  refine wm_iload_n hC 1 dX12_order_1 rfl ?_
  refine y_callV_z_n hC hRm noS ml_X12_513 hk0 (C12_isThing hk0 hw) (Nat.le_of_ble_eq_true rfl) (Nat.le_of_ble_eq_true rfl) ⟨Nat.zero_le _, Nat.zero_le _⟩ rfl (st := []) rfl (Nat.le_of_ble_eq_true rfl) dX12_order_2 (fun r1 hw => ?_)
  refine wm_if_eq (tgt := 35) hC dX12_order_5 (by decide) hw (fun hw => ?_) (fun hw => ?_)
  · refine wm_iconst hC dX12_order_35 (k := ?_)
    exact wm_ireturn hC hE dX12_order_36 ⟨rfl, hw⟩
  · refine wm_aload_n hC 0 dX12_order_8 rfl (k_ne0 hk0 (by decide)) ?_
    refine wm_iload_n hC 2 dX12_order_9 rfl ?_
    refine y_callV_z_n hC hRm noS ml_X12_510 hk0 (C12_isColour hk0 hw) (Nat.le_of_ble_eq_true rfl) (Nat.le_of_ble_eq_true rfl) ⟨Nat.zero_le _, Nat.zero_le _⟩ rfl (st := []) rfl (Nat.le_of_ble_eq_true rfl) dX12_order_10 (fun r2 hw => ?_)
    refine wm_if_eq (tgt := 35) hC dX12_order_13 (by decide) hw (fun hw => ?_) (fun hw => ?_)
    · refine wm_iconst hC dX12_order_35 (k := ?_)
      exact wm_ireturn hC hE dX12_order_36 ⟨rfl, hw⟩
    · refine wm_iload_n hC 3 dX12_order_16 rfl ?_
      refine wm_iconst hC dX12_order_17 (k := ?_)
      refine wm_aload_n hC 0 dX12_order_18 rfl (k_ne0 hk0 (by decide)) ?_
      refine x_getR2 hC 14 fl_X12_54 rfl hk0 dX12_order_19 hw (fun g1 hw => ?_)
      refine wm_aload_n hC 0 dX12_order_22 rfl (k_ne0 hk0 (by decide)) ?_
      refine x_getI hC 13 fl_X12_51 rfl hk0 dX12_order_23 ?_
      refine x_iald hC g1 dX12_order_26 hw (fun hw => ?_)
      refine wm_iconst hC dX12_order_27 (k := ?_)
      refine x_isub hC dX12_order_28 hw (fun hw => ?_)
      refine y_callS_z_n hC hRm noS ml_X12_309 (C12_is  hw) (Nat.le_of_ble_eq_true rfl) (Nat.le_of_ble_eq_true rfl) ⟨Nat.zero_le _, Nat.zero_le _⟩ rfl (st := []) rfl (Nat.le_of_ble_eq_true rfl) dX12_order_29 (fun r3 hw => ?_)
      refine wm_if_ne (tgt := 37) hC dX12_order_32 (by decide) hw (fun hw => ?_) (fun hw => ?_)
      · refine wm_iconst hC dX12_order_35 (k := ?_)
        exact wm_ireturn hC hE dX12_order_36 ⟨rfl, hw⟩
      · refine wm_iconst hC dX12_order_37 (k := ?_)
        refine wm_istore hC dX12_order_38 (by decide) (L2 := [(4, vi 0), (0, vr l0), (1, vi l1), (2, vi l2), (3, vi l3)]) rfl ?_
        obtain ⟨f, hw⟩ := hw
        refine wm_sub [1, 2, 3, 4, 0] (L2 := [(0, vr l0), (1, vi l1), (2, vi l2), (3, vi l3), (4, vi 0)]) rfl ?_
        exact W12_order_b40 hC hRm hE hk0 f _ _ _ hw
def P12_orders_b23_body (l0 : Nat) (l1 : Int) (l2 : Int) (R : mR) (Q : Int → mI → mI → Prop) (k23 : Int → Int → mI → mI → Prop) (l3 : Int) (l4 : Int) (I : mI) (J : mI) : Prop := (P12_rowsOf l0 I R (fun r3 => (if r3 ≤ l4 then (Q l3 I J) else (P12_laysOrder l0 l4 I R (fun I1 => (P12_everybody l0 I1 R (fun r4 => (P12_chosen l0 0 l1 r4 I1 J R (fun r5 I2 J1 => (if r5 = l2 then (rg (l3 + 1) ∧ (rg (l4 + 1) ∧ (k23 (l3 + 1) (l4 + 1) I2 J1))) else (rg (l3 + 0) ∧ (rg (l4 + 1) ∧ (k23 (l3 + 0) (l4 + 1) I2 J1)))))))))))))
def P12_orders_b23 (l0 : Nat) (l1 : Int) (l2 : Int) (R : mR) (Q : Int → mI → mI → Prop) : Nat → Int → Int → mI → mI → Prop
  | 0 => fun _ _ _ _ => False
  | f + 1 => fun l3 l4 I J => P12_orders_b23_body l0 l1 l2 R Q (P12_orders_b23 l0 l1 l2 R Q f) l3 l4 I J
set_option maxRecDepth 20000 in
theorem W12_orders_b23_body {C : wX} {ad : Nat → Nat} {n : Nat} {I J : mI} {R : mR} {Q : Int → mI → mI → Prop} (hC : wOK C cX12_orders 5 RX12) (hRm : wRm C 7 165 0 0) (hE : wEnd C (some .int) ad n (fun r I' J' R' => (R' = R) ∧ Q r I' J')) {l0 : Nat} {l1 : Int} {l2 : Int} {l3 : Int} {l4 : Int}   (hk0 : kK l0 = 12)  {k23 : Int → Int → mI → mI → Prop} (kk23 : ∀ (y3 : Int) (y4 : Int) (I' : mI) (J' : mI), k23 y3 y4 I' J' → WM C ad n I' J' R 0 0 23 [(0, vr l0), (1, vi l1), (2, vi l2), (3, vi y3), (4, vi y4)] []) (hw : P12_orders_b23_body l0 l1 l2 R Q k23 l3 l4 I J) : WM C ad n I J R 0 0 23 [(0, vr l0), (1, vi l1), (2, vi l2), (3, vi l3), (4, vi l4)] [] := by
  unfold P12_orders_b23_body at hw
  refine wm_iload hC 4 dX12_orders_23 rfl ?_
  refine wm_aload_n hC 0 dX12_orders_25 rfl (k_ne0 hk0 (by decide)) ?_
  refine y_callV_i_n hC hRm noS ml_X12_535 hk0 (C12_rowsOf hk0 hw) (Nat.le_of_ble_eq_true rfl) (Nat.le_of_ble_eq_true rfl) ⟨Nat.zero_le _, Nat.zero_le _⟩ rfl (st := [vi l4]) rfl (Nat.le_of_ble_eq_true rfl) dX12_orders_26 (fun r3 hw => ?_)
  refine wm_icmp_ge (tgt := 66) hC dX12_orders_29 (by decide) hw (fun hw => ?_) (fun hw => ?_)
  · refine wm_iload_n hC 3 dX12_orders_66 rfl ?_
    exact wm_ireturn hC hE dX12_orders_67 ⟨rfl, hw⟩
  · refine wm_aload_n hC 0 dX12_orders_32 rfl (k_ne0 hk0 (by decide)) ?_
    refine wm_iload hC 4 dX12_orders_33 rfl ?_
    refine y_callV_v_I hC hRm noS ml_X12_538 hk0 (C12_laysOrder hk0 hw) (Nat.le_of_ble_eq_true rfl) (Nat.le_of_ble_eq_true rfl) ⟨Nat.zero_le _, Nat.zero_le _⟩ rfl (st := []) rfl (Nat.le_of_ble_eq_true rfl) dX12_orders_35 (fun I1 hw => ?_)
    refine wm_iload_n hC 3 dX12_orders_38 rfl ?_
    refine wm_aload_n hC 0 dX12_orders_39 rfl (k_ne0 hk0 (by decide)) ?_
    refine wm_iconst hC dX12_orders_40 (k := ?_)
    refine wm_iload_n hC 1 dX12_orders_41 rfl ?_
    refine wm_aload_n hC 0 dX12_orders_42 rfl (k_ne0 hk0 (by decide)) ?_
    refine y_callV_i_n hC hRm noS ml_X12_487 hk0 (C12_everybody hk0 hw) (Nat.le_of_ble_eq_true rfl) (Nat.le_of_ble_eq_true rfl) ⟨Nat.zero_le _, Nat.zero_le _⟩ rfl (st := [vi l1, vi 0, vr l0, vi l3]) rfl (Nat.le_of_ble_eq_true rfl) dX12_orders_43 (fun r4 hw => ?_)
    refine y_callV_i_IJ hC hRm noS ml_X12_479 hk0 (C12_chosen hk0 hw) (Nat.le_of_ble_eq_true rfl) (Nat.le_of_ble_eq_true rfl) ⟨Nat.zero_le _, Nat.zero_le _⟩ rfl (st := [vi l3]) rfl (Nat.le_of_ble_eq_true rfl) dX12_orders_46 (fun r5 I2 J1 hw => ?_)
    refine wm_iload_n hC 2 dX12_orders_49 rfl ?_
    refine wm_icmp_ne (tgt := 57) hC dX12_orders_50 (by decide) hw (fun hw => ?_) (fun hw => ?_)
    · refine wm_iconst hC dX12_orders_53 (k := ?_)
      refine wm_goto (tgt := 58) hC dX12_orders_54 (by decide) ?_
      refine x_iadd hC dX12_orders_58 hw (fun hw => ?_)
      refine wm_istore_n hC dX12_orders_59 (by decide) (L2 := [(3, vi (l3 + 1)), (0, vr l0), (1, vi l1), (2, vi l2), (4, vi l4)]) rfl ?_
      refine x_iinc hC 4 dX12_orders_60 rfl (by decide) (L2 := [(4, vi (l4 + 1)), (3, vi (l3 + 1)), (0, vr l0), (1, vi l1), (2, vi l2)]) rfl hw (fun hw => ?_)
      refine wm_goto (tgt := 23) hC dX12_orders_63 (by decide) ?_
      refine wm_sub [2, 3, 4, 1, 0] (L2 := [(0, vr l0), (1, vi l1), (2, vi l2), (3, vi (l3 + 1)), (4, vi (l4 + 1))]) rfl ?_
      exact kk23 _ _ _ _ hw
    · refine wm_iconst hC dX12_orders_57 (k := ?_)
      refine x_iadd hC dX12_orders_58 hw (fun hw => ?_)
      refine wm_istore_n hC dX12_orders_59 (by decide) (L2 := [(3, vi (l3 + 0)), (0, vr l0), (1, vi l1), (2, vi l2), (4, vi l4)]) rfl ?_
      refine x_iinc hC 4 dX12_orders_60 rfl (by decide) (L2 := [(4, vi (l4 + 1)), (3, vi (l3 + 0)), (0, vr l0), (1, vi l1), (2, vi l2)]) rfl hw (fun hw => ?_)
      refine wm_goto (tgt := 23) hC dX12_orders_63 (by decide) ?_
      refine wm_sub [2, 3, 4, 1, 0] (L2 := [(0, vr l0), (1, vi l1), (2, vi l2), (3, vi (l3 + 0)), (4, vi (l4 + 1))]) rfl ?_
      exact kk23 _ _ _ _ hw
set_option maxRecDepth 20000 in
theorem W12_orders_b23 {C : wX} {ad : Nat → Nat} {n : Nat} {R : mR} {Q : Int → mI → mI → Prop} (hC : wOK C cX12_orders 5 RX12) (hRm : wRm C 7 165 0 0) (hE : wEnd C (some .int) ad n (fun r I' J' R' => (R' = R) ∧ Q r I' J')) {l0 : Nat} {l1 : Int} {l2 : Int}   (hk0 : kK l0 = 12)  : ∀ (f : Nat) (l3 : Int) (l4 : Int) (I : mI) (J : mI), P12_orders_b23 l0 l1 l2 R Q f l3 l4 I J → WM C ad n I J R 0 0 23 [(0, vr l0), (1, vi l1), (2, vi l2), (3, vi l3), (4, vi l4)] [] := by
  intro f
  induction f with
  | zero => intro l3 l4 I J hw; exact hw.elim
  | succ f ih => intro l3 l4 I J hw; exact W12_orders_b23_body hC hRm hE hk0 (fun a0 a1 a2 a3 hw => ih a0 a1 a2 a3 hw) hw
def P12_orders (l0 : Nat) (l1 : Int) (l2 : Int) (I : mI) (J : mI) (R : mR) (Q : Int → mI → mI → Prop) : Prop := (P12_isThing l0 l1 I R (fun r1 => (if r1 = 0 then (Q (-1) I J) else (P12_isColour l0 l2 I R (fun r2 => (if r2 = 0 then (Q (-1) I J) else (∃ f, P12_orders_b23 l0 l1 l2 R Q f 0 0 I J)))))))
set_option maxRecDepth 20000 in
theorem C12_orders {ad : Nat → Nat} {n : Nat} {I J : mI} {R : mR} {Q : Int → mI → mI → Prop}  {l0 : Nat} {l1 : Int} {l2 : Int} (hk0 : kK l0 = 12) (hw : P12_orders l0 l1 l2 I J R Q) : wMet yX12_orders cX12_orders 5 (some .int) 7 165 false ad n I J R [vr l0, vi l1, vi l2] (fun r I' J' R' => (R' = R) ∧ Q r I' J') := by
  refine wMet_of (by decide) (Nat.le_of_ble_eq_true rfl) (fun C hC hRm hE hS => ?_)
  refine (show WM C ad n I J R 0 0 0 [(0, vr l0), (1, vi l1), (2, vi l2)] [] from ?_)
  unfold P12_orders at hw
  refine wm_aload_n hC 0 dX12_orders_0 rfl (k_ne0 hk0 (by decide)) ?_
  refine wm_iload_n hC 1 dX12_orders_1 rfl ?_
  refine y_callV_z_n hC hRm noS ml_X12_513 hk0 (C12_isThing hk0 hw) (Nat.le_of_ble_eq_true rfl) (Nat.le_of_ble_eq_true rfl) ⟨Nat.zero_le _, Nat.zero_le _⟩ rfl (st := []) rfl (Nat.le_of_ble_eq_true rfl) dX12_orders_2 (fun r1 hw => ?_)
  refine wm_if_eq (tgt := 16) hC dX12_orders_5 (by decide) hw (fun hw => ?_) (fun hw => ?_)
  · refine wm_iconst hC dX12_orders_16 (k := ?_)
    exact wm_ireturn hC hE dX12_orders_17 ⟨rfl, hw⟩
  · refine wm_aload_n hC 0 dX12_orders_8 rfl (k_ne0 hk0 (by decide)) ?_
    refine wm_iload_n hC 2 dX12_orders_9 rfl ?_
    refine y_callV_z_n hC hRm noS ml_X12_510 hk0 (C12_isColour hk0 hw) (Nat.le_of_ble_eq_true rfl) (Nat.le_of_ble_eq_true rfl) ⟨Nat.zero_le _, Nat.zero_le _⟩ rfl (st := []) rfl (Nat.le_of_ble_eq_true rfl) dX12_orders_10 (fun r2 hw => ?_)
    refine wm_if_ne (tgt := 18) hC dX12_orders_13 (by decide) hw (fun hw => ?_) (fun hw => ?_)
    · refine wm_iconst hC dX12_orders_16 (k := ?_)
      exact wm_ireturn hC hE dX12_orders_17 ⟨rfl, hw⟩
    · refine wm_iconst hC dX12_orders_18 (k := ?_)
      refine wm_istore_n hC dX12_orders_19 (by decide) (L2 := [(3, vi 0), (0, vr l0), (1, vi l1), (2, vi l2)]) rfl ?_
      refine wm_iconst hC dX12_orders_20 (k := ?_)
      refine wm_istore hC dX12_orders_21 (by decide) (L2 := [(4, vi 0), (3, vi 0), (0, vr l0), (1, vi l1), (2, vi l2)]) rfl ?_
      obtain ⟨f, hw⟩ := hw
      refine wm_sub [2, 3, 4, 1, 0] (L2 := [(0, vr l0), (1, vi l1), (2, vi l2), (3, vi 0), (4, vi 0)]) rfl ?_
      exact W12_orders_b23 hC hRm hE hk0 f _ _ _ _ hw
def P12_power_b28_body (l0 : Nat) (l1 : Int) (l2 : Int) (R : mR) (Q : Int → mI → mI → Prop) (k28 : Int → Int → mI → mI → Prop) (l3 : Int) (l4 : Int) (I : mI) (J : mI) : Prop := (kK (R l0 14) = 21 ∧ (((0 : Int) ≤ (I l0 13) ∧ (I l0 13) < (kN (R l0 14) : Int)) ∧ (if (bShl 1 (I (R l0 14) (I l0 13))) ≤ l4 then (Q l3 I J) else (P12_has2 l4 l1 (fun r3 => (if r3 = 0 then (P12_chosen l0 0 l2 l4 I J R (fun r4 I2 J1 => (P12_chosen l0 0 l2 (bOr l4 (bShl 1 l1)) I2 J1 R (fun r5 I3 J2 => (if r4 = r5 then (rg (l3 + 0) ∧ (rg (l4 + 1) ∧ (k28 (l3 + 0) (l4 + 1) I3 J2))) else (rg (l3 + 1) ∧ (rg (l4 + 1) ∧ (k28 (l3 + 1) (l4 + 1) I3 J2)))))))) else (rg (l4 + 1) ∧ (k28 l3 (l4 + 1) I J))))))))
def P12_power_b28 (l0 : Nat) (l1 : Int) (l2 : Int) (R : mR) (Q : Int → mI → mI → Prop) : Nat → Int → Int → mI → mI → Prop
  | 0 => fun _ _ _ _ => False
  | f + 1 => fun l3 l4 I J => P12_power_b28_body l0 l1 l2 R Q (P12_power_b28 l0 l1 l2 R Q f) l3 l4 I J
set_option maxRecDepth 20000 in
theorem W12_power_b28_body {C : wX} {ad : Nat → Nat} {n : Nat} {I J : mI} {R : mR} {Q : Int → mI → mI → Prop} (hC : wOK C cX12_power 6 RX12) (hRm : wRm C 7 165 0 0) (hE : wEnd C (some .int) ad n (fun r I' J' R' => (R' = R) ∧ Q r I' J')) {l0 : Nat} {l1 : Int} {l2 : Int} {l3 : Int} {l4 : Int}   (hk0 : kK l0 = 12)  {k28 : Int → Int → mI → mI → Prop} (kk28 : ∀ (y3 : Int) (y4 : Int) (I' : mI) (J' : mI), k28 y3 y4 I' J' → WM C ad n I' J' R 0 0 28 [(0, vr l0), (1, vi l1), (2, vi l2), (3, vi y3), (4, vi y4)] []) (hw : P12_power_b28_body l0 l1 l2 R Q k28 l3 l4 I J) : WM C ad n I J R 0 0 28 [(0, vr l0), (1, vi l1), (2, vi l2), (3, vi l3), (4, vi l4)] [] := by
  unfold P12_power_b28_body at hw
  refine wm_iload hC 4 dX12_power_28 rfl ?_
  refine wm_iconst hC dX12_power_30 (k := ?_)
  refine wm_aload_n hC 0 dX12_power_31 rfl (k_ne0 hk0 (by decide)) ?_
  refine x_getR2 hC 14 fl_X12_54 rfl hk0 dX12_power_32 hw (fun g1 hw => ?_)
  refine wm_aload_n hC 0 dX12_power_35 rfl (k_ne0 hk0 (by decide)) ?_
  refine x_getI hC 13 fl_X12_51 rfl hk0 dX12_power_36 ?_
  refine x_iald hC g1 dX12_power_39 hw (fun hw => ?_)
  refine wm_ishl hC dX12_power_40 ?_
  refine wm_icmp_ge (tgt := 97) hC dX12_power_41 (by decide) hw (fun hw => ?_) (fun hw => ?_)
  · refine wm_iload_n hC 3 dX12_power_97 rfl ?_
    exact wm_ireturn hC hE dX12_power_98 ⟨rfl, hw⟩
  · refine wm_iload hC 4 dX12_power_44 rfl ?_
    refine wm_iload_n hC 1 dX12_power_46 rfl ?_
    refine y_callS_z_n hC hRm noS ml_X12_351 (C12_has2  hw) (Nat.le_of_ble_eq_true rfl) (Nat.le_of_ble_eq_true rfl) ⟨Nat.zero_le _, Nat.zero_le _⟩ rfl (st := []) rfl (Nat.le_of_ble_eq_true rfl) dX12_power_47 (fun r3 hw => ?_)
    refine wm_if_eq (tgt := 56) hC dX12_power_50 (by decide) hw (fun hw => ?_) (fun hw => ?_)
    · refine wm_aload_n hC 0 dX12_power_56 rfl (k_ne0 hk0 (by decide)) ?_
      refine wm_iconst hC dX12_power_57 (k := ?_)
      refine wm_iload_n hC 2 dX12_power_58 rfl ?_
      refine wm_iload hC 4 dX12_power_59 rfl ?_
      refine y_callV_i_IJ hC hRm noS ml_X12_479 hk0 (C12_chosen hk0 hw) (Nat.le_of_ble_eq_true rfl) (Nat.le_of_ble_eq_true rfl) ⟨Nat.zero_le _, Nat.zero_le _⟩ rfl (st := []) rfl (Nat.le_of_ble_eq_true rfl) dX12_power_61 (fun r4 I2 J1 hw => ?_)
      refine wm_istore hC dX12_power_64 (by decide) (L2 := [(5, vi r4), (0, vr l0), (1, vi l1), (2, vi l2), (3, vi l3), (4, vi l4)]) rfl ?_
      refine wm_iload_n hC 4 dX12_power_66 rfl ?_
      refine wm_iload hC 0 dX12_power_67 rfl ?_
      refine wm_aload_n hC 1 dX12_power_69 rfl (k_ne0 hk0 (by decide)) ?_
      refine wm_iconst hC dX12_power_70 (k := ?_)
      refine wm_iload_n hC 3 dX12_power_71 rfl ?_
      refine wm_iload hC 5 dX12_power_72 rfl ?_
      refine wm_iconst hC dX12_power_74 (k := ?_)
      refine wm_iload_n hC 2 dX12_power_75 rfl ?_
      refine wm_ishl hC dX12_power_76 ?_
      refine wm_ior hC dX12_power_77 ?_
      refine y_callV_i_IJ hC hRm noS ml_X12_479 hk0 (C12_chosen hk0 hw) (Nat.le_of_ble_eq_true rfl) (Nat.le_of_ble_eq_true rfl) ⟨Nat.zero_le _, Nat.zero_le _⟩ rfl (st := [vi r4, vi l3]) rfl (Nat.le_of_ble_eq_true rfl) dX12_power_78 (fun r5 I3 J2 hw => ?_)
      refine wm_icmp_eq (tgt := 88) hC dX12_power_81 (by decide) hw (fun hw => ?_) (fun hw => ?_)
      · refine wm_iconst hC dX12_power_88 (k := ?_)
        refine x_iadd hC dX12_power_89 hw (fun hw => ?_)
        refine wm_istore_n hC dX12_power_90 (by decide) (L2 := [(3, vi (l3 + 0)), (5, vi r4), (0, vr l0), (1, vi l1), (2, vi l2), (4, vi l4)]) rfl ?_
        refine x_iinc hC 5 dX12_power_91 rfl (by decide) (L2 := [(4, vi (l4 + 1)), (3, vi (l3 + 0)), (5, vi r4), (0, vr l0), (1, vi l1), (2, vi l2)]) rfl hw (fun hw => ?_)
        refine wm_goto (tgt := 28) hC dX12_power_94 (by decide) ?_
        refine wm_sub [3, 4, 5, 1, 0] (L2 := [(0, vr l0), (1, vi l1), (2, vi l2), (3, vi (l3 + 0)), (4, vi (l4 + 1))]) rfl ?_
        exact kk28 _ _ _ _ hw
      · refine wm_iconst hC dX12_power_84 (k := ?_)
        refine wm_goto (tgt := 89) hC dX12_power_85 (by decide) ?_
        refine x_iadd hC dX12_power_89 hw (fun hw => ?_)
        refine wm_istore_n hC dX12_power_90 (by decide) (L2 := [(3, vi (l3 + 1)), (5, vi r4), (0, vr l0), (1, vi l1), (2, vi l2), (4, vi l4)]) rfl ?_
        refine x_iinc hC 5 dX12_power_91 rfl (by decide) (L2 := [(4, vi (l4 + 1)), (3, vi (l3 + 1)), (5, vi r4), (0, vr l0), (1, vi l1), (2, vi l2)]) rfl hw (fun hw => ?_)
        refine wm_goto (tgt := 28) hC dX12_power_94 (by decide) ?_
        refine wm_sub [3, 4, 5, 1, 0] (L2 := [(0, vr l0), (1, vi l1), (2, vi l2), (3, vi (l3 + 1)), (4, vi (l4 + 1))]) rfl ?_
        exact kk28 _ _ _ _ hw
    · refine wm_goto (tgt := 91) hC dX12_power_53 (by decide) ?_
      refine x_iinc hC 4 dX12_power_91 rfl (by decide) (L2 := [(4, vi (l4 + 1)), (0, vr l0), (1, vi l1), (2, vi l2), (3, vi l3)]) rfl hw (fun hw => ?_)
      refine wm_goto (tgt := 28) hC dX12_power_94 (by decide) ?_
      refine wm_sub [1, 2, 3, 4, 0] (L2 := [(0, vr l0), (1, vi l1), (2, vi l2), (3, vi l3), (4, vi (l4 + 1))]) rfl ?_
      exact kk28 _ _ _ _ hw
set_option maxRecDepth 20000 in
theorem W12_power_b28 {C : wX} {ad : Nat → Nat} {n : Nat} {R : mR} {Q : Int → mI → mI → Prop} (hC : wOK C cX12_power 6 RX12) (hRm : wRm C 7 165 0 0) (hE : wEnd C (some .int) ad n (fun r I' J' R' => (R' = R) ∧ Q r I' J')) {l0 : Nat} {l1 : Int} {l2 : Int}   (hk0 : kK l0 = 12)  : ∀ (f : Nat) (l3 : Int) (l4 : Int) (I : mI) (J : mI), P12_power_b28 l0 l1 l2 R Q f l3 l4 I J → WM C ad n I J R 0 0 28 [(0, vr l0), (1, vi l1), (2, vi l2), (3, vi l3), (4, vi l4)] [] := by
  intro f
  induction f with
  | zero => intro l3 l4 I J hw; exact hw.elim
  | succ f ih => intro l3 l4 I J hw; exact W12_power_b28_body hC hRm hE hk0 (fun a0 a1 a2 a3 hw => ih a0 a1 a2 a3 hw) hw
def P12_power (l0 : Nat) (l1 : Int) (l2 : Int) (I : mI) (J : mI) (R : mR) (Q : Int → mI → mI → Prop) : Prop := (P12_isBlind l0 l1 I R (fun r1 => (if r1 = 0 then (Q (-1) I J) else (P12_isThing l0 l2 I R (fun r2 => (if r2 = 0 then (Q (-1) I J) else (P12_laysNow l0 0 I R (fun I1 => (∃ f, P12_power_b28 l0 l1 l2 R Q f 0 0 I1 J)))))))))
set_option maxRecDepth 20000 in
theorem C12_power {ad : Nat → Nat} {n : Nat} {I J : mI} {R : mR} {Q : Int → mI → mI → Prop}  {l0 : Nat} {l1 : Int} {l2 : Int} (hk0 : kK l0 = 12) (hw : P12_power l0 l1 l2 I J R Q) : wMet yX12_power cX12_power 6 (some .int) 7 165 false ad n I J R [vr l0, vi l1, vi l2] (fun r I' J' R' => (R' = R) ∧ Q r I' J') := by
  refine wMet_of (by decide) (Nat.le_of_ble_eq_true rfl) (fun C hC hRm hE hS => ?_)
  refine (show WM C ad n I J R 0 0 0 [(0, vr l0), (1, vi l1), (2, vi l2)] [] from ?_)
  unfold P12_power at hw
  refine wm_aload_n hC 0 dX12_power_0 rfl (k_ne0 hk0 (by decide)) ?_
  refine wm_iload_n hC 1 dX12_power_1 rfl ?_
  refine y_callV_z_n hC hRm noS ml_X12_507 hk0 (C12_isBlind hk0 hw) (Nat.le_of_ble_eq_true rfl) (Nat.le_of_ble_eq_true rfl) ⟨Nat.zero_le _, Nat.zero_le _⟩ rfl (st := []) rfl (Nat.le_of_ble_eq_true rfl) dX12_power_2 (fun r1 hw => ?_)
  refine wm_if_eq (tgt := 16) hC dX12_power_5 (by decide) hw (fun hw => ?_) (fun hw => ?_)
  · refine wm_iconst hC dX12_power_16 (k := ?_)
    exact wm_ireturn hC hE dX12_power_17 ⟨rfl, hw⟩
  · refine wm_aload_n hC 0 dX12_power_8 rfl (k_ne0 hk0 (by decide)) ?_
    refine wm_iload_n hC 2 dX12_power_9 rfl ?_
    refine y_callV_z_n hC hRm noS ml_X12_513 hk0 (C12_isThing hk0 hw) (Nat.le_of_ble_eq_true rfl) (Nat.le_of_ble_eq_true rfl) ⟨Nat.zero_le _, Nat.zero_le _⟩ rfl (st := []) rfl (Nat.le_of_ble_eq_true rfl) dX12_power_10 (fun r2 hw => ?_)
    refine wm_if_ne (tgt := 18) hC dX12_power_13 (by decide) hw (fun hw => ?_) (fun hw => ?_)
    · refine wm_iconst hC dX12_power_16 (k := ?_)
      exact wm_ireturn hC hE dX12_power_17 ⟨rfl, hw⟩
    · refine wm_aload_n hC 0 dX12_power_18 rfl (k_ne0 hk0 (by decide)) ?_
      refine wm_iconst hC dX12_power_19 (k := ?_)
      refine y_callV_v_I hC hRm noS ml_X12_476 hk0 (C12_laysNow hk0 hw) (Nat.le_of_ble_eq_true rfl) (Nat.le_of_ble_eq_true rfl) ⟨Nat.zero_le _, Nat.zero_le _⟩ rfl (st := []) rfl (Nat.le_of_ble_eq_true rfl) dX12_power_20 (fun I1 hw => ?_)
      refine wm_iconst hC dX12_power_23 (k := ?_)
      refine wm_istore_n hC dX12_power_24 (by decide) (L2 := [(3, vi 0), (0, vr l0), (1, vi l1), (2, vi l2)]) rfl ?_
      refine wm_iconst hC dX12_power_25 (k := ?_)
      refine wm_istore hC dX12_power_26 (by decide) (L2 := [(4, vi 0), (3, vi 0), (0, vr l0), (1, vi l1), (2, vi l2)]) rfl ?_
      obtain ⟨f, hw⟩ := hw
      refine wm_sub [2, 3, 4, 1, 0] (L2 := [(0, vr l0), (1, vi l1), (2, vi l2), (3, vi 0), (4, vi 0)]) rfl ?_
      exact W12_power_b28 hC hRm hE hk0 f _ _ _ _ hw
def P12_isClear_b19_body (l0 : Nat) (l1 : Int) (I : mI) (R : mR) (k2 : Int → Prop) (Q : Int → Prop) (k19 : Int → Prop) (l2 : Int) : Prop := (kK (R l0 20) = 21 ∧ (((0 : Int) ≤ (I l0 13) ∧ (I l0 13) < (kN (R l0 20) : Int)) ∧ (if (I (R l0 20) (I l0 13)) ≤ l2 then (rg (l1 + 1) ∧ (k2 (l1 + 1))) else (P12_nearSet l0 l1 I R (fun r1 => (P12_has2 r1 l2 (fun r2 => (if r2 = 0 then (rg (l2 + 1) ∧ (k19 (l2 + 1))) else (kK (R l0 61) = 21 ∧ (((0 : Int) ≤ l1 ∧ l1 < (kN (R l0 61) : Int)) ∧ (if (I (R l0 61) l1) = (-1) then (rg (l2 + 1) ∧ (k19 (l2 + 1))) else (kK (R l0 61) = 21 ∧ (((0 : Int) ≤ l1 ∧ l1 < (kN (R l0 61) : Int)) ∧ (kK (R l0 61) = 21 ∧ (((0 : Int) ≤ l2 ∧ l2 < (kN (R l0 61) : Int)) ∧ (if (I (R l0 61) l1) = (I (R l0 61) l2) then (Q 0) else (rg (l2 + 1) ∧ (k19 (l2 + 1)))))))))))))))))))
def P12_isClear_b19 (l0 : Nat) (l1 : Int) (I : mI) (R : mR) (k2 : Int → Prop) (Q : Int → Prop) : Nat → Int → Prop
  | 0 => fun _ => False
  | f + 1 => fun l2 => P12_isClear_b19_body l0 l1 I R k2 Q (P12_isClear_b19 l0 l1 I R k2 Q f) l2
set_option maxRecDepth 20000 in
theorem W12_isClear_b19_body {C : wX} {ad : Nat → Nat} {n : Nat} {I J : mI} {R : mR} {Q : Int → Prop} (hC : wOK C cX12_isClear 3 RX12) (hRm : wRm C 2 33 0 0) (hE : wEnd C (some .boolean) ad n (fun r I' J' R' => (I' = I ∧ J' = J ∧ R' = R) ∧ Q r)) {l0 : Nat} {l1 : Int} {l2 : Int}  {k2 : Int → Prop} (hk0 : kK l0 = 12) (kk2 : ∀ (y1 : Int), k2 y1 → WM C ad n I J R 0 0 2 [(0, vr l0), (1, vi y1)] []) {k19 : Int → Prop} (kk19 : ∀ (y2 : Int), k19 y2 → WM C ad n I J R 0 0 19 [(0, vr l0), (1, vi l1), (2, vi y2)] []) (hw : P12_isClear_b19_body l0 l1 I R k2 Q k19 l2) : WM C ad n I J R 0 0 19 [(0, vr l0), (1, vi l1), (2, vi l2)] [] := by
  unfold P12_isClear_b19_body at hw
  refine wm_iload_n hC 2 dX12_isClear_19 rfl ?_
  refine wm_aload_n hC 0 dX12_isClear_20 rfl (k_ne0 hk0 (by decide)) ?_
  refine x_getR2 hC 20 fl_X12_72 rfl hk0 dX12_isClear_21 hw (fun g2 hw => ?_)
  refine wm_aload_n hC 0 dX12_isClear_24 rfl (k_ne0 hk0 (by decide)) ?_
  refine x_getI hC 13 fl_X12_51 rfl hk0 dX12_isClear_25 ?_
  refine x_iald hC g2 dX12_isClear_28 hw (fun hw => ?_)
  refine wm_icmp_ge (tgt := 77) hC dX12_isClear_29 (by decide) hw (fun hw => ?_) (fun hw => ?_)
  · refine x_iinc hC 1 dX12_isClear_77 rfl (by decide) (L2 := [(1, vi (l1 + 1)), (0, vr l0), (2, vi l2)]) rfl hw (fun hw => ?_)
    refine wm_goto (tgt := 2) hC dX12_isClear_80 (by decide) ?_
    refine wm_sub [1, 0] (L2 := [(0, vr l0), (1, vi (l1 + 1))]) rfl ?_
    exact kk2 _ hw
  · refine wm_aload_n hC 0 dX12_isClear_32 rfl (k_ne0 hk0 (by decide)) ?_
    refine wm_iload_n hC 1 dX12_isClear_33 rfl ?_
    refine y_callV_i_n hC hRm noS ml_X12_501 hk0 (C12_nearSet hk0 hw) (Nat.le_of_ble_eq_true rfl) (Nat.le_of_ble_eq_true rfl) ⟨Nat.zero_le _, Nat.zero_le _⟩ rfl (st := []) rfl (Nat.le_of_ble_eq_true rfl) dX12_isClear_34 (fun r1 hw => ?_)
    refine wm_iload_n hC 2 dX12_isClear_37 rfl ?_
    refine y_callS_z_n hC hRm noS ml_X12_351 (C12_has2  hw) (Nat.le_of_ble_eq_true rfl) (Nat.le_of_ble_eq_true rfl) ⟨Nat.zero_le _, Nat.zero_le _⟩ rfl (st := []) rfl (Nat.le_of_ble_eq_true rfl) dX12_isClear_38 (fun r2 hw => ?_)
    refine wm_if_eq (tgt := 71) hC dX12_isClear_41 (by decide) hw (fun hw => ?_) (fun hw => ?_)
    · refine x_iinc hC 2 dX12_isClear_71 rfl (by decide) (L2 := [(2, vi (l2 + 1)), (0, vr l0), (1, vi l1)]) rfl hw (fun hw => ?_)
      refine wm_goto (tgt := 19) hC dX12_isClear_74 (by decide) ?_
      refine wm_sub [1, 2, 0] (L2 := [(0, vr l0), (1, vi l1), (2, vi (l2 + 1))]) rfl ?_
      exact kk19 _ hw
    · refine wm_aload_n hC 0 dX12_isClear_44 rfl (k_ne0 hk0 (by decide)) ?_
      refine x_getR2 hC 61 fl_X12_198 rfl hk0 dX12_isClear_45 hw (fun g3 hw => ?_)
      refine wm_iload_n hC 1 dX12_isClear_48 rfl ?_
      refine x_iald hC g3 dX12_isClear_49 hw (fun hw => ?_)
      refine wm_iconst hC dX12_isClear_50 (k := ?_)
      refine wm_icmp_eq (tgt := 71) hC dX12_isClear_51 (by decide) hw (fun hw => ?_) (fun hw => ?_)
      · refine x_iinc hC 2 dX12_isClear_71 rfl (by decide) (L2 := [(2, vi (l2 + 1)), (0, vr l0), (1, vi l1)]) rfl hw (fun hw => ?_)
        refine wm_goto (tgt := 19) hC dX12_isClear_74 (by decide) ?_
        refine wm_sub [1, 2, 0] (L2 := [(0, vr l0), (1, vi l1), (2, vi (l2 + 1))]) rfl ?_
        exact kk19 _ hw
      · refine wm_aload_n hC 0 dX12_isClear_54 rfl (k_ne0 hk0 (by decide)) ?_
        refine x_getR2 hC 61 fl_X12_198 rfl hk0 dX12_isClear_55 hw (fun g4 hw => ?_)
        refine wm_iload_n hC 1 dX12_isClear_58 rfl ?_
        refine x_iald hC g4 dX12_isClear_59 hw (fun hw => ?_)
        refine wm_aload_n hC 0 dX12_isClear_60 rfl (k_ne0 hk0 (by decide)) ?_
        refine x_getR2 hC 61 fl_X12_198 rfl hk0 dX12_isClear_61 hw (fun g5 hw => ?_)
        refine wm_iload_n hC 2 dX12_isClear_64 rfl ?_
        refine x_iald hC g5 dX12_isClear_65 hw (fun hw => ?_)
        refine wm_icmp_ne (tgt := 71) hC dX12_isClear_66 (by decide) hw (fun hw => ?_) (fun hw => ?_)
        · refine wm_iconst hC dX12_isClear_69 (k := ?_)
          exact wm_zreturn hC hE (Or.inl rfl) dX12_isClear_70 ⟨⟨rfl, rfl, rfl⟩, hw⟩
        · refine x_iinc hC 2 dX12_isClear_71 rfl (by decide) (L2 := [(2, vi (l2 + 1)), (0, vr l0), (1, vi l1)]) rfl hw (fun hw => ?_)
          refine wm_goto (tgt := 19) hC dX12_isClear_74 (by decide) ?_
          refine wm_sub [1, 2, 0] (L2 := [(0, vr l0), (1, vi l1), (2, vi (l2 + 1))]) rfl ?_
          exact kk19 _ hw
set_option maxRecDepth 20000 in
theorem W12_isClear_b19 {C : wX} {ad : Nat → Nat} {n : Nat} {I J : mI} {R : mR} {Q : Int → Prop} (hC : wOK C cX12_isClear 3 RX12) (hRm : wRm C 2 33 0 0) (hE : wEnd C (some .boolean) ad n (fun r I' J' R' => (I' = I ∧ J' = J ∧ R' = R) ∧ Q r)) {l0 : Nat} {l1 : Int}  {k2 : Int → Prop} (hk0 : kK l0 = 12) (kk2 : ∀ (y1 : Int), k2 y1 → WM C ad n I J R 0 0 2 [(0, vr l0), (1, vi y1)] []) : ∀ (f : Nat) (l2 : Int), P12_isClear_b19 l0 l1 I R k2 Q f l2 → WM C ad n I J R 0 0 19 [(0, vr l0), (1, vi l1), (2, vi l2)] [] := by
  intro f
  induction f with
  | zero => intro l2 hw; exact hw.elim
  | succ f ih => intro l2 hw; exact W12_isClear_b19_body hC hRm hE hk0 kk2 (fun a0 hw => ih a0 hw) hw
def P12_isClear_b2_body (l0 : Nat) (I : mI) (R : mR) (Q : Int → Prop) (k2 : Int → Prop) (l1 : Int) : Prop := (kK (R l0 20) = 21 ∧ (((0 : Int) ≤ (I l0 13) ∧ (I l0 13) < (kN (R l0 20) : Int)) ∧ (if (I (R l0 20) (I l0 13)) ≤ l1 then (Q 1) else (rg (l1 + 1) ∧ (∃ f, P12_isClear_b19 l0 l1 I R k2 Q f (l1 + 1))))))
def P12_isClear_b2 (l0 : Nat) (I : mI) (R : mR) (Q : Int → Prop) : Nat → Int → Prop
  | 0 => fun _ => False
  | f + 1 => fun l1 => P12_isClear_b2_body l0 I R Q (P12_isClear_b2 l0 I R Q f) l1
set_option maxRecDepth 20000 in
theorem W12_isClear_b2_body {C : wX} {ad : Nat → Nat} {n : Nat} {I J : mI} {R : mR} {Q : Int → Prop} (hC : wOK C cX12_isClear 3 RX12) (hRm : wRm C 2 33 0 0) (hE : wEnd C (some .boolean) ad n (fun r I' J' R' => (I' = I ∧ J' = J ∧ R' = R) ∧ Q r)) {l0 : Nat} {l1 : Int}   (hk0 : kK l0 = 12)  {k2 : Int → Prop} (kk2 : ∀ (y1 : Int), k2 y1 → WM C ad n I J R 0 0 2 [(0, vr l0), (1, vi y1)] []) (hw : P12_isClear_b2_body l0 I R Q k2 l1) : WM C ad n I J R 0 0 2 [(0, vr l0), (1, vi l1)] [] := by
  unfold P12_isClear_b2_body at hw
  refine wm_iload_n hC 1 dX12_isClear_2 rfl ?_
  refine wm_aload_n hC 0 dX12_isClear_3 rfl (k_ne0 hk0 (by decide)) ?_
  refine x_getR2 hC 20 fl_X12_72 rfl hk0 dX12_isClear_4 hw (fun g1 hw => ?_)
  refine wm_aload_n hC 0 dX12_isClear_7 rfl (k_ne0 hk0 (by decide)) ?_
  refine x_getI hC 13 fl_X12_51 rfl hk0 dX12_isClear_8 ?_
  refine x_iald hC g1 dX12_isClear_11 hw (fun hw => ?_)
  refine wm_icmp_ge (tgt := 83) hC dX12_isClear_12 (by decide) hw (fun hw => ?_) (fun hw => ?_)
  · refine wm_iconst hC dX12_isClear_83 (k := ?_)
    exact wm_zreturn hC hE (Or.inr rfl) dX12_isClear_84 ⟨⟨rfl, rfl, rfl⟩, hw⟩
  · refine wm_iload_n hC 1 dX12_isClear_15 rfl ?_
    refine wm_iconst hC dX12_isClear_16 (k := ?_)
    refine x_iadd hC dX12_isClear_17 hw (fun hw => ?_)
    refine wm_istore_n hC dX12_isClear_18 (by decide) (L2 := [(2, vi (l1 + 1)), (0, vr l0), (1, vi l1)]) rfl ?_
    obtain ⟨f, hw⟩ := hw
    refine wm_sub [1, 2, 0] (L2 := [(0, vr l0), (1, vi l1), (2, vi (l1 + 1))]) rfl ?_
    exact W12_isClear_b19 hC hRm hE hk0 kk2 f _ hw
set_option maxRecDepth 20000 in
theorem W12_isClear_b2 {C : wX} {ad : Nat → Nat} {n : Nat} {I J : mI} {R : mR} {Q : Int → Prop} (hC : wOK C cX12_isClear 3 RX12) (hRm : wRm C 2 33 0 0) (hE : wEnd C (some .boolean) ad n (fun r I' J' R' => (I' = I ∧ J' = J ∧ R' = R) ∧ Q r)) {l0 : Nat}   (hk0 : kK l0 = 12)  : ∀ (f : Nat) (l1 : Int), P12_isClear_b2 l0 I R Q f l1 → WM C ad n I J R 0 0 2 [(0, vr l0), (1, vi l1)] [] := by
  intro f
  induction f with
  | zero => intro l1 hw; exact hw.elim
  | succ f ih => intro l1 hw; exact W12_isClear_b2_body hC hRm hE hk0 (fun a0 hw => ih a0 hw) hw
def P12_isClear (l0 : Nat) (I : mI) (R : mR) (Q : Int → Prop) : Prop := (∃ f, P12_isClear_b2 l0 I R Q f 0)
set_option maxRecDepth 20000 in
theorem C12_isClear {ad : Nat → Nat} {n : Nat} {I J : mI} {R : mR} {Q : Int → Prop}  {l0 : Nat} (hk0 : kK l0 = 12) (hw : P12_isClear l0 I R Q) : wMet yX12_isClear cX12_isClear 3 (some .boolean) 2 33 false ad n I J R [vr l0] (fun r I' J' R' => (I' = I ∧ J' = J ∧ R' = R) ∧ Q r) := by
  refine wMet_of (by decide) (Nat.le_of_ble_eq_true rfl) (fun C hC hRm hE hS => ?_)
  refine (show WM C ad n I J R 0 0 0 [(0, vr l0)] [] from ?_)
  unfold P12_isClear at hw
  refine wm_iconst hC dX12_isClear_0 (k := ?_)
  refine wm_istore_n hC dX12_isClear_1 (by decide) (L2 := [(1, vi 0), (0, vr l0)]) rfl ?_
  obtain ⟨f, hw⟩ := hw
  refine wm_sub [1, 0] (L2 := [(0, vr l0), (1, vi 0)]) rfl ?_
  exact W12_isClear_b2 hC hRm hE hk0 f _ hw
def P12_isCleared_b43_body (l0 : Nat) (l1 : Int) (l2 : Int) (l3 : Int) (R : mR) (k32 : Int → mI → Prop) (Q : Int → mI → Prop) (k43 : Int → Int → mI → Prop) (l4 : Int) (l5 : Int) (I : mI) : Prop := (kK (R l0 20) = 21 ∧ (((0 : Int) ≤ (I l0 13) ∧ (I l0 13) < (kN (R l0 20) : Int)) ∧ (if (I (R l0 20) (I l0 13)) ≤ l5 then (P12_isClear l0 I R (fun r2 => (if r2 = 0 then (rg (l3 + 1) ∧ (k32 (l3 + 1) I)) else (Q 1 I)))) else (kK (R l0 61) = 21 ∧ (kK (R l0 49) = 21 ∧ (((0 : Int) ≤ l5 ∧ l5 < (kN (R l0 49) : Int)) ∧ (((0 : Int) ≤ l5 ∧ l5 < (kN (R l0 61) : Int)) ∧ wLet (up I (R l0 61) l5 (I (R l0 49) l5)) (fun I1 => (P12_has2 l1 l5 (fun r3 => (if r3 = 0 then (rg (l5 + 1) ∧ (k43 l4 (l5 + 1) I1)) else (kK (R l0 61) = 21 ∧ (kK (R l0 17) = 21 ∧ (((0 : Int) ≤ (I1 l0 13) ∧ (I1 l0 13) < (kN (R l0 17) : Int)) ∧ ((I1 (R l0 17) (I1 l0 13)) ≠ 0 ∧ (((0 : Int) ≤ l5 ∧ l5 < (kN (R l0 61) : Int)) ∧ wLet (up I1 (R l0 61) l5 (Int.tmod l4 (I1 (R l0 17) (I1 l0 13)))) (fun I2 => (kK (R l0 17) = 21 ∧ (((0 : Int) ≤ (I2 l0 13) ∧ (I2 l0 13) < (kN (R l0 17) : Int)) ∧ (((I2 (R l0 17) (I2 l0 13)) ≠ 0 ∧ rg (Int.tdiv l4 (I2 (R l0 17) (I2 l0 13)))) ∧ (wLet (Int.tdiv l4 (I2 (R l0 17) (I2 l0 13))) (fun x2 => (rg (l5 + 1) ∧ (k43 x2 (l5 + 1) I2))))))))))))))))))))))))
def P12_isCleared_b43 (l0 : Nat) (l1 : Int) (l2 : Int) (l3 : Int) (R : mR) (k32 : Int → mI → Prop) (Q : Int → mI → Prop) : Nat → Int → Int → mI → Prop
  | 0 => fun _ _ _ => False
  | f + 1 => fun l4 l5 I => P12_isCleared_b43_body l0 l1 l2 l3 R k32 Q (P12_isCleared_b43 l0 l1 l2 l3 R k32 Q f) l4 l5 I
set_option maxRecDepth 20000 in
theorem W12_isCleared_b43_body {C : wX} {ad : Nat → Nat} {n : Nat} {I J : mI} {R : mR} {Q : Int → mI → Prop} (hC : wOK C cX12_isCleared 6 RX12) (hRm : wRm C 3 55 0 0) (hE : wEnd C (some .boolean) ad n (fun r I' J' R' => (J' = J ∧ R' = R) ∧ Q r I')) {l0 : Nat} {l1 : Int} {l2 : Int} {l3 : Int} {l4 : Int} {l5 : Int}  {k32 : Int → mI → Prop} (hk0 : kK l0 = 12) (kk32 : ∀ (y3 : Int) (I' : mI), k32 y3 I' → WM C ad n I' J R 0 0 32 [(0, vr l0), (1, vi l1), (2, vi l2), (3, vi y3)] []) {k43 : Int → Int → mI → Prop} (kk43 : ∀ (y4 : Int) (y5 : Int) (I' : mI), k43 y4 y5 I' → WM C ad n I' J R 0 0 43 [(0, vr l0), (1, vi l1), (2, vi l2), (3, vi l3), (4, vi y4), (5, vi y5)] []) (hw : P12_isCleared_b43_body l0 l1 l2 l3 R k32 Q k43 l4 l5 I) : WM C ad n I J R 0 0 43 [(0, vr l0), (1, vi l1), (2, vi l2), (3, vi l3), (4, vi l4), (5, vi l5)] [] := by
  unfold P12_isCleared_b43_body at hw
  refine wm_iload hC 5 dX12_isCleared_43 rfl ?_
  refine wm_aload_n hC 0 dX12_isCleared_45 rfl (k_ne0 hk0 (by decide)) ?_
  refine x_getR2 hC 20 fl_X12_72 rfl hk0 dX12_isCleared_46 hw (fun g2 hw => ?_)
  refine wm_aload_n hC 0 dX12_isCleared_49 rfl (k_ne0 hk0 (by decide)) ?_
  refine x_getI hC 13 fl_X12_51 rfl hk0 dX12_isCleared_50 ?_
  refine x_iald hC g2 dX12_isCleared_53 hw (fun hw => ?_)
  refine wm_icmp_ge (tgt := 122) hC dX12_isCleared_54 (by decide) hw (fun hw => ?_) (fun hw => ?_)
  · refine wm_aload_n hC 0 dX12_isCleared_122 rfl (k_ne0 hk0 (by decide)) ?_
    refine y_callV_z_n hC hRm noS ml_X12_541 hk0 (C12_isClear hk0 hw) (Nat.le_of_ble_eq_true rfl) (Nat.le_of_ble_eq_true rfl) ⟨Nat.zero_le _, Nat.zero_le _⟩ rfl (st := []) rfl (Nat.le_of_ble_eq_true rfl) dX12_isCleared_123 (fun r2 hw => ?_)
    refine wm_if_eq (tgt := 131) hC dX12_isCleared_126 (by decide) hw (fun hw => ?_) (fun hw => ?_)
    · refine x_iinc hC 3 dX12_isCleared_131 rfl (by decide) (L2 := [(3, vi (l3 + 1)), (0, vr l0), (1, vi l1), (2, vi l2), (4, vi l4), (5, vi l5)]) rfl hw (fun hw => ?_)
      refine wm_goto (tgt := 32) hC dX12_isCleared_134 (by decide) ?_
      refine wm_sub [1, 2, 3, 0] (L2 := [(0, vr l0), (1, vi l1), (2, vi l2), (3, vi (l3 + 1))]) rfl ?_
      exact kk32 _ _ hw
    · refine wm_iconst hC dX12_isCleared_129 (k := ?_)
      exact wm_zreturn hC hE (Or.inr rfl) dX12_isCleared_130 ⟨⟨rfl, rfl⟩, hw⟩
  · refine wm_aload_n hC 0 dX12_isCleared_57 rfl (k_ne0 hk0 (by decide)) ?_
    refine x_getR2 hC 61 fl_X12_198 rfl hk0 dX12_isCleared_58 hw (fun g3 hw => ?_)
    refine wm_iload hC 5 dX12_isCleared_61 rfl ?_
    refine wm_aload_n hC 0 dX12_isCleared_63 rfl (k_ne0 hk0 (by decide)) ?_
    refine x_getR2 hC 49 fl_X12_162 rfl hk0 dX12_isCleared_64 hw (fun g4 hw => ?_)
    refine wm_iload hC 5 dX12_isCleared_67 rfl ?_
    refine x_iald hC g4 dX12_isCleared_69 hw (fun hw => ?_)
    refine x_iast hC g3 dX12_isCleared_70 hw (fun I1 hw => ?_)
    refine wm_iload_n hC 1 dX12_isCleared_71 rfl ?_
    refine wm_iload hC 5 dX12_isCleared_72 rfl ?_
    refine y_callS_z_n hC hRm noS ml_X12_351 (C12_has2  hw) (Nat.le_of_ble_eq_true rfl) (Nat.le_of_ble_eq_true rfl) ⟨Nat.zero_le _, Nat.zero_le _⟩ rfl (st := []) rfl (Nat.le_of_ble_eq_true rfl) dX12_isCleared_74 (fun r3 hw => ?_)
    refine wm_if_ne (tgt := 83) hC dX12_isCleared_77 (by decide) hw (fun hw => ?_) (fun hw => ?_)
    · refine wm_goto (tgt := 116) hC dX12_isCleared_80 (by decide) ?_
      refine x_iinc hC 5 dX12_isCleared_116 rfl (by decide) (L2 := [(5, vi (l5 + 1)), (0, vr l0), (1, vi l1), (2, vi l2), (3, vi l3), (4, vi l4)]) rfl hw (fun hw => ?_)
      refine wm_goto (tgt := 43) hC dX12_isCleared_119 (by decide) ?_
      refine wm_sub [1, 2, 3, 4, 5, 0] (L2 := [(0, vr l0), (1, vi l1), (2, vi l2), (3, vi l3), (4, vi l4), (5, vi (l5 + 1))]) rfl ?_
      exact kk43 _ _ _ hw
    · refine wm_aload_n hC 0 dX12_isCleared_83 rfl (k_ne0 hk0 (by decide)) ?_
      refine x_getR2 hC 61 fl_X12_198 rfl hk0 dX12_isCleared_84 hw (fun g5 hw => ?_)
      refine wm_iload hC 5 dX12_isCleared_87 rfl ?_
      refine wm_iload hC 4 dX12_isCleared_89 rfl ?_
      refine wm_aload_n hC 0 dX12_isCleared_91 rfl (k_ne0 hk0 (by decide)) ?_
      refine x_getR2 hC 17 fl_X12_63 rfl hk0 dX12_isCleared_92 hw (fun g6 hw => ?_)
      refine wm_aload_n hC 0 dX12_isCleared_95 rfl (k_ne0 hk0 (by decide)) ?_
      refine x_getI hC 13 fl_X12_51 rfl hk0 dX12_isCleared_96 ?_
      refine x_iald hC g6 dX12_isCleared_99 hw (fun hw => ?_)
      refine x_irem hC dX12_isCleared_100 hw (fun hw => ?_)
      refine x_iast hC g5 dX12_isCleared_101 hw (fun I2 hw => ?_)
      refine wm_iload hC 4 dX12_isCleared_102 rfl ?_
      refine wm_aload_n hC 0 dX12_isCleared_104 rfl (k_ne0 hk0 (by decide)) ?_
      refine x_getR2 hC 17 fl_X12_63 rfl hk0 dX12_isCleared_105 hw (fun g7 hw => ?_)
      refine wm_aload_n hC 0 dX12_isCleared_108 rfl (k_ne0 hk0 (by decide)) ?_
      refine x_getI hC 13 fl_X12_51 rfl hk0 dX12_isCleared_109 ?_
      refine x_iald hC g7 dX12_isCleared_112 hw (fun hw => ?_)
      refine x_idiv hC dX12_isCleared_113 hw (fun hw => ?_)
      refine x_nameI hw (fun x2 hw => ?_)
      refine wm_istore hC dX12_isCleared_114 (by decide) (L2 := [(4, vi x2), (0, vr l0), (1, vi l1), (2, vi l2), (3, vi l3), (5, vi l5)]) rfl ?_
      refine x_iinc hC 5 dX12_isCleared_116 rfl (by decide) (L2 := [(5, vi (l5 + 1)), (4, vi x2), (0, vr l0), (1, vi l1), (2, vi l2), (3, vi l3)]) rfl hw (fun hw => ?_)
      refine wm_goto (tgt := 43) hC dX12_isCleared_119 (by decide) ?_
      refine wm_sub [2, 3, 4, 5, 1, 0] (L2 := [(0, vr l0), (1, vi l1), (2, vi l2), (3, vi l3), (4, vi x2), (5, vi (l5 + 1))]) rfl ?_
      exact kk43 _ _ _ hw
set_option maxRecDepth 20000 in
theorem W12_isCleared_b43 {C : wX} {ad : Nat → Nat} {n : Nat} {J : mI} {R : mR} {Q : Int → mI → Prop} (hC : wOK C cX12_isCleared 6 RX12) (hRm : wRm C 3 55 0 0) (hE : wEnd C (some .boolean) ad n (fun r I' J' R' => (J' = J ∧ R' = R) ∧ Q r I')) {l0 : Nat} {l1 : Int} {l2 : Int} {l3 : Int}  {k32 : Int → mI → Prop} (hk0 : kK l0 = 12) (kk32 : ∀ (y3 : Int) (I' : mI), k32 y3 I' → WM C ad n I' J R 0 0 32 [(0, vr l0), (1, vi l1), (2, vi l2), (3, vi y3)] []) : ∀ (f : Nat) (l4 : Int) (l5 : Int) (I : mI), P12_isCleared_b43 l0 l1 l2 l3 R k32 Q f l4 l5 I → WM C ad n I J R 0 0 43 [(0, vr l0), (1, vi l1), (2, vi l2), (3, vi l3), (4, vi l4), (5, vi l5)] [] := by
  intro f
  induction f with
  | zero => intro l4 l5 I hw; exact hw.elim
  | succ f ih => intro l4 l5 I hw; exact W12_isCleared_b43_body hC hRm hE hk0 kk32 (fun a0 a1 a2 hw => ih a0 a1 a2 hw) hw
def P12_isCleared_b32_body (l0 : Nat) (l1 : Int) (l2 : Int) (R : mR) (Q : Int → mI → Prop) (k32 : Int → mI → Prop) (l3 : Int) (I : mI) : Prop := (if l2 ≤ l3 then (Q 0 I) else (∃ f, P12_isCleared_b43 l0 l1 l2 l3 R k32 Q f l3 0 I))
def P12_isCleared_b32 (l0 : Nat) (l1 : Int) (l2 : Int) (R : mR) (Q : Int → mI → Prop) : Nat → Int → mI → Prop
  | 0 => fun _ _ => False
  | f + 1 => fun l3 I => P12_isCleared_b32_body l0 l1 l2 R Q (P12_isCleared_b32 l0 l1 l2 R Q f) l3 I
set_option maxRecDepth 20000 in
theorem W12_isCleared_b32_body {C : wX} {ad : Nat → Nat} {n : Nat} {I J : mI} {R : mR} {Q : Int → mI → Prop} (hC : wOK C cX12_isCleared 6 RX12) (hRm : wRm C 3 55 0 0) (hE : wEnd C (some .boolean) ad n (fun r I' J' R' => (J' = J ∧ R' = R) ∧ Q r I')) {l0 : Nat} {l1 : Int} {l2 : Int} {l3 : Int}   (hk0 : kK l0 = 12)  {k32 : Int → mI → Prop} (kk32 : ∀ (y3 : Int) (I' : mI), k32 y3 I' → WM C ad n I' J R 0 0 32 [(0, vr l0), (1, vi l1), (2, vi l2), (3, vi y3)] []) (hw : P12_isCleared_b32_body l0 l1 l2 R Q k32 l3 I) : WM C ad n I J R 0 0 32 [(0, vr l0), (1, vi l1), (2, vi l2), (3, vi l3)] [] := by
  unfold P12_isCleared_b32_body at hw
  refine wm_iload_n hC 3 dX12_isCleared_32 rfl ?_
  refine wm_iload_n hC 2 dX12_isCleared_33 rfl ?_
  refine wm_icmp_ge (tgt := 137) hC dX12_isCleared_34 (by decide) hw (fun hw => ?_) (fun hw => ?_)
  · refine wm_iconst hC dX12_isCleared_137 (k := ?_)
    exact wm_zreturn hC hE (Or.inl rfl) dX12_isCleared_138 ⟨⟨rfl, rfl⟩, hw⟩
  · refine wm_iload_n hC 3 dX12_isCleared_37 rfl ?_
    refine wm_istore hC dX12_isCleared_38 (by decide) (L2 := [(4, vi l3), (0, vr l0), (1, vi l1), (2, vi l2), (3, vi l3)]) rfl ?_
    refine wm_iconst hC dX12_isCleared_40 (k := ?_)
    refine wm_istore hC dX12_isCleared_41 (by decide) (L2 := [(5, vi 0), (4, vi l3), (0, vr l0), (1, vi l1), (2, vi l2), (3, vi l3)]) rfl ?_
    obtain ⟨f, hw⟩ := hw
    refine wm_sub [2, 3, 4, 5, 1, 0] (L2 := [(0, vr l0), (1, vi l1), (2, vi l2), (3, vi l3), (4, vi l3), (5, vi 0)]) rfl ?_
    exact W12_isCleared_b43 hC hRm hE hk0 kk32 f _ _ _ hw
set_option maxRecDepth 20000 in
theorem W12_isCleared_b32 {C : wX} {ad : Nat → Nat} {n : Nat} {J : mI} {R : mR} {Q : Int → mI → Prop} (hC : wOK C cX12_isCleared 6 RX12) (hRm : wRm C 3 55 0 0) (hE : wEnd C (some .boolean) ad n (fun r I' J' R' => (J' = J ∧ R' = R) ∧ Q r I')) {l0 : Nat} {l1 : Int} {l2 : Int}   (hk0 : kK l0 = 12)  : ∀ (f : Nat) (l3 : Int) (I : mI), P12_isCleared_b32 l0 l1 l2 R Q f l3 I → WM C ad n I J R 0 0 32 [(0, vr l0), (1, vi l1), (2, vi l2), (3, vi l3)] [] := by
  intro f
  induction f with
  | zero => intro l3 I hw; exact hw.elim
  | succ f ih => intro l3 I hw; exact W12_isCleared_b32_body hC hRm hE hk0 (fun a0 a1 hw => ih a0 a1 hw) hw
def P12_isCleared_b4_body (l0 : Nat) (l1 : Int) (I : mI) (R : mR) (Q : Int → mI → Prop) (k4 : Int → Int → Prop) (l2 : Int) (l3 : Int) : Prop := (P12_bits l1 (fun r1 => (if r1 ≤ l3 then (∃ f, P12_isCleared_b32 l0 l1 l2 R Q f 0 I) else (kK (R l0 17) = 21 ∧ (((0 : Int) ≤ (I l0 13) ∧ (I l0 13) < (kN (R l0 17) : Int)) ∧ (rg (l2 * (I (R l0 17) (I l0 13))) ∧ (wLet (l2 * (I (R l0 17) (I l0 13))) (fun x1 => (rg (l3 + 1) ∧ (k4 x1 (l3 + 1)))))))))))
def P12_isCleared_b4 (l0 : Nat) (l1 : Int) (I : mI) (R : mR) (Q : Int → mI → Prop) : Nat → Int → Int → Prop
  | 0 => fun _ _ => False
  | f + 1 => fun l2 l3 => P12_isCleared_b4_body l0 l1 I R Q (P12_isCleared_b4 l0 l1 I R Q f) l2 l3
set_option maxRecDepth 20000 in
theorem W12_isCleared_b4_body {C : wX} {ad : Nat → Nat} {n : Nat} {I J : mI} {R : mR} {Q : Int → mI → Prop} (hC : wOK C cX12_isCleared 6 RX12) (hRm : wRm C 3 55 0 0) (hE : wEnd C (some .boolean) ad n (fun r I' J' R' => (J' = J ∧ R' = R) ∧ Q r I')) {l0 : Nat} {l1 : Int} {l2 : Int} {l3 : Int}   (hk0 : kK l0 = 12)  {k4 : Int → Int → Prop} (kk4 : ∀ (y2 : Int) (y3 : Int), k4 y2 y3 → WM C ad n I J R 0 0 4 [(0, vr l0), (1, vi l1), (2, vi y2), (3, vi y3)] []) (hw : P12_isCleared_b4_body l0 l1 I R Q k4 l2 l3) : WM C ad n I J R 0 0 4 [(0, vr l0), (1, vi l1), (2, vi l2), (3, vi l3)] [] := by
  unfold P12_isCleared_b4_body at hw
  refine wm_iload_n hC 3 dX12_isCleared_4 rfl ?_
  refine wm_iload_n hC 1 dX12_isCleared_5 rfl ?_
  refine y_callS_i_n hC hRm noS ml_X12_521 (C12_bits  hw) (Nat.le_of_ble_eq_true rfl) (Nat.le_of_ble_eq_true rfl) ⟨Nat.zero_le _, Nat.zero_le _⟩ rfl (st := [vi l3]) rfl (Nat.le_of_ble_eq_true rfl) dX12_isCleared_6 (fun r1 hw => ?_)
  refine wm_icmp_ge (tgt := 30) hC dX12_isCleared_9 (by decide) hw (fun hw => ?_) (fun hw => ?_)
  · refine wm_iconst hC dX12_isCleared_30 (k := ?_)
    refine wm_istore_n hC dX12_isCleared_31 (by decide) (L2 := [(3, vi 0), (0, vr l0), (1, vi l1), (2, vi l2)]) rfl ?_
    obtain ⟨f, hw⟩ := hw
    refine wm_sub [1, 2, 3, 0] (L2 := [(0, vr l0), (1, vi l1), (2, vi l2), (3, vi 0)]) rfl ?_
    exact W12_isCleared_b32 hC hRm hE hk0 f _ _ hw
  · refine wm_iload_n hC 2 dX12_isCleared_12 rfl ?_
    refine wm_aload_n hC 0 dX12_isCleared_13 rfl (k_ne0 hk0 (by decide)) ?_
    refine x_getR2 hC 17 fl_X12_63 rfl hk0 dX12_isCleared_14 hw (fun g1 hw => ?_)
    refine wm_aload_n hC 0 dX12_isCleared_17 rfl (k_ne0 hk0 (by decide)) ?_
    refine x_getI hC 13 fl_X12_51 rfl hk0 dX12_isCleared_18 ?_
    refine x_iald hC g1 dX12_isCleared_21 hw (fun hw => ?_)
    refine x_imul hC dX12_isCleared_22 hw (fun hw => ?_)
    refine x_nameI hw (fun x1 hw => ?_)
    refine wm_istore_n hC dX12_isCleared_23 (by decide) (L2 := [(2, vi x1), (0, vr l0), (1, vi l1), (3, vi l3)]) rfl ?_
    refine x_iinc hC 3 dX12_isCleared_24 rfl (by decide) (L2 := [(3, vi (l3 + 1)), (2, vi x1), (0, vr l0), (1, vi l1)]) rfl hw (fun hw => ?_)
    refine wm_goto (tgt := 4) hC dX12_isCleared_27 (by decide) ?_
    refine wm_sub [2, 3, 1, 0] (L2 := [(0, vr l0), (1, vi l1), (2, vi x1), (3, vi (l3 + 1))]) rfl ?_
    exact kk4 _ _ hw
set_option maxRecDepth 20000 in
theorem W12_isCleared_b4 {C : wX} {ad : Nat → Nat} {n : Nat} {I J : mI} {R : mR} {Q : Int → mI → Prop} (hC : wOK C cX12_isCleared 6 RX12) (hRm : wRm C 3 55 0 0) (hE : wEnd C (some .boolean) ad n (fun r I' J' R' => (J' = J ∧ R' = R) ∧ Q r I')) {l0 : Nat} {l1 : Int}   (hk0 : kK l0 = 12)  : ∀ (f : Nat) (l2 : Int) (l3 : Int), P12_isCleared_b4 l0 l1 I R Q f l2 l3 → WM C ad n I J R 0 0 4 [(0, vr l0), (1, vi l1), (2, vi l2), (3, vi l3)] [] := by
  intro f
  induction f with
  | zero => intro l2 l3 hw; exact hw.elim
  | succ f ih => intro l2 l3 hw; exact W12_isCleared_b4_body hC hRm hE hk0 (fun a0 a1 hw => ih a0 a1 hw) hw
def P12_isCleared (l0 : Nat) (l1 : Int) (I : mI) (R : mR) (Q : Int → mI → Prop) : Prop := (∃ f, P12_isCleared_b4 l0 l1 I R Q f 1 0)
set_option maxRecDepth 20000 in
theorem C12_isCleared {ad : Nat → Nat} {n : Nat} {I J : mI} {R : mR} {Q : Int → mI → Prop}  {l0 : Nat} {l1 : Int} (hk0 : kK l0 = 12) (hw : P12_isCleared l0 l1 I R Q) : wMet yX12_isCleared cX12_isCleared 6 (some .boolean) 3 55 false ad n I J R [vr l0, vi l1] (fun r I' J' R' => (J' = J ∧ R' = R) ∧ Q r I') := by
  refine wMet_of (by decide) (Nat.le_of_ble_eq_true rfl) (fun C hC hRm hE hS => ?_)
  refine (show WM C ad n I J R 0 0 0 [(0, vr l0), (1, vi l1)] [] from ?_)
  unfold P12_isCleared at hw
  refine wm_iconst hC dX12_isCleared_0 (k := ?_)
  refine wm_istore_n hC dX12_isCleared_1 (by decide) (L2 := [(2, vi 1), (0, vr l0), (1, vi l1)]) rfl ?_
  refine wm_iconst hC dX12_isCleared_2 (k := ?_)
  refine wm_istore_n hC dX12_isCleared_3 (by decide) (L2 := [(3, vi 0), (2, vi 1), (0, vr l0), (1, vi l1)]) rfl ?_
  obtain ⟨f, hw⟩ := hw
  refine wm_sub [2, 3, 1, 0] (L2 := [(0, vr l0), (1, vi l1), (2, vi 1), (3, vi 0)]) rfl ?_
  exact W12_isCleared_b4 hC hRm hE hk0 f _ _ hw
