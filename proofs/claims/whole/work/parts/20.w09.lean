def p12_isThing (l1 : Int) (I : mI) (Q : Int → Prop) : Prop := (if l1 < 0 then (Q 0) else (((0 : Int) ≤ (I 159 13) ∧ (I 159 13) < (2 : Int)) ∧ (if (I 167 (I 159 13)) ≤ l1 then (Q 0) else (Q 1))))
set_option maxRecDepth 20000 in
theorem c12_isThing {ad : Nat → Nat} {n : Nat} {I J : mI} {R : mR} {Q : Int → Prop}  (hRF : RF R) {l1 : Int}   (hw : p12_isThing l1 I Q) : wMet yX12_isThing cX12_isThing 2 (some .boolean) 1 12 false ad n I J R [vr 159, vi l1] (fun r I' J' R' => (I' = I ∧ J' = J ∧ R' = R) ∧ Q r) := by
  refine wMet_of (by decide) (Nat.le_of_ble_eq_true rfl) (fun C hC hRm hE hS => ?_)
  refine (show WM C ad n I J R 0 0 0 [(0, vr 159), (1, vi l1)] [] from ?_)
  unfold p12_isThing at hw
  refine wm_iload_n hC 1 dX12_isThing_0 rfl ?_
  refine wm_if_lt (tgt := 21) hC dX12_isThing_1 (by decide) hw (fun hw => ?_) (fun hw => ?_)
  · refine wm_iconst hC dX12_isThing_21 (k := ?_)
    exact wm_zreturn hC hE (Or.inl rfl) dX12_isThing_22 ⟨⟨rfl, rfl, rfl⟩, hw⟩
  · refine wm_iload_n hC 1 dX12_isThing_4 rfl ?_
    refine wm_aload_n hC 0 dX12_isThing_5 rfl (k_ne0 kk_159 (by decide)) ?_
    refine x_getR3 hC 20 fl_X12_72 rfl kk_159 (rf_159_20 hRF) dX12_isThing_6 ?_
    refine wm_aload_n hC 0 dX12_isThing_9 rfl (k_ne0 kk_159 (by decide)) ?_
    refine x_getI hC 13 fl_X12_51 rfl kk_159 dX12_isThing_10 ?_
    refine x_iald2 hC kk_167 kn_167 dX12_isThing_13 hw (fun hw => ?_)
    refine wm_icmp_ge (tgt := 21) hC dX12_isThing_14 (by decide) hw (fun hw => ?_) (fun hw => ?_)
    · refine wm_iconst hC dX12_isThing_21 (k := ?_)
      exact wm_zreturn hC hE (Or.inl rfl) dX12_isThing_22 ⟨⟨rfl, rfl, rfl⟩, hw⟩
    · refine wm_iconst hC dX12_isThing_17 (k := ?_)
      refine wm_goto (tgt := 22) hC dX12_isThing_18 (by decide) ?_
      exact wm_zreturn hC hE (Or.inr rfl) dX12_isThing_22 ⟨⟨rfl, rfl, rfl⟩, hw⟩
def p12_choice (l1 : Int) (l2 : Int) (I : mI) (J : mI) (Q : Int → mI → mI → Prop) : Prop := (p12_isThing l1 I (fun r1 => (if r1 = 0 then (Q (-1) I J) else (p12_is l2 0 1 (fun r2 => (if r2 = 0 then (Q (-1) I J) else (p12_everybody I (fun r3 => (p12_choiceOf 0 l1 r3 I J (fun r4 I1 J1 => (if r4 = (-1) then (Q r4 I1 J1) else (if l2 = 0 then (Q r4 I1 J1) else (((0 : Int) ≤ r4 ∧ r4 < (6 : Int)) ∧ (Q (I1 195 r4) I1 J1))))))))))))))
set_option maxRecDepth 20000 in
theorem c12_choice {ad : Nat → Nat} {n : Nat} {I J : mI} {R : mR} {Q : Int → mI → mI → Prop}  (hRF : RF R) {l1 : Int} {l2 : Int}    (hw : p12_choice l1 l2 I J Q) : wMet yX12_choice cX12_choice 4 (some .int) 8 188 false ad n I J R [vr 159, vi l1, vi l2] (fun r I' J' R' => (R' = R) ∧ Q r I' J') := by
  refine wMet_of (by decide) (Nat.le_of_ble_eq_true rfl) (fun C hC hRm hE hS => ?_)
  refine (show WM C ad n I J R 0 0 0 [(0, vr 159), (1, vi l1), (2, vi l2)] [] from ?_)
  unfold p12_choice at hw
  refine wm_aload_n hC 0 dX12_choice_0 rfl (k_ne0 kk_159 (by decide)) ?_
  refine wm_iload_n hC 1 dX12_choice_1 rfl ?_
  refine y_callV_z_n hC hRm noS ml_X12_513 kk_159 (c12_isThing hRF  hw) (Nat.le_of_ble_eq_true rfl) (Nat.le_of_ble_eq_true rfl) ⟨Nat.zero_le _, Nat.zero_le _⟩ rfl (st := []) rfl (Nat.le_of_ble_eq_true rfl) dX12_choice_2 (fun r1 hw => ?_)
  refine wm_if_eq (tgt := 17) hC dX12_choice_5 (by decide) hw (fun hw => ?_) (fun hw => ?_)
  · refine wm_iconst hC dX12_choice_17 (k := ?_)
    exact wm_ireturn hC hE dX12_choice_18 ⟨rfl, hw⟩
  · refine wm_iload_n hC 2 dX12_choice_8 rfl ?_
    refine wm_iconst hC dX12_choice_9 (k := ?_)
    refine wm_iconst hC dX12_choice_10 (k := ?_)
    refine y_callS_z_n hC hRm noS ml_X12_309 (c12_is hRF  hw) (Nat.le_of_ble_eq_true rfl) (Nat.le_of_ble_eq_true rfl) ⟨Nat.zero_le _, Nat.zero_le _⟩ rfl (st := []) rfl (Nat.le_of_ble_eq_true rfl) dX12_choice_11 (fun r2 hw => ?_)
    refine wm_if_ne (tgt := 19) hC dX12_choice_14 (by decide) hw (fun hw => ?_) (fun hw => ?_)
    · refine wm_iconst hC dX12_choice_17 (k := ?_)
      exact wm_ireturn hC hE dX12_choice_18 ⟨rfl, hw⟩
    · refine wm_aload_n hC 0 dX12_choice_19 rfl (k_ne0 kk_159 (by decide)) ?_
      refine wm_iconst hC dX12_choice_20 (k := ?_)
      refine wm_iload_n hC 1 dX12_choice_21 rfl ?_
      refine wm_aload_n hC 0 dX12_choice_22 rfl (k_ne0 kk_159 (by decide)) ?_
      refine y_callV_i_n hC hRm noS ml_X12_487 kk_159 (c12_everybody hRF  hw) (Nat.le_of_ble_eq_true rfl) (Nat.le_of_ble_eq_true rfl) ⟨Nat.zero_le _, Nat.zero_le _⟩ rfl (st := [vi l1, vi 0, vr 159]) rfl (Nat.le_of_ble_eq_true rfl) dX12_choice_23 (fun r3 hw => ?_)
      refine y_callV_i_IJ hC hRm noS ml_X12_491 kk_159 (c12_choiceOf hRF  hw) (Nat.le_of_ble_eq_true rfl) (Nat.le_of_ble_eq_true rfl) ⟨Nat.zero_le _, Nat.zero_le _⟩ rfl (st := []) rfl (Nat.le_of_ble_eq_true rfl) dX12_choice_26 (fun r4 I1 J1 hw => ?_)
      refine wm_istore_n hC dX12_choice_29 (by decide) (L2 := [(3, vi r4), (0, vr 159), (1, vi l1), (2, vi l2)]) rfl ?_
      refine wm_iload_n hC 0 dX12_choice_30 rfl ?_
      refine wm_iconst hC dX12_choice_31 (k := ?_)
      refine wm_icmp_eq (tgt := 39) hC dX12_choice_32 (by decide) hw (fun hw => ?_) (fun hw => ?_)
      · refine wm_iload_n hC 0 dX12_choice_39 rfl ?_
        refine wm_goto (tgt := 49) hC dX12_choice_40 (by decide) ?_
        exact wm_ireturn hC hE dX12_choice_49 ⟨rfl, hw⟩
      · refine wm_iload_n hC 3 dX12_choice_35 rfl ?_
        refine wm_if_ne (tgt := 43) hC dX12_choice_36 (by decide) hw (fun hw => ?_) (fun hw => ?_)
        · refine wm_iload_n hC 0 dX12_choice_39 rfl ?_
          refine wm_goto (tgt := 49) hC dX12_choice_40 (by decide) ?_
          exact wm_ireturn hC hE dX12_choice_49 ⟨rfl, hw⟩
        · refine wm_aload_n hC 1 dX12_choice_43 rfl (k_ne0 kk_159 (by decide)) ?_
          refine x_getR3 hC 58 fl_X12_189 rfl kk_159 (rf_159_58 hRF) dX12_choice_44 ?_
          refine wm_iload_n hC 0 dX12_choice_47 rfl ?_
          refine x_iald2 hC kk_195 kn_195 dX12_choice_48 hw (fun hw => ?_)
          exact wm_ireturn hC hE dX12_choice_49 ⟨rfl, hw⟩
def p12_nearSet (l1 : Int) (I : mI) (Q : Int → Prop) : Prop := (rg (6 * (I 159 13)) ∧ (rg ((6 * (I 159 13)) + l1) ∧ (((0 : Int) ≤ ((6 * (I 159 13)) + l1) ∧ ((6 * (I 159 13)) + l1) < (12 : Int)) ∧ (Q (I 169 ((6 * (I 159 13)) + l1))))))
set_option maxRecDepth 20000 in
theorem c12_nearSet {ad : Nat → Nat} {n : Nat} {I J : mI} {R : mR} {Q : Int → Prop}  (hRF : RF R) {l1 : Int}   (hw : p12_nearSet l1 I Q) : wMet yX12_nearSet cX12_nearSet 2 (some .int) 1 12 false ad n I J R [vr 159, vi l1] (fun r I' J' R' => (I' = I ∧ J' = J ∧ R' = R) ∧ Q r) := by
  refine wMet_of (by decide) (Nat.le_of_ble_eq_true rfl) (fun C hC hRm hE hS => ?_)
  refine (show WM C ad n I J R 0 0 0 [(0, vr 159), (1, vi l1)] [] from ?_)
  unfold p12_nearSet at hw
  refine wm_aload_n hC 0 dX12_nearSet_0 rfl (k_ne0 kk_159 (by decide)) ?_
  refine x_getR3 hC 22 fl_X12_78 rfl kk_159 (rf_159_22 hRF) dX12_nearSet_1 ?_
  refine wm_bipush hC dX12_nearSet_4 (k := ?_)
  refine wm_aload_n hC 0 dX12_nearSet_6 rfl (k_ne0 kk_159 (by decide)) ?_
  refine x_getI hC 13 fl_X12_51 rfl kk_159 dX12_nearSet_7 ?_
  refine x_imul hC dX12_nearSet_10 hw (fun hw => ?_)
  refine wm_iload_n hC 1 dX12_nearSet_11 rfl ?_
  refine x_iadd hC dX12_nearSet_12 hw (fun hw => ?_)
  refine x_iald2 hC kk_169 kn_169 dX12_nearSet_13 hw (fun hw => ?_)
  exact wm_ireturn hC hE dX12_nearSet_14 ⟨⟨rfl, rfl, rfl⟩, hw⟩
def p12_clashes_b21_body (l2 : Int) (I : mI) (k4 : Int → Int → Prop) (Q : Int → Prop) (k21 : Int → Int → Prop) (l1 : Int) (l3 : Int) : Prop := (((0 : Int) ≤ (I 159 13) ∧ (I 159 13) < (2 : Int)) ∧ (if (I 167 (I 159 13)) ≤ l3 then (rg (l2 + 1) ∧ (k4 l1 (l2 + 1))) else (p12_nearSet l2 I (fun r1 => (p12_has2 r1 l3 (fun r2 => (if r2 = 0 then (rg (l1 + 0) ∧ (rg (l3 + 1) ∧ (k21 (l1 + 0) (l3 + 1)))) else (((0 : Int) ≤ l2 ∧ l2 < (132 : Int)) ∧ (if (I 189 l2) = (-1) then (rg (l1 + 0) ∧ (rg (l3 + 1) ∧ (k21 (l1 + 0) (l3 + 1)))) else (((0 : Int) ≤ l2 ∧ l2 < (132 : Int)) ∧ (((0 : Int) ≤ l3 ∧ l3 < (132 : Int)) ∧ (if (I 189 l2) = (I 189 l3) then (rg (l1 + 1) ∧ (rg (l3 + 1) ∧ (k21 (l1 + 1) (l3 + 1)))) else (rg (l1 + 0) ∧ (rg (l3 + 1) ∧ (k21 (l1 + 0) (l3 + 1))))))))))))))))
def p12_clashes_b21 (l2 : Int) (I : mI) (k4 : Int → Int → Prop) (Q : Int → Prop) : Nat → Int → Int → Prop
  | 0 => fun _ _ => False
  | f + 1 => fun l1 l3 => p12_clashes_b21_body l2 I k4 Q (p12_clashes_b21 l2 I k4 Q f) l1 l3
set_option maxRecDepth 20000 in
theorem w12_clashes_b21_body {C : wX} {ad : Nat → Nat} {n : Nat} {I J : mI} {R : mR} {Q : Int → Prop} (hC : wOK C cX12_clashes 4 RX12) (hRm : wRm C 2 33 0 0) (hE : wEnd C (some .int) ad n (fun r I' J' R' => (I' = I ∧ J' = J ∧ R' = R) ∧ Q r)) (hRF : RF R) {l2 : Int} {l1 : Int} {l3 : Int}  {k4 : Int → Int → Prop}  (kk4 : ∀ (y1 : Int) (y2 : Int), k4 y1 y2 → WM C ad n I J R 0 0 4 [(0, vr 159), (1, vi y1), (2, vi y2)] []) {k21 : Int → Int → Prop} (kk21 : ∀ (y1 : Int) (y3 : Int), k21 y1 y3 → WM C ad n I J R 0 0 21 [(0, vr 159), (1, vi y1), (2, vi l2), (3, vi y3)] []) (hw : p12_clashes_b21_body l2 I k4 Q k21 l1 l3) : WM C ad n I J R 0 0 21 [(0, vr 159), (1, vi l1), (2, vi l2), (3, vi l3)] [] := by
  unfold p12_clashes_b21_body at hw
  refine wm_iload_n hC 3 dX12_clashes_21 rfl ?_
  refine wm_aload_n hC 0 dX12_clashes_22 rfl (k_ne0 kk_159 (by decide)) ?_
  refine x_getR3 hC 20 fl_X12_72 rfl kk_159 (rf_159_20 hRF) dX12_clashes_23 ?_
  refine wm_aload_n hC 0 dX12_clashes_26 rfl (k_ne0 kk_159 (by decide)) ?_
  refine x_getI hC 13 fl_X12_51 rfl kk_159 dX12_clashes_27 ?_
  refine x_iald2 hC kk_167 kn_167 dX12_clashes_30 hw (fun hw => ?_)
  refine wm_icmp_ge (tgt := 85) hC dX12_clashes_31 (by decide) hw (fun hw => ?_) (fun hw => ?_)
  · refine x_iinc hC 2 dX12_clashes_85 rfl (by decide) (L2 := [(2, vi (l2 + 1)), (0, vr 159), (1, vi l1), (3, vi l3)]) rfl hw (fun hw => ?_)
    refine wm_goto (tgt := 4) hC dX12_clashes_88 (by decide) ?_
    refine wm_sub [1, 2, 0] (L2 := [(0, vr 159), (1, vi l1), (2, vi (l2 + 1))]) rfl ?_
    exact kk4 _ _ hw
  · refine wm_iload_n hC 1 dX12_clashes_34 rfl ?_
    refine wm_aload_n hC 0 dX12_clashes_35 rfl (k_ne0 kk_159 (by decide)) ?_
    refine wm_iload_n hC 2 dX12_clashes_36 rfl ?_
    refine y_callV_i_n hC hRm noS ml_X12_501 kk_159 (c12_nearSet hRF  hw) (Nat.le_of_ble_eq_true rfl) (Nat.le_of_ble_eq_true rfl) ⟨Nat.zero_le _, Nat.zero_le _⟩ rfl (st := [vi l1]) rfl (Nat.le_of_ble_eq_true rfl) dX12_clashes_37 (fun r1 hw => ?_)
    refine wm_iload_n hC 3 dX12_clashes_40 rfl ?_
    refine y_callS_z_n hC hRm noS ml_X12_351 (c12_has2 hRF  hw) (Nat.le_of_ble_eq_true rfl) (Nat.le_of_ble_eq_true rfl) ⟨Nat.zero_le _, Nat.zero_le _⟩ rfl (st := [vi l1]) rfl (Nat.le_of_ble_eq_true rfl) dX12_clashes_41 (fun r2 hw => ?_)
    refine wm_if_eq (tgt := 76) hC dX12_clashes_44 (by decide) hw (fun hw => ?_) (fun hw => ?_)
    · refine wm_iconst hC dX12_clashes_76 (k := ?_)
      refine x_iadd hC dX12_clashes_77 hw (fun hw => ?_)
      refine wm_istore_n hC dX12_clashes_78 (by decide) (L2 := [(1, vi (l1 + 0)), (0, vr 159), (2, vi l2), (3, vi l3)]) rfl ?_
      refine x_iinc hC 3 dX12_clashes_79 rfl (by decide) (L2 := [(3, vi (l3 + 1)), (1, vi (l1 + 0)), (0, vr 159), (2, vi l2)]) rfl hw (fun hw => ?_)
      refine wm_goto (tgt := 21) hC dX12_clashes_82 (by decide) ?_
      refine wm_sub [2, 1, 3, 0] (L2 := [(0, vr 159), (1, vi (l1 + 0)), (2, vi l2), (3, vi (l3 + 1))]) rfl ?_
      exact kk21 _ _ hw
    · refine wm_aload_n hC 0 dX12_clashes_47 rfl (k_ne0 kk_159 (by decide)) ?_
      refine x_getR3 hC 49 fl_X12_162 rfl kk_159 (rf_159_49 hRF) dX12_clashes_48 ?_
      refine wm_iload_n hC 2 dX12_clashes_51 rfl ?_
      refine x_iald2 hC kk_189 kn_189 dX12_clashes_52 hw (fun hw => ?_)
      refine wm_iconst hC dX12_clashes_53 (k := ?_)
      refine wm_icmp_eq (tgt := 76) hC dX12_clashes_54 (by decide) hw (fun hw => ?_) (fun hw => ?_)
      · refine wm_iconst hC dX12_clashes_76 (k := ?_)
        refine x_iadd hC dX12_clashes_77 hw (fun hw => ?_)
        refine wm_istore_n hC dX12_clashes_78 (by decide) (L2 := [(1, vi (l1 + 0)), (0, vr 159), (2, vi l2), (3, vi l3)]) rfl ?_
        refine x_iinc hC 3 dX12_clashes_79 rfl (by decide) (L2 := [(3, vi (l3 + 1)), (1, vi (l1 + 0)), (0, vr 159), (2, vi l2)]) rfl hw (fun hw => ?_)
        refine wm_goto (tgt := 21) hC dX12_clashes_82 (by decide) ?_
        refine wm_sub [2, 1, 3, 0] (L2 := [(0, vr 159), (1, vi (l1 + 0)), (2, vi l2), (3, vi (l3 + 1))]) rfl ?_
        exact kk21 _ _ hw
      · refine wm_aload_n hC 0 dX12_clashes_57 rfl (k_ne0 kk_159 (by decide)) ?_
        refine x_getR3 hC 49 fl_X12_162 rfl kk_159 (rf_159_49 hRF) dX12_clashes_58 ?_
        refine wm_iload_n hC 2 dX12_clashes_61 rfl ?_
        refine x_iald2 hC kk_189 kn_189 dX12_clashes_62 hw (fun hw => ?_)
        refine wm_aload_n hC 0 dX12_clashes_63 rfl (k_ne0 kk_159 (by decide)) ?_
        refine x_getR3 hC 49 fl_X12_162 rfl kk_159 (rf_159_49 hRF) dX12_clashes_64 ?_
        refine wm_iload_n hC 3 dX12_clashes_67 rfl ?_
        refine x_iald2 hC kk_189 kn_189 dX12_clashes_68 hw (fun hw => ?_)
        refine wm_icmp_ne (tgt := 76) hC dX12_clashes_69 (by decide) hw (fun hw => ?_) (fun hw => ?_)
        · refine wm_iconst hC dX12_clashes_72 (k := ?_)
          refine wm_goto (tgt := 77) hC dX12_clashes_73 (by decide) ?_
          refine x_iadd hC dX12_clashes_77 hw (fun hw => ?_)
          refine wm_istore_n hC dX12_clashes_78 (by decide) (L2 := [(1, vi (l1 + 1)), (0, vr 159), (2, vi l2), (3, vi l3)]) rfl ?_
          refine x_iinc hC 3 dX12_clashes_79 rfl (by decide) (L2 := [(3, vi (l3 + 1)), (1, vi (l1 + 1)), (0, vr 159), (2, vi l2)]) rfl hw (fun hw => ?_)
          refine wm_goto (tgt := 21) hC dX12_clashes_82 (by decide) ?_
          refine wm_sub [2, 1, 3, 0] (L2 := [(0, vr 159), (1, vi (l1 + 1)), (2, vi l2), (3, vi (l3 + 1))]) rfl ?_
          exact kk21 _ _ hw
        · refine wm_iconst hC dX12_clashes_76 (k := ?_)
          refine x_iadd hC dX12_clashes_77 hw (fun hw => ?_)
          refine wm_istore_n hC dX12_clashes_78 (by decide) (L2 := [(1, vi (l1 + 0)), (0, vr 159), (2, vi l2), (3, vi l3)]) rfl ?_
          refine x_iinc hC 3 dX12_clashes_79 rfl (by decide) (L2 := [(3, vi (l3 + 1)), (1, vi (l1 + 0)), (0, vr 159), (2, vi l2)]) rfl hw (fun hw => ?_)
          refine wm_goto (tgt := 21) hC dX12_clashes_82 (by decide) ?_
          refine wm_sub [2, 1, 3, 0] (L2 := [(0, vr 159), (1, vi (l1 + 0)), (2, vi l2), (3, vi (l3 + 1))]) rfl ?_
          exact kk21 _ _ hw
set_option maxRecDepth 20000 in
theorem w12_clashes_b21 {C : wX} {ad : Nat → Nat} {n : Nat} {I : mI} {J : mI} {R : mR} {Q : Int → Prop} (hC : wOK C cX12_clashes 4 RX12) (hRm : wRm C 2 33 0 0) (hE : wEnd C (some .int) ad n (fun r I' J' R' => (I' = I ∧ J' = J ∧ R' = R) ∧ Q r)) (hRF : RF R) {l2 : Int}  {k4 : Int → Int → Prop}  (kk4 : ∀ (y1 : Int) (y2 : Int), k4 y1 y2 → WM C ad n I J R 0 0 4 [(0, vr 159), (1, vi y1), (2, vi y2)] []) : ∀ (f : Nat) (l1 : Int) (l3 : Int), p12_clashes_b21 l2 I k4 Q f l1 l3 → WM C ad n I J R 0 0 21 [(0, vr 159), (1, vi l1), (2, vi l2), (3, vi l3)] [] := by
  intro f
  induction f with
  | zero => intro l1 l3 hw; exact hw.elim
  | succ f ih => intro l1 l3 hw; exact w12_clashes_b21_body hC hRm hE hRF kk4 (fun a0 a1 aw => ih a0 a1 aw) hw
def p12_clashes_b4_body (I : mI) (Q : Int → Prop) (k4 : Int → Int → Prop) (l1 : Int) (l2 : Int) : Prop := (((0 : Int) ≤ (I 159 13) ∧ (I 159 13) < (2 : Int)) ∧ (if (I 167 (I 159 13)) ≤ l2 then (Q l1) else (rg (l2 + 1) ∧ (∃ f, p12_clashes_b21 l2 I k4 Q f l1 (l2 + 1)))))
def p12_clashes_b4 (I : mI) (Q : Int → Prop) : Nat → Int → Int → Prop
  | 0 => fun _ _ => False
  | f + 1 => fun l1 l2 => p12_clashes_b4_body I Q (p12_clashes_b4 I Q f) l1 l2
set_option maxRecDepth 20000 in
theorem w12_clashes_b4_body {C : wX} {ad : Nat → Nat} {n : Nat} {I J : mI} {R : mR} {Q : Int → Prop} (hC : wOK C cX12_clashes 4 RX12) (hRm : wRm C 2 33 0 0) (hE : wEnd C (some .int) ad n (fun r I' J' R' => (I' = I ∧ J' = J ∧ R' = R) ∧ Q r)) (hRF : RF R)  {l1 : Int} {l2 : Int}     {k4 : Int → Int → Prop} (kk4 : ∀ (y1 : Int) (y2 : Int), k4 y1 y2 → WM C ad n I J R 0 0 4 [(0, vr 159), (1, vi y1), (2, vi y2)] []) (hw : p12_clashes_b4_body I Q k4 l1 l2) : WM C ad n I J R 0 0 4 [(0, vr 159), (1, vi l1), (2, vi l2)] [] := by
  unfold p12_clashes_b4_body at hw
  refine wm_iload_n hC 2 dX12_clashes_4 rfl ?_
  refine wm_aload_n hC 0 dX12_clashes_5 rfl (k_ne0 kk_159 (by decide)) ?_
  refine x_getR3 hC 20 fl_X12_72 rfl kk_159 (rf_159_20 hRF) dX12_clashes_6 ?_
  refine wm_aload_n hC 0 dX12_clashes_9 rfl (k_ne0 kk_159 (by decide)) ?_
  refine x_getI hC 13 fl_X12_51 rfl kk_159 dX12_clashes_10 ?_
  refine x_iald2 hC kk_167 kn_167 dX12_clashes_13 hw (fun hw => ?_)
  refine wm_icmp_ge (tgt := 91) hC dX12_clashes_14 (by decide) hw (fun hw => ?_) (fun hw => ?_)
  · refine wm_iload_n hC 1 dX12_clashes_91 rfl ?_
    exact wm_ireturn hC hE dX12_clashes_92 ⟨⟨rfl, rfl, rfl⟩, hw⟩
  · refine wm_iload_n hC 2 dX12_clashes_17 rfl ?_
    refine wm_iconst hC dX12_clashes_18 (k := ?_)
    refine x_iadd hC dX12_clashes_19 hw (fun hw => ?_)
    refine wm_istore_n hC dX12_clashes_20 (by decide) (L2 := [(3, vi (l2 + 1)), (0, vr 159), (1, vi l1), (2, vi l2)]) rfl ?_
    obtain ⟨f, hw⟩ := hw
    refine wm_sub [1, 2, 3, 0] (L2 := [(0, vr 159), (1, vi l1), (2, vi l2), (3, vi (l2 + 1))]) rfl ?_
    exact w12_clashes_b21 hC hRm hE hRF kk4 f _ _ hw
set_option maxRecDepth 20000 in
theorem w12_clashes_b4 {C : wX} {ad : Nat → Nat} {n : Nat} {I : mI} {J : mI} {R : mR} {Q : Int → Prop} (hC : wOK C cX12_clashes 4 RX12) (hRm : wRm C 2 33 0 0) (hE : wEnd C (some .int) ad n (fun r I' J' R' => (I' = I ∧ J' = J ∧ R' = R) ∧ Q r)) (hRF : RF R)      : ∀ (f : Nat) (l1 : Int) (l2 : Int), p12_clashes_b4 I Q f l1 l2 → WM C ad n I J R 0 0 4 [(0, vr 159), (1, vi l1), (2, vi l2)] [] := by
  intro f
  induction f with
  | zero => intro l1 l2 hw; exact hw.elim
  | succ f ih => intro l1 l2 hw; exact w12_clashes_b4_body hC hRm hE hRF  (fun a0 a1 aw => ih a0 a1 aw) hw
def p12_clashes (I : mI) (Q : Int → Prop) : Prop := (∃ f, p12_clashes_b4 I Q f 0 0)
set_option maxRecDepth 20000 in
theorem c12_clashes {ad : Nat → Nat} {n : Nat} {I J : mI} {R : mR} {Q : Int → Prop}  (hRF : RF R)   (hw : p12_clashes I Q) : wMet yX12_clashes cX12_clashes 4 (some .int) 2 33 false ad n I J R [vr 159] (fun r I' J' R' => (I' = I ∧ J' = J ∧ R' = R) ∧ Q r) := by
  refine wMet_of (by decide) (Nat.le_of_ble_eq_true rfl) (fun C hC hRm hE hS => ?_)
  refine (show WM C ad n I J R 0 0 0 [(0, vr 159)] [] from ?_)
  unfold p12_clashes at hw
  refine wm_iconst hC dX12_clashes_0 (k := ?_)
  refine wm_istore_n hC dX12_clashes_1 (by decide) (L2 := [(1, vi 0), (0, vr 159)]) rfl ?_
  refine wm_iconst hC dX12_clashes_2 (k := ?_)
  refine wm_istore_n hC dX12_clashes_3 (by decide) (L2 := [(2, vi 0), (1, vi 0), (0, vr 159)]) rfl ?_
  obtain ⟨f, hw⟩ := hw
  refine wm_sub [2, 1, 0] (L2 := [(0, vr 159), (1, vi 0), (2, vi 0)]) rfl ?_
  exact w12_clashes_b4 hC hRm hE hRF  f _ _ hw
def p12_isClear_b19_body (l1 : Int) (I : mI) (k2 : Int → Prop) (Q : Int → Prop) (k19 : Int → Prop) (l2 : Int) : Prop := (((0 : Int) ≤ (I 159 13) ∧ (I 159 13) < (2 : Int)) ∧ (if (I 167 (I 159 13)) ≤ l2 then (rg (l1 + 1) ∧ (k2 (l1 + 1))) else (p12_nearSet l1 I (fun r1 => (p12_has2 r1 l2 (fun r2 => (if r2 = 0 then (rg (l2 + 1) ∧ (k19 (l2 + 1))) else (((0 : Int) ≤ l1 ∧ l1 < (6 : Int)) ∧ (if (I 198 l1) = (-1) then (rg (l2 + 1) ∧ (k19 (l2 + 1))) else (((0 : Int) ≤ l1 ∧ l1 < (6 : Int)) ∧ (((0 : Int) ≤ l2 ∧ l2 < (6 : Int)) ∧ (if (I 198 l1) = (I 198 l2) then (Q 0) else (rg (l2 + 1) ∧ (k19 (l2 + 1)))))))))))))))
def p12_isClear_b19 (l1 : Int) (I : mI) (k2 : Int → Prop) (Q : Int → Prop) : Nat → Int → Prop
  | 0 => fun _ => False
  | f + 1 => fun l2 => p12_isClear_b19_body l1 I k2 Q (p12_isClear_b19 l1 I k2 Q f) l2
set_option maxRecDepth 20000 in
theorem w12_isClear_b19_body {C : wX} {ad : Nat → Nat} {n : Nat} {I J : mI} {R : mR} {Q : Int → Prop} (hC : wOK C cX12_isClear 3 RX12) (hRm : wRm C 2 33 0 0) (hE : wEnd C (some .boolean) ad n (fun r I' J' R' => (I' = I ∧ J' = J ∧ R' = R) ∧ Q r)) (hRF : RF R) {l1 : Int} {l2 : Int}  {k2 : Int → Prop}  (kk2 : ∀ (y1 : Int), k2 y1 → WM C ad n I J R 0 0 2 [(0, vr 159), (1, vi y1)] []) {k19 : Int → Prop} (kk19 : ∀ (y2 : Int), k19 y2 → WM C ad n I J R 0 0 19 [(0, vr 159), (1, vi l1), (2, vi y2)] []) (hw : p12_isClear_b19_body l1 I k2 Q k19 l2) : WM C ad n I J R 0 0 19 [(0, vr 159), (1, vi l1), (2, vi l2)] [] := by
  unfold p12_isClear_b19_body at hw
  refine wm_iload_n hC 2 dX12_isClear_19 rfl ?_
  refine wm_aload_n hC 0 dX12_isClear_20 rfl (k_ne0 kk_159 (by decide)) ?_
  refine x_getR3 hC 20 fl_X12_72 rfl kk_159 (rf_159_20 hRF) dX12_isClear_21 ?_
  refine wm_aload_n hC 0 dX12_isClear_24 rfl (k_ne0 kk_159 (by decide)) ?_
  refine x_getI hC 13 fl_X12_51 rfl kk_159 dX12_isClear_25 ?_
  refine x_iald2 hC kk_167 kn_167 dX12_isClear_28 hw (fun hw => ?_)
  refine wm_icmp_ge (tgt := 77) hC dX12_isClear_29 (by decide) hw (fun hw => ?_) (fun hw => ?_)
  · refine x_iinc hC 1 dX12_isClear_77 rfl (by decide) (L2 := [(1, vi (l1 + 1)), (0, vr 159), (2, vi l2)]) rfl hw (fun hw => ?_)
    refine wm_goto (tgt := 2) hC dX12_isClear_80 (by decide) ?_
    refine wm_sub [1, 0] (L2 := [(0, vr 159), (1, vi (l1 + 1))]) rfl ?_
    exact kk2 _ hw
  · refine wm_aload_n hC 0 dX12_isClear_32 rfl (k_ne0 kk_159 (by decide)) ?_
    refine wm_iload_n hC 1 dX12_isClear_33 rfl ?_
    refine y_callV_i_n hC hRm noS ml_X12_501 kk_159 (c12_nearSet hRF  hw) (Nat.le_of_ble_eq_true rfl) (Nat.le_of_ble_eq_true rfl) ⟨Nat.zero_le _, Nat.zero_le _⟩ rfl (st := []) rfl (Nat.le_of_ble_eq_true rfl) dX12_isClear_34 (fun r1 hw => ?_)
    refine wm_iload_n hC 2 dX12_isClear_37 rfl ?_
    refine y_callS_z_n hC hRm noS ml_X12_351 (c12_has2 hRF  hw) (Nat.le_of_ble_eq_true rfl) (Nat.le_of_ble_eq_true rfl) ⟨Nat.zero_le _, Nat.zero_le _⟩ rfl (st := []) rfl (Nat.le_of_ble_eq_true rfl) dX12_isClear_38 (fun r2 hw => ?_)
    refine wm_if_eq (tgt := 71) hC dX12_isClear_41 (by decide) hw (fun hw => ?_) (fun hw => ?_)
    · refine x_iinc hC 2 dX12_isClear_71 rfl (by decide) (L2 := [(2, vi (l2 + 1)), (0, vr 159), (1, vi l1)]) rfl hw (fun hw => ?_)
      refine wm_goto (tgt := 19) hC dX12_isClear_74 (by decide) ?_
      refine wm_sub [1, 2, 0] (L2 := [(0, vr 159), (1, vi l1), (2, vi (l2 + 1))]) rfl ?_
      exact kk19 _ hw
    · refine wm_aload_n hC 0 dX12_isClear_44 rfl (k_ne0 kk_159 (by decide)) ?_
      refine x_getR3 hC 61 fl_X12_198 rfl kk_159 (rf_159_61 hRF) dX12_isClear_45 ?_
      refine wm_iload_n hC 1 dX12_isClear_48 rfl ?_
      refine x_iald2 hC kk_198 kn_198 dX12_isClear_49 hw (fun hw => ?_)
      refine wm_iconst hC dX12_isClear_50 (k := ?_)
      refine wm_icmp_eq (tgt := 71) hC dX12_isClear_51 (by decide) hw (fun hw => ?_) (fun hw => ?_)
      · refine x_iinc hC 2 dX12_isClear_71 rfl (by decide) (L2 := [(2, vi (l2 + 1)), (0, vr 159), (1, vi l1)]) rfl hw (fun hw => ?_)
        refine wm_goto (tgt := 19) hC dX12_isClear_74 (by decide) ?_
        refine wm_sub [1, 2, 0] (L2 := [(0, vr 159), (1, vi l1), (2, vi (l2 + 1))]) rfl ?_
        exact kk19 _ hw
      · refine wm_aload_n hC 0 dX12_isClear_54 rfl (k_ne0 kk_159 (by decide)) ?_
        refine x_getR3 hC 61 fl_X12_198 rfl kk_159 (rf_159_61 hRF) dX12_isClear_55 ?_
        refine wm_iload_n hC 1 dX12_isClear_58 rfl ?_
        refine x_iald2 hC kk_198 kn_198 dX12_isClear_59 hw (fun hw => ?_)
        refine wm_aload_n hC 0 dX12_isClear_60 rfl (k_ne0 kk_159 (by decide)) ?_
        refine x_getR3 hC 61 fl_X12_198 rfl kk_159 (rf_159_61 hRF) dX12_isClear_61 ?_
        refine wm_iload_n hC 2 dX12_isClear_64 rfl ?_
        refine x_iald2 hC kk_198 kn_198 dX12_isClear_65 hw (fun hw => ?_)
        refine wm_icmp_ne (tgt := 71) hC dX12_isClear_66 (by decide) hw (fun hw => ?_) (fun hw => ?_)
        · refine wm_iconst hC dX12_isClear_69 (k := ?_)
          exact wm_zreturn hC hE (Or.inl rfl) dX12_isClear_70 ⟨⟨rfl, rfl, rfl⟩, hw⟩
        · refine x_iinc hC 2 dX12_isClear_71 rfl (by decide) (L2 := [(2, vi (l2 + 1)), (0, vr 159), (1, vi l1)]) rfl hw (fun hw => ?_)
          refine wm_goto (tgt := 19) hC dX12_isClear_74 (by decide) ?_
          refine wm_sub [1, 2, 0] (L2 := [(0, vr 159), (1, vi l1), (2, vi (l2 + 1))]) rfl ?_
          exact kk19 _ hw
set_option maxRecDepth 20000 in
theorem w12_isClear_b19 {C : wX} {ad : Nat → Nat} {n : Nat} {I : mI} {J : mI} {R : mR} {Q : Int → Prop} (hC : wOK C cX12_isClear 3 RX12) (hRm : wRm C 2 33 0 0) (hE : wEnd C (some .boolean) ad n (fun r I' J' R' => (I' = I ∧ J' = J ∧ R' = R) ∧ Q r)) (hRF : RF R) {l1 : Int}  {k2 : Int → Prop}  (kk2 : ∀ (y1 : Int), k2 y1 → WM C ad n I J R 0 0 2 [(0, vr 159), (1, vi y1)] []) : ∀ (f : Nat) (l2 : Int), p12_isClear_b19 l1 I k2 Q f l2 → WM C ad n I J R 0 0 19 [(0, vr 159), (1, vi l1), (2, vi l2)] [] := by
  intro f
  induction f with
  | zero => intro l2 hw; exact hw.elim
  | succ f ih => intro l2 hw; exact w12_isClear_b19_body hC hRm hE hRF kk2 (fun a0 aw => ih a0 aw) hw
def p12_isClear_b2_body (I : mI) (Q : Int → Prop) (k2 : Int → Prop) (l1 : Int) : Prop := (((0 : Int) ≤ (I 159 13) ∧ (I 159 13) < (2 : Int)) ∧ (if (I 167 (I 159 13)) ≤ l1 then (Q 1) else (rg (l1 + 1) ∧ (∃ f, p12_isClear_b19 l1 I k2 Q f (l1 + 1)))))
def p12_isClear_b2 (I : mI) (Q : Int → Prop) : Nat → Int → Prop
  | 0 => fun _ => False
  | f + 1 => fun l1 => p12_isClear_b2_body I Q (p12_isClear_b2 I Q f) l1
set_option maxRecDepth 20000 in
theorem w12_isClear_b2_body {C : wX} {ad : Nat → Nat} {n : Nat} {I J : mI} {R : mR} {Q : Int → Prop} (hC : wOK C cX12_isClear 3 RX12) (hRm : wRm C 2 33 0 0) (hE : wEnd C (some .boolean) ad n (fun r I' J' R' => (I' = I ∧ J' = J ∧ R' = R) ∧ Q r)) (hRF : RF R)  {l1 : Int}     {k2 : Int → Prop} (kk2 : ∀ (y1 : Int), k2 y1 → WM C ad n I J R 0 0 2 [(0, vr 159), (1, vi y1)] []) (hw : p12_isClear_b2_body I Q k2 l1) : WM C ad n I J R 0 0 2 [(0, vr 159), (1, vi l1)] [] := by
  unfold p12_isClear_b2_body at hw
  refine wm_iload_n hC 1 dX12_isClear_2 rfl ?_
  refine wm_aload_n hC 0 dX12_isClear_3 rfl (k_ne0 kk_159 (by decide)) ?_
  refine x_getR3 hC 20 fl_X12_72 rfl kk_159 (rf_159_20 hRF) dX12_isClear_4 ?_
  refine wm_aload_n hC 0 dX12_isClear_7 rfl (k_ne0 kk_159 (by decide)) ?_
  refine x_getI hC 13 fl_X12_51 rfl kk_159 dX12_isClear_8 ?_
  refine x_iald2 hC kk_167 kn_167 dX12_isClear_11 hw (fun hw => ?_)
  refine wm_icmp_ge (tgt := 83) hC dX12_isClear_12 (by decide) hw (fun hw => ?_) (fun hw => ?_)
  · refine wm_iconst hC dX12_isClear_83 (k := ?_)
    exact wm_zreturn hC hE (Or.inr rfl) dX12_isClear_84 ⟨⟨rfl, rfl, rfl⟩, hw⟩
  · refine wm_iload_n hC 1 dX12_isClear_15 rfl ?_
    refine wm_iconst hC dX12_isClear_16 (k := ?_)
    refine x_iadd hC dX12_isClear_17 hw (fun hw => ?_)
    refine wm_istore_n hC dX12_isClear_18 (by decide) (L2 := [(2, vi (l1 + 1)), (0, vr 159), (1, vi l1)]) rfl ?_
    obtain ⟨f, hw⟩ := hw
    refine wm_sub [1, 2, 0] (L2 := [(0, vr 159), (1, vi l1), (2, vi (l1 + 1))]) rfl ?_
    exact w12_isClear_b19 hC hRm hE hRF kk2 f _ hw
set_option maxRecDepth 20000 in
theorem w12_isClear_b2 {C : wX} {ad : Nat → Nat} {n : Nat} {I : mI} {J : mI} {R : mR} {Q : Int → Prop} (hC : wOK C cX12_isClear 3 RX12) (hRm : wRm C 2 33 0 0) (hE : wEnd C (some .boolean) ad n (fun r I' J' R' => (I' = I ∧ J' = J ∧ R' = R) ∧ Q r)) (hRF : RF R)      : ∀ (f : Nat) (l1 : Int), p12_isClear_b2 I Q f l1 → WM C ad n I J R 0 0 2 [(0, vr 159), (1, vi l1)] [] := by
  intro f
  induction f with
  | zero => intro l1 hw; exact hw.elim
  | succ f ih => intro l1 hw; exact w12_isClear_b2_body hC hRm hE hRF  (fun a0 aw => ih a0 aw) hw
def p12_isClear (I : mI) (Q : Int → Prop) : Prop := (∃ f, p12_isClear_b2 I Q f 0)
set_option maxRecDepth 20000 in
theorem c12_isClear {ad : Nat → Nat} {n : Nat} {I J : mI} {R : mR} {Q : Int → Prop}  (hRF : RF R)   (hw : p12_isClear I Q) : wMet yX12_isClear cX12_isClear 3 (some .boolean) 2 33 false ad n I J R [vr 159] (fun r I' J' R' => (I' = I ∧ J' = J ∧ R' = R) ∧ Q r) := by
  refine wMet_of (by decide) (Nat.le_of_ble_eq_true rfl) (fun C hC hRm hE hS => ?_)
  refine (show WM C ad n I J R 0 0 0 [(0, vr 159)] [] from ?_)
  unfold p12_isClear at hw
  refine wm_iconst hC dX12_isClear_0 (k := ?_)
  refine wm_istore_n hC dX12_isClear_1 (by decide) (L2 := [(1, vi 0), (0, vr 159)]) rfl ?_
  obtain ⟨f, hw⟩ := hw
  refine wm_sub [1, 0] (L2 := [(0, vr 159), (1, vi 0)]) rfl ?_
  exact w12_isClear_b2 hC hRm hE hRF  f _ hw
def p12_isCleared_b43_body (l1 : Int) (l2 : Int) (l3 : Int) (k32 : Int → mI → Prop) (Q : Int → mI → Prop) (k43 : Int → Int → mI → Prop) (l4 : Int) (l5 : Int) (I : mI) : Prop := (((0 : Int) ≤ (I 159 13) ∧ (I 159 13) < (2 : Int)) ∧ (if (I 167 (I 159 13)) ≤ l5 then (p12_isClear I (fun r2 => (if r2 = 0 then (rg (l3 + 1) ∧ (k32 (l3 + 1) I)) else (Q 1 I)))) else (((0 : Int) ≤ l5 ∧ l5 < (132 : Int)) ∧ (((0 : Int) ≤ l5 ∧ l5 < (6 : Int)) ∧ wLet (up I 198 l5 (I 189 l5)) (fun I1 => (p12_has2 l1 l5 (fun r3 => (if r3 = 0 then (rg (l5 + 1) ∧ (k43 l4 (l5 + 1) I1)) else (((0 : Int) ≤ (I1 159 13) ∧ (I1 159 13) < (2 : Int)) ∧ ((I1 164 (I1 159 13)) ≠ 0 ∧ (((0 : Int) ≤ l5 ∧ l5 < (6 : Int)) ∧ wLet (up I1 198 l5 (Int.tmod l4 (I1 164 (I1 159 13)))) (fun I2 => (((0 : Int) ≤ (I2 159 13) ∧ (I2 159 13) < (2 : Int)) ∧ (((I2 164 (I2 159 13)) ≠ 0 ∧ rg (Int.tdiv l4 (I2 164 (I2 159 13)))) ∧ (wLet (Int.tdiv l4 (I2 164 (I2 159 13))) (fun x2 => (rg (l5 + 1) ∧ (k43 x2 (l5 + 1) I2))))))))))))))))))
def p12_isCleared_b43 (l1 : Int) (l2 : Int) (l3 : Int) (k32 : Int → mI → Prop) (Q : Int → mI → Prop) : Nat → Int → Int → mI → Prop
  | 0 => fun _ _ _ => False
  | f + 1 => fun l4 l5 I => p12_isCleared_b43_body l1 l2 l3 k32 Q (p12_isCleared_b43 l1 l2 l3 k32 Q f) l4 l5 I
set_option maxRecDepth 20000 in
theorem w12_isCleared_b43_body {C : wX} {ad : Nat → Nat} {n : Nat} {I J : mI} {R : mR} {Q : Int → mI → Prop} (hC : wOK C cX12_isCleared 6 RX12) (hRm : wRm C 3 55 0 0) (hE : wEnd C (some .boolean) ad n (fun r I' J' R' => (J' = J ∧ R' = R) ∧ Q r I')) (hRF : RF R) {l1 : Int} {l2 : Int} {l3 : Int} {l4 : Int} {l5 : Int}  {k32 : Int → mI → Prop}  (kk32 : ∀ (y3 : Int) (I' : mI), k32 y3 I' → WM C ad n I' J R 0 0 32 [(0, vr 159), (1, vi l1), (2, vi l2), (3, vi y3)] []) {k43 : Int → Int → mI → Prop} (kk43 : ∀ (y4 : Int) (y5 : Int) (I' : mI), k43 y4 y5 I' → WM C ad n I' J R 0 0 43 [(0, vr 159), (1, vi l1), (2, vi l2), (3, vi l3), (4, vi y4), (5, vi y5)] []) (hw : p12_isCleared_b43_body l1 l2 l3 k32 Q k43 l4 l5 I) : WM C ad n I J R 0 0 43 [(0, vr 159), (1, vi l1), (2, vi l2), (3, vi l3), (4, vi l4), (5, vi l5)] [] := by
  unfold p12_isCleared_b43_body at hw
  refine wm_iload hC 5 dX12_isCleared_43 rfl ?_
  refine wm_aload_n hC 0 dX12_isCleared_45 rfl (k_ne0 kk_159 (by decide)) ?_
  refine x_getR3 hC 20 fl_X12_72 rfl kk_159 (rf_159_20 hRF) dX12_isCleared_46 ?_
  refine wm_aload_n hC 0 dX12_isCleared_49 rfl (k_ne0 kk_159 (by decide)) ?_
  refine x_getI hC 13 fl_X12_51 rfl kk_159 dX12_isCleared_50 ?_
  refine x_iald2 hC kk_167 kn_167 dX12_isCleared_53 hw (fun hw => ?_)
  refine wm_icmp_ge (tgt := 122) hC dX12_isCleared_54 (by decide) hw (fun hw => ?_) (fun hw => ?_)
  · refine wm_aload_n hC 0 dX12_isCleared_122 rfl (k_ne0 kk_159 (by decide)) ?_
    refine y_callV_z_n hC hRm noS ml_X12_541 kk_159 (c12_isClear hRF  hw) (Nat.le_of_ble_eq_true rfl) (Nat.le_of_ble_eq_true rfl) ⟨Nat.zero_le _, Nat.zero_le _⟩ rfl (st := []) rfl (Nat.le_of_ble_eq_true rfl) dX12_isCleared_123 (fun r2 hw => ?_)
    refine wm_if_eq (tgt := 131) hC dX12_isCleared_126 (by decide) hw (fun hw => ?_) (fun hw => ?_)
    · refine x_iinc hC 3 dX12_isCleared_131 rfl (by decide) (L2 := [(3, vi (l3 + 1)), (0, vr 159), (1, vi l1), (2, vi l2), (4, vi l4), (5, vi l5)]) rfl hw (fun hw => ?_)
      refine wm_goto (tgt := 32) hC dX12_isCleared_134 (by decide) ?_
      refine wm_sub [1, 2, 3, 0] (L2 := [(0, vr 159), (1, vi l1), (2, vi l2), (3, vi (l3 + 1))]) rfl ?_
      exact kk32 _ _ hw
    · refine wm_iconst hC dX12_isCleared_129 (k := ?_)
      exact wm_zreturn hC hE (Or.inr rfl) dX12_isCleared_130 ⟨⟨rfl, rfl⟩, hw⟩
  · refine wm_aload_n hC 0 dX12_isCleared_57 rfl (k_ne0 kk_159 (by decide)) ?_
    refine x_getR3 hC 61 fl_X12_198 rfl kk_159 (rf_159_61 hRF) dX12_isCleared_58 ?_
    refine wm_iload hC 5 dX12_isCleared_61 rfl ?_
    refine wm_aload_n hC 0 dX12_isCleared_63 rfl (k_ne0 kk_159 (by decide)) ?_
    refine x_getR3 hC 49 fl_X12_162 rfl kk_159 (rf_159_49 hRF) dX12_isCleared_64 ?_
    refine wm_iload hC 5 dX12_isCleared_67 rfl ?_
    refine x_iald2 hC kk_189 kn_189 dX12_isCleared_69 hw (fun hw => ?_)
    refine x_iast2 hC kk_198 kn_198 dX12_isCleared_70 hw (fun I1 hw => ?_)
    refine wm_iload_n hC 1 dX12_isCleared_71 rfl ?_
    refine wm_iload hC 5 dX12_isCleared_72 rfl ?_
    refine y_callS_z_n hC hRm noS ml_X12_351 (c12_has2 hRF  hw) (Nat.le_of_ble_eq_true rfl) (Nat.le_of_ble_eq_true rfl) ⟨Nat.zero_le _, Nat.zero_le _⟩ rfl (st := []) rfl (Nat.le_of_ble_eq_true rfl) dX12_isCleared_74 (fun r3 hw => ?_)
    refine wm_if_ne (tgt := 83) hC dX12_isCleared_77 (by decide) hw (fun hw => ?_) (fun hw => ?_)
    · refine wm_goto (tgt := 116) hC dX12_isCleared_80 (by decide) ?_
      refine x_iinc hC 5 dX12_isCleared_116 rfl (by decide) (L2 := [(5, vi (l5 + 1)), (0, vr 159), (1, vi l1), (2, vi l2), (3, vi l3), (4, vi l4)]) rfl hw (fun hw => ?_)
      refine wm_goto (tgt := 43) hC dX12_isCleared_119 (by decide) ?_
      refine wm_sub [1, 2, 3, 4, 5, 0] (L2 := [(0, vr 159), (1, vi l1), (2, vi l2), (3, vi l3), (4, vi l4), (5, vi (l5 + 1))]) rfl ?_
      exact kk43 _ _ _ hw
    · refine wm_aload_n hC 0 dX12_isCleared_83 rfl (k_ne0 kk_159 (by decide)) ?_
      refine x_getR3 hC 61 fl_X12_198 rfl kk_159 (rf_159_61 hRF) dX12_isCleared_84 ?_
      refine wm_iload hC 5 dX12_isCleared_87 rfl ?_
      refine wm_iload hC 4 dX12_isCleared_89 rfl ?_
      refine wm_aload_n hC 0 dX12_isCleared_91 rfl (k_ne0 kk_159 (by decide)) ?_
      refine x_getR3 hC 17 fl_X12_63 rfl kk_159 (rf_159_17 hRF) dX12_isCleared_92 ?_
      refine wm_aload_n hC 0 dX12_isCleared_95 rfl (k_ne0 kk_159 (by decide)) ?_
      refine x_getI hC 13 fl_X12_51 rfl kk_159 dX12_isCleared_96 ?_
      refine x_iald2 hC kk_164 kn_164 dX12_isCleared_99 hw (fun hw => ?_)
      refine x_irem hC dX12_isCleared_100 hw (fun hw => ?_)
      refine x_iast2 hC kk_198 kn_198 dX12_isCleared_101 hw (fun I2 hw => ?_)
      refine wm_iload hC 4 dX12_isCleared_102 rfl ?_
      refine wm_aload_n hC 0 dX12_isCleared_104 rfl (k_ne0 kk_159 (by decide)) ?_
      refine x_getR3 hC 17 fl_X12_63 rfl kk_159 (rf_159_17 hRF) dX12_isCleared_105 ?_
      refine wm_aload_n hC 0 dX12_isCleared_108 rfl (k_ne0 kk_159 (by decide)) ?_
      refine x_getI hC 13 fl_X12_51 rfl kk_159 dX12_isCleared_109 ?_
      refine x_iald2 hC kk_164 kn_164 dX12_isCleared_112 hw (fun hw => ?_)
      refine x_idiv hC dX12_isCleared_113 hw (fun hw => ?_)
      refine x_nameI hw (fun x2 hw => ?_)
      refine wm_istore hC dX12_isCleared_114 (by decide) (L2 := [(4, vi x2), (0, vr 159), (1, vi l1), (2, vi l2), (3, vi l3), (5, vi l5)]) rfl ?_
      refine x_iinc hC 5 dX12_isCleared_116 rfl (by decide) (L2 := [(5, vi (l5 + 1)), (4, vi x2), (0, vr 159), (1, vi l1), (2, vi l2), (3, vi l3)]) rfl hw (fun hw => ?_)
      refine wm_goto (tgt := 43) hC dX12_isCleared_119 (by decide) ?_
      refine wm_sub [2, 3, 4, 5, 1, 0] (L2 := [(0, vr 159), (1, vi l1), (2, vi l2), (3, vi l3), (4, vi x2), (5, vi (l5 + 1))]) rfl ?_
      exact kk43 _ _ _ hw
set_option maxRecDepth 20000 in
theorem w12_isCleared_b43 {C : wX} {ad : Nat → Nat} {n : Nat} {J : mI} {R : mR} {Q : Int → mI → Prop} (hC : wOK C cX12_isCleared 6 RX12) (hRm : wRm C 3 55 0 0) (hE : wEnd C (some .boolean) ad n (fun r I' J' R' => (J' = J ∧ R' = R) ∧ Q r I')) (hRF : RF R) {l1 : Int} {l2 : Int} {l3 : Int}  {k32 : Int → mI → Prop}  (kk32 : ∀ (y3 : Int) (I' : mI), k32 y3 I' → WM C ad n I' J R 0 0 32 [(0, vr 159), (1, vi l1), (2, vi l2), (3, vi y3)] []) : ∀ (f : Nat) (l4 : Int) (l5 : Int) (I : mI), p12_isCleared_b43 l1 l2 l3 k32 Q f l4 l5 I → WM C ad n I J R 0 0 43 [(0, vr 159), (1, vi l1), (2, vi l2), (3, vi l3), (4, vi l4), (5, vi l5)] [] := by
  intro f
  induction f with
  | zero => intro l4 l5 I hw; exact hw.elim
  | succ f ih => intro l4 l5 I hw; exact w12_isCleared_b43_body hC hRm hE hRF kk32 (fun a0 a1 a2 aw => ih a0 a1 a2 aw) hw
def p12_isCleared_b32_body (l1 : Int) (l2 : Int) (Q : Int → mI → Prop) (k32 : Int → mI → Prop) (l3 : Int) (I : mI) : Prop := (if l2 ≤ l3 then (Q 0 I) else (∃ f, p12_isCleared_b43 l1 l2 l3 k32 Q f l3 0 I))
def p12_isCleared_b32 (l1 : Int) (l2 : Int) (Q : Int → mI → Prop) : Nat → Int → mI → Prop
  | 0 => fun _ _ => False
  | f + 1 => fun l3 I => p12_isCleared_b32_body l1 l2 Q (p12_isCleared_b32 l1 l2 Q f) l3 I
set_option maxRecDepth 20000 in
theorem w12_isCleared_b32_body {C : wX} {ad : Nat → Nat} {n : Nat} {I J : mI} {R : mR} {Q : Int → mI → Prop} (hC : wOK C cX12_isCleared 6 RX12) (hRm : wRm C 3 55 0 0) (hE : wEnd C (some .boolean) ad n (fun r I' J' R' => (J' = J ∧ R' = R) ∧ Q r I')) (hRF : RF R) {l1 : Int} {l2 : Int} {l3 : Int}     {k32 : Int → mI → Prop} (kk32 : ∀ (y3 : Int) (I' : mI), k32 y3 I' → WM C ad n I' J R 0 0 32 [(0, vr 159), (1, vi l1), (2, vi l2), (3, vi y3)] []) (hw : p12_isCleared_b32_body l1 l2 Q k32 l3 I) : WM C ad n I J R 0 0 32 [(0, vr 159), (1, vi l1), (2, vi l2), (3, vi l3)] [] := by
  unfold p12_isCleared_b32_body at hw
  refine wm_iload_n hC 3 dX12_isCleared_32 rfl ?_
  refine wm_iload_n hC 2 dX12_isCleared_33 rfl ?_
  refine wm_icmp_ge (tgt := 137) hC dX12_isCleared_34 (by decide) hw (fun hw => ?_) (fun hw => ?_)
  · refine wm_iconst hC dX12_isCleared_137 (k := ?_)
    exact wm_zreturn hC hE (Or.inl rfl) dX12_isCleared_138 ⟨⟨rfl, rfl⟩, hw⟩
  · refine wm_iload_n hC 3 dX12_isCleared_37 rfl ?_
    refine wm_istore hC dX12_isCleared_38 (by decide) (L2 := [(4, vi l3), (0, vr 159), (1, vi l1), (2, vi l2), (3, vi l3)]) rfl ?_
    refine wm_iconst hC dX12_isCleared_40 (k := ?_)
    refine wm_istore hC dX12_isCleared_41 (by decide) (L2 := [(5, vi 0), (4, vi l3), (0, vr 159), (1, vi l1), (2, vi l2), (3, vi l3)]) rfl ?_
    obtain ⟨f, hw⟩ := hw
    refine wm_sub [2, 3, 4, 5, 1, 0] (L2 := [(0, vr 159), (1, vi l1), (2, vi l2), (3, vi l3), (4, vi l3), (5, vi 0)]) rfl ?_
    exact w12_isCleared_b43 hC hRm hE hRF kk32 f _ _ _ hw
set_option maxRecDepth 20000 in
theorem w12_isCleared_b32 {C : wX} {ad : Nat → Nat} {n : Nat} {J : mI} {R : mR} {Q : Int → mI → Prop} (hC : wOK C cX12_isCleared 6 RX12) (hRm : wRm C 3 55 0 0) (hE : wEnd C (some .boolean) ad n (fun r I' J' R' => (J' = J ∧ R' = R) ∧ Q r I')) (hRF : RF R) {l1 : Int} {l2 : Int}     : ∀ (f : Nat) (l3 : Int) (I : mI), p12_isCleared_b32 l1 l2 Q f l3 I → WM C ad n I J R 0 0 32 [(0, vr 159), (1, vi l1), (2, vi l2), (3, vi l3)] [] := by
  intro f
  induction f with
  | zero => intro l3 I hw; exact hw.elim
  | succ f ih => intro l3 I hw; exact w12_isCleared_b32_body hC hRm hE hRF  (fun a0 a1 aw => ih a0 a1 aw) hw
def p12_isCleared_b4_body (l1 : Int) (I : mI) (Q : Int → mI → Prop) (k4 : Int → Int → Prop) (l2 : Int) (l3 : Int) : Prop := (p12_bits l1 (fun r1 => (if r1 ≤ l3 then (∃ f, p12_isCleared_b32 l1 l2 Q f 0 I) else (((0 : Int) ≤ (I 159 13) ∧ (I 159 13) < (2 : Int)) ∧ (rg (l2 * (I 164 (I 159 13))) ∧ (wLet (l2 * (I 164 (I 159 13))) (fun x1 => (rg (l3 + 1) ∧ (k4 x1 (l3 + 1))))))))))
def p12_isCleared_b4 (l1 : Int) (I : mI) (Q : Int → mI → Prop) : Nat → Int → Int → Prop
  | 0 => fun _ _ => False
  | f + 1 => fun l2 l3 => p12_isCleared_b4_body l1 I Q (p12_isCleared_b4 l1 I Q f) l2 l3
set_option maxRecDepth 20000 in
theorem w12_isCleared_b4_body {C : wX} {ad : Nat → Nat} {n : Nat} {I J : mI} {R : mR} {Q : Int → mI → Prop} (hC : wOK C cX12_isCleared 6 RX12) (hRm : wRm C 3 55 0 0) (hE : wEnd C (some .boolean) ad n (fun r I' J' R' => (J' = J ∧ R' = R) ∧ Q r I')) (hRF : RF R) {l1 : Int} {l2 : Int} {l3 : Int}     {k4 : Int → Int → Prop} (kk4 : ∀ (y2 : Int) (y3 : Int), k4 y2 y3 → WM C ad n I J R 0 0 4 [(0, vr 159), (1, vi l1), (2, vi y2), (3, vi y3)] []) (hw : p12_isCleared_b4_body l1 I Q k4 l2 l3) : WM C ad n I J R 0 0 4 [(0, vr 159), (1, vi l1), (2, vi l2), (3, vi l3)] [] := by
  unfold p12_isCleared_b4_body at hw
  refine wm_iload_n hC 3 dX12_isCleared_4 rfl ?_
  refine wm_iload_n hC 1 dX12_isCleared_5 rfl ?_
  refine y_callS_i_n hC hRm noS ml_X12_521 (c12_bits hRF  hw) (Nat.le_of_ble_eq_true rfl) (Nat.le_of_ble_eq_true rfl) ⟨Nat.zero_le _, Nat.zero_le _⟩ rfl (st := [vi l3]) rfl (Nat.le_of_ble_eq_true rfl) dX12_isCleared_6 (fun r1 hw => ?_)
  refine wm_icmp_ge (tgt := 30) hC dX12_isCleared_9 (by decide) hw (fun hw => ?_) (fun hw => ?_)
  · refine wm_iconst hC dX12_isCleared_30 (k := ?_)
    refine wm_istore_n hC dX12_isCleared_31 (by decide) (L2 := [(3, vi 0), (0, vr 159), (1, vi l1), (2, vi l2)]) rfl ?_
    obtain ⟨f, hw⟩ := hw
    refine wm_sub [1, 2, 3, 0] (L2 := [(0, vr 159), (1, vi l1), (2, vi l2), (3, vi 0)]) rfl ?_
    exact w12_isCleared_b32 hC hRm hE hRF  f _ _ hw
  · refine wm_iload_n hC 2 dX12_isCleared_12 rfl ?_
    refine wm_aload_n hC 0 dX12_isCleared_13 rfl (k_ne0 kk_159 (by decide)) ?_
    refine x_getR3 hC 17 fl_X12_63 rfl kk_159 (rf_159_17 hRF) dX12_isCleared_14 ?_
    refine wm_aload_n hC 0 dX12_isCleared_17 rfl (k_ne0 kk_159 (by decide)) ?_
    refine x_getI hC 13 fl_X12_51 rfl kk_159 dX12_isCleared_18 ?_
    refine x_iald2 hC kk_164 kn_164 dX12_isCleared_21 hw (fun hw => ?_)
    refine x_imul hC dX12_isCleared_22 hw (fun hw => ?_)
    refine x_nameI hw (fun x1 hw => ?_)
    refine wm_istore_n hC dX12_isCleared_23 (by decide) (L2 := [(2, vi x1), (0, vr 159), (1, vi l1), (3, vi l3)]) rfl ?_
    refine x_iinc hC 3 dX12_isCleared_24 rfl (by decide) (L2 := [(3, vi (l3 + 1)), (2, vi x1), (0, vr 159), (1, vi l1)]) rfl hw (fun hw => ?_)
    refine wm_goto (tgt := 4) hC dX12_isCleared_27 (by decide) ?_
    refine wm_sub [2, 3, 1, 0] (L2 := [(0, vr 159), (1, vi l1), (2, vi x1), (3, vi (l3 + 1))]) rfl ?_
    exact kk4 _ _ hw
set_option maxRecDepth 20000 in
theorem w12_isCleared_b4 {C : wX} {ad : Nat → Nat} {n : Nat} {I : mI} {J : mI} {R : mR} {Q : Int → mI → Prop} (hC : wOK C cX12_isCleared 6 RX12) (hRm : wRm C 3 55 0 0) (hE : wEnd C (some .boolean) ad n (fun r I' J' R' => (J' = J ∧ R' = R) ∧ Q r I')) (hRF : RF R) {l1 : Int}     : ∀ (f : Nat) (l2 : Int) (l3 : Int), p12_isCleared_b4 l1 I Q f l2 l3 → WM C ad n I J R 0 0 4 [(0, vr 159), (1, vi l1), (2, vi l2), (3, vi l3)] [] := by
  intro f
  induction f with
  | zero => intro l2 l3 hw; exact hw.elim
  | succ f ih => intro l2 l3 hw; exact w12_isCleared_b4_body hC hRm hE hRF  (fun a0 a1 aw => ih a0 a1 aw) hw
def p12_isCleared (l1 : Int) (I : mI) (Q : Int → mI → Prop) : Prop := (∃ f, p12_isCleared_b4 l1 I Q f 1 0)
set_option maxRecDepth 20000 in
theorem c12_isCleared {ad : Nat → Nat} {n : Nat} {I J : mI} {R : mR} {Q : Int → mI → Prop}  (hRF : RF R) {l1 : Int}   (hw : p12_isCleared l1 I Q) : wMet yX12_isCleared cX12_isCleared 6 (some .boolean) 3 55 false ad n I J R [vr 159, vi l1] (fun r I' J' R' => (J' = J ∧ R' = R) ∧ Q r I') := by
  refine wMet_of (by decide) (Nat.le_of_ble_eq_true rfl) (fun C hC hRm hE hS => ?_)
  refine (show WM C ad n I J R 0 0 0 [(0, vr 159), (1, vi l1)] [] from ?_)
  unfold p12_isCleared at hw
  refine wm_iconst hC dX12_isCleared_0 (k := ?_)
  refine wm_istore_n hC dX12_isCleared_1 (by decide) (L2 := [(2, vi 1), (0, vr 159), (1, vi l1)]) rfl ?_
  refine wm_iconst hC dX12_isCleared_2 (k := ?_)
  refine wm_istore_n hC dX12_isCleared_3 (by decide) (L2 := [(3, vi 0), (2, vi 1), (0, vr 159), (1, vi l1)]) rfl ?_
  obtain ⟨f, hw⟩ := hw
  refine wm_sub [2, 3, 1, 0] (L2 := [(0, vr 159), (1, vi l1), (2, vi 1), (3, vi 0)]) rfl ?_
  exact w12_isCleared_b4 hC hRm hE hRF  f _ _ hw
def p12_clear_b94 (l1 : Int) (l2 : Int) (l3 : Int) (I : mI) (k4 : Int → Int → mI → Prop) (Q : Int → mI → Prop) : Prop := (if l3 = 0 then (rg (l2 + 1) ∧ (k4 l1 (l2 + 1) I)) else (p12_isCleared l2 I (fun r4 I1 => (if r4 = 0 then (rg (l2 + 1) ∧ (k4 l1 (l2 + 1) I1)) else (rg (l2 + 1) ∧ (k4 l2 (l2 + 1) I1))))))
set_option maxRecDepth 20000 in
theorem w12_clear_b94 {C : wX} {ad : Nat → Nat} {n : Nat} {I J : mI} {R : mR} {Q : Int → mI → Prop} (hC : wOK C cX12_clear 5 RX12) (hRm : wRm C 4 80 0 0) (hE : wEnd C (some .int) ad n (fun r I' J' R' => (J' = J ∧ R' = R) ∧ Q r I')) (hRF : RF R) {l1 : Int} {l2 : Int} {l3 : Int}  {k4 : Int → Int → mI → Prop}  (kk4 : ∀ (y1 : Int) (y2 : Int) (I' : mI), k4 y1 y2 I' → WM C ad n I' J R 0 0 4 [(0, vr 159), (1, vi y1), (2, vi y2)] []) (hw : p12_clear_b94 l1 l2 l3 I k4 Q) : WM C ad n I J R 0 0 94 [(0, vr 159), (1, vi l1), (2, vi l2), (3, vi l3)] [] := by
  unfold p12_clear_b94 at hw
  refine wm_iload_n hC 3 dX12_clear_94 rfl ?_
  refine wm_if_eq (tgt := 108) hC dX12_clear_95 (by decide) hw (fun hw => ?_) (fun hw => ?_)
  · refine x_iinc hC 2 dX12_clear_108 rfl (by decide) (L2 := [(2, vi (l2 + 1)), (0, vr 159), (1, vi l1), (3, vi l3)]) rfl hw (fun hw => ?_)
    refine wm_goto (tgt := 4) hC dX12_clear_111 (by decide) ?_
    refine wm_sub [1, 2, 0] (L2 := [(0, vr 159), (1, vi l1), (2, vi (l2 + 1))]) rfl ?_
    exact kk4 _ _ _ hw
  · refine wm_aload_n hC 0 dX12_clear_98 rfl (k_ne0 kk_159 (by decide)) ?_
    refine wm_iload_n hC 2 dX12_clear_99 rfl ?_
    refine y_callV_z_I hC hRm noS ml_X12_544 kk_159 (c12_isCleared hRF  hw) (Nat.le_of_ble_eq_true rfl) (Nat.le_of_ble_eq_true rfl) ⟨Nat.zero_le _, Nat.zero_le _⟩ rfl (st := []) rfl (Nat.le_of_ble_eq_true rfl) dX12_clear_100 (fun r4 I1 hw => ?_)
    refine wm_if_eq (tgt := 108) hC dX12_clear_103 (by decide) hw (fun hw => ?_) (fun hw => ?_)
    · refine x_iinc hC 2 dX12_clear_108 rfl (by decide) (L2 := [(2, vi (l2 + 1)), (0, vr 159), (1, vi l1), (3, vi l3)]) rfl hw (fun hw => ?_)
      refine wm_goto (tgt := 4) hC dX12_clear_111 (by decide) ?_
      refine wm_sub [1, 2, 0] (L2 := [(0, vr 159), (1, vi l1), (2, vi (l2 + 1))]) rfl ?_
      exact kk4 _ _ _ hw
    · refine wm_iload_n hC 2 dX12_clear_106 rfl ?_
      refine wm_istore_n hC dX12_clear_107 (by decide) (L2 := [(1, vi l2), (0, vr 159), (2, vi l2), (3, vi l3)]) rfl ?_
      refine x_iinc hC 2 dX12_clear_108 rfl (by decide) (L2 := [(2, vi (l2 + 1)), (1, vi l2), (0, vr 159), (3, vi l3)]) rfl hw (fun hw => ?_)
      refine wm_goto (tgt := 4) hC dX12_clear_111 (by decide) ?_
      refine wm_sub [2, 1, 0] (L2 := [(0, vr 159), (1, vi l2), (2, vi (l2 + 1))]) rfl ?_
      exact kk4 _ _ _ hw
def p12_clear_b44_body (l1 : Int) (l2 : Int) (I : mI) (k4 : Int → Int → mI → Prop) (Q : Int → mI → Prop) (k44 : Int → Int → Prop) (l3 : Int) (l4 : Int) : Prop := (((0 : Int) ≤ (I 159 13) ∧ (I 159 13) < (2 : Int)) ∧ (if (I 167 (I 159 13)) ≤ l4 then (p12_clear_b94 l1 l2 l3 I k4 Q) else (if l3 = 0 then (p12_clear_b94 l1 l2 l3 I k4 Q) else (p12_has2 l2 l4 (fun r3 => (if r3 = 0 then (rg (l4 + 1) ∧ (k44 1 (l4 + 1))) else (((0 : Int) ≤ l4 ∧ l4 < (132 : Int)) ∧ (if (I 189 l4) = (-1) then (rg (l4 + 1) ∧ (k44 0 (l4 + 1))) else (rg (l4 + 1) ∧ (k44 1 (l4 + 1)))))))))))
def p12_clear_b44 (l1 : Int) (l2 : Int) (I : mI) (k4 : Int → Int → mI → Prop) (Q : Int → mI → Prop) : Nat → Int → Int → Prop
  | 0 => fun _ _ => False
  | f + 1 => fun l3 l4 => p12_clear_b44_body l1 l2 I k4 Q (p12_clear_b44 l1 l2 I k4 Q f) l3 l4
set_option maxRecDepth 20000 in
theorem w12_clear_b44_body {C : wX} {ad : Nat → Nat} {n : Nat} {I J : mI} {R : mR} {Q : Int → mI → Prop} (hC : wOK C cX12_clear 5 RX12) (hRm : wRm C 4 80 0 0) (hE : wEnd C (some .int) ad n (fun r I' J' R' => (J' = J ∧ R' = R) ∧ Q r I')) (hRF : RF R) {l1 : Int} {l2 : Int} {l3 : Int} {l4 : Int}  {k4 : Int → Int → mI → Prop}  (kk4 : ∀ (y1 : Int) (y2 : Int) (I' : mI), k4 y1 y2 I' → WM C ad n I' J R 0 0 4 [(0, vr 159), (1, vi y1), (2, vi y2)] []) {k44 : Int → Int → Prop} (kk44 : ∀ (y3 : Int) (y4 : Int), k44 y3 y4 → WM C ad n I J R 0 0 44 [(0, vr 159), (1, vi l1), (2, vi l2), (3, vi y3), (4, vi y4)] []) (hw : p12_clear_b44_body l1 l2 I k4 Q k44 l3 l4) : WM C ad n I J R 0 0 44 [(0, vr 159), (1, vi l1), (2, vi l2), (3, vi l3), (4, vi l4)] [] := by
  unfold p12_clear_b44_body at hw
  refine wm_iload hC 4 dX12_clear_44 rfl ?_
  refine wm_aload_n hC 0 dX12_clear_46 rfl (k_ne0 kk_159 (by decide)) ?_
  refine x_getR3 hC 20 fl_X12_72 rfl kk_159 (rf_159_20 hRF) dX12_clear_47 ?_
  refine wm_aload_n hC 0 dX12_clear_50 rfl (k_ne0 kk_159 (by decide)) ?_
  refine x_getI hC 13 fl_X12_51 rfl kk_159 dX12_clear_51 ?_
  refine x_iald2 hC kk_167 kn_167 dX12_clear_54 hw (fun hw => ?_)
  refine wm_icmp_ge (tgt := 94) hC dX12_clear_55 (by decide) hw (fun hw => ?_) (fun hw => ?_)
  · refine wm_sub [0, 1, 2, 3] (L2 := [(0, vr 159), (1, vi l1), (2, vi l2), (3, vi l3)]) rfl ?_
    exact w12_clear_b94 hC hRm hE hRF kk4 hw
  · refine wm_iload_n hC 3 dX12_clear_58 rfl ?_
    refine wm_if_eq (tgt := 94) hC dX12_clear_59 (by decide) hw (fun hw => ?_) (fun hw => ?_)
    · refine wm_sub [0, 1, 2, 3] (L2 := [(0, vr 159), (1, vi l1), (2, vi l2), (3, vi l3)]) rfl ?_
      exact w12_clear_b94 hC hRm hE hRF kk4 hw
    · refine wm_iload_n hC 2 dX12_clear_62 rfl ?_
      refine wm_iload hC 4 dX12_clear_63 rfl ?_
      refine y_callS_z_n hC hRm noS ml_X12_351 (c12_has2 hRF  hw) (Nat.le_of_ble_eq_true rfl) (Nat.le_of_ble_eq_true rfl) ⟨Nat.zero_le _, Nat.zero_le _⟩ rfl (st := []) rfl (Nat.le_of_ble_eq_true rfl) dX12_clear_65 (fun r3 hw => ?_)
      refine wm_if_eq (tgt := 82) hC dX12_clear_68 (by decide) hw (fun hw => ?_) (fun hw => ?_)
      · refine wm_iconst hC dX12_clear_82 (k := ?_)
        refine wm_goto (tgt := 87) hC dX12_clear_83 (by decide) ?_
        refine wm_istore_n hC dX12_clear_87 (by decide) (L2 := [(3, vi 1), (0, vr 159), (1, vi l1), (2, vi l2), (4, vi l4)]) rfl ?_
        refine x_iinc hC 4 dX12_clear_88 rfl (by decide) (L2 := [(4, vi (l4 + 1)), (3, vi 1), (0, vr 159), (1, vi l1), (2, vi l2)]) rfl hw (fun hw => ?_)
        refine wm_goto (tgt := 44) hC dX12_clear_91 (by decide) ?_
        refine wm_sub [2, 3, 4, 1, 0] (L2 := [(0, vr 159), (1, vi l1), (2, vi l2), (3, vi 1), (4, vi (l4 + 1))]) rfl ?_
        exact kk44 _ _ hw
      · refine wm_aload_n hC 0 dX12_clear_71 rfl (k_ne0 kk_159 (by decide)) ?_
        refine x_getR3 hC 49 fl_X12_162 rfl kk_159 (rf_159_49 hRF) dX12_clear_72 ?_
        refine wm_iload hC 4 dX12_clear_75 rfl ?_
        refine x_iald2 hC kk_189 kn_189 dX12_clear_77 hw (fun hw => ?_)
        refine wm_iconst hC dX12_clear_78 (k := ?_)
        refine wm_icmp_eq (tgt := 86) hC dX12_clear_79 (by decide) hw (fun hw => ?_) (fun hw => ?_)
        · refine wm_iconst hC dX12_clear_86 (k := ?_)
          refine wm_istore_n hC dX12_clear_87 (by decide) (L2 := [(3, vi 0), (0, vr 159), (1, vi l1), (2, vi l2), (4, vi l4)]) rfl ?_
          refine x_iinc hC 4 dX12_clear_88 rfl (by decide) (L2 := [(4, vi (l4 + 1)), (3, vi 0), (0, vr 159), (1, vi l1), (2, vi l2)]) rfl hw (fun hw => ?_)
          refine wm_goto (tgt := 44) hC dX12_clear_91 (by decide) ?_
          refine wm_sub [2, 3, 4, 1, 0] (L2 := [(0, vr 159), (1, vi l1), (2, vi l2), (3, vi 0), (4, vi (l4 + 1))]) rfl ?_
          exact kk44 _ _ hw
        · refine wm_iconst hC dX12_clear_82 (k := ?_)
          refine wm_goto (tgt := 87) hC dX12_clear_83 (by decide) ?_
          refine wm_istore_n hC dX12_clear_87 (by decide) (L2 := [(3, vi 1), (0, vr 159), (1, vi l1), (2, vi l2), (4, vi l4)]) rfl ?_
          refine x_iinc hC 4 dX12_clear_88 rfl (by decide) (L2 := [(4, vi (l4 + 1)), (3, vi 1), (0, vr 159), (1, vi l1), (2, vi l2)]) rfl hw (fun hw => ?_)
          refine wm_goto (tgt := 44) hC dX12_clear_91 (by decide) ?_
          refine wm_sub [2, 3, 4, 1, 0] (L2 := [(0, vr 159), (1, vi l1), (2, vi l2), (3, vi 1), (4, vi (l4 + 1))]) rfl ?_
          exact kk44 _ _ hw
set_option maxRecDepth 20000 in
theorem w12_clear_b44 {C : wX} {ad : Nat → Nat} {n : Nat} {I : mI} {J : mI} {R : mR} {Q : Int → mI → Prop} (hC : wOK C cX12_clear 5 RX12) (hRm : wRm C 4 80 0 0) (hE : wEnd C (some .int) ad n (fun r I' J' R' => (J' = J ∧ R' = R) ∧ Q r I')) (hRF : RF R) {l1 : Int} {l2 : Int}  {k4 : Int → Int → mI → Prop}  (kk4 : ∀ (y1 : Int) (y2 : Int) (I' : mI), k4 y1 y2 I' → WM C ad n I' J R 0 0 4 [(0, vr 159), (1, vi y1), (2, vi y2)] []) : ∀ (f : Nat) (l3 : Int) (l4 : Int), p12_clear_b44 l1 l2 I k4 Q f l3 l4 → WM C ad n I J R 0 0 44 [(0, vr 159), (1, vi l1), (2, vi l2), (3, vi l3), (4, vi l4)] [] := by
  intro f
  induction f with
  | zero => intro l3 l4 hw; exact hw.elim
  | succ f ih => intro l3 l4 hw; exact w12_clear_b44_body hC hRm hE hRF kk4 (fun a0 a1 aw => ih a0 a1 aw) hw
def p12_clear_b4_body (Q : Int → mI → Prop) (k4 : Int → Int → mI → Prop) (l1 : Int) (l2 : Int) (I : mI) : Prop := (((0 : Int) ≤ (I 159 13) ∧ (I 159 13) < (2 : Int)) ∧ (if (bShl 1 (I 167 (I 159 13))) ≤ l2 then (Q l1 I) else (if l1 = (-1) then (∃ f, p12_clear_b44 l1 l2 I k4 Q f 1 0) else (p12_bits l2 (fun r1 => (p12_bits l1 (fun r2 => (if r2 ≤ r1 then (∃ f, p12_clear_b44 l1 l2 I k4 Q f 0 0) else (∃ f, p12_clear_b44 l1 l2 I k4 Q f 1 0)))))))))
def p12_clear_b4 (Q : Int → mI → Prop) : Nat → Int → Int → mI → Prop
  | 0 => fun _ _ _ => False
  | f + 1 => fun l1 l2 I => p12_clear_b4_body Q (p12_clear_b4 Q f) l1 l2 I
set_option maxRecDepth 20000 in
theorem w12_clear_b4_body {C : wX} {ad : Nat → Nat} {n : Nat} {I J : mI} {R : mR} {Q : Int → mI → Prop} (hC : wOK C cX12_clear 5 RX12) (hRm : wRm C 4 80 0 0) (hE : wEnd C (some .int) ad n (fun r I' J' R' => (J' = J ∧ R' = R) ∧ Q r I')) (hRF : RF R)  {l1 : Int} {l2 : Int}     {k4 : Int → Int → mI → Prop} (kk4 : ∀ (y1 : Int) (y2 : Int) (I' : mI), k4 y1 y2 I' → WM C ad n I' J R 0 0 4 [(0, vr 159), (1, vi y1), (2, vi y2)] []) (hw : p12_clear_b4_body Q k4 l1 l2 I) : WM C ad n I J R 0 0 4 [(0, vr 159), (1, vi l1), (2, vi l2)] [] := by
  unfold p12_clear_b4_body at hw
  refine wm_iload_n hC 2 dX12_clear_4 rfl ?_
  refine wm_iconst hC dX12_clear_5 (k := ?_)
  refine wm_aload_n hC 0 dX12_clear_6 rfl (k_ne0 kk_159 (by decide)) ?_
  refine x_getR3 hC 20 fl_X12_72 rfl kk_159 (rf_159_20 hRF) dX12_clear_7 ?_
  refine wm_aload_n hC 0 dX12_clear_10 rfl (k_ne0 kk_159 (by decide)) ?_
  refine x_getI hC 13 fl_X12_51 rfl kk_159 dX12_clear_11 ?_
  refine x_iald2 hC kk_167 kn_167 dX12_clear_14 hw (fun hw => ?_)
  refine wm_ishl hC dX12_clear_15 ?_
  refine wm_icmp_ge (tgt := 114) hC dX12_clear_16 (by decide) hw (fun hw => ?_) (fun hw => ?_)
  · refine wm_iload_n hC 1 dX12_clear_114 rfl ?_
    exact wm_ireturn hC hE dX12_clear_115 ⟨⟨rfl, rfl⟩, hw⟩
  · refine wm_iload_n hC 1 dX12_clear_19 rfl ?_
    refine wm_iconst hC dX12_clear_20 (k := ?_)
    refine wm_icmp_eq (tgt := 35) hC dX12_clear_21 (by decide) hw (fun hw => ?_) (fun hw => ?_)
    · refine wm_iconst hC dX12_clear_35 (k := ?_)
      refine wm_goto (tgt := 40) hC dX12_clear_36 (by decide) ?_
      refine wm_istore_n hC dX12_clear_40 (by decide) (L2 := [(3, vi 1), (0, vr 159), (1, vi l1), (2, vi l2)]) rfl ?_
      refine wm_iconst hC dX12_clear_41 (k := ?_)
      refine wm_istore hC dX12_clear_42 (by decide) (L2 := [(4, vi 0), (3, vi 1), (0, vr 159), (1, vi l1), (2, vi l2)]) rfl ?_
      obtain ⟨f, hw⟩ := hw
      refine wm_sub [2, 3, 4, 1, 0] (L2 := [(0, vr 159), (1, vi l1), (2, vi l2), (3, vi 1), (4, vi 0)]) rfl ?_
      exact w12_clear_b44 hC hRm hE hRF kk4 f _ _ hw
    · refine wm_iload_n hC 2 dX12_clear_24 rfl ?_
      refine y_callS_i_n hC hRm noS ml_X12_521 (c12_bits hRF  hw) (Nat.le_of_ble_eq_true rfl) (Nat.le_of_ble_eq_true rfl) ⟨Nat.zero_le _, Nat.zero_le _⟩ rfl (st := []) rfl (Nat.le_of_ble_eq_true rfl) dX12_clear_25 (fun r1 hw => ?_)
      refine wm_iload_n hC 1 dX12_clear_28 rfl ?_
      refine y_callS_i_n hC hRm noS ml_X12_521 (c12_bits hRF  hw) (Nat.le_of_ble_eq_true rfl) (Nat.le_of_ble_eq_true rfl) ⟨Nat.zero_le _, Nat.zero_le _⟩ rfl (st := [vi r1]) rfl (Nat.le_of_ble_eq_true rfl) dX12_clear_29 (fun r2 hw => ?_)
      refine wm_icmp_ge (tgt := 39) hC dX12_clear_32 (by decide) hw (fun hw => ?_) (fun hw => ?_)
      · refine wm_iconst hC dX12_clear_39 (k := ?_)
        refine wm_istore_n hC dX12_clear_40 (by decide) (L2 := [(3, vi 0), (0, vr 159), (1, vi l1), (2, vi l2)]) rfl ?_
        refine wm_iconst hC dX12_clear_41 (k := ?_)
        refine wm_istore hC dX12_clear_42 (by decide) (L2 := [(4, vi 0), (3, vi 0), (0, vr 159), (1, vi l1), (2, vi l2)]) rfl ?_
        obtain ⟨f, hw⟩ := hw
        refine wm_sub [2, 3, 4, 1, 0] (L2 := [(0, vr 159), (1, vi l1), (2, vi l2), (3, vi 0), (4, vi 0)]) rfl ?_
        exact w12_clear_b44 hC hRm hE hRF kk4 f _ _ hw
      · refine wm_iconst hC dX12_clear_35 (k := ?_)
        refine wm_goto (tgt := 40) hC dX12_clear_36 (by decide) ?_
        refine wm_istore_n hC dX12_clear_40 (by decide) (L2 := [(3, vi 1), (0, vr 159), (1, vi l1), (2, vi l2)]) rfl ?_
        refine wm_iconst hC dX12_clear_41 (k := ?_)
        refine wm_istore hC dX12_clear_42 (by decide) (L2 := [(4, vi 0), (3, vi 1), (0, vr 159), (1, vi l1), (2, vi l2)]) rfl ?_
        obtain ⟨f, hw⟩ := hw
        refine wm_sub [2, 3, 4, 1, 0] (L2 := [(0, vr 159), (1, vi l1), (2, vi l2), (3, vi 1), (4, vi 0)]) rfl ?_
        exact w12_clear_b44 hC hRm hE hRF kk4 f _ _ hw
set_option maxRecDepth 20000 in
theorem w12_clear_b4 {C : wX} {ad : Nat → Nat} {n : Nat} {J : mI} {R : mR} {Q : Int → mI → Prop} (hC : wOK C cX12_clear 5 RX12) (hRm : wRm C 4 80 0 0) (hE : wEnd C (some .int) ad n (fun r I' J' R' => (J' = J ∧ R' = R) ∧ Q r I')) (hRF : RF R)      : ∀ (f : Nat) (l1 : Int) (l2 : Int) (I : mI), p12_clear_b4 Q f l1 l2 I → WM C ad n I J R 0 0 4 [(0, vr 159), (1, vi l1), (2, vi l2)] [] := by
  intro f
  induction f with
  | zero => intro l1 l2 I hw; exact hw.elim
  | succ f ih => intro l1 l2 I hw; exact w12_clear_b4_body hC hRm hE hRF  (fun a0 a1 a2 aw => ih a0 a1 a2 aw) hw
def p12_clear (I : mI) (Q : Int → mI → Prop) : Prop := (∃ f, p12_clear_b4 Q f (-1) 0 I)
set_option maxRecDepth 20000 in
theorem c12_clear {ad : Nat → Nat} {n : Nat} {I J : mI} {R : mR} {Q : Int → mI → Prop}  (hRF : RF R)   (hw : p12_clear I Q) : wMet yX12_clear cX12_clear 5 (some .int) 4 80 false ad n I J R [vr 159] (fun r I' J' R' => (J' = J ∧ R' = R) ∧ Q r I') := by
  refine wMet_of (by decide) (Nat.le_of_ble_eq_true rfl) (fun C hC hRm hE hS => ?_)
  refine (show WM C ad n I J R 0 0 0 [(0, vr 159)] [] from ?_)
  unfold p12_clear at hw
  refine wm_iconst hC dX12_clear_0 (k := ?_)
  refine wm_istore_n hC dX12_clear_1 (by decide) (L2 := [(1, vi (-1)), (0, vr 159)]) rfl ?_
  refine wm_iconst hC dX12_clear_2 (k := ?_)
  refine wm_istore_n hC dX12_clear_3 (by decide) (L2 := [(2, vi 0), (1, vi (-1)), (0, vr 159)]) rfl ?_
  obtain ⟨f, hw⟩ := hw
  refine wm_sub [2, 1, 0] (L2 := [(0, vr 159), (1, vi (-1)), (2, vi 0)]) rfl ?_
  exact w12_clear_b4 hC hRm hE hRF  f _ _ _ hw
def p12_isColour (l1 : Int) (I : mI) (Q : Int → Prop) : Prop := (if l1 < 0 then (Q 0) else (((0 : Int) ≤ (I 159 13) ∧ (I 159 13) < (2 : Int)) ∧ (if (I 164 (I 159 13)) ≤ l1 then (Q 0) else (Q 1))))
set_option maxRecDepth 20000 in
theorem c12_isColour {ad : Nat → Nat} {n : Nat} {I J : mI} {R : mR} {Q : Int → Prop}  (hRF : RF R) {l1 : Int}   (hw : p12_isColour l1 I Q) : wMet yX12_isColour cX12_isColour 2 (some .boolean) 1 12 false ad n I J R [vr 159, vi l1] (fun r I' J' R' => (I' = I ∧ J' = J ∧ R' = R) ∧ Q r) := by
  refine wMet_of (by decide) (Nat.le_of_ble_eq_true rfl) (fun C hC hRm hE hS => ?_)
  refine (show WM C ad n I J R 0 0 0 [(0, vr 159), (1, vi l1)] [] from ?_)
  unfold p12_isColour at hw
  refine wm_iload_n hC 1 dX12_isColour_0 rfl ?_
  refine wm_if_lt (tgt := 21) hC dX12_isColour_1 (by decide) hw (fun hw => ?_) (fun hw => ?_)
  · refine wm_iconst hC dX12_isColour_21 (k := ?_)
    exact wm_zreturn hC hE (Or.inl rfl) dX12_isColour_22 ⟨⟨rfl, rfl, rfl⟩, hw⟩
  · refine wm_iload_n hC 1 dX12_isColour_4 rfl ?_
    refine wm_aload_n hC 0 dX12_isColour_5 rfl (k_ne0 kk_159 (by decide)) ?_
    refine x_getR3 hC 17 fl_X12_63 rfl kk_159 (rf_159_17 hRF) dX12_isColour_6 ?_
    refine wm_aload_n hC 0 dX12_isColour_9 rfl (k_ne0 kk_159 (by decide)) ?_
    refine x_getI hC 13 fl_X12_51 rfl kk_159 dX12_isColour_10 ?_
    refine x_iald2 hC kk_164 kn_164 dX12_isColour_13 hw (fun hw => ?_)
    refine wm_icmp_ge (tgt := 21) hC dX12_isColour_14 (by decide) hw (fun hw => ?_) (fun hw => ?_)
    · refine wm_iconst hC dX12_isColour_21 (k := ?_)
      exact wm_zreturn hC hE (Or.inl rfl) dX12_isColour_22 ⟨⟨rfl, rfl, rfl⟩, hw⟩
    · refine wm_iconst hC dX12_isColour_17 (k := ?_)
      refine wm_goto (tgt := 22) hC dX12_isColour_18 (by decide) ?_
      exact wm_zreturn hC hE (Or.inr rfl) dX12_isColour_22 ⟨⟨rfl, rfl, rfl⟩, hw⟩
def p12_colour (l1 : Int) (l2 : Int) (I : mI) (Q : Int → Prop) : Prop := (p12_isColour l1 I (fun r1 => (if r1 = 0 then (Q (-1)) else (if l2 = 0 then (rg (18 * (I 159 13)) ∧ (rg (3 * l1) ∧ (rg ((18 * (I 159 13)) + (3 * l1)) ∧ (rg (((18 * (I 159 13)) + (3 * l1)) + l2) ∧ (((0 : Int) ≤ (((18 * (I 159 13)) + (3 * l1)) + l2) ∧ (((18 * (I 159 13)) + (3 * l1)) + l2) < (36 : Int)) ∧ (Q (I 165 (((18 * (I 159 13)) + (3 * l1)) + l2)))))))) else (if l2 = 1 then (rg (18 * (I 159 13)) ∧ (rg (3 * l1) ∧ (rg ((18 * (I 159 13)) + (3 * l1)) ∧ (rg (((18 * (I 159 13)) + (3 * l1)) + l2) ∧ (((0 : Int) ≤ (((18 * (I 159 13)) + (3 * l1)) + l2) ∧ (((18 * (I 159 13)) + (3 * l1)) + l2) < (36 : Int)) ∧ (Q (I 165 (((18 * (I 159 13)) + (3 * l1)) + l2)))))))) else (if l2 = 2 then (rg (18 * (I 159 13)) ∧ (rg (3 * l1) ∧ (rg ((18 * (I 159 13)) + (3 * l1)) ∧ (rg (((18 * (I 159 13)) + (3 * l1)) + l2) ∧ (((0 : Int) ≤ (((18 * (I 159 13)) + (3 * l1)) + l2) ∧ (((18 * (I 159 13)) + (3 * l1)) + l2) < (36 : Int)) ∧ (Q (I 165 (((18 * (I 159 13)) + (3 * l1)) + l2)))))))) else (if l2 = 3 then (rg (6 * (I 159 13)) ∧ (rg ((6 * (I 159 13)) + l1) ∧ (((0 : Int) ≤ ((6 * (I 159 13)) + l1) ∧ ((6 * (I 159 13)) + l1) < (12 : Int)) ∧ (Q (I 166 ((6 * (I 159 13)) + l1)))))) else (if l2 = 4 then (p12_wornOf 0 l1 I (fun r2 => (Q r2))) else (Q (-1))))))))))
set_option maxRecDepth 20000 in
theorem c12_colour {ad : Nat → Nat} {n : Nat} {I J : mI} {R : mR} {Q : Int → Prop}  (hRF : RF R) {l1 : Int} {l2 : Int}    (hw : p12_colour l1 l2 I Q) : wMet yX12_colour cX12_colour 3 (some .int) 2 36 false ad n I J R [vr 159, vi l1, vi l2] (fun r I' J' R' => (I' = I ∧ J' = J ∧ R' = R) ∧ Q r) := by
  refine wMet_of (by decide) (Nat.le_of_ble_eq_true rfl) (fun C hC hRm hE hS => ?_)
  refine (show WM C ad n I J R 0 0 0 [(0, vr 159), (1, vi l1), (2, vi l2)] [] from ?_)
  unfold p12_colour at hw
  refine wm_aload_n hC 0 dX12_colour_0 rfl (k_ne0 kk_159 (by decide)) ?_
  refine wm_iload_n hC 1 dX12_colour_1 rfl ?_
  refine y_callV_z_n hC hRm noS ml_X12_510 kk_159 (c12_isColour hRF  hw) (Nat.le_of_ble_eq_true rfl) (Nat.le_of_ble_eq_true rfl) ⟨Nat.zero_le _, Nat.zero_le _⟩ rfl (st := []) rfl (Nat.le_of_ble_eq_true rfl) dX12_colour_2 (fun r1 hw => ?_)
  refine wm_if_ne (tgt := 10) hC dX12_colour_5 (by decide) hw (fun hw => ?_) (fun hw => ?_)
  · refine wm_iconst hC dX12_colour_8 (k := ?_)
    exact wm_ireturn hC hE dX12_colour_9 ⟨⟨rfl, rfl, rfl⟩, hw⟩
  · refine wm_iload_n hC 2 dX12_colour_10 rfl ?_
    by_cases hc1 : l2 = 0
    · rw [if_pos hc1] at hw
      refine wm_tableIn (v := 0) (tgt := 44) hC dX12_colour_11 hc1 (by decide) (by decide) rfl rfl ?_
      refine wm_aload_n hC 0 dX12_colour_44 rfl (k_ne0 kk_159 (by decide)) ?_
      refine x_getR3 hC 18 fl_X12_66 rfl kk_159 (rf_159_18 hRF) dX12_colour_45 ?_
      refine wm_bipush hC dX12_colour_48 (k := ?_)
      refine wm_aload_n hC 0 dX12_colour_50 rfl (k_ne0 kk_159 (by decide)) ?_
      refine x_getI hC 13 fl_X12_51 rfl kk_159 dX12_colour_51 ?_
      refine x_imul hC dX12_colour_54 hw (fun hw => ?_)
      refine wm_iconst hC dX12_colour_55 (k := ?_)
      refine wm_iload_n hC 1 dX12_colour_56 rfl ?_
      refine x_imul hC dX12_colour_57 hw (fun hw => ?_)
      refine x_iadd hC dX12_colour_58 hw (fun hw => ?_)
      refine wm_iload_n hC 2 dX12_colour_59 rfl ?_
      refine x_iadd hC dX12_colour_60 hw (fun hw => ?_)
      refine x_iald2 hC kk_165 kn_165 dX12_colour_61 hw (fun hw => ?_)
      exact wm_ireturn hC hE dX12_colour_62 ⟨⟨rfl, rfl, rfl⟩, hw⟩
    rw [if_neg hc1] at hw
    by_cases hc2 : l2 = 1
    · rw [if_pos hc2] at hw
      refine wm_tableIn (v := 1) (tgt := 44) hC dX12_colour_11 hc2 (by decide) (by decide) rfl rfl ?_
      refine wm_aload_n hC 0 dX12_colour_44 rfl (k_ne0 kk_159 (by decide)) ?_
      refine x_getR3 hC 18 fl_X12_66 rfl kk_159 (rf_159_18 hRF) dX12_colour_45 ?_
      refine wm_bipush hC dX12_colour_48 (k := ?_)
      refine wm_aload_n hC 0 dX12_colour_50 rfl (k_ne0 kk_159 (by decide)) ?_
      refine x_getI hC 13 fl_X12_51 rfl kk_159 dX12_colour_51 ?_
      refine x_imul hC dX12_colour_54 hw (fun hw => ?_)
      refine wm_iconst hC dX12_colour_55 (k := ?_)
      refine wm_iload_n hC 1 dX12_colour_56 rfl ?_
      refine x_imul hC dX12_colour_57 hw (fun hw => ?_)
      refine x_iadd hC dX12_colour_58 hw (fun hw => ?_)
      refine wm_iload_n hC 2 dX12_colour_59 rfl ?_
      refine x_iadd hC dX12_colour_60 hw (fun hw => ?_)
      refine x_iald2 hC kk_165 kn_165 dX12_colour_61 hw (fun hw => ?_)
      exact wm_ireturn hC hE dX12_colour_62 ⟨⟨rfl, rfl, rfl⟩, hw⟩
    rw [if_neg hc2] at hw
    by_cases hc3 : l2 = 2
    · rw [if_pos hc3] at hw
      refine wm_tableIn (v := 2) (tgt := 44) hC dX12_colour_11 hc3 (by decide) (by decide) rfl rfl ?_
      refine wm_aload_n hC 0 dX12_colour_44 rfl (k_ne0 kk_159 (by decide)) ?_
      refine x_getR3 hC 18 fl_X12_66 rfl kk_159 (rf_159_18 hRF) dX12_colour_45 ?_
      refine wm_bipush hC dX12_colour_48 (k := ?_)
      refine wm_aload_n hC 0 dX12_colour_50 rfl (k_ne0 kk_159 (by decide)) ?_
      refine x_getI hC 13 fl_X12_51 rfl kk_159 dX12_colour_51 ?_
      refine x_imul hC dX12_colour_54 hw (fun hw => ?_)
      refine wm_iconst hC dX12_colour_55 (k := ?_)
      refine wm_iload_n hC 1 dX12_colour_56 rfl ?_
      refine x_imul hC dX12_colour_57 hw (fun hw => ?_)
      refine x_iadd hC dX12_colour_58 hw (fun hw => ?_)
      refine wm_iload_n hC 2 dX12_colour_59 rfl ?_
      refine x_iadd hC dX12_colour_60 hw (fun hw => ?_)
      refine x_iald2 hC kk_165 kn_165 dX12_colour_61 hw (fun hw => ?_)
      exact wm_ireturn hC hE dX12_colour_62 ⟨⟨rfl, rfl, rfl⟩, hw⟩
    rw [if_neg hc3] at hw
    by_cases hc4 : l2 = 3
    · rw [if_pos hc4] at hw
      refine wm_tableIn (v := 3) (tgt := 63) hC dX12_colour_11 hc4 (by decide) (by decide) rfl rfl ?_
      refine wm_aload_n hC 0 dX12_colour_63 rfl (k_ne0 kk_159 (by decide)) ?_
      refine x_getR3 hC 19 fl_X12_69 rfl kk_159 (rf_159_19 hRF) dX12_colour_64 ?_
      refine wm_bipush hC dX12_colour_67 (k := ?_)
      refine wm_aload_n hC 0 dX12_colour_69 rfl (k_ne0 kk_159 (by decide)) ?_
      refine x_getI hC 13 fl_X12_51 rfl kk_159 dX12_colour_70 ?_
      refine x_imul hC dX12_colour_73 hw (fun hw => ?_)
      refine wm_iload_n hC 1 dX12_colour_74 rfl ?_
      refine x_iadd hC dX12_colour_75 hw (fun hw => ?_)
      refine x_iald2 hC kk_166 kn_166 dX12_colour_76 hw (fun hw => ?_)
      exact wm_ireturn hC hE dX12_colour_77 ⟨⟨rfl, rfl, rfl⟩, hw⟩
    rw [if_neg hc4] at hw
    by_cases hc5 : l2 = 4
    · rw [if_pos hc5] at hw
      refine wm_tableIn (v := 4) (tgt := 78) hC dX12_colour_11 hc5 (by decide) (by decide) rfl rfl ?_
      refine wm_aload_n hC 0 dX12_colour_78 rfl (k_ne0 kk_159 (by decide)) ?_
      refine wm_iconst hC dX12_colour_79 (k := ?_)
      refine wm_iload_n hC 1 dX12_colour_80 rfl ?_
      refine y_callV_i_n hC hRm noS ml_X12_456 kk_159 (c12_wornOf hRF  hw) (Nat.le_of_ble_eq_true rfl) (Nat.le_of_ble_eq_true rfl) ⟨Nat.zero_le _, Nat.zero_le _⟩ rfl (st := []) rfl (Nat.le_of_ble_eq_true rfl) dX12_colour_81 (fun r2 hw => ?_)
      exact wm_ireturn hC hE dX12_colour_84 ⟨⟨rfl, rfl, rfl⟩, hw⟩
    rw [if_neg hc5] at hw
    refine wm_tableOut (tgt := 85) hC dX12_colour_11 (by omega) rfl ?_
    refine wm_iconst hC dX12_colour_85 (k := ?_)
    exact wm_ireturn hC hE dX12_colour_86 ⟨⟨rfl, rfl, rfl⟩, hw⟩
def p12_colouring (I : mI) (J : mI) (Q : mI → mI → Prop) : Prop := (p12_isShaped 1 I J (fun r1 I1 J1 => (if r1 = 0 then (Q I1 J1) else (p12_mustWord 1668248436 I1 J1 (fun I2 J2 => (rg (6 * (I2 159 32)) ∧ (((0 : Int) ≤ (I2 159 32) ∧ (I2 159 32) < (2 : Int)) ∧ (rg ((6 * (I2 159 32)) + (I2 164 (I2 159 32))) ∧ (p12_number 0 99 I2 J2 (fun r2 I3 J3 => (((0 : Int) ≤ ((6 * (I2 159 32)) + (I2 164 (I2 159 32))) ∧ ((6 * (I2 159 32)) + (I2 164 (I2 159 32))) < (12 : Int)) ∧ wLet (up I3 166 ((6 * (I2 159 32)) + (I2 164 (I2 159 32))) r2) (fun I4 => (if (I4 159 8) = 0 then (((0 : Int) ≤ (I4 159 32) ∧ (I4 159 32) < (2 : Int)) ∧ (rg ((I4 164 (I4 159 32)) + 1) ∧ (((0 : Int) ≤ (I4 159 32) ∧ (I4 159 32) < (2 : Int)) ∧ wLet (up I4 164 (I4 159 32) ((I4 164 (I4 159 32)) + 1)) (fun I5 => (Q I5 J3))))) else (Q I4 J3))))))))))))))
set_option maxRecDepth 20000 in
theorem c12_colouring {ad : Nat → Nat} {n : Nat} {I J : mI} {R : mR} {Q : mI → mI → Prop}  (hRF : RF R)   (hw : p12_colouring I J Q) : wMet yX12_colouring cX12_colouring 1 none 5 108 false ad n I J R [vr 159] (fun _ I' J' R' => (R' = R) ∧ Q I' J') := by
  refine wMet_of (by decide) (Nat.le_of_ble_eq_true rfl) (fun C hC hRm hE hS => ?_)
  refine (show WM C ad n I J R 0 0 0 [(0, vr 159)] [] from ?_)
  unfold p12_colouring at hw
  refine wm_aload_n hC 0 dX12_colouring_0 rfl (k_ne0 kk_159 (by decide)) ?_
  refine wm_iconst hC dX12_colouring_1 (k := ?_)
  refine y_callV_z_IJ hC hRm noS ml_X12_375 kk_159 (c12_isShaped hRF  hw) (Nat.le_of_ble_eq_true rfl) (Nat.le_of_ble_eq_true rfl) ⟨Nat.zero_le _, Nat.zero_le _⟩ rfl (st := []) rfl (Nat.le_of_ble_eq_true rfl) dX12_colouring_2 (fun r1 I1 J1 hw => ?_)
  refine wm_if_ne (tgt := 9) hC dX12_colouring_5 (by decide) hw (fun hw => ?_) (fun hw => ?_)
  · exact wm_return hC hE dX12_colouring_8 ⟨rfl, hw⟩
  · refine wm_aload_n hC 0 dX12_colouring_9 rfl (k_ne0 kk_159 (by decide)) ?_
    refine wm_ldc2 hC (x := 1668248436) tc_X12_260 rfl dX12_colouring_10 (k := ?_)
    refine y_callV_v_IJ hC hRm noS ml_X12_367 kk_159 (c12_mustWord hRF  hw) (Nat.le_of_ble_eq_true rfl) (Nat.le_of_ble_eq_true rfl) ⟨Nat.zero_le _, Nat.zero_le _⟩ rfl (st := []) rfl (Nat.le_of_ble_eq_true rfl) dX12_colouring_13 (fun I2 J2 hw => ?_)
    refine wm_aload_n hC 0 dX12_colouring_16 rfl (k_ne0 kk_159 (by decide)) ?_
    refine x_getR3 hC 19 fl_X12_69 rfl kk_159 (rf_159_19 hRF) dX12_colouring_17 ?_
    refine wm_bipush hC dX12_colouring_20 (k := ?_)
    refine wm_aload_n hC 0 dX12_colouring_22 rfl (k_ne0 kk_159 (by decide)) ?_
    refine x_getI hC 32 fl_X12_109 rfl kk_159 dX12_colouring_23 ?_
    refine x_imul hC dX12_colouring_26 hw (fun hw => ?_)
    refine wm_aload_n hC 0 dX12_colouring_27 rfl (k_ne0 kk_159 (by decide)) ?_
    refine x_getR3 hC 17 fl_X12_63 rfl kk_159 (rf_159_17 hRF) dX12_colouring_28 ?_
    refine wm_aload_n hC 0 dX12_colouring_31 rfl (k_ne0 kk_159 (by decide)) ?_
    refine x_getI hC 32 fl_X12_109 rfl kk_159 dX12_colouring_32 ?_
    refine x_iald2 hC kk_164 kn_164 dX12_colouring_35 hw (fun hw => ?_)
    refine x_iadd hC dX12_colouring_36 hw (fun hw => ?_)
    refine wm_aload_n hC 0 dX12_colouring_37 rfl (k_ne0 kk_159 (by decide)) ?_
    refine wm_iconst hC dX12_colouring_38 (k := ?_)
    refine wm_bipush hC dX12_colouring_39 (k := ?_)
    refine y_callV_i_IJ hC hRm noS ml_X12_359 kk_159 (c12_number hRF  hw) (Nat.le_of_ble_eq_true rfl) (Nat.le_of_ble_eq_true rfl) ⟨Nat.zero_le _, Nat.zero_le _⟩ rfl (st := [vi ((6 * (I2 159 32)) + (I2 164 (I2 159 32))), vr 166]) rfl (Nat.le_of_ble_eq_true rfl) dX12_colouring_41 (fun r2 I3 J3 hw => ?_)
    refine x_iast2 hC kk_166 kn_166 dX12_colouring_44 hw (fun I4 hw => ?_)
    refine wm_aload_n hC 0 dX12_colouring_45 rfl (k_ne0 kk_159 (by decide)) ?_
    refine x_getI hC 8 fl_X12_36 rfl kk_159 dX12_colouring_46 ?_
    refine wm_if_ne (tgt := 65) hC dX12_colouring_49 (by decide) hw (fun hw => ?_) (fun hw => ?_)
    · refine wm_aload_n hC 0 dX12_colouring_52 rfl (k_ne0 kk_159 (by decide)) ?_
      refine x_getR3 hC 17 fl_X12_63 rfl kk_159 (rf_159_17 hRF) dX12_colouring_53 ?_
      refine wm_aload_n hC 0 dX12_colouring_56 rfl (k_ne0 kk_159 (by decide)) ?_
      refine x_getI hC 32 fl_X12_109 rfl kk_159 dX12_colouring_57 ?_
      refine wm_dup2_11 hC dX12_colouring_60 (k := ?_)
      refine x_iald2 hC kk_164 kn_164 dX12_colouring_61 hw (fun hw => ?_)
      refine wm_iconst hC dX12_colouring_62 (k := ?_)
      refine x_iadd hC dX12_colouring_63 hw (fun hw => ?_)
      refine x_iast2 hC kk_164 kn_164 dX12_colouring_64 hw (fun I5 hw => ?_)
      exact wm_return hC hE dX12_colouring_65 ⟨rfl, hw⟩
    · exact wm_return hC hE dX12_colouring_65 ⟨rfl, hw⟩
def p12_comesOn_b337 (l2 : Int) (l5 : Int) (l6 : Int) (I : mI) (k289 : Int → mI → Prop) (Q : Int → mI → Prop) : Prop := (rg (6 + l5) ∧ (if l6 = 255 then (((0 : Int) ≤ (6 + l5) ∧ (6 + l5) < (132 : Int)) ∧ wLet (up I 189 (6 + l5) (-1)) (fun I8 => (rg (l5 + 1) ∧ (k289 (l5 + 1) I8)))) else (((0 : Int) ≤ (6 + l5) ∧ (6 + l5) < (132 : Int)) ∧ wLet (up I 189 (6 + l5) l6) (fun I7 => (rg (l5 + 1) ∧ (k289 (l5 + 1) I7))))))
set_option maxRecDepth 20000 in
theorem w12_comesOn_b337 {C : wX} {ad : Nat → Nat} {n : Nat} {I J : mI} {R : mR} {Q : Int → mI → Prop} (hC : wOK C cX12_comesOn 8 RX12) (hRm : wRm C 2 35 0 0) (hE : wEnd C (some .boolean) ad n (fun r I' J' R' => (J' = J ∧ R' = R) ∧ Q r I')) (hRF : RF R) {l2 : Int} {l5 : Int} {l6 : Int}  {k289 : Int → mI → Prop}  (kk289 : ∀ (y5 : Int) (I' : mI), k289 y5 I' → WM C ad n I' J R 0 0 289 [(0, vr 159), (2, vi l2), (5, vi y5)] []) (hw : p12_comesOn_b337 l2 l5 l6 I k289 Q) : WM C ad n I J R 0 0 337 [(0, vr 159), (2, vi l2), (5, vi l5), (6, vi l6)] [] := by
  unfold p12_comesOn_b337 at hw
  refine wm_aload_n hC 0 dX12_comesOn_337 rfl (k_ne0 kk_159 (by decide)) ?_
  refine x_getR3 hC 49 fl_X12_162 rfl kk_159 (rf_159_49 hRF) dX12_comesOn_338 ?_
  refine wm_bipush hC dX12_comesOn_341 (k := ?_)
  refine wm_iload hC 2 dX12_comesOn_343 rfl ?_
  refine x_iadd hC dX12_comesOn_345 hw (fun hw => ?_)
  refine wm_iload hC 3 dX12_comesOn_346 rfl ?_
  refine wm_sipush hC dX12_comesOn_348 (k := ?_)
  refine wm_icmp_ne (tgt := 358) hC dX12_comesOn_351 (by decide) hw (fun hw => ?_) (fun hw => ?_)
  · refine wm_iconst hC dX12_comesOn_354 (k := ?_)
    refine wm_goto (tgt := 360) hC dX12_comesOn_355 (by decide) ?_
    refine x_iast2 hC kk_189 kn_189 dX12_comesOn_360 hw (fun I8 hw => ?_)
    refine x_iinc hC 2 dX12_comesOn_361 rfl (by decide) (L2 := [(5, vi (l5 + 1)), (0, vr 159), (2, vi l2), (6, vi l6)]) rfl hw (fun hw => ?_)
    refine wm_goto (tgt := 289) hC dX12_comesOn_364 (by decide) ?_
    refine wm_sub [1, 2, 0] (L2 := [(0, vr 159), (2, vi l2), (5, vi (l5 + 1))]) rfl ?_
    exact kk289 _ _ hw
  · refine wm_iload hC 3 dX12_comesOn_358 rfl ?_
    refine x_iast2 hC kk_189 kn_189 dX12_comesOn_360 hw (fun I7 hw => ?_)
    refine x_iinc hC 2 dX12_comesOn_361 rfl (by decide) (L2 := [(5, vi (l5 + 1)), (0, vr 159), (2, vi l2), (6, vi l6)]) rfl hw (fun hw => ?_)
    refine wm_goto (tgt := 289) hC dX12_comesOn_364 (by decide) ?_
    refine wm_sub [1, 2, 0] (L2 := [(0, vr 159), (2, vi l2), (5, vi (l5 + 1))]) rfl ?_
    exact kk289 _ _ hw
def p12_comesOn_b289_body (l2 : Int) (Q : Int → mI → Prop) (k289 : Int → mI → Prop) (l5 : Int) (I : mI) : Prop := (((0 : Int) ≤ (I 159 13) ∧ (I 159 13) < (2 : Int)) ∧ (if (I 167 (I 159 13)) ≤ l5 then (Q 1 I) else (rg (2 * l2) ∧ (rg (4 + (2 * l2)) ∧ (rg ((4 + (2 * l2)) + l5) ∧ (((0 : Int) ≤ ((4 + (2 * l2)) + l5) ∧ ((4 + (2 * l2)) + l5) < (1800 : Int)) ∧ (wLet (I 160 ((4 + (2 * l2)) + l5)) (fun x4 => (if x4 = 255 then (p12_comesOn_b337 l2 l5 x4 I k289 Q) else (p12_isColour x4 I (fun r3 => (if r3 = 0 then (Q 0 I) else (p12_comesOn_b337 l2 l5 x4 I k289 Q)))))))))))))
def p12_comesOn_b289 (l2 : Int) (Q : Int → mI → Prop) : Nat → Int → mI → Prop
  | 0 => fun _ _ => False
  | f + 1 => fun l5 I => p12_comesOn_b289_body l2 Q (p12_comesOn_b289 l2 Q f) l5 I
set_option maxRecDepth 20000 in
theorem w12_comesOn_b289_body {C : wX} {ad : Nat → Nat} {n : Nat} {I J : mI} {R : mR} {Q : Int → mI → Prop} (hC : wOK C cX12_comesOn 8 RX12) (hRm : wRm C 2 35 0 0) (hE : wEnd C (some .boolean) ad n (fun r I' J' R' => (J' = J ∧ R' = R) ∧ Q r I')) (hRF : RF R) {l2 : Int} {l5 : Int}     {k289 : Int → mI → Prop} (kk289 : ∀ (y5 : Int) (I' : mI), k289 y5 I' → WM C ad n I' J R 0 0 289 [(0, vr 159), (2, vi l2), (5, vi y5)] []) (hw : p12_comesOn_b289_body l2 Q k289 l5 I) : WM C ad n I J R 0 0 289 [(0, vr 159), (2, vi l2), (5, vi l5)] [] := by
  unfold p12_comesOn_b289_body at hw
  refine wm_iload hC 2 dX12_comesOn_289 rfl ?_
  refine wm_aload_n hC 0 dX12_comesOn_291 rfl (k_ne0 kk_159 (by decide)) ?_
  refine x_getR3 hC 20 fl_X12_72 rfl kk_159 (rf_159_20 hRF) dX12_comesOn_292 ?_
  refine wm_aload_n hC 0 dX12_comesOn_295 rfl (k_ne0 kk_159 (by decide)) ?_
  refine x_getI hC 13 fl_X12_51 rfl kk_159 dX12_comesOn_296 ?_
  refine x_iald2 hC kk_167 kn_167 dX12_comesOn_299 hw (fun hw => ?_)
  refine wm_icmp_ge (tgt := 367) hC dX12_comesOn_300 (by decide) hw (fun hw => ?_) (fun hw => ?_)
  · refine wm_iconst hC dX12_comesOn_367 (k := ?_)
    exact wm_zreturn hC hE (Or.inr rfl) dX12_comesOn_368 ⟨⟨rfl, rfl⟩, hw⟩
  · refine wm_aload_n hC 0 dX12_comesOn_303 rfl (k_ne0 kk_159 (by decide)) ?_
    refine x_getR3 hC 0 fl_X12_7 rfl kk_159 (rf_159_0 hRF) dX12_comesOn_304 ?_
    refine wm_iconst hC dX12_comesOn_307 (k := ?_)
    refine wm_iconst hC dX12_comesOn_308 (k := ?_)
    refine wm_iload_n hC 1 dX12_comesOn_309 rfl ?_
    refine x_imul hC dX12_comesOn_310 hw (fun hw => ?_)
    refine x_iadd hC dX12_comesOn_311 hw (fun hw => ?_)
    refine wm_iload hC 2 dX12_comesOn_312 rfl ?_
    refine x_iadd hC dX12_comesOn_314 hw (fun hw => ?_)
    refine x_iald2 hC kk_160 kn_160 dX12_comesOn_315 hw (fun hw => ?_)
    refine x_nameI hw (fun x4 hw => ?_)
    refine wm_istore hC dX12_comesOn_316 (by decide) (L2 := [(6, vi x4), (0, vr 159), (2, vi l2), (5, vi l5)]) rfl ?_
    refine wm_iload hC 0 dX12_comesOn_318 rfl ?_
    refine wm_sipush hC dX12_comesOn_320 (k := ?_)
    refine wm_icmp_eq (tgt := 337) hC dX12_comesOn_323 (by decide) hw (fun hw => ?_) (fun hw => ?_)
    · refine wm_sub [1, 2, 3, 0] (L2 := [(0, vr 159), (2, vi l2), (5, vi l5), (6, vi x4)]) rfl ?_
      exact w12_comesOn_b337 hC hRm hE hRF kk289 hw
    · refine wm_aload_n hC 1 dX12_comesOn_326 rfl (k_ne0 kk_159 (by decide)) ?_
      refine wm_iload hC 0 dX12_comesOn_327 rfl ?_
      refine y_callV_z_n hC hRm noS ml_X12_510 kk_159 (c12_isColour hRF  hw) (Nat.le_of_ble_eq_true rfl) (Nat.le_of_ble_eq_true rfl) ⟨Nat.zero_le _, Nat.zero_le _⟩ rfl (st := []) rfl (Nat.le_of_ble_eq_true rfl) dX12_comesOn_329 (fun r3 hw => ?_)
      refine wm_if_ne (tgt := 337) hC dX12_comesOn_332 (by decide) hw (fun hw => ?_) (fun hw => ?_)
      · refine wm_iconst hC dX12_comesOn_335 (k := ?_)
        exact wm_zreturn hC hE (Or.inl rfl) dX12_comesOn_336 ⟨⟨rfl, rfl⟩, hw⟩
      · refine wm_sub [1, 2, 3, 0] (L2 := [(0, vr 159), (2, vi l2), (5, vi l5), (6, vi x4)]) rfl ?_
        exact w12_comesOn_b337 hC hRm hE hRF kk289 hw
set_option maxRecDepth 20000 in
theorem w12_comesOn_b289 {C : wX} {ad : Nat → Nat} {n : Nat} {J : mI} {R : mR} {Q : Int → mI → Prop} (hC : wOK C cX12_comesOn 8 RX12) (hRm : wRm C 2 35 0 0) (hE : wEnd C (some .boolean) ad n (fun r I' J' R' => (J' = J ∧ R' = R) ∧ Q r I')) (hRF : RF R) {l2 : Int}     : ∀ (f : Nat) (l5 : Int) (I : mI), p12_comesOn_b289 l2 Q f l5 I → WM C ad n I J R 0 0 289 [(0, vr 159), (2, vi l2), (5, vi l5)] [] := by
  intro f
  induction f with
  | zero => intro l5 I hw; exact hw.elim
  | succ f ih => intro l5 I hw; exact w12_comesOn_b289_body hC hRm hE hRF  (fun a0 a1 aw => ih a0 a1 aw) hw
def p12_comesOn_b189_body (l2 : Int) (Q : Int → mI → Prop) (k189 : Int → Int → mI → Prop) (l4 : Int) (l5 : Int) (I : mI) : Prop := (if l2 ≤ l5 then (∃ f, p12_comesOn_b289 l2 Q f 0 I) else (rg (4 + l5) ∧ (((0 : Int) ≤ (4 + l5) ∧ (4 + l5) < (1800 : Int)) ∧ (rg (4 + l2) ∧ (rg ((4 + l2) + l5) ∧ (((0 : Int) ≤ ((4 + l2) + l5) ∧ ((4 + l2) + l5) < (1800 : Int)) ∧ (wLet (I 160 ((4 + l2) + l5)) (fun x2 => (p12_isBlind (I 160 (4 + l5)) I (fun r1 => (if r1 = 0 then (Q 0 I) else (p12_has2 l4 (I 160 (4 + l5)) (fun r2 => (if r2 = 0 then (if x2 ≤ 9 then (wLet (bOr l4 (bShl 1 (I 160 (4 + l5)))) (fun x3 => (rg (6 + l5) ∧ (((0 : Int) ≤ (6 + l5) ∧ (6 + l5) < (132 : Int)) ∧ wLet (up I 187 (6 + l5) (I 160 (4 + l5))) (fun I5 => (rg (6 + l5) ∧ (((0 : Int) ≤ (6 + l5) ∧ (6 + l5) < (132 : Int)) ∧ wLet (up I5 188 (6 + l5) x2) (fun I6 => (rg (l5 + 1) ∧ (k189 x3 (l5 + 1) I6)))))))))) else (Q 0 I)) else (Q 0 I)))))))))))))))
def p12_comesOn_b189 (l2 : Int) (Q : Int → mI → Prop) : Nat → Int → Int → mI → Prop
  | 0 => fun _ _ _ => False
  | f + 1 => fun l4 l5 I => p12_comesOn_b189_body l2 Q (p12_comesOn_b189 l2 Q f) l4 l5 I
set_option maxRecDepth 20000 in
theorem w12_comesOn_b189_body {C : wX} {ad : Nat → Nat} {n : Nat} {I J : mI} {R : mR} {Q : Int → mI → Prop} (hC : wOK C cX12_comesOn 8 RX12) (hRm : wRm C 2 35 0 0) (hE : wEnd C (some .boolean) ad n (fun r I' J' R' => (J' = J ∧ R' = R) ∧ Q r I')) (hRF : RF R) {l2 : Int} {l4 : Int} {l5 : Int}     {k189 : Int → Int → mI → Prop} (kk189 : ∀ (y4 : Int) (y5 : Int) (I' : mI), k189 y4 y5 I' → WM C ad n I' J R 0 0 189 [(0, vr 159), (2, vi l2), (4, vi y4), (5, vi y5)] []) (hw : p12_comesOn_b189_body l2 Q k189 l4 l5 I) : WM C ad n I J R 0 0 189 [(0, vr 159), (2, vi l2), (4, vi l4), (5, vi l5)] [] := by
  unfold p12_comesOn_b189_body at hw
  refine wm_iload hC 3 dX12_comesOn_189 rfl ?_
  refine wm_iload_n hC 1 dX12_comesOn_191 rfl ?_
  refine wm_icmp_ge (tgt := 286) hC dX12_comesOn_192 (by decide) hw (fun hw => ?_) (fun hw => ?_)
  · refine wm_iconst hC dX12_comesOn_286 (k := ?_)
    refine wm_istore hC dX12_comesOn_287 (by decide) (L2 := [(5, vi 0), (0, vr 159), (2, vi l2), (4, vi l4)]) rfl ?_
    obtain ⟨f, hw⟩ := hw
    refine wm_sub [1, 2, 0] (L2 := [(0, vr 159), (2, vi l2), (5, vi 0)]) rfl ?_
    exact w12_comesOn_b289 hC hRm hE hRF  f _ _ hw
  · refine wm_aload_n hC 0 dX12_comesOn_195 rfl (k_ne0 kk_159 (by decide)) ?_
    refine x_getR3 hC 0 fl_X12_7 rfl kk_159 (rf_159_0 hRF) dX12_comesOn_196 ?_
    refine wm_iconst hC dX12_comesOn_199 (k := ?_)
    refine wm_iload hC 3 dX12_comesOn_200 rfl ?_
    refine x_iadd hC dX12_comesOn_202 hw (fun hw => ?_)
    refine x_iald2 hC kk_160 kn_160 dX12_comesOn_203 hw (fun hw => ?_)
    refine wm_istore hC dX12_comesOn_204 (by decide) (L2 := [(6, vi (I 160 (4 + l5))), (0, vr 159), (2, vi l2), (4, vi l4), (5, vi l5)]) rfl ?_
    refine wm_aload_n hC 1 dX12_comesOn_206 rfl (k_ne0 kk_159 (by decide)) ?_
    refine x_getR3 hC 0 fl_X12_7 rfl kk_159 (rf_159_0 hRF) dX12_comesOn_207 ?_
    refine wm_iconst hC dX12_comesOn_210 (k := ?_)
    refine wm_iload_n hC 2 dX12_comesOn_211 rfl ?_
    refine x_iadd hC dX12_comesOn_212 hw (fun hw => ?_)
    refine wm_iload hC 4 dX12_comesOn_213 rfl ?_
    refine x_iadd hC dX12_comesOn_215 hw (fun hw => ?_)
    refine x_iald2 hC kk_160 kn_160 dX12_comesOn_216 hw (fun hw => ?_)
    refine x_nameI hw (fun x2 hw => ?_)
    refine wm_istore hC dX12_comesOn_217 (by decide) (L2 := [(7, vi x2), (6, vi (I 160 (4 + l5))), (0, vr 159), (2, vi l2), (4, vi l4), (5, vi l5)]) rfl ?_
    refine wm_aload_n hC 2 dX12_comesOn_219 rfl (k_ne0 kk_159 (by decide)) ?_
    refine wm_iload hC 1 dX12_comesOn_220 rfl ?_
    refine y_callV_z_n hC hRm noS ml_X12_507 kk_159 (c12_isBlind hRF  hw) (Nat.le_of_ble_eq_true rfl) (Nat.le_of_ble_eq_true rfl) ⟨Nat.zero_le _, Nat.zero_le _⟩ rfl (st := []) rfl (Nat.le_of_ble_eq_true rfl) dX12_comesOn_222 (fun r1 hw => ?_)
    refine wm_if_eq (tgt := 245) hC dX12_comesOn_225 (by decide) hw (fun hw => ?_) (fun hw => ?_)
    · refine wm_iconst hC dX12_comesOn_245 (k := ?_)
      exact wm_zreturn hC hE (Or.inl rfl) dX12_comesOn_246 ⟨⟨rfl, rfl⟩, hw⟩
    · refine wm_iload hC 4 dX12_comesOn_228 rfl ?_
      refine wm_iload hC 1 dX12_comesOn_230 rfl ?_
      refine y_callS_z_n hC hRm noS ml_X12_351 (c12_has2 hRF  hw) (Nat.le_of_ble_eq_true rfl) (Nat.le_of_ble_eq_true rfl) ⟨Nat.zero_le _, Nat.zero_le _⟩ rfl (st := []) rfl (Nat.le_of_ble_eq_true rfl) dX12_comesOn_232 (fun r2 hw => ?_)
      refine wm_if_ne (tgt := 245) hC dX12_comesOn_235 (by decide) hw (fun hw => ?_) (fun hw => ?_)
      · refine wm_iload hC 0 dX12_comesOn_238 rfl ?_
        refine wm_bipush hC dX12_comesOn_240 (k := ?_)
        refine wm_icmp_le (tgt := 247) hC dX12_comesOn_242 (by decide) hw (fun hw => ?_) (fun hw => ?_)
        · refine wm_iload hC 4 dX12_comesOn_247 rfl ?_
          refine wm_iconst hC dX12_comesOn_249 (k := ?_)
          refine wm_iload hC 1 dX12_comesOn_250 rfl ?_
          refine wm_ishl hC dX12_comesOn_252 ?_
          refine wm_ior hC dX12_comesOn_253 ?_
          refine x_nameI hw (fun x3 hw => ?_)
          refine wm_istore hC dX12_comesOn_254 (by decide) (L2 := [(4, vi x3), (7, vi x2), (6, vi (I 160 (4 + l5))), (0, vr 159), (2, vi l2), (5, vi l5)]) rfl ?_
          refine wm_aload_n hC 3 dX12_comesOn_256 rfl (k_ne0 kk_159 (by decide)) ?_
          refine x_getR3 hC 47 fl_X12_156 rfl kk_159 (rf_159_47 hRF) dX12_comesOn_257 ?_
          refine wm_bipush hC dX12_comesOn_260 (k := ?_)
          refine wm_iload hC 5 dX12_comesOn_262 rfl ?_
          refine x_iadd hC dX12_comesOn_264 hw (fun hw => ?_)
          refine wm_iload hC 2 dX12_comesOn_265 rfl ?_
          refine x_iast2 hC kk_187 kn_187 dX12_comesOn_267 hw (fun I5 hw => ?_)
          refine wm_aload_n hC 3 dX12_comesOn_268 rfl (k_ne0 kk_159 (by decide)) ?_
          refine x_getR3 hC 48 fl_X12_159 rfl kk_159 (rf_159_48 hRF) dX12_comesOn_269 ?_
          refine wm_bipush hC dX12_comesOn_272 (k := ?_)
          refine wm_iload hC 5 dX12_comesOn_274 rfl ?_
          refine x_iadd hC dX12_comesOn_276 hw (fun hw => ?_)
          refine wm_iload hC 1 dX12_comesOn_277 rfl ?_
          refine x_iast2 hC kk_188 kn_188 dX12_comesOn_279 hw (fun I6 hw => ?_)
          refine x_iinc hC 5 dX12_comesOn_280 rfl (by decide) (L2 := [(5, vi (l5 + 1)), (4, vi x3), (7, vi x2), (6, vi (I 160 (4 + l5))), (0, vr 159), (2, vi l2)]) rfl hw (fun hw => ?_)
          refine wm_goto (tgt := 189) hC dX12_comesOn_283 (by decide) ?_
          refine wm_sub [4, 5, 1, 0] (L2 := [(0, vr 159), (2, vi l2), (4, vi x3), (5, vi (l5 + 1))]) rfl ?_
          exact kk189 _ _ _ hw
        · refine wm_iconst hC dX12_comesOn_245 (k := ?_)
          exact wm_zreturn hC hE (Or.inl rfl) dX12_comesOn_246 ⟨⟨rfl, rfl⟩, hw⟩
      · refine wm_iconst hC dX12_comesOn_245 (k := ?_)
        exact wm_zreturn hC hE (Or.inl rfl) dX12_comesOn_246 ⟨⟨rfl, rfl⟩, hw⟩
set_option maxRecDepth 20000 in
theorem w12_comesOn_b189 {C : wX} {ad : Nat → Nat} {n : Nat} {J : mI} {R : mR} {Q : Int → mI → Prop} (hC : wOK C cX12_comesOn 8 RX12) (hRm : wRm C 2 35 0 0) (hE : wEnd C (some .boolean) ad n (fun r I' J' R' => (J' = J ∧ R' = R) ∧ Q r I')) (hRF : RF R) {l2 : Int}     : ∀ (f : Nat) (l4 : Int) (l5 : Int) (I : mI), p12_comesOn_b189 l2 Q f l4 l5 I → WM C ad n I J R 0 0 189 [(0, vr 159), (2, vi l2), (4, vi l4), (5, vi l5)] [] := by
  intro f
  induction f with
  | zero => intro l4 l5 I hw; exact hw.elim
  | succ f ih => intro l4 l5 I hw; exact w12_comesOn_b189_body hC hRm hE hRF  (fun a0 a1 a2 aw => ih a0 a1 a2 aw) hw
def p12_comesOn_b82_body (l1 : Int) (l2 : Int) (I : mI) (Q : Int → mI → Prop) (k82 : Int → Int → Prop) (l3 : Int) (l4 : Int) : Prop := (rg (l1 - 1) ∧ (if (l1 - 1) ≤ l4 then (rg (l1 - 1) ∧ (((0 : Int) ≤ (l1 - 1) ∧ (l1 - 1) < (1800 : Int)) ∧ (if (I 160 (l1 - 1)) = l3 then (p12_copies 1 0 I (fun I1 => (wLet (up I1 185 1 (bOr (bShl (I1 160 0) 8) (I1 160 1))) (fun I2 => (wLet (up I2 186 1 (bOr (bShl (I2 160 2) 8) (I2 160 3))) (fun I3 => (wLet (up I3 190 1 0) (fun I4 => (∃ f, p12_comesOn_b189 l2 Q f 0 0 I4))))))))) else (Q 0 I)))) else (rg (5 * l3) ∧ (((0 : Int) ≤ l4 ∧ l4 < (1800 : Int)) ∧ (rg ((5 * l3) + (I 160 l4)) ∧ (wLet (Int.tmod ((5 * l3) + (I 160 l4)) 251) (fun x1 => (rg (l4 + 1) ∧ (k82 x1 (l4 + 1))))))))))
def p12_comesOn_b82 (l1 : Int) (l2 : Int) (I : mI) (Q : Int → mI → Prop) : Nat → Int → Int → Prop
  | 0 => fun _ _ => False
  | f + 1 => fun l3 l4 => p12_comesOn_b82_body l1 l2 I Q (p12_comesOn_b82 l1 l2 I Q f) l3 l4
set_option maxRecDepth 20000 in
theorem w12_comesOn_b82_body {C : wX} {ad : Nat → Nat} {n : Nat} {I J : mI} {R : mR} {Q : Int → mI → Prop} (hC : wOK C cX12_comesOn 8 RX12) (hRm : wRm C 2 35 0 0) (hE : wEnd C (some .boolean) ad n (fun r I' J' R' => (J' = J ∧ R' = R) ∧ Q r I')) (hRF : RF R) {l1 : Int} {l2 : Int} {l3 : Int} {l4 : Int}     {k82 : Int → Int → Prop} (kk82 : ∀ (y3 : Int) (y4 : Int), k82 y3 y4 → WM C ad n I J R 0 0 82 [(0, vr 159), (1, vi l1), (2, vi l2), (3, vi y3), (4, vi y4)] []) (hw : p12_comesOn_b82_body l1 l2 I Q k82 l3 l4) : WM C ad n I J R 0 0 82 [(0, vr 159), (1, vi l1), (2, vi l2), (3, vi l3), (4, vi l4)] [] := by
  unfold p12_comesOn_b82_body at hw
  refine wm_iload hC 4 dX12_comesOn_82 rfl ?_
  refine wm_iload_n hC 1 dX12_comesOn_84 rfl ?_
  refine wm_iconst hC dX12_comesOn_85 (k := ?_)
  refine x_isub hC dX12_comesOn_86 hw (fun hw => ?_)
  refine wm_icmp_ge (tgt := 112) hC dX12_comesOn_87 (by decide) hw (fun hw => ?_) (fun hw => ?_)
  · refine wm_aload_n hC 0 dX12_comesOn_112 rfl (k_ne0 kk_159 (by decide)) ?_
    refine x_getR3 hC 0 fl_X12_7 rfl kk_159 (rf_159_0 hRF) dX12_comesOn_113 ?_
    refine wm_iload_n hC 1 dX12_comesOn_116 rfl ?_
    refine wm_iconst hC dX12_comesOn_117 (k := ?_)
    refine x_isub hC dX12_comesOn_118 hw (fun hw => ?_)
    refine x_iald2 hC kk_160 kn_160 dX12_comesOn_119 hw (fun hw => ?_)
    refine wm_iload_n hC 3 dX12_comesOn_120 rfl ?_
    refine wm_icmp_eq (tgt := 126) hC dX12_comesOn_121 (by decide) hw (fun hw => ?_) (fun hw => ?_)
    · refine wm_aload_n hC 0 dX12_comesOn_126 rfl (k_ne0 kk_159 (by decide)) ?_
      refine wm_iconst hC dX12_comesOn_127 (k := ?_)
      refine wm_iconst hC dX12_comesOn_128 (k := ?_)
      refine y_callV_v_I hC hRm noS ml_X12_424 kk_159 (c12_copies hRF  hw) (Nat.le_of_ble_eq_true rfl) (Nat.le_of_ble_eq_true rfl) ⟨Nat.zero_le _, Nat.zero_le _⟩ rfl (st := []) rfl (Nat.le_of_ble_eq_true rfl) dX12_comesOn_129 (fun I1 hw => ?_)
      refine wm_aload_n hC 0 dX12_comesOn_132 rfl (k_ne0 kk_159 (by decide)) ?_
      refine x_getR3 hC 45 fl_X12_150 rfl kk_159 (rf_159_45 hRF) dX12_comesOn_133 ?_
      refine wm_iconst hC dX12_comesOn_136 (k := ?_)
      refine wm_aload_n hC 0 dX12_comesOn_137 rfl (k_ne0 kk_159 (by decide)) ?_
      refine x_getR3 hC 0 fl_X12_7 rfl kk_159 (rf_159_0 hRF) dX12_comesOn_138 ?_
      refine wm_iconst hC dX12_comesOn_141 (k := ?_)
      refine x_ialdK hC kk_160 kn_160 (by decide) (by decide) dX12_comesOn_142 ?_
      refine wm_bipush hC dX12_comesOn_143 (k := ?_)
      refine wm_ishl hC dX12_comesOn_145 ?_
      refine wm_aload_n hC 0 dX12_comesOn_146 rfl (k_ne0 kk_159 (by decide)) ?_
      refine x_getR3 hC 0 fl_X12_7 rfl kk_159 (rf_159_0 hRF) dX12_comesOn_147 ?_
      refine wm_iconst hC dX12_comesOn_150 (k := ?_)
      refine x_ialdK hC kk_160 kn_160 (by decide) (by decide) dX12_comesOn_151 ?_
      refine wm_ior hC dX12_comesOn_152 ?_
      refine x_iastK hC kk_185 kn_185 (by decide) (by decide) dX12_comesOn_153 hw (fun I2 hw => ?_)
      refine wm_aload_n hC 0 dX12_comesOn_154 rfl (k_ne0 kk_159 (by decide)) ?_
      refine x_getR3 hC 46 fl_X12_153 rfl kk_159 (rf_159_46 hRF) dX12_comesOn_155 ?_
      refine wm_iconst hC dX12_comesOn_158 (k := ?_)
      refine wm_aload_n hC 0 dX12_comesOn_159 rfl (k_ne0 kk_159 (by decide)) ?_
      refine x_getR3 hC 0 fl_X12_7 rfl kk_159 (rf_159_0 hRF) dX12_comesOn_160 ?_
      refine wm_iconst hC dX12_comesOn_163 (k := ?_)
      refine x_ialdK hC kk_160 kn_160 (by decide) (by decide) dX12_comesOn_164 ?_
      refine wm_bipush hC dX12_comesOn_165 (k := ?_)
      refine wm_ishl hC dX12_comesOn_167 ?_
      refine wm_aload_n hC 0 dX12_comesOn_168 rfl (k_ne0 kk_159 (by decide)) ?_
      refine x_getR3 hC 0 fl_X12_7 rfl kk_159 (rf_159_0 hRF) dX12_comesOn_169 ?_
      refine wm_iconst hC dX12_comesOn_172 (k := ?_)
      refine x_ialdK hC kk_160 kn_160 (by decide) (by decide) dX12_comesOn_173 ?_
      refine wm_ior hC dX12_comesOn_174 ?_
      refine x_iastK hC kk_186 kn_186 (by decide) (by decide) dX12_comesOn_175 hw (fun I3 hw => ?_)
      refine wm_aload_n hC 0 dX12_comesOn_176 rfl (k_ne0 kk_159 (by decide)) ?_
      refine x_getR3 hC 50 fl_X12_165 rfl kk_159 (rf_159_50 hRF) dX12_comesOn_177 ?_
      refine wm_iconst hC dX12_comesOn_180 (k := ?_)
      refine wm_iconst hC dX12_comesOn_181 (k := ?_)
      refine x_iastK hC kk_190 kn_190 (by decide) (by decide) dX12_comesOn_182 hw (fun I4 hw => ?_)
      refine wm_iconst hC dX12_comesOn_183 (k := ?_)
      refine wm_istore hC dX12_comesOn_184 (by decide) (L2 := [(4, vi 0), (0, vr 159), (1, vi l1), (2, vi l2), (3, vi l3)]) rfl ?_
      refine wm_iconst hC dX12_comesOn_186 (k := ?_)
      refine wm_istore hC dX12_comesOn_187 (by decide) (L2 := [(5, vi 0), (4, vi 0), (0, vr 159), (1, vi l1), (2, vi l2), (3, vi l3)]) rfl ?_
      obtain ⟨f, hw⟩ := hw
      refine wm_sub [2, 4, 1, 0] (L2 := [(0, vr 159), (2, vi l2), (4, vi 0), (5, vi 0)]) rfl ?_
      exact w12_comesOn_b189 hC hRm hE hRF  f _ _ _ hw
    · refine wm_iconst hC dX12_comesOn_124 (k := ?_)
      exact wm_zreturn hC hE (Or.inl rfl) dX12_comesOn_125 ⟨⟨rfl, rfl⟩, hw⟩
  · refine wm_iconst hC dX12_comesOn_90 (k := ?_)
    refine wm_iload_n hC 3 dX12_comesOn_91 rfl ?_
    refine x_imul hC dX12_comesOn_92 hw (fun hw => ?_)
    refine wm_aload_n hC 0 dX12_comesOn_93 rfl (k_ne0 kk_159 (by decide)) ?_
    refine x_getR3 hC 0 fl_X12_7 rfl kk_159 (rf_159_0 hRF) dX12_comesOn_94 ?_
    refine wm_iload hC 4 dX12_comesOn_97 rfl ?_
    refine x_iald2 hC kk_160 kn_160 dX12_comesOn_99 hw (fun hw => ?_)
    refine x_iadd hC dX12_comesOn_100 hw (fun hw => ?_)
    refine wm_sipush hC dX12_comesOn_101 (k := ?_)
    refine x_iremP hC (by decide) dX12_comesOn_104 ?_
    refine x_nameI hw (fun x1 hw => ?_)
    refine wm_istore_n hC dX12_comesOn_105 (by decide) (L2 := [(3, vi x1), (0, vr 159), (1, vi l1), (2, vi l2), (4, vi l4)]) rfl ?_
    refine x_iinc hC 4 dX12_comesOn_106 rfl (by decide) (L2 := [(4, vi (l4 + 1)), (3, vi x1), (0, vr 159), (1, vi l1), (2, vi l2)]) rfl hw (fun hw => ?_)
    refine wm_goto (tgt := 82) hC dX12_comesOn_109 (by decide) ?_
    refine wm_sub [2, 3, 4, 1, 0] (L2 := [(0, vr 159), (1, vi l1), (2, vi l2), (3, vi x1), (4, vi (l4 + 1))]) rfl ?_
    exact kk82 _ _ hw
set_option maxRecDepth 20000 in
theorem w12_comesOn_b82 {C : wX} {ad : Nat → Nat} {n : Nat} {I : mI} {J : mI} {R : mR} {Q : Int → mI → Prop} (hC : wOK C cX12_comesOn 8 RX12) (hRm : wRm C 2 35 0 0) (hE : wEnd C (some .boolean) ad n (fun r I' J' R' => (J' = J ∧ R' = R) ∧ Q r I')) (hRF : RF R) {l1 : Int} {l2 : Int}     : ∀ (f : Nat) (l3 : Int) (l4 : Int), p12_comesOn_b82 l1 l2 I Q f l3 l4 → WM C ad n I J R 0 0 82 [(0, vr 159), (1, vi l1), (2, vi l2), (3, vi l3), (4, vi l4)] [] := by
  intro f
  induction f with
  | zero => intro l3 l4 hw; exact hw.elim
  | succ f ih => intro l3 l4 hw; exact w12_comesOn_b82_body hC hRm hE hRF  (fun a0 a1 aw => ih a0 a1 aw) hw
def p12_comesOn (l1 : Int) (I : mI) (Q : Int → mI → Prop) : Prop := (((0 : Int) ≤ (I 159 13) ∧ (I 159 13) < (2 : Int)) ∧ (rg (2 * (I 161 (I 159 13))) ∧ (rg (5 + (2 * (I 161 (I 159 13)))) ∧ (((0 : Int) ≤ (I 159 13) ∧ (I 159 13) < (2 : Int)) ∧ (rg ((5 + (2 * (I 161 (I 159 13)))) + (I 167 (I 159 13))) ∧ (if l1 = ((5 + (2 * (I 161 (I 159 13)))) + (I 167 (I 159 13))) then (if (999 : Int) < (bOr (bShl (I 160 0) 8) (I 160 1)) then (Q 0 I) else (if (bOr (bShl (I 160 2) 8) (I 160 3)) ≤ 9999 then (∃ f, p12_comesOn_b82 l1 (I 161 (I 159 13)) I Q f 229 0) else (Q 0 I))) else (Q 0 I)))))))
set_option maxRecDepth 20000 in
theorem c12_comesOn {ad : Nat → Nat} {n : Nat} {I J : mI} {R : mR} {Q : Int → mI → Prop}  (hRF : RF R) {l1 : Int}   (hw : p12_comesOn l1 I Q) : wMet yX12_comesOn cX12_comesOn 8 (some .boolean) 2 35 false ad n I J R [vr 159, vi l1] (fun r I' J' R' => (J' = J ∧ R' = R) ∧ Q r I') := by
  refine wMet_of (by decide) (Nat.le_of_ble_eq_true rfl) (fun C hC hRm hE hS => ?_)
  refine (show WM C ad n I J R 0 0 0 [(0, vr 159), (1, vi l1)] [] from ?_)
  unfold p12_comesOn at hw
  refine wm_aload_n hC 0 dX12_comesOn_0 rfl (k_ne0 kk_159 (by decide)) ?_
  refine x_getR3 hC 14 fl_X12_54 rfl kk_159 (rf_159_14 hRF) dX12_comesOn_1 ?_
  refine wm_aload_n hC 0 dX12_comesOn_4 rfl (k_ne0 kk_159 (by decide)) ?_
  refine x_getI hC 13 fl_X12_51 rfl kk_159 dX12_comesOn_5 ?_
  refine x_iald2 hC kk_161 kn_161 dX12_comesOn_8 hw (fun hw => ?_)
  refine wm_istore_n hC dX12_comesOn_9 (by decide) (L2 := [(2, vi (I 161 (I 159 13))), (0, vr 159), (1, vi l1)]) rfl ?_
  refine wm_iload_n hC 2 dX12_comesOn_10 rfl ?_
  refine wm_iconst hC dX12_comesOn_11 (k := ?_)
  refine wm_iconst hC dX12_comesOn_12 (k := ?_)
  refine wm_iload_n hC 0 dX12_comesOn_13 rfl ?_
  refine x_imul hC dX12_comesOn_14 hw (fun hw => ?_)
  refine x_iadd hC dX12_comesOn_15 hw (fun hw => ?_)
  refine wm_aload_n hC 1 dX12_comesOn_16 rfl (k_ne0 kk_159 (by decide)) ?_
  refine x_getR3 hC 20 fl_X12_72 rfl kk_159 (rf_159_20 hRF) dX12_comesOn_17 ?_
  refine wm_aload_n hC 1 dX12_comesOn_20 rfl (k_ne0 kk_159 (by decide)) ?_
  refine x_getI hC 13 fl_X12_51 rfl kk_159 dX12_comesOn_21 ?_
  refine x_iald2 hC kk_167 kn_167 dX12_comesOn_24 hw (fun hw => ?_)
  refine x_iadd hC dX12_comesOn_25 hw (fun hw => ?_)
  refine wm_icmp_ne (tgt := 73) hC dX12_comesOn_26 (by decide) hw (fun hw => ?_) (fun hw => ?_)
  · refine wm_aload_n hC 1 dX12_comesOn_29 rfl (k_ne0 kk_159 (by decide)) ?_
    refine x_getR3 hC 0 fl_X12_7 rfl kk_159 (rf_159_0 hRF) dX12_comesOn_30 ?_
    refine wm_iconst hC dX12_comesOn_33 (k := ?_)
    refine x_ialdK hC kk_160 kn_160 (by decide) (by decide) dX12_comesOn_34 ?_
    refine wm_bipush hC dX12_comesOn_35 (k := ?_)
    refine wm_ishl hC dX12_comesOn_37 ?_
    refine wm_aload_n hC 1 dX12_comesOn_38 rfl (k_ne0 kk_159 (by decide)) ?_
    refine x_getR3 hC 0 fl_X12_7 rfl kk_159 (rf_159_0 hRF) dX12_comesOn_39 ?_
    refine wm_iconst hC dX12_comesOn_42 (k := ?_)
    refine x_ialdK hC kk_160 kn_160 (by decide) (by decide) dX12_comesOn_43 ?_
    refine wm_ior hC dX12_comesOn_44 ?_
    refine wm_sipush hC dX12_comesOn_45 (k := ?_)
    refine wm_icmp_gt (tgt := 73) hC dX12_comesOn_48 (by decide) hw (fun hw => ?_) (fun hw => ?_)
    · refine wm_iconst hC dX12_comesOn_73 (k := ?_)
      exact wm_zreturn hC hE (Or.inl rfl) dX12_comesOn_74 ⟨⟨rfl, rfl⟩, hw⟩
    · refine wm_aload_n hC 1 dX12_comesOn_51 rfl (k_ne0 kk_159 (by decide)) ?_
      refine x_getR3 hC 0 fl_X12_7 rfl kk_159 (rf_159_0 hRF) dX12_comesOn_52 ?_
      refine wm_iconst hC dX12_comesOn_55 (k := ?_)
      refine x_ialdK hC kk_160 kn_160 (by decide) (by decide) dX12_comesOn_56 ?_
      refine wm_bipush hC dX12_comesOn_57 (k := ?_)
      refine wm_ishl hC dX12_comesOn_59 ?_
      refine wm_aload_n hC 1 dX12_comesOn_60 rfl (k_ne0 kk_159 (by decide)) ?_
      refine x_getR3 hC 0 fl_X12_7 rfl kk_159 (rf_159_0 hRF) dX12_comesOn_61 ?_
      refine wm_iconst hC dX12_comesOn_64 (k := ?_)
      refine x_ialdK hC kk_160 kn_160 (by decide) (by decide) dX12_comesOn_65 ?_
      refine wm_ior hC dX12_comesOn_66 ?_
      refine wm_sipush hC dX12_comesOn_67 (k := ?_)
      refine wm_icmp_le (tgt := 75) hC dX12_comesOn_70 (by decide) hw (fun hw => ?_) (fun hw => ?_)
      · refine wm_sipush hC dX12_comesOn_75 (k := ?_)
        refine wm_istore_n hC dX12_comesOn_78 (by decide) (L2 := [(3, vi 229), (2, vi (I 161 (I 159 13))), (0, vr 159), (1, vi l1)]) rfl ?_
        refine wm_iconst hC dX12_comesOn_79 (k := ?_)
        refine wm_istore hC dX12_comesOn_80 (by decide) (L2 := [(4, vi 0), (3, vi 229), (2, vi (I 161 (I 159 13))), (0, vr 159), (1, vi l1)]) rfl ?_
        obtain ⟨f, hw⟩ := hw
        refine wm_sub [3, 4, 2, 1, 0] (L2 := [(0, vr 159), (1, vi l1), (2, vi (I 161 (I 159 13))), (3, vi 229), (4, vi 0)]) rfl ?_
        exact w12_comesOn_b82 hC hRm hE hRF  f _ _ hw
      · refine wm_iconst hC dX12_comesOn_73 (k := ?_)
        exact wm_zreturn hC hE (Or.inl rfl) dX12_comesOn_74 ⟨⟨rfl, rfl⟩, hw⟩
  · refine wm_iconst hC dX12_comesOn_73 (k := ?_)
    exact wm_zreturn hC hE (Or.inl rfl) dX12_comesOn_74 ⟨⟨rfl, rfl⟩, hw⟩
def p12_end_b12 (I : mI) (Q : Int → mI → Prop) : Prop := (p12_refuses 0 I (fun r1 I2 => (if r1 < 0 then (Q 0 I2) else (Q 1 I2))))
set_option maxRecDepth 20000 in
theorem w12_end_b12 {C : wX} {ad : Nat → Nat} {n : Nat} {I J : mI} {R : mR} {Q : Int → mI → Prop} (hC : wOK C cX12_end 2 RX12) (hRm : wRm C 2 33 0 0) (hE : wEnd C (some .boolean) ad n (fun r I' J' R' => (J' = J ∧ R' = R) ∧ Q r I')) (hRF : RF R)      (hw : p12_end_b12 I Q) : WM C ad n I J R 0 0 12 [(0, vr 159)] [] := by
  unfold p12_end_b12 at hw
  refine wm_aload_n hC 0 dX12_end_12 rfl (k_ne0 kk_159 (by decide)) ?_
  refine wm_iconst hC dX12_end_13 (k := ?_)
  refine y_callV_i_I hC hRm noS ml_X12_222 kk_159 (c12_refuses hRF  hw) (Nat.le_of_ble_eq_true rfl) (Nat.le_of_ble_eq_true rfl) ⟨Nat.zero_le _, Nat.zero_le _⟩ rfl (st := []) rfl (Nat.le_of_ble_eq_true rfl) dX12_end_14 (fun r1 I2 hw => ?_)
  refine wm_if_lt (tgt := 24) hC dX12_end_17 (by decide) hw (fun hw => ?_) (fun hw => ?_)
  · refine wm_iconst hC dX12_end_24 (k := ?_)
    exact wm_zreturn hC hE (Or.inl rfl) dX12_end_25 ⟨⟨rfl, rfl⟩, hw⟩
  · refine wm_iconst hC dX12_end_20 (k := ?_)
    refine wm_goto (tgt := 25) hC dX12_end_21 (by decide) ?_
    exact wm_zreturn hC hE (Or.inr rfl) dX12_end_25 ⟨⟨rfl, rfl⟩, hw⟩
def p12_end (l1 : Int) (I : mI) (Q : Int → mI → Prop) : Prop := (if l1 < 0 then (p12_end_b12 I Q) else (if l1 ≤ (I 159 1) then (wLet (up I 159 1 l1) (fun I1 => (Q 1 I1))) else (p12_end_b12 I Q)))
set_option maxRecDepth 20000 in
theorem c12_end {ad : Nat → Nat} {n : Nat} {I J : mI} {R : mR} {Q : Int → mI → Prop}  (hRF : RF R) {l1 : Int}   (hw : p12_end l1 I Q) : wMet yX12_end cX12_end 2 (some .boolean) 2 33 false ad n I J R [vr 159, vi l1] (fun r I' J' R' => (J' = J ∧ R' = R) ∧ Q r I') := by
  refine wMet_of (by decide) (Nat.le_of_ble_eq_true rfl) (fun C hC hRm hE hS => ?_)
  refine (show WM C ad n I J R 0 0 0 [(0, vr 159), (1, vi l1)] [] from ?_)
  unfold p12_end at hw
  refine wm_iload_n hC 1 dX12_end_0 rfl ?_
  refine wm_if_lt (tgt := 12) hC dX12_end_1 (by decide) hw (fun hw => ?_) (fun hw => ?_)
  · refine wm_sub [0] (L2 := [(0, vr 159)]) rfl ?_
    exact w12_end_b12 hC hRm hE hRF  hw
  · refine wm_iload_n hC 1 dX12_end_4 rfl ?_
    refine wm_aload_n hC 0 dX12_end_5 rfl (k_ne0 kk_159 (by decide)) ?_
    refine x_getI hC 1 fl_X12_13 rfl kk_159 dX12_end_6 ?_
    refine wm_icmp_le (tgt := 26) hC dX12_end_9 (by decide) hw (fun hw => ?_) (fun hw => ?_)
    · refine wm_aload_n hC 0 dX12_end_26 rfl (k_ne0 kk_159 (by decide)) ?_
      refine wm_iload_n hC 1 dX12_end_27 rfl ?_
      refine x_putI hC 1 fl_X12_13 rfl kk_159 dX12_end_28 hw (fun I1 hw => ?_)
      refine wm_iconst hC dX12_end_31 (k := ?_)
      exact wm_zreturn hC hE (Or.inr rfl) dX12_end_32 ⟨⟨rfl, rfl⟩, hw⟩
    · refine wm_sub [0] (L2 := [(0, vr 159)]) rfl ?_
      exact w12_end_b12 hC hRm hE hRF  hw
def p12_fault (l1 : Int) (I : mI) (Q : Int → Prop) : Prop := (if l1 = 0 then (Q (I 159 10)) else (if l1 = 1 then (Q (I 159 11)) else (Q (-1))))
set_option maxRecDepth 20000 in
theorem c12_fault {ad : Nat → Nat} {n : Nat} {I J : mI} {R : mR} {Q : Int → Prop}  (hRF : RF R) {l1 : Int}   (hw : p12_fault l1 I Q) : wMet yX12_fault cX12_fault 2 (some .int) 1 12 false ad n I J R [vr 159, vi l1] (fun r I' J' R' => (I' = I ∧ J' = J ∧ R' = R) ∧ Q r) := by
  refine wMet_of (by decide) (Nat.le_of_ble_eq_true rfl) (fun C hC hRm hE hS => ?_)
  refine (show WM C ad n I J R 0 0 0 [(0, vr 159), (1, vi l1)] [] from ?_)
  unfold p12_fault at hw
  refine wm_iload_n hC 1 dX12_fault_0 rfl ?_
  refine wm_if_ne (tgt := 11) hC dX12_fault_1 (by decide) hw (fun hw => ?_) (fun hw => ?_)
  · refine wm_aload_n hC 0 dX12_fault_4 rfl (k_ne0 kk_159 (by decide)) ?_
    refine x_getI hC 10 fl_X12_42 rfl kk_159 dX12_fault_5 ?_
    refine wm_goto (tgt := 24) hC dX12_fault_8 (by decide) ?_
    exact wm_ireturn hC hE dX12_fault_24 ⟨⟨rfl, rfl, rfl⟩, hw⟩
  · refine wm_iload_n hC 1 dX12_fault_11 rfl ?_
    refine wm_iconst hC dX12_fault_12 (k := ?_)
    refine wm_icmp_ne (tgt := 23) hC dX12_fault_13 (by decide) hw (fun hw => ?_) (fun hw => ?_)
    · refine wm_aload_n hC 0 dX12_fault_16 rfl (k_ne0 kk_159 (by decide)) ?_
      refine x_getI hC 11 fl_X12_45 rfl kk_159 dX12_fault_17 ?_
      refine wm_goto (tgt := 24) hC dX12_fault_20 (by decide) ?_
      exact wm_ireturn hC hE dX12_fault_24 ⟨⟨rfl, rfl, rfl⟩, hw⟩
    · refine wm_iconst hC dX12_fault_23 (k := ?_)
      exact wm_ireturn hC hE dX12_fault_24 ⟨⟨rfl, rfl, rfl⟩, hw⟩
def p12_put_b3_body (l1 : Int) (Q : mI → Prop) (k3 : Int → mI → Prop) (l2 : Int) (I : mI) : Prop := (if l2 < 0 then (Q I) else (((0 : Int) ≤ (I 159 1) ∧ (I 159 1) < (1800 : Int)) ∧ wLet (up I 160 (I 159 1) (bAnd (bShr l1 l2) 255)) (fun I1 => (rg ((I1 159 1) + 1) ∧ (wLet (up I1 159 1 ((I1 159 1) + 1)) (fun I2 => (rg (l2 + (-8)) ∧ (k3 (l2 + (-8)) I2))))))))
def p12_put_b3 (l1 : Int) (Q : mI → Prop) : Nat → Int → mI → Prop
  | 0 => fun _ _ => False
  | f + 1 => fun l2 I => p12_put_b3_body l1 Q (p12_put_b3 l1 Q f) l2 I
set_option maxRecDepth 20000 in
theorem w12_put_b3_body {C : wX} {ad : Nat → Nat} {n : Nat} {I J : mI} {R : mR} {Q : mI → Prop} (hC : wOK C cX12_put 3 RX12) (hRm : wRm C 1 12 0 0) (hE : wEnd C none ad n (fun _ I' J' R' => (J' = J ∧ R' = R) ∧ Q I')) (hRF : RF R) {l1 : Int} {l2 : Int}     {k3 : Int → mI → Prop} (kk3 : ∀ (y2 : Int) (I' : mI), k3 y2 I' → WM C ad n I' J R 0 0 3 [(0, vr 159), (1, vi l1), (2, vi y2)] []) (hw : p12_put_b3_body l1 Q k3 l2 I) : WM C ad n I J R 0 0 3 [(0, vr 159), (1, vi l1), (2, vi l2)] [] := by
  unfold p12_put_b3_body at hw
  refine wm_iload_n hC 2 dX12_put_3 rfl ?_
  refine wm_if_lt (tgt := 39) hC dX12_put_4 (by decide) hw (fun hw => ?_) (fun hw => ?_)
  · exact wm_return hC hE dX12_put_39 ⟨⟨rfl, rfl⟩, hw⟩
  · refine wm_aload_n hC 0 dX12_put_7 rfl (k_ne0 kk_159 (by decide)) ?_
    refine x_getR3 hC 0 fl_X12_7 rfl kk_159 (rf_159_0 hRF) dX12_put_8 ?_
    refine wm_aload_n hC 0 dX12_put_11 rfl (k_ne0 kk_159 (by decide)) ?_
    refine x_getI hC 1 fl_X12_13 rfl kk_159 dX12_put_12 ?_
    refine wm_iload_n hC 1 dX12_put_15 rfl ?_
    refine wm_iload_n hC 2 dX12_put_16 rfl ?_
    refine wm_ishr hC dX12_put_17 ?_
    refine wm_sipush hC dX12_put_18 (k := ?_)
    refine wm_iand hC dX12_put_21 ?_
    refine x_iast2 hC kk_160 kn_160 dX12_put_22 hw (fun I1 hw => ?_)
    refine wm_aload_n hC 0 dX12_put_23 rfl (k_ne0 kk_159 (by decide)) ?_
    refine wm_dup hC dX12_put_24 (k := ?_)
    refine x_getI hC 1 fl_X12_13 rfl kk_159 dX12_put_25 ?_
    refine wm_iconst hC dX12_put_28 (k := ?_)
    refine x_iadd hC dX12_put_29 hw (fun hw => ?_)
    refine x_putI hC 1 fl_X12_13 rfl kk_159 dX12_put_30 hw (fun I2 hw => ?_)
    refine x_iinc hC 2 dX12_put_33 rfl (by decide) (L2 := [(2, vi (l2 + (-8))), (0, vr 159), (1, vi l1)]) rfl hw (fun hw => ?_)
    refine wm_goto (tgt := 3) hC dX12_put_36 (by decide) ?_
    refine wm_sub [1, 2, 0] (L2 := [(0, vr 159), (1, vi l1), (2, vi (l2 + (-8)))]) rfl ?_
    exact kk3 _ _ hw
set_option maxRecDepth 20000 in
theorem w12_put_b3 {C : wX} {ad : Nat → Nat} {n : Nat} {J : mI} {R : mR} {Q : mI → Prop} (hC : wOK C cX12_put 3 RX12) (hRm : wRm C 1 12 0 0) (hE : wEnd C none ad n (fun _ I' J' R' => (J' = J ∧ R' = R) ∧ Q I')) (hRF : RF R) {l1 : Int}     : ∀ (f : Nat) (l2 : Int) (I : mI), p12_put_b3 l1 Q f l2 I → WM C ad n I J R 0 0 3 [(0, vr 159), (1, vi l1), (2, vi l2)] [] := by
  intro f
  induction f with
  | zero => intro l2 I hw; exact hw.elim
  | succ f ih => intro l2 I hw; exact w12_put_b3_body hC hRm hE hRF  (fun a0 a1 aw => ih a0 a1 aw) hw
def p12_put (l1 : Int) (I : mI) (Q : mI → Prop) : Prop := (∃ f, p12_put_b3 l1 Q f 24 I)
set_option maxRecDepth 20000 in
theorem c12_put {ad : Nat → Nat} {n : Nat} {I J : mI} {R : mR} {Q : mI → Prop}  (hRF : RF R) {l1 : Int}   (hw : p12_put l1 I Q) : wMet yX12_put cX12_put 3 none 1 12 false ad n I J R [vr 159, vi l1] (fun _ I' J' R' => (J' = J ∧ R' = R) ∧ Q I') := by
  refine wMet_of (by decide) (Nat.le_of_ble_eq_true rfl) (fun C hC hRm hE hS => ?_)
  refine (show WM C ad n I J R 0 0 0 [(0, vr 159), (1, vi l1)] [] from ?_)
  unfold p12_put at hw
  refine wm_bipush hC dX12_put_0 (k := ?_)
  refine wm_istore_n hC dX12_put_2 (by decide) (L2 := [(2, vi 24), (0, vr 159), (1, vi l1)]) rfl ?_
  obtain ⟨f, hw⟩ := hw
  refine wm_sub [1, 2, 0] (L2 := [(0, vr 159), (1, vi l1), (2, vi 24)]) rfl ?_
  exact w12_put_b3 hC hRm hE hRF  f _ _ hw
def p12_feed (l1 : Int) (l2 : Int) (l3 : Int) (l4 : Int) (l5 : Int) (I : mI) (Q : Int → mI → Prop) : Prop := (rg ((I 159 1) + 20) ∧ (if ((I 159 1) + 20) ≤ 1600 then (p12_put l1 I (fun I1 => (p12_put l2 I1 (fun I2 => (p12_put l3 I2 (fun I3 => (p12_put l4 I3 (fun I4 => (p12_put l5 I4 (fun I5 => (Q (I5 159 1) I5))))))))))) else (p12_refuses 0 I (fun r1 I6 => (Q r1 I6)))))
set_option maxRecDepth 20000 in
theorem c12_feed {ad : Nat → Nat} {n : Nat} {I J : mI} {R : mR} {Q : Int → mI → Prop}  (hRF : RF R) {l1 : Int} {l2 : Int} {l3 : Int} {l4 : Int} {l5 : Int}       (hw : p12_feed l1 l2 l3 l4 l5 I Q) : wMet yX12_feed cX12_feed 6 (some .int) 2 34 false ad n I J R [vr 159, vi l1, vi l2, vi l3, vi l4, vi l5] (fun r I' J' R' => (J' = J ∧ R' = R) ∧ Q r I') := by
  refine wMet_of (by decide) (Nat.le_of_ble_eq_true rfl) (fun C hC hRm hE hS => ?_)
  refine (show WM C ad n I J R 0 0 0 [(0, vr 159), (1, vi l1), (2, vi l2), (3, vi l3), (4, vi l4), (5, vi l5)] [] from ?_)
  unfold p12_feed at hw
  refine wm_aload_n hC 0 dX12_feed_0 rfl (k_ne0 kk_159 (by decide)) ?_
  refine x_getI hC 1 fl_X12_13 rfl kk_159 dX12_feed_1 ?_
  refine wm_bipush hC dX12_feed_4 (k := ?_)
  refine x_iadd hC dX12_feed_6 hw (fun hw => ?_)
  refine wm_sipush hC dX12_feed_7 (k := ?_)
  refine wm_icmp_le (tgt := 19) hC dX12_feed_10 (by decide) hw (fun hw => ?_) (fun hw => ?_)
  · refine wm_aload_n hC 0 dX12_feed_19 rfl (k_ne0 kk_159 (by decide)) ?_
    refine wm_iload_n hC 1 dX12_feed_20 rfl ?_
    refine y_callV_v_I hC hRm noS ml_X12_226 kk_159 (c12_put hRF  hw) (Nat.le_of_ble_eq_true rfl) (Nat.le_of_ble_eq_true rfl) ⟨Nat.zero_le _, Nat.zero_le _⟩ rfl (st := []) rfl (Nat.le_of_ble_eq_true rfl) dX12_feed_21 (fun I1 hw => ?_)
    refine wm_aload_n hC 0 dX12_feed_24 rfl (k_ne0 kk_159 (by decide)) ?_
    refine wm_iload_n hC 2 dX12_feed_25 rfl ?_
    refine y_callV_v_I hC hRm noS ml_X12_226 kk_159 (c12_put hRF  hw) (Nat.le_of_ble_eq_true rfl) (Nat.le_of_ble_eq_true rfl) ⟨Nat.zero_le _, Nat.zero_le _⟩ rfl (st := []) rfl (Nat.le_of_ble_eq_true rfl) dX12_feed_26 (fun I2 hw => ?_)
    refine wm_aload_n hC 0 dX12_feed_29 rfl (k_ne0 kk_159 (by decide)) ?_
    refine wm_iload_n hC 3 dX12_feed_30 rfl ?_
    refine y_callV_v_I hC hRm noS ml_X12_226 kk_159 (c12_put hRF  hw) (Nat.le_of_ble_eq_true rfl) (Nat.le_of_ble_eq_true rfl) ⟨Nat.zero_le _, Nat.zero_le _⟩ rfl (st := []) rfl (Nat.le_of_ble_eq_true rfl) dX12_feed_31 (fun I3 hw => ?_)
    refine wm_aload_n hC 0 dX12_feed_34 rfl (k_ne0 kk_159 (by decide)) ?_
    refine wm_iload hC 4 dX12_feed_35 rfl ?_
    refine y_callV_v_I hC hRm noS ml_X12_226 kk_159 (c12_put hRF  hw) (Nat.le_of_ble_eq_true rfl) (Nat.le_of_ble_eq_true rfl) ⟨Nat.zero_le _, Nat.zero_le _⟩ rfl (st := []) rfl (Nat.le_of_ble_eq_true rfl) dX12_feed_37 (fun I4 hw => ?_)
    refine wm_aload_n hC 0 dX12_feed_40 rfl (k_ne0 kk_159 (by decide)) ?_
    refine wm_iload hC 5 dX12_feed_41 rfl ?_
    refine y_callV_v_I hC hRm noS ml_X12_226 kk_159 (c12_put hRF  hw) (Nat.le_of_ble_eq_true rfl) (Nat.le_of_ble_eq_true rfl) ⟨Nat.zero_le _, Nat.zero_le _⟩ rfl (st := []) rfl (Nat.le_of_ble_eq_true rfl) dX12_feed_43 (fun I5 hw => ?_)
    refine wm_aload_n hC 0 dX12_feed_46 rfl (k_ne0 kk_159 (by decide)) ?_
    refine x_getI hC 1 fl_X12_13 rfl kk_159 dX12_feed_47 ?_
    exact wm_ireturn hC hE dX12_feed_50 ⟨⟨rfl, rfl⟩, hw⟩
  · refine wm_aload_n hC 0 dX12_feed_13 rfl (k_ne0 kk_159 (by decide)) ?_
    refine wm_iconst hC dX12_feed_14 (k := ?_)
    refine y_callV_i_I hC hRm noS ml_X12_222 kk_159 (c12_refuses hRF  hw) (Nat.le_of_ble_eq_true rfl) (Nat.le_of_ble_eq_true rfl) ⟨Nat.zero_le _, Nat.zero_le _⟩ rfl (st := []) rfl (Nat.le_of_ble_eq_true rfl) dX12_feed_15 (fun r1 I6 hw => ?_)
    exact wm_ireturn hC hE dX12_feed_18 ⟨⟨rfl, rfl⟩, hw⟩
def p12_fill_b21 (I : mI) (Q : Int → mI → Prop) : Prop := (p12_refuses 3 I (fun r2 I3 => (if r2 < 0 then (Q 0 I3) else (Q 1 I3))))
set_option maxRecDepth 20000 in
theorem w12_fill_b21 {C : wX} {ad : Nat → Nat} {n : Nat} {I J : mI} {R : mR} {Q : Int → mI → Prop} (hC : wOK C cX12_fill 2 RX12) (hRm : wRm C 3 55 0 0) (hE : wEnd C (some .boolean) ad n (fun r I' J' R' => (J' = J ∧ R' = R) ∧ Q r I')) (hRF : RF R)      (hw : p12_fill_b21 I Q) : WM C ad n I J R 0 0 21 [(0, vr 159)] [] := by
  unfold p12_fill_b21 at hw
  refine wm_aload_n hC 0 dX12_fill_21 rfl (k_ne0 kk_159 (by decide)) ?_
  refine wm_iconst hC dX12_fill_22 (k := ?_)
  refine y_callV_i_I hC hRm noS ml_X12_222 kk_159 (c12_refuses hRF  hw) (Nat.le_of_ble_eq_true rfl) (Nat.le_of_ble_eq_true rfl) ⟨Nat.zero_le _, Nat.zero_le _⟩ rfl (st := []) rfl (Nat.le_of_ble_eq_true rfl) dX12_fill_23 (fun r2 I3 hw => ?_)
  refine wm_if_lt (tgt := 33) hC dX12_fill_26 (by decide) hw (fun hw => ?_) (fun hw => ?_)
  · refine wm_iconst hC dX12_fill_33 (k := ?_)
    exact wm_zreturn hC hE (Or.inl rfl) dX12_fill_34 ⟨⟨rfl, rfl⟩, hw⟩
  · refine wm_iconst hC dX12_fill_29 (k := ?_)
    refine wm_goto (tgt := 34) hC dX12_fill_30 (by decide) ?_
    exact wm_zreturn hC hE (Or.inr rfl) dX12_fill_34 ⟨⟨rfl, rfl⟩, hw⟩
def p12_fill (l1 : Int) (I : mI) (Q : Int → mI → Prop) : Prop := (p12_is l1 0 9999 (fun r1 => (if r1 = 0 then (p12_fill_b21 I Q) else (if (I 186 0) = l1 then (p12_fill_b21 I Q) else (p12_keeps I (fun I1 => (wLet (up I1 186 0 l1) (fun I2 => (Q 1 I2)))))))))
set_option maxRecDepth 20000 in
theorem c12_fill {ad : Nat → Nat} {n : Nat} {I J : mI} {R : mR} {Q : Int → mI → Prop}  (hRF : RF R) {l1 : Int}   (hw : p12_fill l1 I Q) : wMet yX12_fill cX12_fill 2 (some .boolean) 3 55 false ad n I J R [vr 159, vi l1] (fun r I' J' R' => (J' = J ∧ R' = R) ∧ Q r I') := by
  refine wMet_of (by decide) (Nat.le_of_ble_eq_true rfl) (fun C hC hRm hE hS => ?_)
  refine (show WM C ad n I J R 0 0 0 [(0, vr 159), (1, vi l1)] [] from ?_)
  unfold p12_fill at hw
  refine wm_iload_n hC 1 dX12_fill_0 rfl ?_
  refine wm_iconst hC dX12_fill_1 (k := ?_)
  refine wm_sipush hC dX12_fill_2 (k := ?_)
  refine y_callS_z_n hC hRm noS ml_X12_309 (c12_is hRF  hw) (Nat.le_of_ble_eq_true rfl) (Nat.le_of_ble_eq_true rfl) ⟨Nat.zero_le _, Nat.zero_le _⟩ rfl (st := []) rfl (Nat.le_of_ble_eq_true rfl) dX12_fill_5 (fun r1 hw => ?_)
  refine wm_if_eq (tgt := 21) hC dX12_fill_8 (by decide) hw (fun hw => ?_) (fun hw => ?_)
  · refine wm_sub [0] (L2 := [(0, vr 159)]) rfl ?_
    exact w12_fill_b21 hC hRm hE hRF  hw
  · refine wm_aload_n hC 0 dX12_fill_11 rfl (k_ne0 kk_159 (by decide)) ?_
    refine x_getR3 hC 46 fl_X12_153 rfl kk_159 (rf_159_46 hRF) dX12_fill_12 ?_
    refine wm_iconst hC dX12_fill_15 (k := ?_)
    refine x_ialdK hC kk_186 kn_186 (by decide) (by decide) dX12_fill_16 ?_
    refine wm_iload_n hC 1 dX12_fill_17 rfl ?_
    refine wm_icmp_ne (tgt := 35) hC dX12_fill_18 (by decide) hw (fun hw => ?_) (fun hw => ?_)
    · refine wm_sub [0] (L2 := [(0, vr 159)]) rfl ?_
      exact w12_fill_b21 hC hRm hE hRF  hw
    · refine wm_aload_n hC 0 dX12_fill_35 rfl (k_ne0 kk_159 (by decide)) ?_
      refine y_callV_v_I hC hRm noS ml_X12_554 kk_159 (c12_keeps hRF  hw) (Nat.le_of_ble_eq_true rfl) (Nat.le_of_ble_eq_true rfl) ⟨Nat.zero_le _, Nat.zero_le _⟩ rfl (st := []) rfl (Nat.le_of_ble_eq_true rfl) dX12_fill_36 (fun I1 hw => ?_)
      refine wm_aload_n hC 0 dX12_fill_39 rfl (k_ne0 kk_159 (by decide)) ?_
      refine x_getR3 hC 46 fl_X12_153 rfl kk_159 (rf_159_46 hRF) dX12_fill_40 ?_
      refine wm_iconst hC dX12_fill_43 (k := ?_)
      refine wm_iload_n hC 1 dX12_fill_44 rfl ?_
      refine x_iastK hC kk_186 kn_186 (by decide) (by decide) dX12_fill_45 hw (fun I2 hw => ?_)
      refine wm_iconst hC dX12_fill_46 (k := ?_)
      exact wm_zreturn hC hE (Or.inr rfl) dX12_fill_47 ⟨⟨rfl, rfl⟩, hw⟩
def p12_isSign (l1 : Int) (I : mI) (Q : Int → Prop) : Prop := (if (I 159 3) = 3 then (if (I 159 6) = l1 then (Q 1) else (Q 0)) else (Q 0))
set_option maxRecDepth 20000 in
theorem c12_isSign {ad : Nat → Nat} {n : Nat} {I J : mI} {R : mR} {Q : Int → Prop}  (hRF : RF R) {l1 : Int}   (hw : p12_isSign l1 I Q) : wMet yX12_isSign cX12_isSign 2 (some .boolean) 1 12 false ad n I J R [vr 159, vi l1] (fun r I' J' R' => (I' = I ∧ J' = J ∧ R' = R) ∧ Q r) := by
  refine wMet_of (by decide) (Nat.le_of_ble_eq_true rfl) (fun C hC hRm hE hS => ?_)
  refine (show WM C ad n I J R 0 0 0 [(0, vr 159), (1, vi l1)] [] from ?_)
  unfold p12_isSign at hw
  refine wm_aload_n hC 0 dX12_isSign_0 rfl (k_ne0 kk_159 (by decide)) ?_
  refine x_getI hC 3 fl_X12_20 rfl kk_159 dX12_isSign_1 ?_
  refine wm_iconst hC dX12_isSign_4 (k := ?_)
  refine wm_icmp_ne (tgt := 20) hC dX12_isSign_5 (by decide) hw (fun hw => ?_) (fun hw => ?_)
  · refine wm_aload_n hC 0 dX12_isSign_8 rfl (k_ne0 kk_159 (by decide)) ?_
    refine x_getI hC 6 fl_X12_29 rfl kk_159 dX12_isSign_9 ?_
    refine wm_iload_n hC 1 dX12_isSign_12 rfl ?_
    refine wm_icmp_ne (tgt := 20) hC dX12_isSign_13 (by decide) hw (fun hw => ?_) (fun hw => ?_)
    · refine wm_iconst hC dX12_isSign_16 (k := ?_)
      refine wm_goto (tgt := 21) hC dX12_isSign_17 (by decide) ?_
      exact wm_zreturn hC hE (Or.inr rfl) dX12_isSign_21 ⟨⟨rfl, rfl, rfl⟩, hw⟩
    · refine wm_iconst hC dX12_isSign_20 (k := ?_)
      exact wm_zreturn hC hE (Or.inl rfl) dX12_isSign_21 ⟨⟨rfl, rfl, rfl⟩, hw⟩
  · refine wm_iconst hC dX12_isSign_20 (k := ?_)
    exact wm_zreturn hC hE (Or.inl rfl) dX12_isSign_21 ⟨⟨rfl, rfl, rfl⟩, hw⟩
def p12_must_b21 (I : mI) (J : mI) (Q : mI → mI → Prop) : Prop := (if (I 159 8) = 0 then (p12_ahead I J (fun I3 J1 => (Q I3 J1))) else (Q I J))
set_option maxRecDepth 20000 in
theorem w12_must_b21 {C : wX} {ad : Nat → Nat} {n : Nat} {I J : mI} {R : mR} {Q : mI → mI → Prop} (hC : wOK C cX12_must 2 RX12) (hRm : wRm C 3 57 0 0) (hE : wEnd C none ad n (fun _ I' J' R' => (R' = R) ∧ Q I' J')) (hRF : RF R)      (hw : p12_must_b21 I J Q) : WM C ad n I J R 0 0 21 [(0, vr 159)] [] := by
  unfold p12_must_b21 at hw
  refine wm_aload_n hC 0 dX12_must_21 rfl (k_ne0 kk_159 (by decide)) ?_
  refine x_getI hC 8 fl_X12_36 rfl kk_159 dX12_must_22 ?_
  refine wm_if_ne (tgt := 32) hC dX12_must_25 (by decide) hw (fun hw => ?_) (fun hw => ?_)
  · refine wm_aload_n hC 0 dX12_must_28 rfl (k_ne0 kk_159 (by decide)) ?_
    refine y_callV_v_IJ hC hRm noS ml_X12_247 kk_159 (c12_ahead hRF  hw) (Nat.le_of_ble_eq_true rfl) (Nat.le_of_ble_eq_true rfl) ⟨Nat.zero_le _, Nat.zero_le _⟩ rfl (st := []) rfl (Nat.le_of_ble_eq_true rfl) dX12_must_29 (fun I3 J1 hw => ?_)
    exact wm_return hC hE dX12_must_32 ⟨rfl, hw⟩
  · exact wm_return hC hE dX12_must_32 ⟨rfl, hw⟩
def p12_must (l1 : Int) (I : mI) (J : mI) (Q : mI → mI → Prop) : Prop := (p12_lex I (fun I1 => (p12_isSign l1 I1 (fun r1 => (if r1 = 0 then (p12_blame 1 (I1 159 4) I1 (fun I2 => (p12_must_b21 I2 J Q))) else (p12_must_b21 I1 J Q))))))
set_option maxRecDepth 20000 in
theorem c12_must {ad : Nat → Nat} {n : Nat} {I J : mI} {R : mR} {Q : mI → mI → Prop}  (hRF : RF R) {l1 : Int}   (hw : p12_must l1 I J Q) : wMet yX12_must cX12_must 2 none 3 57 false ad n I J R [vr 159, vi l1] (fun _ I' J' R' => (R' = R) ∧ Q I' J') := by
  refine wMet_of (by decide) (Nat.le_of_ble_eq_true rfl) (fun C hC hRm hE hS => ?_)
  refine (show WM C ad n I J R 0 0 0 [(0, vr 159), (1, vi l1)] [] from ?_)
  unfold p12_must at hw
  refine wm_aload_n hC 0 dX12_must_0 rfl (k_ne0 kk_159 (by decide)) ?_
  refine y_callV_v_I hC hRm noS ml_X12_241 kk_159 (c12_lex hRF  hw) (Nat.le_of_ble_eq_true rfl) (Nat.le_of_ble_eq_true rfl) ⟨Nat.zero_le _, Nat.zero_le _⟩ rfl (st := []) rfl (Nat.le_of_ble_eq_true rfl) dX12_must_1 (fun I1 hw => ?_)
  refine wm_aload_n hC 0 dX12_must_4 rfl (k_ne0 kk_159 (by decide)) ?_
  refine wm_iload_n hC 1 dX12_must_5 rfl ?_
  refine y_callV_z_n hC hRm noS ml_X12_244 kk_159 (c12_isSign hRF  hw) (Nat.le_of_ble_eq_true rfl) (Nat.le_of_ble_eq_true rfl) ⟨Nat.zero_le _, Nat.zero_le _⟩ rfl (st := []) rfl (Nat.le_of_ble_eq_true rfl) dX12_must_6 (fun r1 hw => ?_)
  refine wm_if_ne (tgt := 21) hC dX12_must_9 (by decide) hw (fun hw => ?_) (fun hw => ?_)
  · refine wm_aload_n hC 0 dX12_must_12 rfl (k_ne0 kk_159 (by decide)) ?_
    refine wm_iconst hC dX12_must_13 (k := ?_)
    refine wm_aload_n hC 0 dX12_must_14 rfl (k_ne0 kk_159 (by decide)) ?_
    refine x_getI hC 4 fl_X12_23 rfl kk_159 dX12_must_15 ?_
    refine y_callV_v_I hC hRm noS ml_X12_230 kk_159 (c12_blame hRF  hw) (Nat.le_of_ble_eq_true rfl) (Nat.le_of_ble_eq_true rfl) ⟨Nat.zero_le _, Nat.zero_le _⟩ rfl (st := []) rfl (Nat.le_of_ble_eq_true rfl) dX12_must_18 (fun I2 hw => ?_)
    refine wm_sub [0] (L2 := [(0, vr 159)]) rfl ?_
    exact w12_must_b21 hC hRm hE hRF  hw
  · refine wm_sub [0] (L2 := [(0, vr 159)]) rfl ?_
    exact w12_must_b21 hC hRm hE hRF  hw
def p12_finishes_b53 (l1 : Int) (l2 : Int) (I : mI) (J : mI) (Q : mI → mI → Prop) : Prop := (p12_isSign 59 I (fun r1 => (if r1 = 0 then (p12_must 59 I J (fun I2 J1 => (Q I2 J1))) else (if l1 = 60 then (if (I 159 2) ≤ l2 then (p12_must 59 I J (fun I4 J3 => (Q I4 J3))) else (p12_blame 6 l2 I (fun I5 => (p12_must 59 I5 J (fun I6 J4 => (Q I6 J4)))))) else (p12_must 59 I J (fun I3 J2 => (Q I3 J2)))))))
set_option maxRecDepth 20000 in
theorem w12_finishes_b53 {C : wX} {ad : Nat → Nat} {n : Nat} {I J : mI} {R : mR} {Q : mI → mI → Prop} (hC : wOK C cX12_finishes 3 RX12) (hRm : wRm C 4 78 0 0) (hE : wEnd C none ad n (fun _ I' J' R' => (R' = R) ∧ Q I' J')) (hRF : RF R) {l1 : Int} {l2 : Int}     (hw : p12_finishes_b53 l1 l2 I J Q) : WM C ad n I J R 0 0 53 [(0, vr 159), (1, vi l1), (2, vi l2)] [] := by
  unfold p12_finishes_b53 at hw
  refine wm_aload_n hC 0 dX12_finishes_53 rfl (k_ne0 kk_159 (by decide)) ?_
  refine wm_bipush hC dX12_finishes_54 (k := ?_)
  refine y_callV_z_n hC hRm noS ml_X12_244 kk_159 (c12_isSign hRF  hw) (Nat.le_of_ble_eq_true rfl) (Nat.le_of_ble_eq_true rfl) ⟨Nat.zero_le _, Nat.zero_le _⟩ rfl (st := []) rfl (Nat.le_of_ble_eq_true rfl) dX12_finishes_56 (fun r1 hw => ?_)
  refine wm_if_eq (tgt := 83) hC dX12_finishes_59 (by decide) hw (fun hw => ?_) (fun hw => ?_)
  · refine wm_aload_n hC 0 dX12_finishes_83 rfl (k_ne0 kk_159 (by decide)) ?_
    refine wm_bipush hC dX12_finishes_84 (k := ?_)
    refine y_callV_v_IJ hC hRm noS ml_X12_409 kk_159 (c12_must hRF  hw) (Nat.le_of_ble_eq_true rfl) (Nat.le_of_ble_eq_true rfl) ⟨Nat.zero_le _, Nat.zero_le _⟩ rfl (st := []) rfl (Nat.le_of_ble_eq_true rfl) dX12_finishes_86 (fun I2 J1 hw => ?_)
    exact wm_return hC hE dX12_finishes_89 ⟨rfl, hw⟩
  · refine wm_iload_n hC 1 dX12_finishes_62 rfl ?_
    refine wm_bipush hC dX12_finishes_63 (k := ?_)
    refine wm_icmp_ne (tgt := 83) hC dX12_finishes_65 (by decide) hw (fun hw => ?_) (fun hw => ?_)
    · refine wm_iload_n hC 2 dX12_finishes_68 rfl ?_
      refine wm_aload_n hC 0 dX12_finishes_69 rfl (k_ne0 kk_159 (by decide)) ?_
      refine x_getI hC 2 fl_X12_17 rfl kk_159 dX12_finishes_70 ?_
      refine wm_icmp_ge (tgt := 83) hC dX12_finishes_73 (by decide) hw (fun hw => ?_) (fun hw => ?_)
      · refine wm_aload_n hC 0 dX12_finishes_83 rfl (k_ne0 kk_159 (by decide)) ?_
        refine wm_bipush hC dX12_finishes_84 (k := ?_)
        refine y_callV_v_IJ hC hRm noS ml_X12_409 kk_159 (c12_must hRF  hw) (Nat.le_of_ble_eq_true rfl) (Nat.le_of_ble_eq_true rfl) ⟨Nat.zero_le _, Nat.zero_le _⟩ rfl (st := []) rfl (Nat.le_of_ble_eq_true rfl) dX12_finishes_86 (fun I4 J3 hw => ?_)
        exact wm_return hC hE dX12_finishes_89 ⟨rfl, hw⟩
      · refine wm_aload_n hC 0 dX12_finishes_76 rfl (k_ne0 kk_159 (by decide)) ?_
        refine wm_bipush hC dX12_finishes_77 (k := ?_)
        refine wm_iload_n hC 2 dX12_finishes_79 rfl ?_
        refine y_callV_v_I hC hRm noS ml_X12_230 kk_159 (c12_blame hRF  hw) (Nat.le_of_ble_eq_true rfl) (Nat.le_of_ble_eq_true rfl) ⟨Nat.zero_le _, Nat.zero_le _⟩ rfl (st := []) rfl (Nat.le_of_ble_eq_true rfl) dX12_finishes_80 (fun I5 hw => ?_)
        refine wm_aload_n hC 0 dX12_finishes_83 rfl (k_ne0 kk_159 (by decide)) ?_
        refine wm_bipush hC dX12_finishes_84 (k := ?_)
        refine y_callV_v_IJ hC hRm noS ml_X12_409 kk_159 (c12_must hRF  hw) (Nat.le_of_ble_eq_true rfl) (Nat.le_of_ble_eq_true rfl) ⟨Nat.zero_le _, Nat.zero_le _⟩ rfl (st := []) rfl (Nat.le_of_ble_eq_true rfl) dX12_finishes_86 (fun I6 J4 hw => ?_)
        exact wm_return hC hE dX12_finishes_89 ⟨rfl, hw⟩
    · refine wm_aload_n hC 0 dX12_finishes_83 rfl (k_ne0 kk_159 (by decide)) ?_
      refine wm_bipush hC dX12_finishes_84 (k := ?_)
      refine y_callV_v_IJ hC hRm noS ml_X12_409 kk_159 (c12_must hRF  hw) (Nat.le_of_ble_eq_true rfl) (Nat.le_of_ble_eq_true rfl) ⟨Nat.zero_le _, Nat.zero_le _⟩ rfl (st := []) rfl (Nat.le_of_ble_eq_true rfl) dX12_finishes_86 (fun I3 J2 hw => ?_)
      exact wm_return hC hE dX12_finishes_89 ⟨rfl, hw⟩
def p12_finishes_b17_body (l1 : Int) (I : mI) (J : mI) (Q : mI → mI → Prop) (k17 : Int → Prop) (l2 : Int) : Prop := (if (I 159 2) ≤ l2 then (p12_finishes_b53 l1 l2 I J Q) else (((0 : Int) ≤ l2 ∧ l2 < (1800 : Int)) ∧ (if (I 160 l2) = 32 then (rg (l2 + 1) ∧ (k17 (l2 + 1))) else (((0 : Int) ≤ l2 ∧ l2 < (1800 : Int)) ∧ (if (I 160 l2) = 10 then (rg (l2 + 1) ∧ (k17 (l2 + 1))) else (p12_finishes_b53 l1 l2 I J Q))))))
def p12_finishes_b17 (l1 : Int) (I : mI) (J : mI) (Q : mI → mI → Prop) : Nat → Int → Prop
  | 0 => fun _ => False
  | f + 1 => fun l2 => p12_finishes_b17_body l1 I J Q (p12_finishes_b17 l1 I J Q f) l2
set_option maxRecDepth 20000 in
theorem w12_finishes_b17_body {C : wX} {ad : Nat → Nat} {n : Nat} {I J : mI} {R : mR} {Q : mI → mI → Prop} (hC : wOK C cX12_finishes 3 RX12) (hRm : wRm C 4 78 0 0) (hE : wEnd C none ad n (fun _ I' J' R' => (R' = R) ∧ Q I' J')) (hRF : RF R) {l1 : Int} {l2 : Int}     {k17 : Int → Prop} (kk17 : ∀ (y2 : Int), k17 y2 → WM C ad n I J R 0 0 17 [(0, vr 159), (1, vi l1), (2, vi y2)] []) (hw : p12_finishes_b17_body l1 I J Q k17 l2) : WM C ad n I J R 0 0 17 [(0, vr 159), (1, vi l1), (2, vi l2)] [] := by
  unfold p12_finishes_b17_body at hw
  refine wm_iload_n hC 2 dX12_finishes_17 rfl ?_
  refine wm_aload_n hC 0 dX12_finishes_18 rfl (k_ne0 kk_159 (by decide)) ?_
  refine x_getI hC 2 fl_X12_17 rfl kk_159 dX12_finishes_19 ?_
  refine wm_icmp_ge (tgt := 53) hC dX12_finishes_22 (by decide) hw (fun hw => ?_) (fun hw => ?_)
  · exact w12_finishes_b53 hC hRm hE hRF  hw
  · refine wm_aload_n hC 0 dX12_finishes_25 rfl (k_ne0 kk_159 (by decide)) ?_
    refine x_getR3 hC 0 fl_X12_7 rfl kk_159 (rf_159_0 hRF) dX12_finishes_26 ?_
    refine wm_iload_n hC 2 dX12_finishes_29 rfl ?_
    refine x_iald2 hC kk_160 kn_160 dX12_finishes_30 hw (fun hw => ?_)
    refine wm_bipush hC dX12_finishes_31 (k := ?_)
    refine wm_icmp_eq (tgt := 47) hC dX12_finishes_33 (by decide) hw (fun hw => ?_) (fun hw => ?_)
    · refine x_iinc hC 2 dX12_finishes_47 rfl (by decide) (L2 := [(2, vi (l2 + 1)), (0, vr 159), (1, vi l1)]) rfl hw (fun hw => ?_)
      refine wm_goto (tgt := 17) hC dX12_finishes_50 (by decide) ?_
      refine wm_sub [1, 2, 0] (L2 := [(0, vr 159), (1, vi l1), (2, vi (l2 + 1))]) rfl ?_
      exact kk17 _ hw
    · refine wm_aload_n hC 0 dX12_finishes_36 rfl (k_ne0 kk_159 (by decide)) ?_
      refine x_getR3 hC 0 fl_X12_7 rfl kk_159 (rf_159_0 hRF) dX12_finishes_37 ?_
      refine wm_iload_n hC 2 dX12_finishes_40 rfl ?_
      refine x_iald2 hC kk_160 kn_160 dX12_finishes_41 hw (fun hw => ?_)
      refine wm_bipush hC dX12_finishes_42 (k := ?_)
      refine wm_icmp_ne (tgt := 53) hC dX12_finishes_44 (by decide) hw (fun hw => ?_) (fun hw => ?_)
      · refine x_iinc hC 2 dX12_finishes_47 rfl (by decide) (L2 := [(2, vi (l2 + 1)), (0, vr 159), (1, vi l1)]) rfl hw (fun hw => ?_)
        refine wm_goto (tgt := 17) hC dX12_finishes_50 (by decide) ?_
        refine wm_sub [1, 2, 0] (L2 := [(0, vr 159), (1, vi l1), (2, vi (l2 + 1))]) rfl ?_
        exact kk17 _ hw
      · exact w12_finishes_b53 hC hRm hE hRF  hw
set_option maxRecDepth 20000 in
theorem w12_finishes_b17 {C : wX} {ad : Nat → Nat} {n : Nat} {I : mI} {J : mI} {R : mR} {Q : mI → mI → Prop} (hC : wOK C cX12_finishes 3 RX12) (hRm : wRm C 4 78 0 0) (hE : wEnd C none ad n (fun _ I' J' R' => (R' = R) ∧ Q I' J')) (hRF : RF R) {l1 : Int}     : ∀ (f : Nat) (l2 : Int), p12_finishes_b17 l1 I J Q f l2 → WM C ad n I J R 0 0 17 [(0, vr 159), (1, vi l1), (2, vi l2)] [] := by
  intro f
  induction f with
  | zero => intro l2 hw; exact hw.elim
  | succ f ih => intro l2 hw; exact w12_finishes_b17_body hC hRm hE hRF  (fun a0 aw => ih a0 aw) hw
def p12_finishes (l1 : Int) (I : mI) (J : mI) (Q : mI → mI → Prop) : Prop := (p12_lex I (fun I1 => (if (I1 159 8) ≤ 0 then (∃ f, p12_finishes_b17 l1 I1 J Q f (I1 159 5)) else (Q I1 J))))
set_option maxRecDepth 20000 in
theorem c12_finishes {ad : Nat → Nat} {n : Nat} {I J : mI} {R : mR} {Q : mI → mI → Prop}  (hRF : RF R) {l1 : Int}   (hw : p12_finishes l1 I J Q) : wMet yX12_finishes cX12_finishes 3 none 4 78 false ad n I J R [vr 159, vi l1] (fun _ I' J' R' => (R' = R) ∧ Q I' J') := by
  refine wMet_of (by decide) (Nat.le_of_ble_eq_true rfl) (fun C hC hRm hE hS => ?_)
  refine (show WM C ad n I J R 0 0 0 [(0, vr 159), (1, vi l1)] [] from ?_)
  unfold p12_finishes at hw
  refine wm_aload_n hC 0 dX12_finishes_0 rfl (k_ne0 kk_159 (by decide)) ?_
  refine y_callV_v_I hC hRm noS ml_X12_241 kk_159 (c12_lex hRF  hw) (Nat.le_of_ble_eq_true rfl) (Nat.le_of_ble_eq_true rfl) ⟨Nat.zero_le _, Nat.zero_le _⟩ rfl (st := []) rfl (Nat.le_of_ble_eq_true rfl) dX12_finishes_1 (fun I1 hw => ?_)
  refine wm_aload_n hC 0 dX12_finishes_4 rfl (k_ne0 kk_159 (by decide)) ?_
  refine x_getI hC 8 fl_X12_36 rfl kk_159 dX12_finishes_5 ?_
  refine wm_if_le (tgt := 12) hC dX12_finishes_8 (by decide) hw (fun hw => ?_) (fun hw => ?_)
  · refine wm_aload_n hC 0 dX12_finishes_12 rfl (k_ne0 kk_159 (by decide)) ?_
    refine x_getI hC 5 fl_X12_26 rfl kk_159 dX12_finishes_13 ?_
    refine wm_istore_n hC dX12_finishes_16 (by decide) (L2 := [(2, vi (I1 159 5)), (0, vr 159), (1, vi l1)]) rfl ?_
    obtain ⟨f, hw⟩ := hw
    refine wm_sub [1, 2, 0] (L2 := [(0, vr 159), (1, vi l1), (2, vi (I1 159 5))]) rfl ?_
    exact w12_finishes_b17 hC hRm hE hRF  f _ hw
  · exact wm_return hC hE dX12_finishes_11 ⟨rfl, hw⟩
def p12_holdsBack (l1 : Int) (I : mI) (Q : mI → Prop) : Prop := (((0 : Int) ≤ (I 159 42) ∧ (I 159 42) < (500 : Int)) ∧ wLet (up I 183 (I 159 42) l1) (fun I1 => (rg ((I1 159 42) + 1) ∧ (wLet (up I1 159 42 ((I1 159 42) + 1)) (fun I2 => (Q I2))))))
set_option maxRecDepth 20000 in
theorem c12_holdsBack {ad : Nat → Nat} {n : Nat} {I J : mI} {R : mR} {Q : mI → Prop}  (hRF : RF R) {l1 : Int}   (hw : p12_holdsBack l1 I Q) : wMet yX12_holdsBack cX12_holdsBack 2 none 1 12 false ad n I J R [vr 159, vi l1] (fun _ I' J' R' => (J' = J ∧ R' = R) ∧ Q I') := by
  refine wMet_of (by decide) (Nat.le_of_ble_eq_true rfl) (fun C hC hRm hE hS => ?_)
  refine (show WM C ad n I J R 0 0 0 [(0, vr 159), (1, vi l1)] [] from ?_)
  unfold p12_holdsBack at hw
  refine wm_aload_n hC 0 dX12_holdsBack_0 rfl (k_ne0 kk_159 (by decide)) ?_
  refine x_getR3 hC 41 fl_X12_137 rfl kk_159 (rf_159_41 hRF) dX12_holdsBack_1 ?_
  refine wm_aload_n hC 0 dX12_holdsBack_4 rfl (k_ne0 kk_159 (by decide)) ?_
  refine x_getI hC 42 fl_X12_140 rfl kk_159 dX12_holdsBack_5 ?_
  refine wm_iload_n hC 1 dX12_holdsBack_8 rfl ?_
  refine x_iast2 hC kk_183 kn_183 dX12_holdsBack_9 hw (fun I1 hw => ?_)
  refine wm_aload_n hC 0 dX12_holdsBack_10 rfl (k_ne0 kk_159 (by decide)) ?_
  refine wm_dup hC dX12_holdsBack_11 (k := ?_)
  refine x_getI hC 42 fl_X12_140 rfl kk_159 dX12_holdsBack_12 ?_
  refine wm_iconst hC dX12_holdsBack_15 (k := ?_)
  refine x_iadd hC dX12_holdsBack_16 hw (fun hw => ?_)
  refine x_putI hC 42 fl_X12_140 rfl kk_159 dX12_holdsBack_17 hw (fun I2 hw => ?_)
  exact wm_return hC hE dX12_holdsBack_20 ⟨⟨rfl, rfl⟩, hw⟩
def p12_isTest (l0 : Int) (Q : Int → Prop) : Prop := (if l0 = 1 then (Q 1) else (if l0 = 5 then (Q 1) else (if l0 = 6 then (Q 1) else (Q 0))))
set_option maxRecDepth 20000 in
theorem c12_isTest {ad : Nat → Nat} {n : Nat} {I J : mI} {R : mR} {Q : Int → Prop}  (hRF : RF R) {l0 : Int}  (hw : p12_isTest l0 Q) : wMet yX12_isTest cX12_isTest 1 (some .boolean) 1 12 false ad n I J R [vi l0] (fun r I' J' R' => (I' = I ∧ J' = J ∧ R' = R) ∧ Q r) := by
  refine wMet_of (by decide) (Nat.le_of_ble_eq_true rfl) (fun C hC hRm hE hS => ?_)
  refine (show WM C ad n I J R 0 0 0 [(0, vi l0)] [] from ?_)
  unfold p12_isTest at hw
  refine wm_iload_n hC 0 dX12_isTest_0 rfl ?_
  refine wm_iconst hC dX12_isTest_1 (k := ?_)
  refine wm_icmp_eq (tgt := 16) hC dX12_isTest_2 (by decide) hw (fun hw => ?_) (fun hw => ?_)
  · refine wm_iconst hC dX12_isTest_16 (k := ?_)
    refine wm_goto (tgt := 21) hC dX12_isTest_17 (by decide) ?_
    exact wm_zreturn hC hE (Or.inr rfl) dX12_isTest_21 ⟨⟨rfl, rfl, rfl⟩, hw⟩
  · refine wm_iload_n hC 0 dX12_isTest_5 rfl ?_
    refine wm_iconst hC dX12_isTest_6 (k := ?_)
    refine wm_icmp_eq (tgt := 16) hC dX12_isTest_7 (by decide) hw (fun hw => ?_) (fun hw => ?_)
    · refine wm_iconst hC dX12_isTest_16 (k := ?_)
      refine wm_goto (tgt := 21) hC dX12_isTest_17 (by decide) ?_
      exact wm_zreturn hC hE (Or.inr rfl) dX12_isTest_21 ⟨⟨rfl, rfl, rfl⟩, hw⟩
    · refine wm_iload_n hC 0 dX12_isTest_10 rfl ?_
      refine wm_bipush hC dX12_isTest_11 (k := ?_)
      refine wm_icmp_ne (tgt := 20) hC dX12_isTest_13 (by decide) hw (fun hw => ?_) (fun hw => ?_)
      · refine wm_iconst hC dX12_isTest_16 (k := ?_)
        refine wm_goto (tgt := 21) hC dX12_isTest_17 (by decide) ?_
        exact wm_zreturn hC hE (Or.inr rfl) dX12_isTest_21 ⟨⟨rfl, rfl, rfl⟩, hw⟩
      · refine wm_iconst hC dX12_isTest_20 (k := ?_)
        exact wm_zreturn hC hE (Or.inl rfl) dX12_isTest_21 ⟨⟨rfl, rfl, rfl⟩, hw⟩
def p12_rank (l0 : Int) (Q : Int → Prop) : Prop := (if l0 = 42 then (Q 1) else (if l0 = 41 then (Q 2) else (if l0 = 43 then (Q 3) else (if l0 = 38 then (Q 4) else (if l0 = 39 then (Q 4) else (if l0 = 40 then (Q 4) else (if l0 = 31 then (Q 5) else (if l0 = 32 then (Q 5) else (Q 6)))))))))
set_option maxRecDepth 20000 in
theorem c12_rank {ad : Nat → Nat} {n : Nat} {I J : mI} {R : mR} {Q : Int → Prop}  (hRF : RF R) {l0 : Int}  (hw : p12_rank l0 Q) : wMet yX12_rank cX12_rank 1 (some .int) 1 12 false ad n I J R [vi l0] (fun r I' J' R' => (I' = I ∧ J' = J ∧ R' = R) ∧ Q r) := by
  refine wMet_of (by decide) (Nat.le_of_ble_eq_true rfl) (fun C hC hRm hE hS => ?_)
  refine (show WM C ad n I J R 0 0 0 [(0, vi l0)] [] from ?_)
  unfold p12_rank at hw
  refine wm_iload_n hC 0 dX12_rank_0 rfl ?_
  refine wm_bipush hC dX12_rank_1 (k := ?_)
  refine wm_icmp_ne (tgt := 10) hC dX12_rank_3 (by decide) hw (fun hw => ?_) (fun hw => ?_)
  · refine wm_iconst hC dX12_rank_6 (k := ?_)
    refine wm_goto (tgt := 70) hC dX12_rank_7 (by decide) ?_
    exact wm_ireturn hC hE dX12_rank_70 ⟨⟨rfl, rfl, rfl⟩, hw⟩
  · refine wm_iload_n hC 0 dX12_rank_10 rfl ?_
    refine wm_bipush hC dX12_rank_11 (k := ?_)
    refine wm_icmp_ne (tgt := 20) hC dX12_rank_13 (by decide) hw (fun hw => ?_) (fun hw => ?_)
    · refine wm_iconst hC dX12_rank_16 (k := ?_)
      refine wm_goto (tgt := 70) hC dX12_rank_17 (by decide) ?_
      exact wm_ireturn hC hE dX12_rank_70 ⟨⟨rfl, rfl, rfl⟩, hw⟩
    · refine wm_iload_n hC 0 dX12_rank_20 rfl ?_
      refine wm_bipush hC dX12_rank_21 (k := ?_)
      refine wm_icmp_ne (tgt := 30) hC dX12_rank_23 (by decide) hw (fun hw => ?_) (fun hw => ?_)
      · refine wm_iconst hC dX12_rank_26 (k := ?_)
        refine wm_goto (tgt := 70) hC dX12_rank_27 (by decide) ?_
        exact wm_ireturn hC hE dX12_rank_70 ⟨⟨rfl, rfl, rfl⟩, hw⟩
      · refine wm_iload_n hC 0 dX12_rank_30 rfl ?_
        refine wm_bipush hC dX12_rank_31 (k := ?_)
        refine wm_icmp_eq (tgt := 48) hC dX12_rank_33 (by decide) hw (fun hw => ?_) (fun hw => ?_)
        · refine wm_iconst hC dX12_rank_48 (k := ?_)
          refine wm_goto (tgt := 70) hC dX12_rank_49 (by decide) ?_
          exact wm_ireturn hC hE dX12_rank_70 ⟨⟨rfl, rfl, rfl⟩, hw⟩
        · refine wm_iload_n hC 0 dX12_rank_36 rfl ?_
          refine wm_bipush hC dX12_rank_37 (k := ?_)
          refine wm_icmp_eq (tgt := 48) hC dX12_rank_39 (by decide) hw (fun hw => ?_) (fun hw => ?_)
          · refine wm_iconst hC dX12_rank_48 (k := ?_)
            refine wm_goto (tgt := 70) hC dX12_rank_49 (by decide) ?_
            exact wm_ireturn hC hE dX12_rank_70 ⟨⟨rfl, rfl, rfl⟩, hw⟩
          · refine wm_iload_n hC 0 dX12_rank_42 rfl ?_
            refine wm_bipush hC dX12_rank_43 (k := ?_)
            refine wm_icmp_ne (tgt := 52) hC dX12_rank_45 (by decide) hw (fun hw => ?_) (fun hw => ?_)
            · refine wm_iconst hC dX12_rank_48 (k := ?_)
              refine wm_goto (tgt := 70) hC dX12_rank_49 (by decide) ?_
              exact wm_ireturn hC hE dX12_rank_70 ⟨⟨rfl, rfl, rfl⟩, hw⟩
            · refine wm_iload_n hC 0 dX12_rank_52 rfl ?_
              refine wm_bipush hC dX12_rank_53 (k := ?_)
              refine wm_icmp_eq (tgt := 64) hC dX12_rank_55 (by decide) hw (fun hw => ?_) (fun hw => ?_)
              · refine wm_iconst hC dX12_rank_64 (k := ?_)
                refine wm_goto (tgt := 70) hC dX12_rank_65 (by decide) ?_
                exact wm_ireturn hC hE dX12_rank_70 ⟨⟨rfl, rfl, rfl⟩, hw⟩
              · refine wm_iload_n hC 0 dX12_rank_58 rfl ?_
                refine wm_bipush hC dX12_rank_59 (k := ?_)
                refine wm_icmp_ne (tgt := 68) hC dX12_rank_61 (by decide) hw (fun hw => ?_) (fun hw => ?_)
                · refine wm_iconst hC dX12_rank_64 (k := ?_)
                  refine wm_goto (tgt := 70) hC dX12_rank_65 (by decide) ?_
                  exact wm_ireturn hC hE dX12_rank_70 ⟨⟨rfl, rfl, rfl⟩, hw⟩
                · refine wm_bipush hC dX12_rank_68 (k := ?_)
                  exact wm_ireturn hC hE dX12_rank_70 ⟨⟨rfl, rfl, rfl⟩, hw⟩
def p12_joins_b0_body (l1 : Int) (Q : mI → Prop) (k0 : mI → Prop) (I : mI) : Prop := (rg ((I 159 39) - 1) ∧ (((0 : Int) ≤ ((I 159 39) - 1) ∧ ((I 159 39) - 1) < (20 : Int)) ∧ (if (I 159 42) ≤ (I 182 ((I 159 39) - 1)) then (Q I) else (rg ((I 159 42) - 1) ∧ (((0 : Int) ≤ ((I 159 42) - 1) ∧ ((I 159 42) - 1) < (500 : Int)) ∧ (p12_rank (I 183 ((I 159 42) - 1)) (fun r1 => (if r1 < l1 then (Q I) else (rg ((I 159 42) - 1) ∧ (wLet (up I 159 42 ((I 159 42) - 1)) (fun I1 => (((0 : Int) ≤ (I1 159 42) ∧ (I1 159 42) < (500 : Int)) ∧ (p12_add (I1 183 (I1 159 42)) 0 I1 (fun I2 => (((0 : Int) ≤ (I2 159 42) ∧ (I2 159 42) < (500 : Int)) ∧ (if (I2 183 (I2 159 42)) = 43 then (rg ((I2 159 40) - 1) ∧ (wLet (up I2 159 40 ((I2 159 40) - 1)) (fun I3 => (k0 I3)))) else (k0 I2)))))))))))))))))
def p12_joins_b0 (l1 : Int) (Q : mI → Prop) : Nat → mI → Prop
  | 0 => fun _ => False
  | f + 1 => fun I => p12_joins_b0_body l1 Q (p12_joins_b0 l1 Q f) I
set_option maxRecDepth 20000 in
theorem w12_joins_b0_body {C : wX} {ad : Nat → Nat} {n : Nat} {I J : mI} {R : mR} {Q : mI → Prop} (hC : wOK C cX12_joins 2 RX12) (hRm : wRm C 2 34 0 0) (hE : wEnd C none ad n (fun _ I' J' R' => (J' = J ∧ R' = R) ∧ Q I')) (hRF : RF R) {l1 : Int}      {k0 : mI → Prop} (kk0 : ∀ (I' : mI), k0 I' → WM C ad n I' J R 0 0 0 [(0, vr 159), (1, vi l1)] []) (hw : p12_joins_b0_body l1 Q k0 I) : WM C ad n I J R 0 0 0 [(0, vr 159), (1, vi l1)] [] := by
  unfold p12_joins_b0_body at hw
  refine wm_aload_n hC 0 dX12_joins_0 rfl (k_ne0 kk_159 (by decide)) ?_
  refine x_getI hC 42 fl_X12_140 rfl kk_159 dX12_joins_1 ?_
  refine wm_aload_n hC 0 dX12_joins_4 rfl (k_ne0 kk_159 (by decide)) ?_
  refine x_getR3 hC 38 fl_X12_128 rfl kk_159 (rf_159_38 hRF) dX12_joins_5 ?_
  refine wm_aload_n hC 0 dX12_joins_8 rfl (k_ne0 kk_159 (by decide)) ?_
  refine x_getI hC 39 fl_X12_131 rfl kk_159 dX12_joins_9 ?_
  refine wm_iconst hC dX12_joins_12 (k := ?_)
  refine x_isub hC dX12_joins_13 hw (fun hw => ?_)
  refine x_iald2 hC kk_182 kn_182 dX12_joins_14 hw (fun hw => ?_)
  refine wm_icmp_le (tgt := 87) hC dX12_joins_15 (by decide) hw (fun hw => ?_) (fun hw => ?_)
  · exact wm_return hC hE dX12_joins_87 ⟨⟨rfl, rfl⟩, hw⟩
  · refine wm_aload_n hC 0 dX12_joins_18 rfl (k_ne0 kk_159 (by decide)) ?_
    refine x_getR3 hC 41 fl_X12_137 rfl kk_159 (rf_159_41 hRF) dX12_joins_19 ?_
    refine wm_aload_n hC 0 dX12_joins_22 rfl (k_ne0 kk_159 (by decide)) ?_
    refine x_getI hC 42 fl_X12_140 rfl kk_159 dX12_joins_23 ?_
    refine wm_iconst hC dX12_joins_26 (k := ?_)
    refine x_isub hC dX12_joins_27 hw (fun hw => ?_)
    refine x_iald2 hC kk_183 kn_183 dX12_joins_28 hw (fun hw => ?_)
    refine y_callS_i_n hC hRm noS ml_X12_313 (c12_rank hRF  hw) (Nat.le_of_ble_eq_true rfl) (Nat.le_of_ble_eq_true rfl) ⟨Nat.zero_le _, Nat.zero_le _⟩ rfl (st := []) rfl (Nat.le_of_ble_eq_true rfl) dX12_joins_29 (fun r1 hw => ?_)
    refine wm_iload_n hC 1 dX12_joins_32 rfl ?_
    refine wm_icmp_lt (tgt := 87) hC dX12_joins_33 (by decide) hw (fun hw => ?_) (fun hw => ?_)
    · exact wm_return hC hE dX12_joins_87 ⟨⟨rfl, rfl⟩, hw⟩
    · refine wm_aload_n hC 0 dX12_joins_36 rfl (k_ne0 kk_159 (by decide)) ?_
      refine wm_dup hC dX12_joins_37 (k := ?_)
      refine x_getI hC 42 fl_X12_140 rfl kk_159 dX12_joins_38 ?_
      refine wm_iconst hC dX12_joins_41 (k := ?_)
      refine x_isub hC dX12_joins_42 hw (fun hw => ?_)
      refine x_putI hC 42 fl_X12_140 rfl kk_159 dX12_joins_43 hw (fun I1 hw => ?_)
      refine wm_aload_n hC 0 dX12_joins_46 rfl (k_ne0 kk_159 (by decide)) ?_
      refine wm_aload_n hC 0 dX12_joins_47 rfl (k_ne0 kk_159 (by decide)) ?_
      refine x_getR3 hC 41 fl_X12_137 rfl kk_159 (rf_159_41 hRF) dX12_joins_48 ?_
      refine wm_aload_n hC 0 dX12_joins_51 rfl (k_ne0 kk_159 (by decide)) ?_
      refine x_getI hC 42 fl_X12_140 rfl kk_159 dX12_joins_52 ?_
      refine x_iald2 hC kk_183 kn_183 dX12_joins_55 hw (fun hw => ?_)
      refine wm_iconst hC dX12_joins_56 (k := ?_)
      refine y_callV_v_I hC hRm noS ml_X12_316 kk_159 (c12_add hRF  hw) (Nat.le_of_ble_eq_true rfl) (Nat.le_of_ble_eq_true rfl) ⟨Nat.zero_le _, Nat.zero_le _⟩ rfl (st := []) rfl (Nat.le_of_ble_eq_true rfl) dX12_joins_57 (fun I2 hw => ?_)
      refine wm_aload_n hC 0 dX12_joins_60 rfl (k_ne0 kk_159 (by decide)) ?_
      refine x_getR3 hC 41 fl_X12_137 rfl kk_159 (rf_159_41 hRF) dX12_joins_61 ?_
      refine wm_aload_n hC 0 dX12_joins_64 rfl (k_ne0 kk_159 (by decide)) ?_
      refine x_getI hC 42 fl_X12_140 rfl kk_159 dX12_joins_65 ?_
      refine x_iald2 hC kk_183 kn_183 dX12_joins_68 hw (fun hw => ?_)
      refine wm_bipush hC dX12_joins_69 (k := ?_)
      refine wm_icmp_ne (tgt := 0) hC dX12_joins_71 (by decide) hw (fun hw => ?_) (fun hw => ?_)
      · refine wm_aload_n hC 0 dX12_joins_74 rfl (k_ne0 kk_159 (by decide)) ?_
        refine wm_dup hC dX12_joins_75 (k := ?_)
        refine x_getI hC 40 fl_X12_134 rfl kk_159 dX12_joins_76 ?_
        refine wm_iconst hC dX12_joins_79 (k := ?_)
        refine x_isub hC dX12_joins_80 hw (fun hw => ?_)
        refine x_putI hC 40 fl_X12_134 rfl kk_159 dX12_joins_81 hw (fun I3 hw => ?_)
        refine wm_goto (tgt := 0) hC dX12_joins_84 (by decide) ?_
        exact kk0 _ hw
      · exact kk0 _ hw
set_option maxRecDepth 20000 in
theorem w12_joins_b0 {C : wX} {ad : Nat → Nat} {n : Nat} {J : mI} {R : mR} {Q : mI → Prop} (hC : wOK C cX12_joins 2 RX12) (hRm : wRm C 2 34 0 0) (hE : wEnd C none ad n (fun _ I' J' R' => (J' = J ∧ R' = R) ∧ Q I')) (hRF : RF R) {l1 : Int}     : ∀ (f : Nat) (I : mI), p12_joins_b0 l1 Q f I → WM C ad n I J R 0 0 0 [(0, vr 159), (1, vi l1)] [] := by
  intro f
  induction f with
  | zero => intro I hw; exact hw.elim
  | succ f ih => intro I hw; exact w12_joins_b0_body hC hRm hE hRF  (fun a0 aw => ih a0 aw) hw
def p12_joins (l1 : Int) (I : mI) (Q : mI → Prop) : Prop := (∃ f, p12_joins_b0 l1 Q f I)
set_option maxRecDepth 20000 in
theorem c12_joins {ad : Nat → Nat} {n : Nat} {I J : mI} {R : mR} {Q : mI → Prop}  (hRF : RF R) {l1 : Int}   (hw : p12_joins l1 I Q) : wMet yX12_joins cX12_joins 2 none 2 34 false ad n I J R [vr 159, vi l1] (fun _ I' J' R' => (J' = J ∧ R' = R) ∧ Q I') := by
  refine wMet_of (by decide) (Nat.le_of_ble_eq_true rfl) (fun C hC hRm hE hS => ?_)
  refine (show WM C ad n I J R 0 0 0 [(0, vr 159), (1, vi l1)] [] from ?_)
  unfold p12_joins at hw
  obtain ⟨f, hw⟩ := hw
  exact w12_joins_b0 hC hRm hE hRF  f _ hw
def p12_goesOn_b174 (s1 : Int) (I : mI) (J : mI) (Q : Int → mI → mI → Prop) : Prop := (p12_holdsBack s1 I (fun I3 => (p12_ahead I3 J (fun I4 J1 => (wLet (up I4 159 43 0) (fun I5 => (Q 1 I5 J1)))))))
set_option maxRecDepth 20000 in
theorem w12_goesOn_b174 {C : wX} {ad : Nat → Nat} {n : Nat} {I J : mI} {R : mR} {Q : Int → mI → mI → Prop} (hC : wOK C cX12_goesOn 5 RX12) (hRm : wRm C 3 57 0 0) (hE : wEnd C (some .boolean) ad n (fun r I' J' R' => (R' = R) ∧ Q r I' J')) (hRF : RF R) {s1 : Int}     (hw : p12_goesOn_b174 s1 I J Q) : WM C ad n I J R 0 0 174 [(0, vr 159)] [vi s1, vr 159] := by
  unfold p12_goesOn_b174 at hw
  refine y_callV_v_I hC hRm noS ml_X12_329 kk_159 (c12_holdsBack hRF  hw) (Nat.le_of_ble_eq_true rfl) (Nat.le_of_ble_eq_true rfl) ⟨Nat.zero_le _, Nat.zero_le _⟩ rfl (st := []) rfl (Nat.le_of_ble_eq_true rfl) dX12_goesOn_174 (fun I3 hw => ?_)
  refine wm_aload_n hC 0 dX12_goesOn_177 rfl (k_ne0 kk_159 (by decide)) ?_
  refine y_callV_v_IJ hC hRm noS ml_X12_247 kk_159 (c12_ahead hRF  hw) (Nat.le_of_ble_eq_true rfl) (Nat.le_of_ble_eq_true rfl) ⟨Nat.zero_le _, Nat.zero_le _⟩ rfl (st := []) rfl (Nat.le_of_ble_eq_true rfl) dX12_goesOn_178 (fun I4 J1 hw => ?_)
  refine wm_aload_n hC 0 dX12_goesOn_181 rfl (k_ne0 kk_159 (by decide)) ?_
  refine wm_iconst hC dX12_goesOn_182 (k := ?_)
  refine x_putZ hC 43 fl_X12_143 rfl kk_159 (Or.inl rfl) dX12_goesOn_183 hw (fun I5 hw => ?_)
  refine wm_iconst hC dX12_goesOn_186 (k := ?_)
  exact wm_zreturn hC hE (Or.inr rfl) dX12_goesOn_187 ⟨rfl, hw⟩
def p12_goesOn_b112 (s1 : Int) (I : mI) (J : mI) (Q : Int → mI → mI → Prop) : Prop := (p12_joins s1 I (fun I2 => (p12_isSign 43 I2 (fun r9 => (if r9 = 0 then (p12_isSign 45 I2 (fun r10 => (if r10 = 0 then (p12_isSign 42 I2 (fun r11 => (if r11 = 0 then (p12_isSign 47 I2 (fun r12 => (if r12 = 0 then (p12_goesOn_b174 35 I2 J Q) else (p12_goesOn_b174 34 I2 J Q)))) else (p12_goesOn_b174 33 I2 J Q)))) else (p12_goesOn_b174 32 I2 J Q)))) else (p12_goesOn_b174 31 I2 J Q))))))
set_option maxRecDepth 20000 in
theorem w12_goesOn_b112 {C : wX} {ad : Nat → Nat} {n : Nat} {I J : mI} {R : mR} {Q : Int → mI → mI → Prop} (hC : wOK C cX12_goesOn 5 RX12) (hRm : wRm C 3 57 0 0) (hE : wEnd C (some .boolean) ad n (fun r I' J' R' => (R' = R) ∧ Q r I' J')) (hRF : RF R) {s1 : Int}     (hw : p12_goesOn_b112 s1 I J Q) : WM C ad n I J R 0 0 112 [(0, vr 159)] [vi s1, vr 159] := by
  unfold p12_goesOn_b112 at hw
  refine y_callV_v_I hC hRm noS ml_X12_335 kk_159 (c12_joins hRF  hw) (Nat.le_of_ble_eq_true rfl) (Nat.le_of_ble_eq_true rfl) ⟨Nat.zero_le _, Nat.zero_le _⟩ rfl (st := []) rfl (Nat.le_of_ble_eq_true rfl) dX12_goesOn_112 (fun I2 hw => ?_)
  refine wm_aload_n hC 0 dX12_goesOn_115 rfl (k_ne0 kk_159 (by decide)) ?_
  refine wm_aload_n hC 0 dX12_goesOn_116 rfl (k_ne0 kk_159 (by decide)) ?_
  refine wm_bipush hC dX12_goesOn_117 (k := ?_)
  refine y_callV_z_n hC hRm noS ml_X12_244 kk_159 (c12_isSign hRF  hw) (Nat.le_of_ble_eq_true rfl) (Nat.le_of_ble_eq_true rfl) ⟨Nat.zero_le _, Nat.zero_le _⟩ rfl (st := [vr 159]) rfl (Nat.le_of_ble_eq_true rfl) dX12_goesOn_119 (fun r9 hw => ?_)
  refine wm_if_eq (tgt := 130) hC dX12_goesOn_122 (by decide) hw (fun hw => ?_) (fun hw => ?_)
  · refine wm_aload_n hC 0 dX12_goesOn_130 rfl (k_ne0 kk_159 (by decide)) ?_
    refine wm_bipush hC dX12_goesOn_131 (k := ?_)
    refine y_callV_z_n hC hRm noS ml_X12_244 kk_159 (c12_isSign hRF  hw) (Nat.le_of_ble_eq_true rfl) (Nat.le_of_ble_eq_true rfl) ⟨Nat.zero_le _, Nat.zero_le _⟩ rfl (st := [vr 159]) rfl (Nat.le_of_ble_eq_true rfl) dX12_goesOn_133 (fun r10 hw => ?_)
    refine wm_if_eq (tgt := 144) hC dX12_goesOn_136 (by decide) hw (fun hw => ?_) (fun hw => ?_)
    · refine wm_aload_n hC 0 dX12_goesOn_144 rfl (k_ne0 kk_159 (by decide)) ?_
      refine wm_bipush hC dX12_goesOn_145 (k := ?_)
      refine y_callV_z_n hC hRm noS ml_X12_244 kk_159 (c12_isSign hRF  hw) (Nat.le_of_ble_eq_true rfl) (Nat.le_of_ble_eq_true rfl) ⟨Nat.zero_le _, Nat.zero_le _⟩ rfl (st := [vr 159]) rfl (Nat.le_of_ble_eq_true rfl) dX12_goesOn_147 (fun r11 hw => ?_)
      refine wm_if_eq (tgt := 158) hC dX12_goesOn_150 (by decide) hw (fun hw => ?_) (fun hw => ?_)
      · refine wm_aload_n hC 0 dX12_goesOn_158 rfl (k_ne0 kk_159 (by decide)) ?_
        refine wm_bipush hC dX12_goesOn_159 (k := ?_)
        refine y_callV_z_n hC hRm noS ml_X12_244 kk_159 (c12_isSign hRF  hw) (Nat.le_of_ble_eq_true rfl) (Nat.le_of_ble_eq_true rfl) ⟨Nat.zero_le _, Nat.zero_le _⟩ rfl (st := [vr 159]) rfl (Nat.le_of_ble_eq_true rfl) dX12_goesOn_161 (fun r12 hw => ?_)
        refine wm_if_eq (tgt := 172) hC dX12_goesOn_164 (by decide) hw (fun hw => ?_) (fun hw => ?_)
        · refine wm_bipush hC dX12_goesOn_172 (k := ?_)
          exact w12_goesOn_b174 hC hRm hE hRF  hw
        · refine wm_bipush hC dX12_goesOn_167 (k := ?_)
          refine wm_goto (tgt := 174) hC dX12_goesOn_169 (by decide) ?_
          exact w12_goesOn_b174 hC hRm hE hRF  hw
      · refine wm_bipush hC dX12_goesOn_153 (k := ?_)
        refine wm_goto (tgt := 174) hC dX12_goesOn_155 (by decide) ?_
        exact w12_goesOn_b174 hC hRm hE hRF  hw
    · refine wm_bipush hC dX12_goesOn_139 (k := ?_)
      refine wm_goto (tgt := 174) hC dX12_goesOn_141 (by decide) ?_
      exact w12_goesOn_b174 hC hRm hE hRF  hw
  · refine wm_bipush hC dX12_goesOn_125 (k := ?_)
    refine wm_goto (tgt := 174) hC dX12_goesOn_127 (by decide) ?_
    exact w12_goesOn_b174 hC hRm hE hRF  hw
def p12_goesOn_b106 (I : mI) (J : mI) (Q : Int → mI → mI → Prop) : Prop := (p12_goesOn_b112 5 I J Q)
set_option maxRecDepth 20000 in
theorem w12_goesOn_b106 {C : wX} {ad : Nat → Nat} {n : Nat} {I J : mI} {R : mR} {Q : Int → mI → mI → Prop} (hC : wOK C cX12_goesOn 5 RX12) (hRm : wRm C 3 57 0 0) (hE : wEnd C (some .boolean) ad n (fun r I' J' R' => (R' = R) ∧ Q r I' J')) (hRF : RF R)      (hw : p12_goesOn_b106 I J Q) : WM C ad n I J R 0 0 106 [(0, vr 159)] [vr 159] := by
  unfold p12_goesOn_b106 at hw
  refine wm_iconst hC dX12_goesOn_106 (k := ?_)
  refine wm_goto (tgt := 112) hC dX12_goesOn_107 (by decide) ?_
  exact w12_goesOn_b112 hC hRm hE hRF  hw
def p12_goesOn_b87 (I : mI) (J : mI) (Q : Int → mI → mI → Prop) : Prop := (p12_isSign 43 I (fun r7 => (if r7 = 0 then (p12_isSign 45 I (fun r8 => (if r8 = 0 then (p12_goesOn_b112 6 I J Q) else (p12_goesOn_b106 I J Q)))) else (p12_goesOn_b106 I J Q))))
set_option maxRecDepth 20000 in
theorem w12_goesOn_b87 {C : wX} {ad : Nat → Nat} {n : Nat} {I J : mI} {R : mR} {Q : Int → mI → mI → Prop} (hC : wOK C cX12_goesOn 5 RX12) (hRm : wRm C 3 57 0 0) (hE : wEnd C (some .boolean) ad n (fun r I' J' R' => (R' = R) ∧ Q r I' J')) (hRF : RF R)      (hw : p12_goesOn_b87 I J Q) : WM C ad n I J R 0 0 87 [(0, vr 159)] [] := by
  unfold p12_goesOn_b87 at hw
  refine wm_aload_n hC 0 dX12_goesOn_87 rfl (k_ne0 kk_159 (by decide)) ?_
  refine wm_aload_n hC 0 dX12_goesOn_88 rfl (k_ne0 kk_159 (by decide)) ?_
  refine wm_bipush hC dX12_goesOn_89 (k := ?_)
  refine y_callV_z_n hC hRm noS ml_X12_244 kk_159 (c12_isSign hRF  hw) (Nat.le_of_ble_eq_true rfl) (Nat.le_of_ble_eq_true rfl) ⟨Nat.zero_le _, Nat.zero_le _⟩ rfl (st := [vr 159]) rfl (Nat.le_of_ble_eq_true rfl) dX12_goesOn_91 (fun r7 hw => ?_)
  refine wm_if_ne (tgt := 106) hC dX12_goesOn_94 (by decide) hw (fun hw => ?_) (fun hw => ?_)
  · refine wm_aload_n hC 0 dX12_goesOn_97 rfl (k_ne0 kk_159 (by decide)) ?_
    refine wm_bipush hC dX12_goesOn_98 (k := ?_)
    refine y_callV_z_n hC hRm noS ml_X12_244 kk_159 (c12_isSign hRF  hw) (Nat.le_of_ble_eq_true rfl) (Nat.le_of_ble_eq_true rfl) ⟨Nat.zero_le _, Nat.zero_le _⟩ rfl (st := [vr 159]) rfl (Nat.le_of_ble_eq_true rfl) dX12_goesOn_100 (fun r8 hw => ?_)
    refine wm_if_eq (tgt := 110) hC dX12_goesOn_103 (by decide) hw (fun hw => ?_) (fun hw => ?_)
    · refine wm_bipush hC dX12_goesOn_110 (k := ?_)
      exact w12_goesOn_b112 hC hRm hE hRF  hw
    · exact w12_goesOn_b106 hC hRm hE hRF  hw
  · exact w12_goesOn_b106 hC hRm hE hRF  hw
def p12_goesOn_b264 (l1 : Int) (s1 : Int) (I : mI) (J : mI) (Q : Int → mI → mI → Prop) : Prop := (p12_holdsBack s1 I (fun I7 => (((0 : Int) ≤ l1 ∧ l1 < (20 : Int)) ∧ wLet (up I7 179 l1 1) (fun I8 => (p12_ahead I8 J (fun I9 J2 => (wLet (up I9 159 43 0) (fun I10 => (Q 1 I10 J2)))))))))
set_option maxRecDepth 20000 in
theorem w12_goesOn_b264 {C : wX} {ad : Nat → Nat} {n : Nat} {I J : mI} {R : mR} {Q : Int → mI → mI → Prop} (hC : wOK C cX12_goesOn 5 RX12) (hRm : wRm C 3 57 0 0) (hE : wEnd C (some .boolean) ad n (fun r I' J' R' => (R' = R) ∧ Q r I' J')) (hRF : RF R) {l1 : Int} {s1 : Int}     (hw : p12_goesOn_b264 l1 s1 I J Q) : WM C ad n I J R 0 0 264 [(0, vr 159), (1, vi l1)] [vi s1, vr 159] := by
  unfold p12_goesOn_b264 at hw
  refine y_callV_v_I hC hRm noS ml_X12_329 kk_159 (c12_holdsBack hRF  hw) (Nat.le_of_ble_eq_true rfl) (Nat.le_of_ble_eq_true rfl) ⟨Nat.zero_le _, Nat.zero_le _⟩ rfl (st := []) rfl (Nat.le_of_ble_eq_true rfl) dX12_goesOn_264 (fun I7 hw => ?_)
  refine wm_aload_n hC 0 dX12_goesOn_267 rfl (k_ne0 kk_159 (by decide)) ?_
  refine x_getR3 hC 35 fl_X12_118 rfl kk_159 (rf_159_35 hRF) dX12_goesOn_268 ?_
  refine wm_iload_n hC 1 dX12_goesOn_271 rfl ?_
  refine wm_iconst hC dX12_goesOn_272 (k := ?_)
  refine x_iast2 hC kk_179 kn_179 dX12_goesOn_273 hw (fun I8 hw => ?_)
  refine wm_aload_n hC 0 dX12_goesOn_274 rfl (k_ne0 kk_159 (by decide)) ?_
  refine y_callV_v_IJ hC hRm noS ml_X12_247 kk_159 (c12_ahead hRF  hw) (Nat.le_of_ble_eq_true rfl) (Nat.le_of_ble_eq_true rfl) ⟨Nat.zero_le _, Nat.zero_le _⟩ rfl (st := []) rfl (Nat.le_of_ble_eq_true rfl) dX12_goesOn_275 (fun I9 J2 hw => ?_)
  refine wm_aload_n hC 0 dX12_goesOn_278 rfl (k_ne0 kk_159 (by decide)) ?_
  refine wm_iconst hC dX12_goesOn_279 (k := ?_)
  refine x_putZ hC 43 fl_X12_143 rfl kk_159 (Or.inl rfl) dX12_goesOn_280 hw (fun I10 hw => ?_)
  refine wm_iconst hC dX12_goesOn_283 (k := ?_)
  exact wm_zreturn hC hE (Or.inr rfl) dX12_goesOn_284 ⟨rfl, hw⟩
def p12_goesOn_b228 (l1 : Int) (I : mI) (J : mI) (Q : Int → mI → mI → Prop) : Prop := (p12_joins 5 I (fun I6 => (p12_isSign 60 I6 (fun r16 => (if r16 = 0 then (p12_isSign 62 I6 (fun r17 => (if r17 = 0 then (p12_goesOn_b264 l1 40 I6 J Q) else (p12_goesOn_b264 l1 39 I6 J Q)))) else (p12_goesOn_b264 l1 38 I6 J Q))))))
set_option maxRecDepth 20000 in
theorem w12_goesOn_b228 {C : wX} {ad : Nat → Nat} {n : Nat} {I J : mI} {R : mR} {Q : Int → mI → mI → Prop} (hC : wOK C cX12_goesOn 5 RX12) (hRm : wRm C 3 57 0 0) (hE : wEnd C (some .boolean) ad n (fun r I' J' R' => (R' = R) ∧ Q r I' J')) (hRF : RF R) {l1 : Int}     (hw : p12_goesOn_b228 l1 I J Q) : WM C ad n I J R 0 0 228 [(0, vr 159), (1, vi l1)] [] := by
  unfold p12_goesOn_b228 at hw
  refine wm_aload_n hC 0 dX12_goesOn_228 rfl (k_ne0 kk_159 (by decide)) ?_
  refine wm_iconst hC dX12_goesOn_229 (k := ?_)
  refine y_callV_v_I hC hRm noS ml_X12_335 kk_159 (c12_joins hRF  hw) (Nat.le_of_ble_eq_true rfl) (Nat.le_of_ble_eq_true rfl) ⟨Nat.zero_le _, Nat.zero_le _⟩ rfl (st := []) rfl (Nat.le_of_ble_eq_true rfl) dX12_goesOn_230 (fun I6 hw => ?_)
  refine wm_aload_n hC 0 dX12_goesOn_233 rfl (k_ne0 kk_159 (by decide)) ?_
  refine wm_aload_n hC 0 dX12_goesOn_234 rfl (k_ne0 kk_159 (by decide)) ?_
  refine wm_bipush hC dX12_goesOn_235 (k := ?_)
  refine y_callV_z_n hC hRm noS ml_X12_244 kk_159 (c12_isSign hRF  hw) (Nat.le_of_ble_eq_true rfl) (Nat.le_of_ble_eq_true rfl) ⟨Nat.zero_le _, Nat.zero_le _⟩ rfl (st := [vr 159]) rfl (Nat.le_of_ble_eq_true rfl) dX12_goesOn_237 (fun r16 hw => ?_)
  refine wm_if_eq (tgt := 248) hC dX12_goesOn_240 (by decide) hw (fun hw => ?_) (fun hw => ?_)
  · refine wm_aload_n hC 0 dX12_goesOn_248 rfl (k_ne0 kk_159 (by decide)) ?_
    refine wm_bipush hC dX12_goesOn_249 (k := ?_)
    refine y_callV_z_n hC hRm noS ml_X12_244 kk_159 (c12_isSign hRF  hw) (Nat.le_of_ble_eq_true rfl) (Nat.le_of_ble_eq_true rfl) ⟨Nat.zero_le _, Nat.zero_le _⟩ rfl (st := [vr 159]) rfl (Nat.le_of_ble_eq_true rfl) dX12_goesOn_251 (fun r17 hw => ?_)
    refine wm_if_eq (tgt := 262) hC dX12_goesOn_254 (by decide) hw (fun hw => ?_) (fun hw => ?_)
    · refine wm_bipush hC dX12_goesOn_262 (k := ?_)
      exact w12_goesOn_b264 hC hRm hE hRF  hw
    · refine wm_bipush hC dX12_goesOn_257 (k := ?_)
      refine wm_goto (tgt := 264) hC dX12_goesOn_259 (by decide) ?_
      exact w12_goesOn_b264 hC hRm hE hRF  hw
  · refine wm_bipush hC dX12_goesOn_243 (k := ?_)
    refine wm_goto (tgt := 264) hC dX12_goesOn_245 (by decide) ?_
    exact w12_goesOn_b264 hC hRm hE hRF  hw
def p12_goesOn_b372 (l1 : Int) (s1 : Int) (I : mI) (J : mI) (Q : Int → mI → mI → Prop) : Prop := (p12_holdsBack s1 I (fun I13 => (((0 : Int) ≤ l1 ∧ l1 < (20 : Int)) ∧ wLet (up I13 179 l1 0) (fun I14 => (((0 : Int) ≤ l1 ∧ l1 < (20 : Int)) ∧ wLet (up I14 180 l1 1) (fun I15 => (p12_ahead I15 J (fun I16 J3 => (wLet (up I16 159 43 0) (fun I17 => (Q 1 I17 J3)))))))))))
set_option maxRecDepth 20000 in
theorem w12_goesOn_b372 {C : wX} {ad : Nat → Nat} {n : Nat} {I J : mI} {R : mR} {Q : Int → mI → mI → Prop} (hC : wOK C cX12_goesOn 5 RX12) (hRm : wRm C 3 57 0 0) (hE : wEnd C (some .boolean) ad n (fun r I' J' R' => (R' = R) ∧ Q r I' J')) (hRF : RF R) {l1 : Int} {s1 : Int}     (hw : p12_goesOn_b372 l1 s1 I J Q) : WM C ad n I J R 0 0 372 [(0, vr 159), (1, vi l1)] [vi s1, vr 159] := by
  unfold p12_goesOn_b372 at hw
  refine y_callV_v_I hC hRm noS ml_X12_329 kk_159 (c12_holdsBack hRF  hw) (Nat.le_of_ble_eq_true rfl) (Nat.le_of_ble_eq_true rfl) ⟨Nat.zero_le _, Nat.zero_le _⟩ rfl (st := []) rfl (Nat.le_of_ble_eq_true rfl) dX12_goesOn_372 (fun I13 hw => ?_)
  refine wm_aload_n hC 0 dX12_goesOn_375 rfl (k_ne0 kk_159 (by decide)) ?_
  refine x_getR3 hC 35 fl_X12_118 rfl kk_159 (rf_159_35 hRF) dX12_goesOn_376 ?_
  refine wm_iload_n hC 1 dX12_goesOn_379 rfl ?_
  refine wm_iconst hC dX12_goesOn_380 (k := ?_)
  refine x_iast2 hC kk_179 kn_179 dX12_goesOn_381 hw (fun I14 hw => ?_)
  refine wm_aload_n hC 0 dX12_goesOn_382 rfl (k_ne0 kk_159 (by decide)) ?_
  refine x_getR3 hC 36 fl_X12_121 rfl kk_159 (rf_159_36 hRF) dX12_goesOn_383 ?_
  refine wm_iload_n hC 1 dX12_goesOn_386 rfl ?_
  refine wm_iconst hC dX12_goesOn_387 (k := ?_)
  refine x_zast2 hC kk_180 kn_180 (Or.inr rfl) dX12_goesOn_388 hw (fun I15 hw => ?_)
  refine wm_aload_n hC 0 dX12_goesOn_389 rfl (k_ne0 kk_159 (by decide)) ?_
  refine y_callV_v_IJ hC hRm noS ml_X12_247 kk_159 (c12_ahead hRF  hw) (Nat.le_of_ble_eq_true rfl) (Nat.le_of_ble_eq_true rfl) ⟨Nat.zero_le _, Nat.zero_le _⟩ rfl (st := []) rfl (Nat.le_of_ble_eq_true rfl) dX12_goesOn_390 (fun I16 J3 hw => ?_)
  refine wm_aload_n hC 0 dX12_goesOn_393 rfl (k_ne0 kk_159 (by decide)) ?_
  refine wm_iconst hC dX12_goesOn_394 (k := ?_)
  refine x_putZ hC 43 fl_X12_143 rfl kk_159 (Or.inl rfl) dX12_goesOn_395 hw (fun I17 hw => ?_)
  refine wm_iconst hC dX12_goesOn_398 (k := ?_)
  exact wm_zreturn hC hE (Or.inr rfl) dX12_goesOn_399 ⟨rfl, hw⟩
def p12_goesOn_b356 (l1 : Int) (l4 : Int) (s1 : Int) (I : mI) (J : mI) (Q : Int → mI → mI → Prop) : Prop := (p12_joins s1 I (fun I12 => (if l4 = 0 then (p12_goesOn_b372 l1 42 I12 J Q) else (p12_goesOn_b372 l1 41 I12 J Q))))
set_option maxRecDepth 20000 in
theorem w12_goesOn_b356 {C : wX} {ad : Nat → Nat} {n : Nat} {I J : mI} {R : mR} {Q : Int → mI → mI → Prop} (hC : wOK C cX12_goesOn 5 RX12) (hRm : wRm C 3 57 0 0) (hE : wEnd C (some .boolean) ad n (fun r I' J' R' => (R' = R) ∧ Q r I' J')) (hRF : RF R) {l1 : Int} {l4 : Int} {s1 : Int}     (hw : p12_goesOn_b356 l1 l4 s1 I J Q) : WM C ad n I J R 0 0 356 [(0, vr 159), (1, vi l1), (4, vi l4)] [vi s1, vr 159] := by
  unfold p12_goesOn_b356 at hw
  refine y_callV_v_I hC hRm noS ml_X12_335 kk_159 (c12_joins hRF  hw) (Nat.le_of_ble_eq_true rfl) (Nat.le_of_ble_eq_true rfl) ⟨Nat.zero_le _, Nat.zero_le _⟩ rfl (st := []) rfl (Nat.le_of_ble_eq_true rfl) dX12_goesOn_356 (fun I12 hw => ?_)
  refine wm_aload_n hC 0 dX12_goesOn_359 rfl (k_ne0 kk_159 (by decide)) ?_
  refine wm_iload hC 2 dX12_goesOn_360 rfl ?_
  refine wm_if_eq (tgt := 370) hC dX12_goesOn_362 (by decide) hw (fun hw => ?_) (fun hw => ?_)
  · refine wm_bipush hC dX12_goesOn_370 (k := ?_)
    refine wm_sub [0, 1] (L2 := [(0, vr 159), (1, vi l1)]) rfl ?_
    exact w12_goesOn_b372 hC hRm hE hRF  hw
  · refine wm_bipush hC dX12_goesOn_365 (k := ?_)
    refine wm_goto (tgt := 372) hC dX12_goesOn_367 (by decide) ?_
    refine wm_sub [0, 1] (L2 := [(0, vr 159), (1, vi l1)]) rfl ?_
    exact w12_goesOn_b372 hC hRm hE hRF  hw
def p12_goesOn_b327 (l1 : Int) (I : mI) (J : mI) (Q : Int → mI → mI → Prop) : Prop := (if (I 159 8) ≤ 0 then (p12_isWord 6385252 I J (fun r20 => (if r20 = 0 then (p12_goesOn_b356 l1 r20 1 I J Q) else (p12_goesOn_b356 l1 r20 2 I J Q)))) else (Q 0 I J))
set_option maxRecDepth 20000 in
theorem w12_goesOn_b327 {C : wX} {ad : Nat → Nat} {n : Nat} {I J : mI} {R : mR} {Q : Int → mI → mI → Prop} (hC : wOK C cX12_goesOn 5 RX12) (hRm : wRm C 3 57 0 0) (hE : wEnd C (some .boolean) ad n (fun r I' J' R' => (R' = R) ∧ Q r I' J')) (hRF : RF R) {l1 : Int}     (hw : p12_goesOn_b327 l1 I J Q) : WM C ad n I J R 0 0 327 [(0, vr 159), (1, vi l1)] [] := by
  unfold p12_goesOn_b327 at hw
  refine wm_aload_n hC 0 dX12_goesOn_327 rfl (k_ne0 kk_159 (by decide)) ?_
  refine x_getI hC 8 fl_X12_36 rfl kk_159 dX12_goesOn_328 ?_
  refine wm_if_le (tgt := 336) hC dX12_goesOn_331 (by decide) hw (fun hw => ?_) (fun hw => ?_)
  · refine wm_aload_n hC 0 dX12_goesOn_336 rfl (k_ne0 kk_159 (by decide)) ?_
    refine wm_ldc2 hC (x := 6385252) tc_X12_296 rfl dX12_goesOn_337 (k := ?_)
    refine y_callV_z_n hC hRm noS ml_X12_325 kk_159 (c12_isWord hRF  hw) (Nat.le_of_ble_eq_true rfl) (Nat.le_of_ble_eq_true rfl) ⟨Nat.zero_le _, Nat.zero_le _⟩ rfl (st := []) rfl (Nat.le_of_ble_eq_true rfl) dX12_goesOn_340 (fun r20 hw => ?_)
    refine wm_istore hC dX12_goesOn_343 (by decide) (L2 := [(4, vi r20), (0, vr 159), (1, vi l1)]) rfl ?_
    refine wm_aload_n hC 1 dX12_goesOn_345 rfl (k_ne0 kk_159 (by decide)) ?_
    refine wm_iload hC 0 dX12_goesOn_346 rfl ?_
    refine wm_if_eq (tgt := 355) hC dX12_goesOn_348 (by decide) hw (fun hw => ?_) (fun hw => ?_)
    · refine wm_iconst hC dX12_goesOn_355 (k := ?_)
      refine wm_sub [1, 2, 0] (L2 := [(0, vr 159), (1, vi l1), (4, vi r20)]) rfl ?_
      exact w12_goesOn_b356 hC hRm hE hRF  hw
    · refine wm_iconst hC dX12_goesOn_351 (k := ?_)
      refine wm_goto (tgt := 356) hC dX12_goesOn_352 (by decide) ?_
      refine wm_sub [1, 2, 0] (L2 := [(0, vr 159), (1, vi l1), (4, vi r20)]) rfl ?_
      exact w12_goesOn_b356 hC hRm hE hRF  hw
  · refine wm_iconst hC dX12_goesOn_334 (k := ?_)
    exact wm_zreturn hC hE (Or.inl rfl) dX12_goesOn_335 ⟨rfl, hw⟩
def p12_goesOn_b309 (l1 : Int) (I : mI) (J : mI) (Q : Int → mI → mI → Prop) : Prop := (((0 : Int) ≤ l1 ∧ l1 < (20 : Int)) ∧ (if (I 179 l1) = 0 then (p12_blame 1 (I 159 4) I (fun I11 => (p12_goesOn_b327 l1 I11 J Q))) else (p12_goesOn_b327 l1 I J Q)))
set_option maxRecDepth 20000 in
theorem w12_goesOn_b309 {C : wX} {ad : Nat → Nat} {n : Nat} {I J : mI} {R : mR} {Q : Int → mI → mI → Prop} (hC : wOK C cX12_goesOn 5 RX12) (hRm : wRm C 3 57 0 0) (hE : wEnd C (some .boolean) ad n (fun r I' J' R' => (R' = R) ∧ Q r I' J')) (hRF : RF R) {l1 : Int}     (hw : p12_goesOn_b309 l1 I J Q) : WM C ad n I J R 0 0 309 [(0, vr 159), (1, vi l1)] [] := by
  unfold p12_goesOn_b309 at hw
  refine wm_aload_n hC 0 dX12_goesOn_309 rfl (k_ne0 kk_159 (by decide)) ?_
  refine x_getR3 hC 35 fl_X12_118 rfl kk_159 (rf_159_35 hRF) dX12_goesOn_310 ?_
  refine wm_iload_n hC 1 dX12_goesOn_313 rfl ?_
  refine x_iald2 hC kk_179 kn_179 dX12_goesOn_314 hw (fun hw => ?_)
  refine wm_if_ne (tgt := 327) hC dX12_goesOn_315 (by decide) hw (fun hw => ?_) (fun hw => ?_)
  · refine wm_aload_n hC 0 dX12_goesOn_318 rfl (k_ne0 kk_159 (by decide)) ?_
    refine wm_iconst hC dX12_goesOn_319 (k := ?_)
    refine wm_aload_n hC 0 dX12_goesOn_320 rfl (k_ne0 kk_159 (by decide)) ?_
    refine x_getI hC 4 fl_X12_23 rfl kk_159 dX12_goesOn_321 ?_
    refine y_callV_v_I hC hRm noS ml_X12_230 kk_159 (c12_blame hRF  hw) (Nat.le_of_ble_eq_true rfl) (Nat.le_of_ble_eq_true rfl) ⟨Nat.zero_le _, Nat.zero_le _⟩ rfl (st := []) rfl (Nat.le_of_ble_eq_true rfl) dX12_goesOn_324 (fun I11 hw => ?_)
    exact w12_goesOn_b327 hC hRm hE hRF  hw
  · exact w12_goesOn_b327 hC hRm hE hRF  hw
def p12_goesOn_b499 (l1 : Int) (s1 : Int) (s2 : Int) (I : mI) (J : mI) (Q : Int → mI → mI → Prop) : Prop := (((0 : Int) ≤ s1 ∧ s1 < (20 : Int)) ∧ wLet (up I 178 s1 s2) (fun I22 => (((0 : Int) ≤ l1 ∧ l1 < (20 : Int)) ∧ wLet (up I22 179 l1 0) (fun I23 => (p12_ahead I23 J (fun I24 J4 => (wLet (up I24 159 43 0) (fun I25 => (Q 1 I25 J4)))))))))
set_option maxRecDepth 20000 in
theorem w12_goesOn_b499 {C : wX} {ad : Nat → Nat} {n : Nat} {I J : mI} {R : mR} {Q : Int → mI → mI → Prop} (hC : wOK C cX12_goesOn 5 RX12) (hRm : wRm C 3 57 0 0) (hE : wEnd C (some .boolean) ad n (fun r I' J' R' => (R' = R) ∧ Q r I' J')) (hRF : RF R) {l1 : Int} {s1 : Int} {s2 : Int}     (hw : p12_goesOn_b499 l1 s1 s2 I J Q) : WM C ad n I J R 0 0 499 [(0, vr 159), (1, vi l1)] [vi s2, vi s1, vr 178] := by
  unfold p12_goesOn_b499 at hw
  refine x_iast2 hC kk_178 kn_178 dX12_goesOn_499 hw (fun I22 hw => ?_)
  refine wm_aload_n hC 0 dX12_goesOn_500 rfl (k_ne0 kk_159 (by decide)) ?_
  refine x_getR3 hC 35 fl_X12_118 rfl kk_159 (rf_159_35 hRF) dX12_goesOn_501 ?_
  refine wm_iload_n hC 1 dX12_goesOn_504 rfl ?_
  refine wm_iconst hC dX12_goesOn_505 (k := ?_)
  refine x_iast2 hC kk_179 kn_179 dX12_goesOn_506 hw (fun I23 hw => ?_)
  refine wm_aload_n hC 0 dX12_goesOn_507 rfl (k_ne0 kk_159 (by decide)) ?_
  refine y_callV_v_IJ hC hRm noS ml_X12_247 kk_159 (c12_ahead hRF  hw) (Nat.le_of_ble_eq_true rfl) (Nat.le_of_ble_eq_true rfl) ⟨Nat.zero_le _, Nat.zero_le _⟩ rfl (st := []) rfl (Nat.le_of_ble_eq_true rfl) dX12_goesOn_508 (fun I24 J4 hw => ?_)
  refine wm_aload_n hC 0 dX12_goesOn_511 rfl (k_ne0 kk_159 (by decide)) ?_
  refine wm_iconst hC dX12_goesOn_512 (k := ?_)
  refine x_putZ hC 43 fl_X12_143 rfl kk_159 (Or.inl rfl) dX12_goesOn_513 hw (fun I25 hw => ?_)
  refine wm_iconst hC dX12_goesOn_516 (k := ?_)
  exact wm_zreturn hC hE (Or.inr rfl) dX12_goesOn_517 ⟨rfl, hw⟩
def p12_goesOn_b470 (l1 : Int) (l2 : Int) (I : mI) (J : mI) (Q : Int → mI → mI → Prop) : Prop := (if (I 159 8) ≤ 0 then (p12_joins 1 I (fun I21 => (if l2 = 3 then (p12_goesOn_b499 l1 l1 4 I21 J Q) else (p12_goesOn_b499 l1 l1 3 I21 J Q)))) else (Q 0 I J))
set_option maxRecDepth 20000 in
theorem w12_goesOn_b470 {C : wX} {ad : Nat → Nat} {n : Nat} {I J : mI} {R : mR} {Q : Int → mI → mI → Prop} (hC : wOK C cX12_goesOn 5 RX12) (hRm : wRm C 3 57 0 0) (hE : wEnd C (some .boolean) ad n (fun r I' J' R' => (R' = R) ∧ Q r I' J')) (hRF : RF R) {l1 : Int} {l2 : Int}     (hw : p12_goesOn_b470 l1 l2 I J Q) : WM C ad n I J R 0 0 470 [(0, vr 159), (1, vi l1), (2, vi l2)] [] := by
  unfold p12_goesOn_b470 at hw
  refine wm_aload_n hC 0 dX12_goesOn_470 rfl (k_ne0 kk_159 (by decide)) ?_
  refine x_getI hC 8 fl_X12_36 rfl kk_159 dX12_goesOn_471 ?_
  refine wm_if_le (tgt := 479) hC dX12_goesOn_474 (by decide) hw (fun hw => ?_) (fun hw => ?_)
  · refine wm_aload_n hC 0 dX12_goesOn_479 rfl (k_ne0 kk_159 (by decide)) ?_
    refine wm_iconst hC dX12_goesOn_480 (k := ?_)
    refine y_callV_v_I hC hRm noS ml_X12_335 kk_159 (c12_joins hRF  hw) (Nat.le_of_ble_eq_true rfl) (Nat.le_of_ble_eq_true rfl) ⟨Nat.zero_le _, Nat.zero_le _⟩ rfl (st := []) rfl (Nat.le_of_ble_eq_true rfl) dX12_goesOn_481 (fun I21 hw => ?_)
    refine wm_aload_n hC 0 dX12_goesOn_484 rfl (k_ne0 kk_159 (by decide)) ?_
    refine x_getR3 hC 34 fl_X12_115 rfl kk_159 (rf_159_34 hRF) dX12_goesOn_485 ?_
    refine wm_iload_n hC 1 dX12_goesOn_488 rfl ?_
    refine wm_iload_n hC 2 dX12_goesOn_489 rfl ?_
    refine wm_iconst hC dX12_goesOn_490 (k := ?_)
    refine wm_icmp_ne (tgt := 498) hC dX12_goesOn_491 (by decide) hw (fun hw => ?_) (fun hw => ?_)
    · refine wm_iconst hC dX12_goesOn_494 (k := ?_)
      refine wm_goto (tgt := 499) hC dX12_goesOn_495 (by decide) ?_
      refine wm_sub [0, 1] (L2 := [(0, vr 159), (1, vi l1)]) rfl ?_
      exact w12_goesOn_b499 hC hRm hE hRF  hw
    · refine wm_iconst hC dX12_goesOn_498 (k := ?_)
      refine wm_sub [0, 1] (L2 := [(0, vr 159), (1, vi l1)]) rfl ?_
      exact w12_goesOn_b499 hC hRm hE hRF  hw
  · refine wm_iconst hC dX12_goesOn_477 (k := ?_)
    exact wm_zreturn hC hE (Or.inl rfl) dX12_goesOn_478 ⟨rfl, hw⟩
def p12_goesOn_b452 (l1 : Int) (l2 : Int) (I : mI) (J : mI) (Q : Int → mI → mI → Prop) : Prop := (p12_isSign 44 I (fun r21 => (if r21 = 0 then (p12_blame 1 (I 159 4) I (fun I20 => (p12_goesOn_b470 l1 l2 I20 J Q))) else (p12_goesOn_b470 l1 l2 I J Q))))
set_option maxRecDepth 20000 in
theorem w12_goesOn_b452 {C : wX} {ad : Nat → Nat} {n : Nat} {I J : mI} {R : mR} {Q : Int → mI → mI → Prop} (hC : wOK C cX12_goesOn 5 RX12) (hRm : wRm C 3 57 0 0) (hE : wEnd C (some .boolean) ad n (fun r I' J' R' => (R' = R) ∧ Q r I' J')) (hRF : RF R) {l1 : Int} {l2 : Int}     (hw : p12_goesOn_b452 l1 l2 I J Q) : WM C ad n I J R 0 0 452 [(0, vr 159), (1, vi l1), (2, vi l2)] [] := by
  unfold p12_goesOn_b452 at hw
  refine wm_aload_n hC 0 dX12_goesOn_452 rfl (k_ne0 kk_159 (by decide)) ?_
  refine wm_bipush hC dX12_goesOn_453 (k := ?_)
  refine y_callV_z_n hC hRm noS ml_X12_244 kk_159 (c12_isSign hRF  hw) (Nat.le_of_ble_eq_true rfl) (Nat.le_of_ble_eq_true rfl) ⟨Nat.zero_le _, Nat.zero_le _⟩ rfl (st := []) rfl (Nat.le_of_ble_eq_true rfl) dX12_goesOn_455 (fun r21 hw => ?_)
  refine wm_if_ne (tgt := 470) hC dX12_goesOn_458 (by decide) hw (fun hw => ?_) (fun hw => ?_)
  · refine wm_aload_n hC 0 dX12_goesOn_461 rfl (k_ne0 kk_159 (by decide)) ?_
    refine wm_iconst hC dX12_goesOn_462 (k := ?_)
    refine wm_aload_n hC 0 dX12_goesOn_463 rfl (k_ne0 kk_159 (by decide)) ?_
    refine x_getI hC 4 fl_X12_23 rfl kk_159 dX12_goesOn_464 ?_
    refine y_callV_v_I hC hRm noS ml_X12_230 kk_159 (c12_blame hRF  hw) (Nat.le_of_ble_eq_true rfl) (Nat.le_of_ble_eq_true rfl) ⟨Nat.zero_le _, Nat.zero_le _⟩ rfl (st := []) rfl (Nat.le_of_ble_eq_true rfl) dX12_goesOn_467 (fun I20 hw => ?_)
    exact w12_goesOn_b470 hC hRm hE hRF  hw
  · exact w12_goesOn_b470 hC hRm hE hRF  hw
def p12_goesOn_b596 (l2 : Int) (I : mI) (J : mI) (Q : Int → mI → mI → Prop) : Prop := (if l2 = 5 then (rg ((I 159 39) - 1) ∧ (((0 : Int) ≤ ((I 159 39) - 1) ∧ ((I 159 39) - 1) < (20 : Int)) ∧ wLet (up I 179 ((I 159 39) - 1) 2) (fun I32 => (p12_ahead I32 J (fun I33 J6 => (Q 1 I33 J6)))))) else (p12_ahead I J (fun I31 J5 => (Q 1 I31 J5))))
set_option maxRecDepth 20000 in
theorem w12_goesOn_b596 {C : wX} {ad : Nat → Nat} {n : Nat} {I J : mI} {R : mR} {Q : Int → mI → mI → Prop} (hC : wOK C cX12_goesOn 5 RX12) (hRm : wRm C 3 57 0 0) (hE : wEnd C (some .boolean) ad n (fun r I' J' R' => (R' = R) ∧ Q r I' J')) (hRF : RF R) {l2 : Int}     (hw : p12_goesOn_b596 l2 I J Q) : WM C ad n I J R 0 0 596 [(0, vr 159), (2, vi l2)] [] := by
  unfold p12_goesOn_b596 at hw
  refine wm_iload_n hC 1 dX12_goesOn_596 rfl ?_
  refine wm_iconst hC dX12_goesOn_597 (k := ?_)
  refine wm_icmp_ne (tgt := 613) hC dX12_goesOn_598 (by decide) hw (fun hw => ?_) (fun hw => ?_)
  · refine wm_aload_n hC 0 dX12_goesOn_601 rfl (k_ne0 kk_159 (by decide)) ?_
    refine x_getR3 hC 35 fl_X12_118 rfl kk_159 (rf_159_35 hRF) dX12_goesOn_602 ?_
    refine wm_aload_n hC 0 dX12_goesOn_605 rfl (k_ne0 kk_159 (by decide)) ?_
    refine x_getI hC 39 fl_X12_131 rfl kk_159 dX12_goesOn_606 ?_
    refine wm_iconst hC dX12_goesOn_609 (k := ?_)
    refine x_isub hC dX12_goesOn_610 hw (fun hw => ?_)
    refine wm_iconst hC dX12_goesOn_611 (k := ?_)
    refine x_iast2 hC kk_179 kn_179 dX12_goesOn_612 hw (fun I32 hw => ?_)
    refine wm_aload_n hC 0 dX12_goesOn_613 rfl (k_ne0 kk_159 (by decide)) ?_
    refine y_callV_v_IJ hC hRm noS ml_X12_247 kk_159 (c12_ahead hRF  hw) (Nat.le_of_ble_eq_true rfl) (Nat.le_of_ble_eq_true rfl) ⟨Nat.zero_le _, Nat.zero_le _⟩ rfl (st := []) rfl (Nat.le_of_ble_eq_true rfl) dX12_goesOn_614 (fun I33 J6 hw => ?_)
    refine wm_iconst hC dX12_goesOn_617 (k := ?_)
    exact wm_zreturn hC hE (Or.inr rfl) dX12_goesOn_618 ⟨rfl, hw⟩
  · refine wm_aload_n hC 0 dX12_goesOn_613 rfl (k_ne0 kk_159 (by decide)) ?_
    refine y_callV_v_IJ hC hRm noS ml_X12_247 kk_159 (c12_ahead hRF  hw) (Nat.le_of_ble_eq_true rfl) (Nat.le_of_ble_eq_true rfl) ⟨Nat.zero_le _, Nat.zero_le _⟩ rfl (st := []) rfl (Nat.le_of_ble_eq_true rfl) dX12_goesOn_614 (fun I31 J5 hw => ?_)
    refine wm_iconst hC dX12_goesOn_617 (k := ?_)
    exact wm_zreturn hC hE (Or.inr rfl) dX12_goesOn_618 ⟨rfl, hw⟩
def p12_goesOn_b546 (l1 : Int) (l2 : Int) (I : mI) (J : mI) (Q : Int → mI → mI → Prop) : Prop := (if (I 159 8) ≤ 0 then (p12_joins 1 I (fun I27 => (rg ((I27 159 39) - 1) ∧ (wLet (up I27 159 39 ((I27 159 39) - 1)) (fun I28 => (rg ((I28 159 40) - 1) ∧ (wLet (up I28 159 40 ((I28 159 40) - 1)) (fun I29 => (if l2 = 4 then (((0 : Int) ≤ l1 ∧ l1 < (20 : Int)) ∧ (p12_add (I29 181 l1) 0 I29 (fun I30 => (p12_goesOn_b596 l2 I30 J Q)))) else (p12_goesOn_b596 l2 I29 J Q)))))))))) else (Q 0 I J))
set_option maxRecDepth 20000 in
theorem w12_goesOn_b546 {C : wX} {ad : Nat → Nat} {n : Nat} {I J : mI} {R : mR} {Q : Int → mI → mI → Prop} (hC : wOK C cX12_goesOn 5 RX12) (hRm : wRm C 3 57 0 0) (hE : wEnd C (some .boolean) ad n (fun r I' J' R' => (R' = R) ∧ Q r I' J')) (hRF : RF R) {l1 : Int} {l2 : Int}     (hw : p12_goesOn_b546 l1 l2 I J Q) : WM C ad n I J R 0 0 546 [(0, vr 159), (1, vi l1), (2, vi l2)] [] := by
  unfold p12_goesOn_b546 at hw
  refine wm_aload_n hC 0 dX12_goesOn_546 rfl (k_ne0 kk_159 (by decide)) ?_
  refine x_getI hC 8 fl_X12_36 rfl kk_159 dX12_goesOn_547 ?_
  refine wm_if_le (tgt := 555) hC dX12_goesOn_550 (by decide) hw (fun hw => ?_) (fun hw => ?_)
  · refine wm_aload_n hC 0 dX12_goesOn_555 rfl (k_ne0 kk_159 (by decide)) ?_
    refine wm_iconst hC dX12_goesOn_556 (k := ?_)
    refine y_callV_v_I hC hRm noS ml_X12_335 kk_159 (c12_joins hRF  hw) (Nat.le_of_ble_eq_true rfl) (Nat.le_of_ble_eq_true rfl) ⟨Nat.zero_le _, Nat.zero_le _⟩ rfl (st := []) rfl (Nat.le_of_ble_eq_true rfl) dX12_goesOn_557 (fun I27 hw => ?_)
    refine wm_aload_n hC 0 dX12_goesOn_560 rfl (k_ne0 kk_159 (by decide)) ?_
    refine wm_dup hC dX12_goesOn_561 (k := ?_)
    refine x_getI hC 39 fl_X12_131 rfl kk_159 dX12_goesOn_562 ?_
    refine wm_iconst hC dX12_goesOn_565 (k := ?_)
    refine x_isub hC dX12_goesOn_566 hw (fun hw => ?_)
    refine x_putI hC 39 fl_X12_131 rfl kk_159 dX12_goesOn_567 hw (fun I28 hw => ?_)
    refine wm_aload_n hC 0 dX12_goesOn_570 rfl (k_ne0 kk_159 (by decide)) ?_
    refine wm_dup hC dX12_goesOn_571 (k := ?_)
    refine x_getI hC 40 fl_X12_134 rfl kk_159 dX12_goesOn_572 ?_
    refine wm_iconst hC dX12_goesOn_575 (k := ?_)
    refine x_isub hC dX12_goesOn_576 hw (fun hw => ?_)
    refine x_putI hC 40 fl_X12_134 rfl kk_159 dX12_goesOn_577 hw (fun I29 hw => ?_)
    refine wm_iload_n hC 2 dX12_goesOn_580 rfl ?_
    refine wm_iconst hC dX12_goesOn_581 (k := ?_)
    refine wm_icmp_ne (tgt := 596) hC dX12_goesOn_582 (by decide) hw (fun hw => ?_) (fun hw => ?_)
    · refine wm_aload_n hC 0 dX12_goesOn_585 rfl (k_ne0 kk_159 (by decide)) ?_
      refine wm_aload_n hC 0 dX12_goesOn_586 rfl (k_ne0 kk_159 (by decide)) ?_
      refine x_getR3 hC 37 fl_X12_125 rfl kk_159 (rf_159_37 hRF) dX12_goesOn_587 ?_
      refine wm_iload_n hC 1 dX12_goesOn_590 rfl ?_
      refine x_iald2 hC kk_181 kn_181 dX12_goesOn_591 hw (fun hw => ?_)
      refine wm_iconst hC dX12_goesOn_592 (k := ?_)
      refine y_callV_v_I hC hRm noS ml_X12_316 kk_159 (c12_add hRF  hw) (Nat.le_of_ble_eq_true rfl) (Nat.le_of_ble_eq_true rfl) ⟨Nat.zero_le _, Nat.zero_le _⟩ rfl (st := []) rfl (Nat.le_of_ble_eq_true rfl) dX12_goesOn_593 (fun I30 hw => ?_)
      refine wm_sub [0, 2] (L2 := [(0, vr 159), (2, vi l2)]) rfl ?_
      exact w12_goesOn_b596 hC hRm hE hRF  hw
    · refine wm_sub [0, 2] (L2 := [(0, vr 159), (2, vi l2)]) rfl ?_
      exact w12_goesOn_b596 hC hRm hE hRF  hw
  · refine wm_iconst hC dX12_goesOn_553 (k := ?_)
    exact wm_zreturn hC hE (Or.inl rfl) dX12_goesOn_554 ⟨rfl, hw⟩
def p12_goesOn_b531 (l1 : Int) (l2 : Int) (s1 : Int) (I : mI) (J : mI) (Q : Int → mI → mI → Prop) : Prop := (p12_isSign s1 I (fun r22 => (if r22 = 0 then (p12_blame 1 (I 159 4) I (fun I26 => (p12_goesOn_b546 l1 l2 I26 J Q))) else (p12_goesOn_b546 l1 l2 I J Q))))
set_option maxRecDepth 20000 in
theorem w12_goesOn_b531 {C : wX} {ad : Nat → Nat} {n : Nat} {I J : mI} {R : mR} {Q : Int → mI → mI → Prop} (hC : wOK C cX12_goesOn 5 RX12) (hRm : wRm C 3 57 0 0) (hE : wEnd C (some .boolean) ad n (fun r I' J' R' => (R' = R) ∧ Q r I' J')) (hRF : RF R) {l1 : Int} {l2 : Int} {s1 : Int}     (hw : p12_goesOn_b531 l1 l2 s1 I J Q) : WM C ad n I J R 0 0 531 [(0, vr 159), (1, vi l1), (2, vi l2)] [vi s1, vr 159] := by
  unfold p12_goesOn_b531 at hw
  refine y_callV_z_n hC hRm noS ml_X12_244 kk_159 (c12_isSign hRF  hw) (Nat.le_of_ble_eq_true rfl) (Nat.le_of_ble_eq_true rfl) ⟨Nat.zero_le _, Nat.zero_le _⟩ rfl (st := []) rfl (Nat.le_of_ble_eq_true rfl) dX12_goesOn_531 (fun r22 hw => ?_)
  refine wm_if_ne (tgt := 546) hC dX12_goesOn_534 (by decide) hw (fun hw => ?_) (fun hw => ?_)
  · refine wm_aload_n hC 0 dX12_goesOn_537 rfl (k_ne0 kk_159 (by decide)) ?_
    refine wm_iconst hC dX12_goesOn_538 (k := ?_)
    refine wm_aload_n hC 0 dX12_goesOn_539 rfl (k_ne0 kk_159 (by decide)) ?_
    refine x_getI hC 4 fl_X12_23 rfl kk_159 dX12_goesOn_540 ?_
    refine y_callV_v_I hC hRm noS ml_X12_230 kk_159 (c12_blame hRF  hw) (Nat.le_of_ble_eq_true rfl) (Nat.le_of_ble_eq_true rfl) ⟨Nat.zero_le _, Nat.zero_le _⟩ rfl (st := []) rfl (Nat.le_of_ble_eq_true rfl) dX12_goesOn_543 (fun I26 hw => ?_)
    exact w12_goesOn_b546 hC hRm hE hRF  hw
  · exact w12_goesOn_b546 hC hRm hE hRF  hw
def p12_goesOn_b422 (l1 : Int) (l2 : Int) (I : mI) (J : mI) (Q : Int → mI → mI → Prop) : Prop := (if (2 : Int) ≤ l2 then (if l2 = 3 then (p12_goesOn_b452 l1 l2 I J Q) else (if l2 = 6 then (p12_goesOn_b452 l1 l2 I J Q) else (if l2 = 5 then (p12_goesOn_b531 l1 l2 93 I J Q) else (p12_goesOn_b531 l1 l2 41 I J Q)))) else (if (I 159 8) = 0 then (p12_joins 1 I (fun I19 => (Q 0 I19 J))) else (Q 0 I J)))
set_option maxRecDepth 20000 in
theorem w12_goesOn_b422 {C : wX} {ad : Nat → Nat} {n : Nat} {I J : mI} {R : mR} {Q : Int → mI → mI → Prop} (hC : wOK C cX12_goesOn 5 RX12) (hRm : wRm C 3 57 0 0) (hE : wEnd C (some .boolean) ad n (fun r I' J' R' => (R' = R) ∧ Q r I' J')) (hRF : RF R) {l1 : Int} {l2 : Int}     (hw : p12_goesOn_b422 l1 l2 I J Q) : WM C ad n I J R 0 0 422 [(0, vr 159), (1, vi l1), (2, vi l2)] [] := by
  unfold p12_goesOn_b422 at hw
  refine wm_iload_n hC 2 dX12_goesOn_422 rfl ?_
  refine wm_iconst hC dX12_goesOn_423 (k := ?_)
  refine wm_icmp_ge (tgt := 441) hC dX12_goesOn_424 (by decide) hw (fun hw => ?_) (fun hw => ?_)
  · refine wm_iload_n hC 2 dX12_goesOn_441 rfl ?_
    refine wm_iconst hC dX12_goesOn_442 (k := ?_)
    refine wm_icmp_eq (tgt := 452) hC dX12_goesOn_443 (by decide) hw (fun hw => ?_) (fun hw => ?_)
    · exact w12_goesOn_b452 hC hRm hE hRF  hw
    · refine wm_iload_n hC 2 dX12_goesOn_446 rfl ?_
      refine wm_bipush hC dX12_goesOn_447 (k := ?_)
      refine wm_icmp_ne (tgt := 518) hC dX12_goesOn_449 (by decide) hw (fun hw => ?_) (fun hw => ?_)
      · exact w12_goesOn_b452 hC hRm hE hRF  hw
      · refine wm_aload_n hC 0 dX12_goesOn_518 rfl (k_ne0 kk_159 (by decide)) ?_
        refine wm_iload_n hC 2 dX12_goesOn_519 rfl ?_
        refine wm_iconst hC dX12_goesOn_520 (k := ?_)
        refine wm_icmp_ne (tgt := 529) hC dX12_goesOn_521 (by decide) hw (fun hw => ?_) (fun hw => ?_)
        · refine wm_bipush hC dX12_goesOn_524 (k := ?_)
          refine wm_goto (tgt := 531) hC dX12_goesOn_526 (by decide) ?_
          exact w12_goesOn_b531 hC hRm hE hRF  hw
        · refine wm_bipush hC dX12_goesOn_529 (k := ?_)
          exact w12_goesOn_b531 hC hRm hE hRF  hw
  · refine wm_aload_n hC 0 dX12_goesOn_427 rfl (k_ne0 kk_159 (by decide)) ?_
    refine x_getI hC 8 fl_X12_36 rfl kk_159 dX12_goesOn_428 ?_
    refine wm_if_ne (tgt := 439) hC dX12_goesOn_431 (by decide) hw (fun hw => ?_) (fun hw => ?_)
    · refine wm_aload_n hC 0 dX12_goesOn_434 rfl (k_ne0 kk_159 (by decide)) ?_
      refine wm_iconst hC dX12_goesOn_435 (k := ?_)
      refine y_callV_v_I hC hRm noS ml_X12_335 kk_159 (c12_joins hRF  hw) (Nat.le_of_ble_eq_true rfl) (Nat.le_of_ble_eq_true rfl) ⟨Nat.zero_le _, Nat.zero_le _⟩ rfl (st := []) rfl (Nat.le_of_ble_eq_true rfl) dX12_goesOn_436 (fun I19 hw => ?_)
      refine wm_iconst hC dX12_goesOn_439 (k := ?_)
      exact wm_zreturn hC hE (Or.inl rfl) dX12_goesOn_440 ⟨rfl, hw⟩
    · refine wm_iconst hC dX12_goesOn_439 (k := ?_)
      exact wm_zreturn hC hE (Or.inl rfl) dX12_goesOn_440 ⟨rfl, hw⟩
def p12_goesOn_b400 (l1 : Int) (l2 : Int) (l3 : Int) (I : mI) (J : mI) (Q : Int → mI → mI → Prop) : Prop := (if l3 = 0 then (p12_goesOn_b422 l1 l2 I J Q) else (((0 : Int) ≤ l1 ∧ l1 < (20 : Int)) ∧ (if (I 179 l1) = 0 then (p12_blame 1 (I 159 4) I (fun I18 => (p12_goesOn_b422 l1 l2 I18 J Q))) else (p12_goesOn_b422 l1 l2 I J Q))))
set_option maxRecDepth 20000 in
theorem w12_goesOn_b400 {C : wX} {ad : Nat → Nat} {n : Nat} {I J : mI} {R : mR} {Q : Int → mI → mI → Prop} (hC : wOK C cX12_goesOn 5 RX12) (hRm : wRm C 3 57 0 0) (hE : wEnd C (some .boolean) ad n (fun r I' J' R' => (R' = R) ∧ Q r I' J')) (hRF : RF R) {l1 : Int} {l2 : Int} {l3 : Int}     (hw : p12_goesOn_b400 l1 l2 l3 I J Q) : WM C ad n I J R 0 0 400 [(0, vr 159), (1, vi l1), (2, vi l2), (3, vi l3)] [] := by
  unfold p12_goesOn_b400 at hw
  refine wm_iload_n hC 3 dX12_goesOn_400 rfl ?_
  refine wm_if_eq (tgt := 422) hC dX12_goesOn_401 (by decide) hw (fun hw => ?_) (fun hw => ?_)
  · refine wm_sub [0, 1, 2] (L2 := [(0, vr 159), (1, vi l1), (2, vi l2)]) rfl ?_
    exact w12_goesOn_b422 hC hRm hE hRF  hw
  · refine wm_aload_n hC 0 dX12_goesOn_404 rfl (k_ne0 kk_159 (by decide)) ?_
    refine x_getR3 hC 35 fl_X12_118 rfl kk_159 (rf_159_35 hRF) dX12_goesOn_405 ?_
    refine wm_iload_n hC 1 dX12_goesOn_408 rfl ?_
    refine x_iald2 hC kk_179 kn_179 dX12_goesOn_409 hw (fun hw => ?_)
    refine wm_if_ne (tgt := 422) hC dX12_goesOn_410 (by decide) hw (fun hw => ?_) (fun hw => ?_)
    · refine wm_aload_n hC 0 dX12_goesOn_413 rfl (k_ne0 kk_159 (by decide)) ?_
      refine wm_iconst hC dX12_goesOn_414 (k := ?_)
      refine wm_aload_n hC 0 dX12_goesOn_415 rfl (k_ne0 kk_159 (by decide)) ?_
      refine x_getI hC 4 fl_X12_23 rfl kk_159 dX12_goesOn_416 ?_
      refine y_callV_v_I hC hRm noS ml_X12_230 kk_159 (c12_blame hRF  hw) (Nat.le_of_ble_eq_true rfl) (Nat.le_of_ble_eq_true rfl) ⟨Nat.zero_le _, Nat.zero_le _⟩ rfl (st := []) rfl (Nat.le_of_ble_eq_true rfl) dX12_goesOn_419 (fun I18 hw => ?_)
      refine wm_sub [0, 1, 2] (L2 := [(0, vr 159), (1, vi l1), (2, vi l2)]) rfl ?_
      exact w12_goesOn_b422 hC hRm hE hRF  hw
    · refine wm_sub [0, 1, 2] (L2 := [(0, vr 159), (1, vi l1), (2, vi l2)]) rfl ?_
      exact w12_goesOn_b422 hC hRm hE hRF  hw
def p12_goesOn_b285 (l1 : Int) (l2 : Int) (l3 : Int) (I : mI) (J : mI) (Q : Int → mI → mI → Prop) : Prop := (if l3 = 0 then (p12_goesOn_b400 l1 l2 l3 I J Q) else (p12_isWord 6385252 I J (fun r18 => (if r18 = 0 then (p12_isWord 28530 I J (fun r19 => (if r19 = 0 then (p12_goesOn_b400 l1 l2 l3 I J Q) else (p12_goesOn_b309 l1 I J Q)))) else (p12_goesOn_b309 l1 I J Q)))))
set_option maxRecDepth 20000 in
theorem w12_goesOn_b285 {C : wX} {ad : Nat → Nat} {n : Nat} {I J : mI} {R : mR} {Q : Int → mI → mI → Prop} (hC : wOK C cX12_goesOn 5 RX12) (hRm : wRm C 3 57 0 0) (hE : wEnd C (some .boolean) ad n (fun r I' J' R' => (R' = R) ∧ Q r I' J')) (hRF : RF R) {l1 : Int} {l2 : Int} {l3 : Int}     (hw : p12_goesOn_b285 l1 l2 l3 I J Q) : WM C ad n I J R 0 0 285 [(0, vr 159), (1, vi l1), (2, vi l2), (3, vi l3)] [] := by
  unfold p12_goesOn_b285 at hw
  refine wm_iload_n hC 3 dX12_goesOn_285 rfl ?_
  refine wm_if_eq (tgt := 400) hC dX12_goesOn_286 (by decide) hw (fun hw => ?_) (fun hw => ?_)
  · exact w12_goesOn_b400 hC hRm hE hRF  hw
  · refine wm_aload_n hC 0 dX12_goesOn_289 rfl (k_ne0 kk_159 (by decide)) ?_
    refine wm_ldc2 hC (x := 6385252) tc_X12_296 rfl dX12_goesOn_290 (k := ?_)
    refine y_callV_z_n hC hRm noS ml_X12_325 kk_159 (c12_isWord hRF  hw) (Nat.le_of_ble_eq_true rfl) (Nat.le_of_ble_eq_true rfl) ⟨Nat.zero_le _, Nat.zero_le _⟩ rfl (st := []) rfl (Nat.le_of_ble_eq_true rfl) dX12_goesOn_293 (fun r18 hw => ?_)
    refine wm_if_ne (tgt := 309) hC dX12_goesOn_296 (by decide) hw (fun hw => ?_) (fun hw => ?_)
    · refine wm_aload_n hC 0 dX12_goesOn_299 rfl (k_ne0 kk_159 (by decide)) ?_
      refine wm_ldc2 hC (x := 28530) tc_X12_294 rfl dX12_goesOn_300 (k := ?_)
      refine y_callV_z_n hC hRm noS ml_X12_325 kk_159 (c12_isWord hRF  hw) (Nat.le_of_ble_eq_true rfl) (Nat.le_of_ble_eq_true rfl) ⟨Nat.zero_le _, Nat.zero_le _⟩ rfl (st := []) rfl (Nat.le_of_ble_eq_true rfl) dX12_goesOn_303 (fun r19 hw => ?_)
      refine wm_if_eq (tgt := 400) hC dX12_goesOn_306 (by decide) hw (fun hw => ?_) (fun hw => ?_)
      · exact w12_goesOn_b400 hC hRm hE hRF  hw
      · refine wm_sub [0, 1] (L2 := [(0, vr 159), (1, vi l1)]) rfl ?_
        exact w12_goesOn_b309 hC hRm hE hRF  hw
    · refine wm_sub [0, 1] (L2 := [(0, vr 159), (1, vi l1)]) rfl ?_
      exact w12_goesOn_b309 hC hRm hE hRF  hw
def p12_goesOn_b188 (l1 : Int) (l2 : Int) (l3 : Int) (I : mI) (J : mI) (Q : Int → mI → mI → Prop) : Prop := (if l3 = 0 then (p12_goesOn_b285 l1 l2 l3 I J Q) else (((0 : Int) ≤ l1 ∧ l1 < (20 : Int)) ∧ (if (I 179 l1) = 0 then (p12_isSign 60 I (fun r13 => (if r13 = 0 then (p12_isSign 62 I (fun r14 => (if r14 = 0 then (p12_isSign 61 I (fun r15 => (if r15 = 0 then (p12_goesOn_b285 l1 l2 l3 I J Q) else (p12_goesOn_b228 l1 I J Q)))) else (p12_goesOn_b228 l1 I J Q)))) else (p12_goesOn_b228 l1 I J Q)))) else (p12_goesOn_b285 l1 l2 l3 I J Q))))
set_option maxRecDepth 20000 in
theorem w12_goesOn_b188 {C : wX} {ad : Nat → Nat} {n : Nat} {I J : mI} {R : mR} {Q : Int → mI → mI → Prop} (hC : wOK C cX12_goesOn 5 RX12) (hRm : wRm C 3 57 0 0) (hE : wEnd C (some .boolean) ad n (fun r I' J' R' => (R' = R) ∧ Q r I' J')) (hRF : RF R) {l1 : Int} {l2 : Int} {l3 : Int}     (hw : p12_goesOn_b188 l1 l2 l3 I J Q) : WM C ad n I J R 0 0 188 [(0, vr 159), (1, vi l1), (2, vi l2), (3, vi l3)] [] := by
  unfold p12_goesOn_b188 at hw
  refine wm_iload_n hC 3 dX12_goesOn_188 rfl ?_
  refine wm_if_eq (tgt := 285) hC dX12_goesOn_189 (by decide) hw (fun hw => ?_) (fun hw => ?_)
  · exact w12_goesOn_b285 hC hRm hE hRF  hw
  · refine wm_aload_n hC 0 dX12_goesOn_192 rfl (k_ne0 kk_159 (by decide)) ?_
    refine x_getR3 hC 35 fl_X12_118 rfl kk_159 (rf_159_35 hRF) dX12_goesOn_193 ?_
    refine wm_iload_n hC 1 dX12_goesOn_196 rfl ?_
    refine x_iald2 hC kk_179 kn_179 dX12_goesOn_197 hw (fun hw => ?_)
    refine wm_if_ne (tgt := 285) hC dX12_goesOn_198 (by decide) hw (fun hw => ?_) (fun hw => ?_)
    · refine wm_aload_n hC 0 dX12_goesOn_201 rfl (k_ne0 kk_159 (by decide)) ?_
      refine wm_bipush hC dX12_goesOn_202 (k := ?_)
      refine y_callV_z_n hC hRm noS ml_X12_244 kk_159 (c12_isSign hRF  hw) (Nat.le_of_ble_eq_true rfl) (Nat.le_of_ble_eq_true rfl) ⟨Nat.zero_le _, Nat.zero_le _⟩ rfl (st := []) rfl (Nat.le_of_ble_eq_true rfl) dX12_goesOn_204 (fun r13 hw => ?_)
      refine wm_if_ne (tgt := 228) hC dX12_goesOn_207 (by decide) hw (fun hw => ?_) (fun hw => ?_)
      · refine wm_aload_n hC 0 dX12_goesOn_210 rfl (k_ne0 kk_159 (by decide)) ?_
        refine wm_bipush hC dX12_goesOn_211 (k := ?_)
        refine y_callV_z_n hC hRm noS ml_X12_244 kk_159 (c12_isSign hRF  hw) (Nat.le_of_ble_eq_true rfl) (Nat.le_of_ble_eq_true rfl) ⟨Nat.zero_le _, Nat.zero_le _⟩ rfl (st := []) rfl (Nat.le_of_ble_eq_true rfl) dX12_goesOn_213 (fun r14 hw => ?_)
        refine wm_if_ne (tgt := 228) hC dX12_goesOn_216 (by decide) hw (fun hw => ?_) (fun hw => ?_)
        · refine wm_aload_n hC 0 dX12_goesOn_219 rfl (k_ne0 kk_159 (by decide)) ?_
          refine wm_bipush hC dX12_goesOn_220 (k := ?_)
          refine y_callV_z_n hC hRm noS ml_X12_244 kk_159 (c12_isSign hRF  hw) (Nat.le_of_ble_eq_true rfl) (Nat.le_of_ble_eq_true rfl) ⟨Nat.zero_le _, Nat.zero_le _⟩ rfl (st := []) rfl (Nat.le_of_ble_eq_true rfl) dX12_goesOn_222 (fun r15 hw => ?_)
          refine wm_if_eq (tgt := 285) hC dX12_goesOn_225 (by decide) hw (fun hw => ?_) (fun hw => ?_)
          · exact w12_goesOn_b285 hC hRm hE hRF  hw
          · refine wm_sub [0, 1] (L2 := [(0, vr 159), (1, vi l1)]) rfl ?_
            exact w12_goesOn_b228 hC hRm hE hRF  hw
        · refine wm_sub [0, 1] (L2 := [(0, vr 159), (1, vi l1)]) rfl ?_
          exact w12_goesOn_b228 hC hRm hE hRF  hw
      · refine wm_sub [0, 1] (L2 := [(0, vr 159), (1, vi l1)]) rfl ?_
        exact w12_goesOn_b228 hC hRm hE hRF  hw
    · exact w12_goesOn_b285 hC hRm hE hRF  hw
def p12_goesOn (I : mI) (J : mI) (Q : Int → mI → mI → Prop) : Prop := (p12_lex I (fun I1 => (if (I1 159 8) ≤ 0 then (rg ((I1 159 39) - 1) ∧ (((0 : Int) ≤ ((I1 159 39) - 1) ∧ ((I1 159 39) - 1) < (20 : Int)) ∧ (wLet (I1 178 ((I1 159 39) - 1)) (fun x1 => (p12_isTest x1 (fun r1 => (((0 : Int) ≤ ((I1 159 39) - 1) ∧ ((I1 159 39) - 1) < (20 : Int)) ∧ (if (2 : Int) ≤ (I1 179 ((I1 159 39) - 1)) then (p12_goesOn_b188 ((I1 159 39) - 1) x1 r1 I1 J Q) else (p12_isSign 43 I1 (fun r2 => (if r2 = 0 then (p12_isSign 45 I1 (fun r3 => (if r3 = 0 then (p12_isSign 42 I1 (fun r4 => (if r4 = 0 then (p12_isSign 47 I1 (fun r5 => (if r5 = 0 then (p12_isSign 37 I1 (fun r6 => (if r6 = 0 then (p12_goesOn_b188 ((I1 159 39) - 1) x1 r1 I1 J Q) else (p12_goesOn_b87 I1 J Q)))) else (p12_goesOn_b87 I1 J Q)))) else (p12_goesOn_b87 I1 J Q)))) else (p12_goesOn_b87 I1 J Q)))) else (p12_goesOn_b87 I1 J Q)))))))))))) else (Q 0 I1 J))))
set_option maxRecDepth 20000 in
theorem c12_goesOn {ad : Nat → Nat} {n : Nat} {I J : mI} {R : mR} {Q : Int → mI → mI → Prop}  (hRF : RF R)   (hw : p12_goesOn I J Q) : wMet yX12_goesOn cX12_goesOn 5 (some .boolean) 3 57 false ad n I J R [vr 159] (fun r I' J' R' => (R' = R) ∧ Q r I' J') := by
  refine wMet_of (by decide) (Nat.le_of_ble_eq_true rfl) (fun C hC hRm hE hS => ?_)
  refine (show WM C ad n I J R 0 0 0 [(0, vr 159)] [] from ?_)
  unfold p12_goesOn at hw
  refine wm_aload_n hC 0 dX12_goesOn_0 rfl (k_ne0 kk_159 (by decide)) ?_
  refine y_callV_v_I hC hRm noS ml_X12_241 kk_159 (c12_lex hRF  hw) (Nat.le_of_ble_eq_true rfl) (Nat.le_of_ble_eq_true rfl) ⟨Nat.zero_le _, Nat.zero_le _⟩ rfl (st := []) rfl (Nat.le_of_ble_eq_true rfl) dX12_goesOn_1 (fun I1 hw => ?_)
  refine wm_aload_n hC 0 dX12_goesOn_4 rfl (k_ne0 kk_159 (by decide)) ?_
  refine x_getI hC 8 fl_X12_36 rfl kk_159 dX12_goesOn_5 ?_
  refine wm_if_le (tgt := 13) hC dX12_goesOn_8 (by decide) hw (fun hw => ?_) (fun hw => ?_)
  · refine wm_aload_n hC 0 dX12_goesOn_13 rfl (k_ne0 kk_159 (by decide)) ?_
    refine x_getI hC 39 fl_X12_131 rfl kk_159 dX12_goesOn_14 ?_
    refine wm_iconst hC dX12_goesOn_17 (k := ?_)
    refine x_isub hC dX12_goesOn_18 hw (fun hw => ?_)
    refine wm_istore_n hC dX12_goesOn_19 (by decide) (L2 := [(1, vi ((I1 159 39) - 1)), (0, vr 159)]) rfl ?_
    refine wm_aload_n hC 1 dX12_goesOn_20 rfl (k_ne0 kk_159 (by decide)) ?_
    refine x_getR3 hC 34 fl_X12_115 rfl kk_159 (rf_159_34 hRF) dX12_goesOn_21 ?_
    refine wm_iload_n hC 0 dX12_goesOn_24 rfl ?_
    refine x_iald2 hC kk_178 kn_178 dX12_goesOn_25 hw (fun hw => ?_)
    refine x_nameI hw (fun x1 hw => ?_)
    refine wm_istore_n hC dX12_goesOn_26 (by decide) (L2 := [(2, vi x1), (1, vi ((I1 159 39) - 1)), (0, vr 159)]) rfl ?_
    refine wm_iload_n hC 0 dX12_goesOn_27 rfl ?_
    refine y_callS_z_n hC hRm noS ml_X12_322 (c12_isTest hRF  hw) (Nat.le_of_ble_eq_true rfl) (Nat.le_of_ble_eq_true rfl) ⟨Nat.zero_le _, Nat.zero_le _⟩ rfl (st := []) rfl (Nat.le_of_ble_eq_true rfl) dX12_goesOn_28 (fun r1 hw => ?_)
    refine wm_istore_n hC dX12_goesOn_31 (by decide) (L2 := [(3, vi r1), (2, vi x1), (1, vi ((I1 159 39) - 1)), (0, vr 159)]) rfl ?_
    refine wm_aload_n hC 3 dX12_goesOn_32 rfl (k_ne0 kk_159 (by decide)) ?_
    refine x_getR3 hC 35 fl_X12_118 rfl kk_159 (rf_159_35 hRF) dX12_goesOn_33 ?_
    refine wm_iload_n hC 2 dX12_goesOn_36 rfl ?_
    refine x_iald2 hC kk_179 kn_179 dX12_goesOn_37 hw (fun hw => ?_)
    refine wm_iconst hC dX12_goesOn_38 (k := ?_)
    refine wm_icmp_ge (tgt := 188) hC dX12_goesOn_39 (by decide) hw (fun hw => ?_) (fun hw => ?_)
    · refine wm_sub [3, 2, 1, 0] (L2 := [(0, vr 159), (1, vi ((I1 159 39) - 1)), (2, vi x1), (3, vi r1)]) rfl ?_
      exact w12_goesOn_b188 hC hRm hE hRF  hw
    · refine wm_aload_n hC 3 dX12_goesOn_42 rfl (k_ne0 kk_159 (by decide)) ?_
      refine wm_bipush hC dX12_goesOn_43 (k := ?_)
      refine y_callV_z_n hC hRm noS ml_X12_244 kk_159 (c12_isSign hRF  hw) (Nat.le_of_ble_eq_true rfl) (Nat.le_of_ble_eq_true rfl) ⟨Nat.zero_le _, Nat.zero_le _⟩ rfl (st := []) rfl (Nat.le_of_ble_eq_true rfl) dX12_goesOn_45 (fun r2 hw => ?_)
      refine wm_if_ne (tgt := 87) hC dX12_goesOn_48 (by decide) hw (fun hw => ?_) (fun hw => ?_)
      · refine wm_aload_n hC 3 dX12_goesOn_51 rfl (k_ne0 kk_159 (by decide)) ?_
        refine wm_bipush hC dX12_goesOn_52 (k := ?_)
        refine y_callV_z_n hC hRm noS ml_X12_244 kk_159 (c12_isSign hRF  hw) (Nat.le_of_ble_eq_true rfl) (Nat.le_of_ble_eq_true rfl) ⟨Nat.zero_le _, Nat.zero_le _⟩ rfl (st := []) rfl (Nat.le_of_ble_eq_true rfl) dX12_goesOn_54 (fun r3 hw => ?_)
        refine wm_if_ne (tgt := 87) hC dX12_goesOn_57 (by decide) hw (fun hw => ?_) (fun hw => ?_)
        · refine wm_aload_n hC 3 dX12_goesOn_60 rfl (k_ne0 kk_159 (by decide)) ?_
          refine wm_bipush hC dX12_goesOn_61 (k := ?_)
          refine y_callV_z_n hC hRm noS ml_X12_244 kk_159 (c12_isSign hRF  hw) (Nat.le_of_ble_eq_true rfl) (Nat.le_of_ble_eq_true rfl) ⟨Nat.zero_le _, Nat.zero_le _⟩ rfl (st := []) rfl (Nat.le_of_ble_eq_true rfl) dX12_goesOn_63 (fun r4 hw => ?_)
          refine wm_if_ne (tgt := 87) hC dX12_goesOn_66 (by decide) hw (fun hw => ?_) (fun hw => ?_)
          · refine wm_aload_n hC 3 dX12_goesOn_69 rfl (k_ne0 kk_159 (by decide)) ?_
            refine wm_bipush hC dX12_goesOn_70 (k := ?_)
            refine y_callV_z_n hC hRm noS ml_X12_244 kk_159 (c12_isSign hRF  hw) (Nat.le_of_ble_eq_true rfl) (Nat.le_of_ble_eq_true rfl) ⟨Nat.zero_le _, Nat.zero_le _⟩ rfl (st := []) rfl (Nat.le_of_ble_eq_true rfl) dX12_goesOn_72 (fun r5 hw => ?_)
            refine wm_if_ne (tgt := 87) hC dX12_goesOn_75 (by decide) hw (fun hw => ?_) (fun hw => ?_)
            · refine wm_aload_n hC 3 dX12_goesOn_78 rfl (k_ne0 kk_159 (by decide)) ?_
              refine wm_bipush hC dX12_goesOn_79 (k := ?_)
              refine y_callV_z_n hC hRm noS ml_X12_244 kk_159 (c12_isSign hRF  hw) (Nat.le_of_ble_eq_true rfl) (Nat.le_of_ble_eq_true rfl) ⟨Nat.zero_le _, Nat.zero_le _⟩ rfl (st := []) rfl (Nat.le_of_ble_eq_true rfl) dX12_goesOn_81 (fun r6 hw => ?_)
              refine wm_if_eq (tgt := 188) hC dX12_goesOn_84 (by decide) hw (fun hw => ?_) (fun hw => ?_)
              · refine wm_sub [3, 2, 1, 0] (L2 := [(0, vr 159), (1, vi ((I1 159 39) - 1)), (2, vi x1), (3, vi r1)]) rfl ?_
                exact w12_goesOn_b188 hC hRm hE hRF  hw
              · refine wm_sub [3] (L2 := [(0, vr 159)]) rfl ?_
                exact w12_goesOn_b87 hC hRm hE hRF  hw
            · refine wm_sub [3] (L2 := [(0, vr 159)]) rfl ?_
              exact w12_goesOn_b87 hC hRm hE hRF  hw
          · refine wm_sub [3] (L2 := [(0, vr 159)]) rfl ?_
            exact w12_goesOn_b87 hC hRm hE hRF  hw
        · refine wm_sub [3] (L2 := [(0, vr 159)]) rfl ?_
          exact w12_goesOn_b87 hC hRm hE hRF  hw
      · refine wm_sub [3] (L2 := [(0, vr 159)]) rfl ?_
        exact w12_goesOn_b87 hC hRm hE hRF  hw
  · refine wm_iconst hC dX12_goesOn_11 (k := ?_)
    exact wm_zreturn hC hE (Or.inl rfl) dX12_goesOn_12 ⟨rfl, hw⟩
