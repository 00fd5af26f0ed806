def P11_later (l0 : Nat) (l1 : Int) (l2 : Int) (I : mI) (J : mI) (R : mR) (Q : Int → mI → mI → mR → Prop) : Prop := (kK (R l0 12) = 3 ∧ (P3_isThere (R l0 12) 2 l1 I R (fun r1 => (if r1 = 0 then (Q (-1) I J R) else (P11_canPass l0 l2 I R (fun r2 => (if r2 = 0 then (Q (-1) I J R) else (P11_lookAhead l0 l2 I J R (fun I1 J1 R1 => (kK (R1 l0 3) = 7 ∧ (kK (R1 (R1 l0 3) 5) = 21 ∧ (((0 : Int) ≤ l1 ∧ l1 < (kN (R1 (R1 l0 3) 5) : Int)) ∧ (Q (I1 (R1 (R1 l0 3) 5) l1) I1 J1 R1)))))))))))))
set_option maxRecDepth 20000 in
theorem C11_later {ad : Nat → Nat} {n : Nat} {I J : mI} {R : mR} {Q : Int → mI → mI → mR → Prop}  {l0 : Nat} {l1 : Int} {l2 : Int} (hk0 : kK l0 = 11) (hw : P11_later l0 l1 l2 I J R Q) : wMet yX11_later cX11_later 3 (some .int) 8 190 false ad n I J R [vr l0, vi l1, vi l2] (fun r I' J' R' => (True) ∧ Q r I' J' R') := by
  refine wMet_of (by decide) (Nat.le_of_ble_eq_true rfl) (fun C hC hRm hE hS => ?_)
  refine (show WM C ad n I J R 0 0 0 [(0, vr l0), (1, vi l1), (2, vi l2)] [] from ?_)
  unfold P11_later at hw
  refine wm_aload_n hC 0 dX11_later_0 rfl (k_ne0 hk0 (by decide)) ?_
  refine x_getR2 hC 12 fl_X11_57 rfl hk0 dX11_later_1 hw (fun g1 hw => ?_)
  refine wm_iconst hC dX11_later_4 (k := ?_)
  refine wm_iload_n hC 1 dX11_later_5 rfl ?_
  refine y_callV_z_n hC hRm noS ml_X11_167 g1 (C3_isThere g1 hw) (Nat.le_of_ble_eq_true rfl) (Nat.le_of_ble_eq_true rfl) ⟨Nat.zero_le _, Nat.zero_le _⟩ rfl (st := []) rfl (Nat.le_of_ble_eq_true rfl) dX11_later_6 (fun r1 hw => ?_)
  refine wm_if_eq (tgt := 20) hC dX11_later_9 (by decide) hw (fun hw => ?_) (fun hw => ?_)
  · refine wm_iconst hC dX11_later_20 (k := ?_)
    exact wm_ireturn hC hE dX11_later_21 ⟨trivial, hw⟩
  · refine wm_aload_n hC 0 dX11_later_12 rfl (k_ne0 hk0 (by decide)) ?_
    refine wm_iload_n hC 2 dX11_later_13 rfl ?_
    refine y_callV_z_n hC hRm noS ml_X11_227 hk0 (C11_canPass hk0 hw) (Nat.le_of_ble_eq_true rfl) (Nat.le_of_ble_eq_true rfl) ⟨Nat.zero_le _, Nat.zero_le _⟩ rfl (st := []) rfl (Nat.le_of_ble_eq_true rfl) dX11_later_14 (fun r2 hw => ?_)
    refine wm_if_ne (tgt := 22) hC dX11_later_17 (by decide) hw (fun hw => ?_) (fun hw => ?_)
    · refine wm_iconst hC dX11_later_20 (k := ?_)
      exact wm_ireturn hC hE dX11_later_21 ⟨trivial, hw⟩
    · refine wm_aload_n hC 0 dX11_later_22 rfl (k_ne0 hk0 (by decide)) ?_
      refine wm_iload_n hC 2 dX11_later_23 rfl ?_
      refine y_callV_v_IJR hC hRm noS ml_X11_230 hk0 (C11_lookAhead hk0 hw) (Nat.le_of_ble_eq_true rfl) (Nat.le_of_ble_eq_true rfl) ⟨Nat.zero_le _, Nat.zero_le _⟩ rfl (st := []) rfl (Nat.le_of_ble_eq_true rfl) dX11_later_24 (fun I1 J1 R1 hw => ?_)
      refine wm_aload_n hC 0 dX11_later_27 rfl (k_ne0 hk0 (by decide)) ?_
      refine x_getR2 hC 3 fl_X11_30 rfl hk0 dX11_later_28 hw (fun g2 hw => ?_)
      refine x_getR2 hC 5 fl_X11_157 rfl g2 dX11_later_31 hw (fun g3 hw => ?_)
      refine wm_iload_n hC 1 dX11_later_34 rfl ?_
      refine x_iald hC g3 dX11_later_35 hw (fun hw => ?_)
      exact wm_ireturn hC hE dX11_later_36 ⟨trivial, hw⟩
def P11_mood (l0 : Nat) (l1 : Int) (l2 : Int) (I : mI) (J : mI) (R : mR) (Q : Int → mI → mI → mR → Prop) : Prop := (kK (R l0 12) = 3 ∧ (P3_isThere (R l0 12) 0 l1 I R (fun r1 => (if r1 = 0 then (Q (-1) I J R) else (P11_canPass l0 l2 I R (fun r2 => (if r2 = 0 then (Q (-1) I J R) else (P11_lookAhead l0 l2 I J R (fun I1 J1 R1 => (kK (R1 l0 3) = 7 ∧ (kK (R1 (R1 l0 3) 4) = 21 ∧ (((0 : Int) ≤ l1 ∧ l1 < (kN (R1 (R1 l0 3) 4) : Int)) ∧ (Q (I1 (R1 (R1 l0 3) 4) l1) I1 J1 R1)))))))))))))
set_option maxRecDepth 20000 in
theorem C11_mood {ad : Nat → Nat} {n : Nat} {I J : mI} {R : mR} {Q : Int → mI → mI → mR → Prop}  {l0 : Nat} {l1 : Int} {l2 : Int} (hk0 : kK l0 = 11) (hw : P11_mood l0 l1 l2 I J R Q) : wMet yX11_mood cX11_mood 3 (some .int) 8 190 false ad n I J R [vr l0, vi l1, vi l2] (fun r I' J' R' => (True) ∧ Q r I' J' R') := by
  refine wMet_of (by decide) (Nat.le_of_ble_eq_true rfl) (fun C hC hRm hE hS => ?_)
  refine (show WM C ad n I J R 0 0 0 [(0, vr l0), (1, vi l1), (2, vi l2)] [] from ?_)
  unfold P11_mood at hw
  refine wm_aload_n hC 0 dX11_mood_0 rfl (k_ne0 hk0 (by decide)) ?_
  refine x_getR2 hC 12 fl_X11_57 rfl hk0 dX11_mood_1 hw (fun g1 hw => ?_)
  refine wm_iconst hC dX11_mood_4 (k := ?_)
  refine wm_iload_n hC 1 dX11_mood_5 rfl ?_
  refine y_callV_z_n hC hRm noS ml_X11_167 g1 (C3_isThere g1 hw) (Nat.le_of_ble_eq_true rfl) (Nat.le_of_ble_eq_true rfl) ⟨Nat.zero_le _, Nat.zero_le _⟩ rfl (st := []) rfl (Nat.le_of_ble_eq_true rfl) dX11_mood_6 (fun r1 hw => ?_)
  refine wm_if_eq (tgt := 20) hC dX11_mood_9 (by decide) hw (fun hw => ?_) (fun hw => ?_)
  · refine wm_iconst hC dX11_mood_20 (k := ?_)
    exact wm_ireturn hC hE dX11_mood_21 ⟨trivial, hw⟩
  · refine wm_aload_n hC 0 dX11_mood_12 rfl (k_ne0 hk0 (by decide)) ?_
    refine wm_iload_n hC 2 dX11_mood_13 rfl ?_
    refine y_callV_z_n hC hRm noS ml_X11_227 hk0 (C11_canPass hk0 hw) (Nat.le_of_ble_eq_true rfl) (Nat.le_of_ble_eq_true rfl) ⟨Nat.zero_le _, Nat.zero_le _⟩ rfl (st := []) rfl (Nat.le_of_ble_eq_true rfl) dX11_mood_14 (fun r2 hw => ?_)
    refine wm_if_ne (tgt := 22) hC dX11_mood_17 (by decide) hw (fun hw => ?_) (fun hw => ?_)
    · refine wm_iconst hC dX11_mood_20 (k := ?_)
      exact wm_ireturn hC hE dX11_mood_21 ⟨trivial, hw⟩
    · refine wm_aload_n hC 0 dX11_mood_22 rfl (k_ne0 hk0 (by decide)) ?_
      refine wm_iload_n hC 2 dX11_mood_23 rfl ?_
      refine y_callV_v_IJR hC hRm noS ml_X11_230 hk0 (C11_lookAhead hk0 hw) (Nat.le_of_ble_eq_true rfl) (Nat.le_of_ble_eq_true rfl) ⟨Nat.zero_le _, Nat.zero_le _⟩ rfl (st := []) rfl (Nat.le_of_ble_eq_true rfl) dX11_mood_24 (fun I1 J1 R1 hw => ?_)
      refine wm_aload_n hC 0 dX11_mood_27 rfl (k_ne0 hk0 (by decide)) ?_
      refine x_getR2 hC 3 fl_X11_30 rfl hk0 dX11_mood_28 hw (fun g2 hw => ?_)
      refine x_getR2 hC 4 fl_X11_181 rfl g2 dX11_mood_31 hw (fun g3 hw => ?_)
      refine wm_iload_n hC 1 dX11_mood_34 rfl ?_
      refine x_iald hC g3 dX11_mood_35 hw (fun hw => ?_)
      exact wm_ireturn hC hE dX11_mood_36 ⟨trivial, hw⟩
def P11_purse (l0 : Nat) (l1 : Int) (I : mI) (J : mI) (R : mR) (Q : Int → mI → mI → mR → Prop) : Prop := (P11_canPass l0 l1 I R (fun r1 => (if r1 = 0 then (Q (-1) I J R) else (P11_lookAhead l0 l1 I J R (fun I1 J1 R1 => (kK (R1 l0 3) = 7 ∧ (Q (I1 (R1 l0 3) 1) I1 J1 R1)))))))
set_option maxRecDepth 20000 in
theorem C11_purse {ad : Nat → Nat} {n : Nat} {I J : mI} {R : mR} {Q : Int → mI → mI → mR → Prop}  {l0 : Nat} {l1 : Int} (hk0 : kK l0 = 11) (hw : P11_purse l0 l1 I J R Q) : wMet yX11_purse cX11_purse 2 (some .int) 8 190 false ad n I J R [vr l0, vi l1] (fun r I' J' R' => (True) ∧ Q r I' J' R') := by
  refine wMet_of (by decide) (Nat.le_of_ble_eq_true rfl) (fun C hC hRm hE hS => ?_)
  refine (show WM C ad n I J R 0 0 0 [(0, vr l0), (1, vi l1)] [] from ?_)
  unfold P11_purse at hw
  refine wm_aload_n hC 0 dX11_purse_0 rfl (k_ne0 hk0 (by decide)) ?_
  refine wm_iload_n hC 1 dX11_purse_1 rfl ?_
  refine y_callV_z_n hC hRm noS ml_X11_227 hk0 (C11_canPass hk0 hw) (Nat.le_of_ble_eq_true rfl) (Nat.le_of_ble_eq_true rfl) ⟨Nat.zero_le _, Nat.zero_le _⟩ rfl (st := []) rfl (Nat.le_of_ble_eq_true rfl) dX11_purse_2 (fun r1 hw => ?_)
  refine wm_if_ne (tgt := 10) hC dX11_purse_5 (by decide) hw (fun hw => ?_) (fun hw => ?_)
  · refine wm_iconst hC dX11_purse_8 (k := ?_)
    exact wm_ireturn hC hE dX11_purse_9 ⟨trivial, hw⟩
  · refine wm_aload_n hC 0 dX11_purse_10 rfl (k_ne0 hk0 (by decide)) ?_
    refine wm_iload_n hC 1 dX11_purse_11 rfl ?_
    refine y_callV_v_IJR hC hRm noS ml_X11_230 hk0 (C11_lookAhead hk0 hw) (Nat.le_of_ble_eq_true rfl) (Nat.le_of_ble_eq_true rfl) ⟨Nat.zero_le _, Nat.zero_le _⟩ rfl (st := []) rfl (Nat.le_of_ble_eq_true rfl) dX11_purse_12 (fun I1 J1 R1 hw => ?_)
    refine wm_aload_n hC 0 dX11_purse_15 rfl (k_ne0 hk0 (by decide)) ?_
    refine x_getR2 hC 3 fl_X11_30 rfl hk0 dX11_purse_16 hw (fun g1 hw => ?_)
    refine x_getI hC 1 fl_X11_150 rfl g1 dX11_purse_19 ?_
    exact wm_ireturn hC hE dX11_purse_22 ⟨trivial, hw⟩
def P11_order (l0 : Nat) (l1 : Int) (l2 : Int) (l3 : Int) (I : mI) (J : mI) (R : mR) (Q : Int → mI → mI → mR → Prop) : Prop := (kK (R l0 12) = 3 ∧ (P3_isThere (R l0 12) 2 l1 I R (fun r1 => (if r1 = 0 then (Q (-1) I J R) else (kK (R l0 12) = 3 ∧ (P3_isThere (R l0 12) 1 l2 I R (fun r2 => (if r2 = 0 then (Q (-1) I J R) else (kK (R l0 12) = 3 ∧ (P3_isThere (R l0 12) 0 l3 I R (fun r3 => (if r3 = 0 then (Q (-1) I J R) else (kK (R l0 9) = 1 ∧ (kK (R l0 12) = 3 ∧ (kK (R l0 2) = 7 ∧ (P1_sit (R l0 9) (R l0 12) (R l0 2) l1 I J R (fun I1 J1 R1 => (kK (R1 l0 9) = 1 ∧ (kK (R1 l0 6) = 21 ∧ (P1_firstOrder (R1 l0 9) (R1 l0 6) l2 I1 J1 R1 (fun r4 I2 J2 => (if r4 = 0 then (Q (-1) I2 J2 R1) else (kK (R1 l0 6) = 21 ∧ (((0 : Int) ≤ l3 ∧ l3 < (kN (R1 l0 6) : Int)) ∧ (Q (I2 (R1 l0 6) l3) I2 J2 R1)))))))))))))))))))))))))
set_option maxRecDepth 20000 in
theorem C11_order {ad : Nat → Nat} {n : Nat} {I J : mI} {R : mR} {Q : Int → mI → mI → mR → Prop}  {l0 : Nat} {l1 : Int} {l2 : Int} {l3 : Int} (hk0 : kK l0 = 11) (hw : P11_order l0 l1 l2 l3 I J R Q) : wMet yX11_order cX11_order 4 (some .int) 7 163 false ad n I J R [vr l0, vi l1, vi l2, vi l3] (fun r I' J' R' => (True) ∧ Q r I' J' R') := by
  refine wMet_of (by decide) (Nat.le_of_ble_eq_true rfl) (fun C hC hRm hE hS => ?_)
  refine (show WM C ad n I J R 0 0 0 [(0, vr l0), (1, vi l1), (2, vi l2), (3, vi l3)] [] from ?_)
  unfold P11_order at hw
  refine wm_aload_n hC 0 dX11_order_0 rfl (k_ne0 hk0 (by decide)) ?_
  refine x_getR2 hC 12 fl_X11_57 rfl hk0 dX11_order_1 hw (fun g1 hw => ?_)
  refine wm_iconst hC dX11_order_4 (k := ?_)
  refine wm_iload_n hC 1 dX11_order_5 rfl ?_
  refine y_callV_z_n hC hRm noS ml_X11_167 g1 (C3_isThere g1 hw) (Nat.le_of_ble_eq_true rfl) (Nat.le_of_ble_eq_true rfl) ⟨Nat.zero_le _, Nat.zero_le _⟩ rfl (st := []) rfl (Nat.le_of_ble_eq_true rfl) dX11_order_6 (fun r1 hw => ?_)
  refine wm_if_eq (tgt := 36) hC dX11_order_9 (by decide) hw (fun hw => ?_) (fun hw => ?_)
  · refine wm_iconst hC dX11_order_36 (k := ?_)
    exact wm_ireturn hC hE dX11_order_37 ⟨trivial, hw⟩
  · refine wm_aload_n hC 0 dX11_order_12 rfl (k_ne0 hk0 (by decide)) ?_
    refine x_getR2 hC 12 fl_X11_57 rfl hk0 dX11_order_13 hw (fun g2 hw => ?_)
    refine wm_iconst hC dX11_order_16 (k := ?_)
    refine wm_iload_n hC 2 dX11_order_17 rfl ?_
    refine y_callV_z_n hC hRm noS ml_X11_167 g2 (C3_isThere g2 hw) (Nat.le_of_ble_eq_true rfl) (Nat.le_of_ble_eq_true rfl) ⟨Nat.zero_le _, Nat.zero_le _⟩ rfl (st := []) rfl (Nat.le_of_ble_eq_true rfl) dX11_order_18 (fun r2 hw => ?_)
    refine wm_if_eq (tgt := 36) hC dX11_order_21 (by decide) hw (fun hw => ?_) (fun hw => ?_)
    · refine wm_iconst hC dX11_order_36 (k := ?_)
      exact wm_ireturn hC hE dX11_order_37 ⟨trivial, hw⟩
    · refine wm_aload_n hC 0 dX11_order_24 rfl (k_ne0 hk0 (by decide)) ?_
      refine x_getR2 hC 12 fl_X11_57 rfl hk0 dX11_order_25 hw (fun g3 hw => ?_)
      refine wm_iconst hC dX11_order_28 (k := ?_)
      refine wm_iload_n hC 3 dX11_order_29 rfl ?_
      refine y_callV_z_n hC hRm noS ml_X11_167 g3 (C3_isThere g3 hw) (Nat.le_of_ble_eq_true rfl) (Nat.le_of_ble_eq_true rfl) ⟨Nat.zero_le _, Nat.zero_le _⟩ rfl (st := []) rfl (Nat.le_of_ble_eq_true rfl) dX11_order_30 (fun r3 hw => ?_)
      refine wm_if_ne (tgt := 38) hC dX11_order_33 (by decide) hw (fun hw => ?_) (fun hw => ?_)
      · refine wm_iconst hC dX11_order_36 (k := ?_)
        exact wm_ireturn hC hE dX11_order_37 ⟨trivial, hw⟩
      · refine wm_aload_n hC 0 dX11_order_38 rfl (k_ne0 hk0 (by decide)) ?_
        refine x_getR2 hC 9 fl_X11_88 rfl hk0 dX11_order_39 hw (fun g4 hw => ?_)
        refine wm_aload_n hC 0 dX11_order_42 rfl (k_ne0 hk0 (by decide)) ?_
        refine x_getR2 hC 12 fl_X11_57 rfl hk0 dX11_order_43 hw (fun g5 hw => ?_)
        refine wm_aload_n hC 0 dX11_order_46 rfl (k_ne0 hk0 (by decide)) ?_
        refine x_getR2 hC 2 fl_X11_26 rfl hk0 dX11_order_47 hw (fun g6 hw => ?_)
        refine wm_iload_n hC 1 dX11_order_50 rfl ?_
        refine y_callV_v_IJR hC hRm noS ml_X11_187 g4 (C1_sit g4 g5 g6 hw) (Nat.le_of_ble_eq_true rfl) (Nat.le_of_ble_eq_true rfl) ⟨Nat.zero_le _, Nat.zero_le _⟩ rfl (st := []) rfl (Nat.le_of_ble_eq_true rfl) dX11_order_51 (fun I1 J1 R1 hw => ?_)
        refine wm_aload_n hC 0 dX11_order_54 rfl (k_ne0 hk0 (by decide)) ?_
        refine x_getR2 hC 9 fl_X11_88 rfl hk0 dX11_order_55 hw (fun g7 hw => ?_)
        refine wm_aload_n hC 0 dX11_order_58 rfl (k_ne0 hk0 (by decide)) ?_
        refine x_getR2 hC 6 fl_X11_47 rfl hk0 dX11_order_59 hw (fun g8 hw => ?_)
        refine wm_iload_n hC 2 dX11_order_62 rfl ?_
        refine y_callV_z_IJ hC hRm noS ml_X11_233 g7 (C1_firstOrder g7 g8 hw) (Nat.le_of_ble_eq_true rfl) (Nat.le_of_ble_eq_true rfl) ⟨Nat.zero_le _, Nat.zero_le _⟩ rfl (st := []) rfl (Nat.le_of_ble_eq_true rfl) dX11_order_63 (fun r4 I2 J2 hw => ?_)
        refine wm_if_eq (tgt := 78) hC dX11_order_66 (by decide) hw (fun hw => ?_) (fun hw => ?_)
        · refine wm_iconst hC dX11_order_78 (k := ?_)
          exact wm_ireturn hC hE dX11_order_79 ⟨trivial, hw⟩
        · refine wm_aload_n hC 0 dX11_order_69 rfl (k_ne0 hk0 (by decide)) ?_
          refine x_getR2 hC 6 fl_X11_47 rfl hk0 dX11_order_70 hw (fun g9 hw => ?_)
          refine wm_iload_n hC 3 dX11_order_73 rfl ?_
          refine x_iald hC g9 dX11_order_74 hw (fun hw => ?_)
          refine wm_goto (tgt := 79) hC dX11_order_75 (by decide) ?_
          exact wm_ireturn hC hE dX11_order_79 ⟨trivial, hw⟩
def P11_orders (l0 : Nat) (l1 : Int) (l2 : Int) (I : mI) (J : mI) (R : mR) (Q : Int → mI → mI → mR → Prop) : Prop := (kK (R l0 12) = 3 ∧ (P3_isThere (R l0 12) 2 l1 I R (fun r1 => (if r1 = 0 then (Q (-1) I J R) else (kK (R l0 12) = 3 ∧ (P3_isThere (R l0 12) 1 l2 I R (fun r2 => (if r2 = 0 then (Q (-1) I J R) else (kK (R l0 9) = 1 ∧ (kK (R l0 12) = 3 ∧ (kK (R l0 2) = 7 ∧ (P1_sit (R l0 9) (R l0 12) (R l0 2) l1 I J R (fun I1 J1 R1 => (kK (R1 l0 9) = 1 ∧ (kK (R1 l0 6) = 21 ∧ (P1_countOrders (R1 l0 9) (R1 l0 6) l2 I1 J1 R1 (fun r3 I2 J2 => (Q r3 I2 J2 R1))))))))))))))))))
set_option maxRecDepth 20000 in
theorem C11_orders {ad : Nat → Nat} {n : Nat} {I J : mI} {R : mR} {Q : Int → mI → mI → mR → Prop}  {l0 : Nat} {l1 : Int} {l2 : Int} (hk0 : kK l0 = 11) (hw : P11_orders l0 l1 l2 I J R Q) : wMet yX11_orders cX11_orders 3 (some .int) 7 164 false ad n I J R [vr l0, vi l1, vi l2] (fun r I' J' R' => (True) ∧ Q r I' J' R') := by
  refine wMet_of (by decide) (Nat.le_of_ble_eq_true rfl) (fun C hC hRm hE hS => ?_)
  refine (show WM C ad n I J R 0 0 0 [(0, vr l0), (1, vi l1), (2, vi l2)] [] from ?_)
  unfold P11_orders at hw
  refine wm_aload_n hC 0 dX11_orders_0 rfl (k_ne0 hk0 (by decide)) ?_
  refine x_getR2 hC 12 fl_X11_57 rfl hk0 dX11_orders_1 hw (fun g1 hw => ?_)
  refine wm_iconst hC dX11_orders_4 (k := ?_)
  refine wm_iload_n hC 1 dX11_orders_5 rfl ?_
  refine y_callV_z_n hC hRm noS ml_X11_167 g1 (C3_isThere g1 hw) (Nat.le_of_ble_eq_true rfl) (Nat.le_of_ble_eq_true rfl) ⟨Nat.zero_le _, Nat.zero_le _⟩ rfl (st := []) rfl (Nat.le_of_ble_eq_true rfl) dX11_orders_6 (fun r1 hw => ?_)
  refine wm_if_eq (tgt := 24) hC dX11_orders_9 (by decide) hw (fun hw => ?_) (fun hw => ?_)
  · refine wm_iconst hC dX11_orders_24 (k := ?_)
    exact wm_ireturn hC hE dX11_orders_25 ⟨trivial, hw⟩
  · refine wm_aload_n hC 0 dX11_orders_12 rfl (k_ne0 hk0 (by decide)) ?_
    refine x_getR2 hC 12 fl_X11_57 rfl hk0 dX11_orders_13 hw (fun g2 hw => ?_)
    refine wm_iconst hC dX11_orders_16 (k := ?_)
    refine wm_iload_n hC 2 dX11_orders_17 rfl ?_
    refine y_callV_z_n hC hRm noS ml_X11_167 g2 (C3_isThere g2 hw) (Nat.le_of_ble_eq_true rfl) (Nat.le_of_ble_eq_true rfl) ⟨Nat.zero_le _, Nat.zero_le _⟩ rfl (st := []) rfl (Nat.le_of_ble_eq_true rfl) dX11_orders_18 (fun r2 hw => ?_)
    refine wm_if_ne (tgt := 26) hC dX11_orders_21 (by decide) hw (fun hw => ?_) (fun hw => ?_)
    · refine wm_iconst hC dX11_orders_24 (k := ?_)
      exact wm_ireturn hC hE dX11_orders_25 ⟨trivial, hw⟩
    · refine wm_aload_n hC 0 dX11_orders_26 rfl (k_ne0 hk0 (by decide)) ?_
      refine x_getR2 hC 9 fl_X11_88 rfl hk0 dX11_orders_27 hw (fun g3 hw => ?_)
      refine wm_aload_n hC 0 dX11_orders_30 rfl (k_ne0 hk0 (by decide)) ?_
      refine x_getR2 hC 12 fl_X11_57 rfl hk0 dX11_orders_31 hw (fun g4 hw => ?_)
      refine wm_aload_n hC 0 dX11_orders_34 rfl (k_ne0 hk0 (by decide)) ?_
      refine x_getR2 hC 2 fl_X11_26 rfl hk0 dX11_orders_35 hw (fun g5 hw => ?_)
      refine wm_iload_n hC 1 dX11_orders_38 rfl ?_
      refine y_callV_v_IJR hC hRm noS ml_X11_187 g3 (C1_sit g3 g4 g5 hw) (Nat.le_of_ble_eq_true rfl) (Nat.le_of_ble_eq_true rfl) ⟨Nat.zero_le _, Nat.zero_le _⟩ rfl (st := []) rfl (Nat.le_of_ble_eq_true rfl) dX11_orders_39 (fun I1 J1 R1 hw => ?_)
      refine wm_aload_n hC 0 dX11_orders_42 rfl (k_ne0 hk0 (by decide)) ?_
      refine x_getR2 hC 9 fl_X11_88 rfl hk0 dX11_orders_43 hw (fun g6 hw => ?_)
      refine wm_aload_n hC 0 dX11_orders_46 rfl (k_ne0 hk0 (by decide)) ?_
      refine x_getR2 hC 6 fl_X11_47 rfl hk0 dX11_orders_47 hw (fun g7 hw => ?_)
      refine wm_iload_n hC 2 dX11_orders_50 rfl ?_
      refine y_callV_i_IJ hC hRm noS ml_X11_237 g6 (C1_countOrders g6 g7 hw) (Nat.le_of_ble_eq_true rfl) (Nat.le_of_ble_eq_true rfl) ⟨Nat.zero_le _, Nat.zero_le _⟩ rfl (st := []) rfl (Nat.le_of_ble_eq_true rfl) dX11_orders_51 (fun r3 I2 J2 hw => ?_)
      exact wm_ireturn hC hE dX11_orders_54 ⟨trivial, hw⟩
def P11_power (l0 : Nat) (l1 : Int) (l2 : Int) (I : mI) (J : mI) (R : mR) (Q : Int → mI → mI → mR → Prop) : Prop := (P11_areThere l0 l1 l2 I R (fun r1 => (if r1 = 0 then (Q (-1) I J R) else (kK (R l0 9) = 1 ∧ (kK (R l0 12) = 3 ∧ (kK (R l0 2) = 7 ∧ (P1_sit (R l0 9) (R l0 12) (R l0 2) l2 I J R (fun I1 J1 R1 => (kK (R1 l0 9) = 1 ∧ (P1_powerOf (R1 l0 9) l1 I1 J1 R1 (fun r2 I2 J2 => (Q r2 I2 J2 R1))))))))))))
set_option maxRecDepth 20000 in
theorem C11_power {ad : Nat → Nat} {n : Nat} {I J : mI} {R : mR} {Q : Int → mI → mI → mR → Prop}  {l0 : Nat} {l1 : Int} {l2 : Int} (hk0 : kK l0 = 11) (hw : P11_power l0 l1 l2 I J R Q) : wMet yX11_power cX11_power 3 (some .int) 7 162 false ad n I J R [vr l0, vi l1, vi l2] (fun r I' J' R' => (True) ∧ Q r I' J' R') := by
  refine wMet_of (by decide) (Nat.le_of_ble_eq_true rfl) (fun C hC hRm hE hS => ?_)
  refine (show WM C ad n I J R 0 0 0 [(0, vr l0), (1, vi l1), (2, vi l2)] [] from ?_)
  unfold P11_power at hw
  refine wm_aload_n hC 0 dX11_power_0 rfl (k_ne0 hk0 (by decide)) ?_
  refine wm_iload_n hC 1 dX11_power_1 rfl ?_
  refine wm_iload_n hC 2 dX11_power_2 rfl ?_
  refine y_callV_z_n hC hRm noS ml_X11_202 hk0 (C11_areThere hk0 hw) (Nat.le_of_ble_eq_true rfl) (Nat.le_of_ble_eq_true rfl) ⟨Nat.zero_le _, Nat.zero_le _⟩ rfl (st := []) rfl (Nat.le_of_ble_eq_true rfl) dX11_power_3 (fun r1 hw => ?_)
  refine wm_if_ne (tgt := 11) hC dX11_power_6 (by decide) hw (fun hw => ?_) (fun hw => ?_)
  · refine wm_iconst hC dX11_power_9 (k := ?_)
    exact wm_ireturn hC hE dX11_power_10 ⟨trivial, hw⟩
  · refine wm_aload_n hC 0 dX11_power_11 rfl (k_ne0 hk0 (by decide)) ?_
    refine x_getR2 hC 9 fl_X11_88 rfl hk0 dX11_power_12 hw (fun g1 hw => ?_)
    refine wm_aload_n hC 0 dX11_power_15 rfl (k_ne0 hk0 (by decide)) ?_
    refine x_getR2 hC 12 fl_X11_57 rfl hk0 dX11_power_16 hw (fun g2 hw => ?_)
    refine wm_aload_n hC 0 dX11_power_19 rfl (k_ne0 hk0 (by decide)) ?_
    refine x_getR2 hC 2 fl_X11_26 rfl hk0 dX11_power_20 hw (fun g3 hw => ?_)
    refine wm_iload_n hC 2 dX11_power_23 rfl ?_
    refine y_callV_v_IJR hC hRm noS ml_X11_187 g1 (C1_sit g1 g2 g3 hw) (Nat.le_of_ble_eq_true rfl) (Nat.le_of_ble_eq_true rfl) ⟨Nat.zero_le _, Nat.zero_le _⟩ rfl (st := []) rfl (Nat.le_of_ble_eq_true rfl) dX11_power_24 (fun I1 J1 R1 hw => ?_)
    refine wm_aload_n hC 0 dX11_power_27 rfl (k_ne0 hk0 (by decide)) ?_
    refine x_getR2 hC 9 fl_X11_88 rfl hk0 dX11_power_28 hw (fun g4 hw => ?_)
    refine wm_iload_n hC 1 dX11_power_31 rfl ?_
    refine y_callV_i_IJ hC hRm noS ml_X11_240 g4 (C1_powerOf g4 hw) (Nat.le_of_ble_eq_true rfl) (Nat.le_of_ble_eq_true rfl) ⟨Nat.zero_le _, Nat.zero_le _⟩ rfl (st := []) rfl (Nat.le_of_ble_eq_true rfl) dX11_power_32 (fun r2 I2 J2 hw => ?_)
    exact wm_ireturn hC hE dX11_power_35 ⟨trivial, hw⟩
def P11_clear (l0 : Nat) (I : mI) (R : mR) (Q : Int → mI → Prop) : Prop := (kK (R l0 12) = 3 ∧ (kK (R l0 2) = 7 ∧ (kK (R (R l0 2) 5) = 21 ∧ (kK (R l0 6) = 21 ∧ (P3_fewestToClear (R l0 12) (R (R l0 2) 5) (R l0 6) I R (fun r1 I1 => (Q r1 I1)))))))
set_option maxRecDepth 20000 in
theorem C11_clear {ad : Nat → Nat} {n : Nat} {I J : mI} {R : mR} {Q : Int → mI → Prop}  {l0 : Nat} (hk0 : kK l0 = 11) (hw : P11_clear l0 I R Q) : wMet yX11_clear cX11_clear 1 (some .int) 16 550 false ad n I J R [vr l0] (fun r I' J' R' => (J' = J ∧ R' = R) ∧ Q r I') := by
  refine wMet_of (by decide) (Nat.le_of_ble_eq_true rfl) (fun C hC hRm hE hS => ?_)
  refine (show WM C ad n I J R 0 0 0 [(0, vr l0)] [] from ?_)
  unfold P11_clear at hw
  refine wm_aload_n hC 0 dX11_clear_0 rfl (k_ne0 hk0 (by decide)) ?_
  refine x_getR2 hC 12 fl_X11_57 rfl hk0 dX11_clear_1 hw (fun g1 hw => ?_)
  refine wm_aload_n hC 0 dX11_clear_4 rfl (k_ne0 hk0 (by decide)) ?_
  refine x_getR2 hC 2 fl_X11_26 rfl hk0 dX11_clear_5 hw (fun g2 hw => ?_)
  refine x_getR2 hC 5 fl_X11_157 rfl g2 dX11_clear_8 hw (fun g3 hw => ?_)
  refine wm_aload_n hC 0 dX11_clear_11 rfl (k_ne0 hk0 (by decide)) ?_
  refine x_getR2 hC 6 fl_X11_47 rfl hk0 dX11_clear_12 hw (fun g4 hw => ?_)
  refine y_callV_i_I hC hRm noS ml_X11_243 g1 (C3_fewestToClear g1 g3 g4 hw) (Nat.le_of_ble_eq_true rfl) (Nat.le_of_ble_eq_true rfl) ⟨Nat.zero_le _, Nat.zero_le _⟩ rfl (st := []) rfl (Nat.le_of_ble_eq_true rfl) dX11_clear_15 (fun r1 I1 hw => ?_)
  exact wm_ireturn hC hE dX11_clear_18 ⟨⟨rfl, rfl⟩, hw⟩
def P11_odds_b19 (l0 : Nat) (l1 : Int) (I : mI) (J : mI) (R : mR) (Q : Int → mI → mI → mR → Prop) : Prop := (kK (R l0 12) = 3 ∧ (kK (R (R l0 12) 0) = 21 ∧ (((0 : Int) ≤ (0 : Int) ∧ (0 : Int) < (kN (R (R l0 12) 0) : Int)) ∧ (wLet (I (R (R l0 12) 0) (0 : Int)) (fun x1 => (kK (R l0 12) = 3 ∧ (kK (R (R l0 12) 0) = 21 ∧ (((0 : Int) ≤ (2 : Int) ∧ (2 : Int) < (kN (R (R l0 12) 0) : Int)) ∧ (wLet (I (R (R l0 12) 0) (2 : Int)) (fun x2 => (if x1 = 0 then (Q (-1) I J R) else (if x2 = 0 then (Q (-1) I J R) else (kK (R l0 2) = 7 ∧ (if (I (R l0 2) 0) < 999 then (if l1 = (-1) then (rg (100 * x1) ∧ (Q (100 * x1) I J R)) else (kK (R l0 9) = 1 ∧ (kK (R l0 12) = 3 ∧ (kK (R l0 2) = 7 ∧ (kK (R l0 2) = 7 ∧ (x2 ≠ 0 ∧ (P1_sit (R l0 9) (R l0 12) (R l0 2) (Int.tmod (I (R l0 2) 0) x2) I J R (fun I1 J1 R1 => (kK (R1 l0 9) = 1 ∧ (P1_oddsOf (R1 l0 9) l1 I1 J1 R1 (fun r2 I2 J2 => (Q r2 I2 J2 R1)))))))))))) else (Q (-1) I J R)))))))))))))))
set_option maxRecDepth 20000 in
theorem W11_odds_b19 {C : wX} {ad : Nat → Nat} {n : Nat} {I J : mI} {R : mR} {Q : Int → mI → mI → mR → Prop} (hC : wOK C cX11_odds 4 RX11) (hRm : wRm C 7 164 0 0) (hE : wEnd C (some .int) ad n (fun r I' J' R' => (True) ∧ Q r I' J' R')) {l0 : Nat} {l1 : Int}   (hk0 : kK l0 = 11)  (hw : P11_odds_b19 l0 l1 I J R Q) : WM C ad n I J R 0 0 19 [(0, vr l0), (1, vi l1)] [] := by
  unfold P11_odds_b19 at hw
  refine wm_aload_n hC 0 dX11_odds_19 rfl (k_ne0 hk0 (by decide)) ?_
  refine x_getR2 hC 12 fl_X11_57 rfl hk0 dX11_odds_20 hw (fun g2 hw => ?_)
  refine x_getR2 hC 0 fl_X11_145 rfl g2 dX11_odds_23 hw (fun g3 hw => ?_)
  refine wm_iconst hC dX11_odds_26 (k := ?_)
  refine x_iald hC g3 dX11_odds_27 hw (fun hw => ?_)
  refine x_nameI hw (fun x1 hw => ?_)
  refine wm_istore_n hC dX11_odds_28 (by decide) (L2 := [(2, vi x1), (0, vr l0), (1, vi l1)]) rfl ?_
  refine wm_aload_n hC 1 dX11_odds_29 rfl (k_ne0 hk0 (by decide)) ?_
  refine x_getR2 hC 12 fl_X11_57 rfl hk0 dX11_odds_30 hw (fun g4 hw => ?_)
  refine x_getR2 hC 0 fl_X11_145 rfl g4 dX11_odds_33 hw (fun g5 hw => ?_)
  refine wm_iconst hC dX11_odds_36 (k := ?_)
  refine x_iald hC g5 dX11_odds_37 hw (fun hw => ?_)
  refine x_nameI hw (fun x2 hw => ?_)
  refine wm_istore_n hC dX11_odds_38 (by decide) (L2 := [(3, vi x2), (2, vi x1), (0, vr l0), (1, vi l1)]) rfl ?_
  refine wm_iload_n hC 1 dX11_odds_39 rfl ?_
  refine wm_if_eq (tgt := 60) hC dX11_odds_40 (by decide) hw (fun hw => ?_) (fun hw => ?_)
  · refine wm_iconst hC dX11_odds_60 (k := ?_)
    exact wm_ireturn hC hE dX11_odds_61 ⟨trivial, hw⟩
  · refine wm_iload_n hC 0 dX11_odds_43 rfl ?_
    refine wm_if_eq (tgt := 60) hC dX11_odds_44 (by decide) hw (fun hw => ?_) (fun hw => ?_)
    · refine wm_iconst hC dX11_odds_60 (k := ?_)
      exact wm_ireturn hC hE dX11_odds_61 ⟨trivial, hw⟩
    · refine wm_aload_n hC 2 dX11_odds_47 rfl (k_ne0 hk0 (by decide)) ?_
      refine x_getR2 hC 2 fl_X11_26 rfl hk0 dX11_odds_48 hw (fun g6 hw => ?_)
      refine x_getI hC 0 fl_X11_147 rfl g6 dX11_odds_51 ?_
      refine wm_sipush hC dX11_odds_54 (k := ?_)
      refine wm_icmp_lt (tgt := 62) hC dX11_odds_57 (by decide) hw (fun hw => ?_) (fun hw => ?_)
      · refine wm_iload_n hC 3 dX11_odds_62 rfl ?_
        refine wm_iconst hC dX11_odds_63 (k := ?_)
        refine wm_icmp_ne (tgt := 72) hC dX11_odds_64 (by decide) hw (fun hw => ?_) (fun hw => ?_)
        · refine wm_bipush hC dX11_odds_67 (k := ?_)
          refine wm_iload_n hC 1 dX11_odds_69 rfl ?_
          refine x_imul hC dX11_odds_70 hw (fun hw => ?_)
          exact wm_ireturn hC hE dX11_odds_71 ⟨trivial, hw⟩
        · refine wm_aload_n hC 2 dX11_odds_72 rfl (k_ne0 hk0 (by decide)) ?_
          refine x_getR2 hC 9 fl_X11_88 rfl hk0 dX11_odds_73 hw (fun g7 hw => ?_)
          refine wm_aload_n hC 2 dX11_odds_76 rfl (k_ne0 hk0 (by decide)) ?_
          refine x_getR2 hC 12 fl_X11_57 rfl hk0 dX11_odds_77 hw (fun g8 hw => ?_)
          refine wm_aload_n hC 2 dX11_odds_80 rfl (k_ne0 hk0 (by decide)) ?_
          refine x_getR2 hC 2 fl_X11_26 rfl hk0 dX11_odds_81 hw (fun g9 hw => ?_)
          refine wm_aload_n hC 2 dX11_odds_84 rfl (k_ne0 hk0 (by decide)) ?_
          refine x_getR2 hC 2 fl_X11_26 rfl hk0 dX11_odds_85 hw (fun g10 hw => ?_)
          refine x_getI hC 0 fl_X11_147 rfl g10 dX11_odds_88 ?_
          refine wm_iload_n hC 0 dX11_odds_91 rfl ?_
          refine x_irem hC dX11_odds_92 hw (fun hw => ?_)
          refine y_callV_v_IJR hC hRm noS ml_X11_187 g7 (C1_sit g7 g8 g9 hw) (Nat.le_of_ble_eq_true rfl) (Nat.le_of_ble_eq_true rfl) ⟨Nat.zero_le _, Nat.zero_le _⟩ rfl (st := []) rfl (Nat.le_of_ble_eq_true rfl) dX11_odds_93 (fun I1 J1 R1 hw => ?_)
          refine wm_aload_n hC 2 dX11_odds_96 rfl (k_ne0 hk0 (by decide)) ?_
          refine x_getR2 hC 9 fl_X11_88 rfl hk0 dX11_odds_97 hw (fun g11 hw => ?_)
          refine wm_iload_n hC 3 dX11_odds_100 rfl ?_
          refine y_callV_i_IJ hC hRm noS ml_X11_247 g11 (C1_oddsOf g11 hw) (Nat.le_of_ble_eq_true rfl) (Nat.le_of_ble_eq_true rfl) ⟨Nat.zero_le _, Nat.zero_le _⟩ rfl (st := []) rfl (Nat.le_of_ble_eq_true rfl) dX11_odds_101 (fun r2 I2 J2 hw => ?_)
          exact wm_ireturn hC hE dX11_odds_104 ⟨trivial, hw⟩
      · refine wm_iconst hC dX11_odds_60 (k := ?_)
        exact wm_ireturn hC hE dX11_odds_61 ⟨trivial, hw⟩
def P11_odds (l0 : Nat) (l1 : Int) (I : mI) (J : mI) (R : mR) (Q : Int → mI → mI → mR → Prop) : Prop := (if l1 = (-1) then (P11_odds_b19 l0 l1 I J R Q) else (kK (R l0 12) = 3 ∧ (P3_isThere (R l0 12) 1 l1 I R (fun r1 => (if r1 = 0 then (Q (-1) I J R) else (P11_odds_b19 l0 l1 I J R Q))))))
set_option maxRecDepth 20000 in
theorem C11_odds {ad : Nat → Nat} {n : Nat} {I J : mI} {R : mR} {Q : Int → mI → mI → mR → Prop}  {l0 : Nat} {l1 : Int} (hk0 : kK l0 = 11) (hw : P11_odds l0 l1 I J R Q) : wMet yX11_odds cX11_odds 4 (some .int) 7 164 false ad n I J R [vr l0, vi l1] (fun r I' J' R' => (True) ∧ Q r I' J' R') := by
  refine wMet_of (by decide) (Nat.le_of_ble_eq_true rfl) (fun C hC hRm hE hS => ?_)
  refine (show WM C ad n I J R 0 0 0 [(0, vr l0), (1, vi l1)] [] from ?_)
  unfold P11_odds at hw
  refine wm_iload_n hC 1 dX11_odds_0 rfl ?_
  refine wm_iconst hC dX11_odds_1 (k := ?_)
  refine wm_icmp_eq (tgt := 19) hC dX11_odds_2 (by decide) hw (fun hw => ?_) (fun hw => ?_)
  · exact W11_odds_b19 hC hRm hE hk0 hw
  · refine wm_aload_n hC 0 dX11_odds_5 rfl (k_ne0 hk0 (by decide)) ?_
    refine x_getR2 hC 12 fl_X11_57 rfl hk0 dX11_odds_6 hw (fun g1 hw => ?_)
    refine wm_iconst hC dX11_odds_9 (k := ?_)
    refine wm_iload_n hC 1 dX11_odds_10 rfl ?_
    refine y_callV_z_n hC hRm noS ml_X11_167 g1 (C3_isThere g1 hw) (Nat.le_of_ble_eq_true rfl) (Nat.le_of_ble_eq_true rfl) ⟨Nat.zero_le _, Nat.zero_le _⟩ rfl (st := []) rfl (Nat.le_of_ble_eq_true rfl) dX11_odds_11 (fun r1 hw => ?_)
    refine wm_if_ne (tgt := 19) hC dX11_odds_14 (by decide) hw (fun hw => ?_) (fun hw => ?_)
    · refine wm_iconst hC dX11_odds_17 (k := ?_)
      exact wm_ireturn hC hE dX11_odds_18 ⟨trivial, hw⟩
    · exact W11_odds_b19 hC hRm hE hk0 hw
def P11_meet (l0 : Nat) (I : mI) (R : mR) (Q : Int → mI → Prop) : Prop := (kK (R l0 11) = 2 ∧ (kK (R l0 0) = 9 ∧ (kK (R l0 12) = 3 ∧ (P2_take (R l0 11) (R l0 0) (R l0 12) I R (fun r1 I1 => (kK (R l0 0) = 9 ∧ (wLet (up I1 (R l0 0) 1 0) (fun I2 => (if r1 = 0 then (P11_refuse l0 5 I2 R (fun r2 I3 => (Q r2 I3))) else (kK (R l0 11) = 2 ∧ (Q (I2 (R l0 11) 5) I2)))))))))))
set_option maxRecDepth 20000 in
theorem C11_meet {ad : Nat → Nat} {n : Nat} {I J : mI} {R : mR} {Q : Int → mI → Prop}  {l0 : Nat} (hk0 : kK l0 = 11) (hw : P11_meet l0 I R Q) : wMet yX11_meet cX11_meet 2 (some .int) 3 59 false ad n I J R [vr l0] (fun r I' J' R' => (J' = J ∧ R' = R) ∧ Q r I') := by
  refine wMet_of (by decide) (Nat.le_of_ble_eq_true rfl) (fun C hC hRm hE hS => ?_)
  refine (show WM C ad n I J R 0 0 0 [(0, vr l0)] [] from ?_)
  unfold P11_meet at hw
  refine wm_aload_n hC 0 dX11_meet_0 rfl (k_ne0 hk0 (by decide)) ?_
  refine x_getR2 hC 11 fl_X11_106 rfl hk0 dX11_meet_1 hw (fun g1 hw => ?_)
  refine wm_aload_n hC 0 dX11_meet_4 rfl (k_ne0 hk0 (by decide)) ?_
  refine x_getR2 hC 0 fl_X11_10 rfl hk0 dX11_meet_5 hw (fun g2 hw => ?_)
  refine wm_aload_n hC 0 dX11_meet_8 rfl (k_ne0 hk0 (by decide)) ?_
  refine x_getR2 hC 12 fl_X11_57 rfl hk0 dX11_meet_9 hw (fun g3 hw => ?_)
  refine y_callV_z_I hC hRm noS ml_X11_250 g1 (C2_take g1 g2 g3 hw) (Nat.le_of_ble_eq_true rfl) (Nat.le_of_ble_eq_true rfl) ⟨Nat.zero_le _, Nat.zero_le _⟩ rfl (st := []) rfl (Nat.le_of_ble_eq_true rfl) dX11_meet_12 (fun r1 I1 hw => ?_)
  refine wm_istore_n hC dX11_meet_15 (by decide) (L2 := [(1, vi r1), (0, vr l0)]) rfl ?_
  refine wm_aload_n hC 1 dX11_meet_16 rfl (k_ne0 hk0 (by decide)) ?_
  refine x_getR2 hC 0 fl_X11_10 rfl hk0 dX11_meet_17 hw (fun g4 hw => ?_)
  refine wm_iconst hC dX11_meet_20 (k := ?_)
  refine x_putI hC 1 fl_X11_114 rfl g4 dX11_meet_21 hw (fun I2 hw => ?_)
  refine wm_iload_n hC 0 dX11_meet_24 rfl ?_
  refine wm_if_eq (tgt := 38) hC dX11_meet_25 (by decide) hw (fun hw => ?_) (fun hw => ?_)
  · refine wm_aload_n hC 1 dX11_meet_38 rfl (k_ne0 hk0 (by decide)) ?_
    refine wm_iconst hC dX11_meet_39 (k := ?_)
    refine y_callV_i_I hC hRm noS ml_X11_117 hk0 (C11_refuse hk0 hw) (Nat.le_of_ble_eq_true rfl) (Nat.le_of_ble_eq_true rfl) ⟨Nat.zero_le _, Nat.zero_le _⟩ rfl (st := []) rfl (Nat.le_of_ble_eq_true rfl) dX11_meet_40 (fun r2 I3 hw => ?_)
    exact wm_ireturn hC hE dX11_meet_43 ⟨⟨rfl, rfl⟩, hw⟩
  · refine wm_aload_n hC 1 dX11_meet_28 rfl (k_ne0 hk0 (by decide)) ?_
    refine x_getR2 hC 11 fl_X11_106 rfl hk0 dX11_meet_29 hw (fun g5 hw => ?_)
    refine x_getI hC 5 fl_X11_142 rfl g5 dX11_meet_32 ?_
    refine wm_goto (tgt := 43) hC dX11_meet_35 (by decide) ?_
    exact wm_ireturn hC hE dX11_meet_43 ⟨⟨rfl, rfl⟩, hw⟩
def P11_tastes (l0 : Nat) (l1 : Int) (I : mI) (J : mI) (R : mR) (Q : Int → mI → mI → mR → Prop) : Prop := (kK (R l0 12) = 3 ∧ (P3_isThere (R l0 12) 0 l1 I R (fun r1 => (if r1 = 0 then (Q (-1) I J R) else (kK (R l0 11) = 2 ∧ (kK (R l0 12) = 3 ∧ (kK (R l0 2) = 7 ∧ (P2_left (R l0 11) (R l0 12) (R l0 2) l1 I J R (fun r2 I1 J1 R1 => (Q r2 I1 J1 R1))))))))))
set_option maxRecDepth 20000 in
theorem C11_tastes {ad : Nat → Nat} {n : Nat} {I J : mI} {R : mR} {Q : Int → mI → mI → mR → Prop}  {l0 : Nat} {l1 : Int} (hk0 : kK l0 = 11) (hw : P11_tastes l0 l1 I J R Q) : wMet yX11_tastes cX11_tastes 2 (some .int) 8 196 false ad n I J R [vr l0, vi l1] (fun r I' J' R' => (True) ∧ Q r I' J' R') := by
  refine wMet_of (by decide) (Nat.le_of_ble_eq_true rfl) (fun C hC hRm hE hS => ?_)
  refine (show WM C ad n I J R 0 0 0 [(0, vr l0), (1, vi l1)] [] from ?_)
  unfold P11_tastes at hw
  refine wm_aload_n hC 0 dX11_tastes_0 rfl (k_ne0 hk0 (by decide)) ?_
  refine x_getR2 hC 12 fl_X11_57 rfl hk0 dX11_tastes_1 hw (fun g1 hw => ?_)
  refine wm_iconst hC dX11_tastes_4 (k := ?_)
  refine wm_iload_n hC 1 dX11_tastes_5 rfl ?_
  refine y_callV_z_n hC hRm noS ml_X11_167 g1 (C3_isThere g1 hw) (Nat.le_of_ble_eq_true rfl) (Nat.le_of_ble_eq_true rfl) ⟨Nat.zero_le _, Nat.zero_le _⟩ rfl (st := []) rfl (Nat.le_of_ble_eq_true rfl) dX11_tastes_6 (fun r1 hw => ?_)
  refine wm_if_ne (tgt := 14) hC dX11_tastes_9 (by decide) hw (fun hw => ?_) (fun hw => ?_)
  · refine wm_iconst hC dX11_tastes_12 (k := ?_)
    exact wm_ireturn hC hE dX11_tastes_13 ⟨trivial, hw⟩
  · refine wm_aload_n hC 0 dX11_tastes_14 rfl (k_ne0 hk0 (by decide)) ?_
    refine x_getR2 hC 11 fl_X11_106 rfl hk0 dX11_tastes_15 hw (fun g2 hw => ?_)
    refine wm_aload_n hC 0 dX11_tastes_18 rfl (k_ne0 hk0 (by decide)) ?_
    refine x_getR2 hC 12 fl_X11_57 rfl hk0 dX11_tastes_19 hw (fun g3 hw => ?_)
    refine wm_aload_n hC 0 dX11_tastes_22 rfl (k_ne0 hk0 (by decide)) ?_
    refine x_getR2 hC 2 fl_X11_26 rfl hk0 dX11_tastes_23 hw (fun g4 hw => ?_)
    refine wm_iload_n hC 1 dX11_tastes_26 rfl ?_
    refine y_callV_i_IJR hC hRm noS ml_X11_254 g2 (C2_left g2 g3 g4 hw) (Nat.le_of_ble_eq_true rfl) (Nat.le_of_ble_eq_true rfl) ⟨Nat.zero_le _, Nat.zero_le _⟩ rfl (st := []) rfl (Nat.le_of_ble_eq_true rfl) dX11_tastes_27 (fun r2 I1 J1 R1 hw => ?_)
    exact wm_ireturn hC hE dX11_tastes_30 ⟨trivial, hw⟩
def P11_tells (l0 : Nat) (l1 : Int) (l2 : Int) (I : mI) (J : mI) (R : mR) (Q : Int → mI → mI → mR → Prop) : Prop := (kK (R l0 12) = 3 ∧ (P3_isThere (R l0 12) 0 l1 I R (fun r1 => (if r1 = 0 then (Q (-1) I J R) else (if l2 < 0 then (Q (-1) I J R) else (if (2 : Int) < l2 then (Q (-1) I J R) else (kK (R l0 12) = 3 ∧ (kK (R (R l0 12) 0) = 21 ∧ (((0 : Int) ≤ (2 : Int) ∧ (2 : Int) < (kN (R (R l0 12) 0) : Int)) ∧ (if (I (R (R l0 12) 0) (2 : Int)) = 0 then (Q (-1) I J R) else (kK (R l0 2) = 7 ∧ (if (I (R l0 2) 0) < 999 then (kK (R l0 11) = 2 ∧ (kK (R l0 12) = 3 ∧ (kK (R l0 2) = 7 ∧ (P2_left (R l0 11) (R l0 12) (R l0 2) l1 I J R (fun r2 I1 J1 R1 => (if r2 = 0 then (Q (-1) I1 J1 R1) else (kK (R1 l0 11) = 2 ∧ (kK (R1 l0 12) = 3 ∧ (kK (R1 l0 2) = 7 ∧ (P2_count (R1 l0 11) (R1 l0 12) (R1 l0 2) l1 r2 I1 J1 R1 (fun I2 J2 R2 => (kK (R2 l0 11) = 2 ∧ (kK (R2 l0 12) = 3 ∧ (kK (R2 (R2 l0 12) 0) = 21 ∧ (((0 : Int) ≤ (2 : Int) ∧ (2 : Int) < (kN (R2 (R2 l0 12) 0) : Int)) ∧ (kK (R2 l0 2) = 7 ∧ (rg (999 - (I2 (R2 l0 2) 0)) ∧ (P2_findTelling (R2 l0 11) (I2 (R2 (R2 l0 12) 0) (2 : Int)) (999 - (I2 (R2 l0 2) 0)) I2 R2 (fun I3 => (if l2 = 0 then (kK (R2 l0 11) = 2 ∧ (Q (I3 (R2 l0 11) 6) I3 J2 R2)) else (if l2 = 1 then (kK (R2 l0 11) = 2 ∧ (Q (I3 (R2 l0 11) 7) I3 J2 R2)) else (kK (R2 l0 11) = 2 ∧ (Q (I3 (R2 l0 11) 8) I3 J2 R2))))))))))))))))))))))) else (Q (-1) I J R)))))))))))))
set_option maxRecDepth 20000 in
theorem C11_tells {ad : Nat → Nat} {n : Nat} {I J : mI} {R : mR} {Q : Int → mI → mI → mR → Prop}  {l0 : Nat} {l1 : Int} {l2 : Int} (hk0 : kK l0 = 11) (hw : P11_tells l0 l1 l2 I J R Q) : wMet yX11_tells cX11_tells 4 (some .int) 8 196 false ad n I J R [vr l0, vi l1, vi l2] (fun r I' J' R' => (True) ∧ Q r I' J' R') := by
  refine wMet_of (by decide) (Nat.le_of_ble_eq_true rfl) (fun C hC hRm hE hS => ?_)
  refine (show WM C ad n I J R 0 0 0 [(0, vr l0), (1, vi l1), (2, vi l2)] [] from ?_)
  unfold P11_tells at hw
  refine wm_aload_n hC 0 dX11_tells_0 rfl (k_ne0 hk0 (by decide)) ?_
  refine x_getR2 hC 12 fl_X11_57 rfl hk0 dX11_tells_1 hw (fun g1 hw => ?_)
  refine wm_iconst hC dX11_tells_4 (k := ?_)
  refine wm_iload_n hC 1 dX11_tells_5 rfl ?_
  refine y_callV_z_n hC hRm noS ml_X11_167 g1 (C3_isThere g1 hw) (Nat.le_of_ble_eq_true rfl) (Nat.le_of_ble_eq_true rfl) ⟨Nat.zero_le _, Nat.zero_le _⟩ rfl (st := []) rfl (Nat.le_of_ble_eq_true rfl) dX11_tells_6 (fun r1 hw => ?_)
  refine wm_if_eq (tgt := 46) hC dX11_tells_9 (by decide) hw (fun hw => ?_) (fun hw => ?_)
  · refine wm_iconst hC dX11_tells_46 (k := ?_)
    exact wm_ireturn hC hE dX11_tells_47 ⟨trivial, hw⟩
  · refine wm_iload_n hC 2 dX11_tells_12 rfl ?_
    refine wm_if_lt (tgt := 46) hC dX11_tells_13 (by decide) hw (fun hw => ?_) (fun hw => ?_)
    · refine wm_iconst hC dX11_tells_46 (k := ?_)
      exact wm_ireturn hC hE dX11_tells_47 ⟨trivial, hw⟩
    · refine wm_iload_n hC 2 dX11_tells_16 rfl ?_
      refine wm_iconst hC dX11_tells_17 (k := ?_)
      refine wm_icmp_gt (tgt := 46) hC dX11_tells_18 (by decide) hw (fun hw => ?_) (fun hw => ?_)
      · refine wm_iconst hC dX11_tells_46 (k := ?_)
        exact wm_ireturn hC hE dX11_tells_47 ⟨trivial, hw⟩
      · refine wm_aload_n hC 0 dX11_tells_21 rfl (k_ne0 hk0 (by decide)) ?_
        refine x_getR2 hC 12 fl_X11_57 rfl hk0 dX11_tells_22 hw (fun g2 hw => ?_)
        refine x_getR2 hC 0 fl_X11_145 rfl g2 dX11_tells_25 hw (fun g3 hw => ?_)
        refine wm_iconst hC dX11_tells_28 (k := ?_)
        refine x_iald hC g3 dX11_tells_29 hw (fun hw => ?_)
        refine wm_if_eq (tgt := 46) hC dX11_tells_30 (by decide) hw (fun hw => ?_) (fun hw => ?_)
        · refine wm_iconst hC dX11_tells_46 (k := ?_)
          exact wm_ireturn hC hE dX11_tells_47 ⟨trivial, hw⟩
        · refine wm_aload_n hC 0 dX11_tells_33 rfl (k_ne0 hk0 (by decide)) ?_
          refine x_getR2 hC 2 fl_X11_26 rfl hk0 dX11_tells_34 hw (fun g4 hw => ?_)
          refine x_getI hC 0 fl_X11_147 rfl g4 dX11_tells_37 ?_
          refine wm_sipush hC dX11_tells_40 (k := ?_)
          refine wm_icmp_lt (tgt := 48) hC dX11_tells_43 (by decide) hw (fun hw => ?_) (fun hw => ?_)
          · refine wm_aload_n hC 0 dX11_tells_48 rfl (k_ne0 hk0 (by decide)) ?_
            refine x_getR2 hC 11 fl_X11_106 rfl hk0 dX11_tells_49 hw (fun g5 hw => ?_)
            refine wm_aload_n hC 0 dX11_tells_52 rfl (k_ne0 hk0 (by decide)) ?_
            refine x_getR2 hC 12 fl_X11_57 rfl hk0 dX11_tells_53 hw (fun g6 hw => ?_)
            refine wm_aload_n hC 0 dX11_tells_56 rfl (k_ne0 hk0 (by decide)) ?_
            refine x_getR2 hC 2 fl_X11_26 rfl hk0 dX11_tells_57 hw (fun g7 hw => ?_)
            refine wm_iload_n hC 1 dX11_tells_60 rfl ?_
            refine y_callV_i_IJR hC hRm noS ml_X11_254 g5 (C2_left g5 g6 g7 hw) (Nat.le_of_ble_eq_true rfl) (Nat.le_of_ble_eq_true rfl) ⟨Nat.zero_le _, Nat.zero_le _⟩ rfl (st := []) rfl (Nat.le_of_ble_eq_true rfl) dX11_tells_61 (fun r2 I1 J1 R1 hw => ?_)
            refine wm_istore_n hC dX11_tells_64 (by decide) (L2 := [(3, vi r2), (0, vr l0), (1, vi l1), (2, vi l2)]) rfl ?_
            refine wm_iload_n hC 0 dX11_tells_65 rfl ?_
            refine wm_if_ne (tgt := 71) hC dX11_tells_66 (by decide) hw (fun hw => ?_) (fun hw => ?_)
            · refine wm_iconst hC dX11_tells_69 (k := ?_)
              exact wm_ireturn hC hE dX11_tells_70 ⟨trivial, hw⟩
            · refine wm_aload_n hC 1 dX11_tells_71 rfl (k_ne0 hk0 (by decide)) ?_
              refine x_getR2 hC 11 fl_X11_106 rfl hk0 dX11_tells_72 hw (fun g8 hw => ?_)
              refine wm_aload_n hC 1 dX11_tells_75 rfl (k_ne0 hk0 (by decide)) ?_
              refine x_getR2 hC 12 fl_X11_57 rfl hk0 dX11_tells_76 hw (fun g9 hw => ?_)
              refine wm_aload_n hC 1 dX11_tells_79 rfl (k_ne0 hk0 (by decide)) ?_
              refine x_getR2 hC 2 fl_X11_26 rfl hk0 dX11_tells_80 hw (fun g10 hw => ?_)
              refine wm_iload_n hC 2 dX11_tells_83 rfl ?_
              refine wm_iload_n hC 0 dX11_tells_84 rfl ?_
              refine y_callV_v_IJR hC hRm noS ml_X11_258 g8 (C2_count g8 g9 g10 hw) (Nat.le_of_ble_eq_true rfl) (Nat.le_of_ble_eq_true rfl) ⟨Nat.zero_le _, Nat.zero_le _⟩ rfl (st := []) rfl (Nat.le_of_ble_eq_true rfl) dX11_tells_85 (fun I2 J2 R2 hw => ?_)
              refine wm_aload_n hC 1 dX11_tells_88 rfl (k_ne0 hk0 (by decide)) ?_
              refine x_getR2 hC 11 fl_X11_106 rfl hk0 dX11_tells_89 hw (fun g11 hw => ?_)
              refine wm_aload_n hC 1 dX11_tells_92 rfl (k_ne0 hk0 (by decide)) ?_
              refine x_getR2 hC 12 fl_X11_57 rfl hk0 dX11_tells_93 hw (fun g12 hw => ?_)
              refine x_getR2 hC 0 fl_X11_145 rfl g12 dX11_tells_96 hw (fun g13 hw => ?_)
              refine wm_iconst hC dX11_tells_99 (k := ?_)
              refine x_iald hC g13 dX11_tells_100 hw (fun hw => ?_)
              refine wm_sipush hC dX11_tells_101 (k := ?_)
              refine wm_aload_n hC 1 dX11_tells_104 rfl (k_ne0 hk0 (by decide)) ?_
              refine x_getR2 hC 2 fl_X11_26 rfl hk0 dX11_tells_105 hw (fun g14 hw => ?_)
              refine x_getI hC 0 fl_X11_147 rfl g14 dX11_tells_108 ?_
              refine x_isub hC dX11_tells_111 hw (fun hw => ?_)
              refine y_callV_v_I hC hRm noS ml_X11_261 g11 (C2_findTelling g11 hw) (Nat.le_of_ble_eq_true rfl) (Nat.le_of_ble_eq_true rfl) ⟨Nat.zero_le _, Nat.zero_le _⟩ rfl (st := []) rfl (Nat.le_of_ble_eq_true rfl) dX11_tells_112 (fun I3 hw => ?_)
              refine wm_iload_n hC 3 dX11_tells_115 rfl ?_
              refine wm_if_ne (tgt := 129) hC dX11_tells_116 (by decide) hw (fun hw => ?_) (fun hw => ?_)
              · refine wm_aload_n hC 1 dX11_tells_119 rfl (k_ne0 hk0 (by decide)) ?_
                refine x_getR2 hC 11 fl_X11_106 rfl hk0 dX11_tells_120 hw (fun g17 hw => ?_)
                refine x_getI hC 6 fl_X11_265 rfl g17 dX11_tells_123 ?_
                refine wm_goto (tgt := 151) hC dX11_tells_126 (by decide) ?_
                exact wm_ireturn hC hE dX11_tells_151 ⟨trivial, hw⟩
              · refine wm_iload_n hC 3 dX11_tells_129 rfl ?_
                refine wm_iconst hC dX11_tells_130 (k := ?_)
                refine wm_icmp_ne (tgt := 144) hC dX11_tells_131 (by decide) hw (fun hw => ?_) (fun hw => ?_)
                · refine wm_aload_n hC 1 dX11_tells_134 rfl (k_ne0 hk0 (by decide)) ?_
                  refine x_getR2 hC 11 fl_X11_106 rfl hk0 dX11_tells_135 hw (fun g16 hw => ?_)
                  refine x_getI hC 7 fl_X11_268 rfl g16 dX11_tells_138 ?_
                  refine wm_goto (tgt := 151) hC dX11_tells_141 (by decide) ?_
                  exact wm_ireturn hC hE dX11_tells_151 ⟨trivial, hw⟩
                · refine wm_aload_n hC 1 dX11_tells_144 rfl (k_ne0 hk0 (by decide)) ?_
                  refine x_getR2 hC 11 fl_X11_106 rfl hk0 dX11_tells_145 hw (fun g15 hw => ?_)
                  refine x_getI hC 8 fl_X11_271 rfl g15 dX11_tells_148 ?_
                  exact wm_ireturn hC hE dX11_tells_151 ⟨trivial, hw⟩
          · refine wm_iconst hC dX11_tells_46 (k := ?_)
            exact wm_ireturn hC hE dX11_tells_47 ⟨trivial, hw⟩
def P11_years_b34_body (l0 : Nat) (l1 : Int) (Q : Int → mI → mI → mR → Prop) (k34 : Int → Int → mI → mI → mR → Prop) (l2 : Int) (l3 : Int) (I : mI) (J : mI) (R : mR) : Prop := (if l1 ≤ l3 then (Q l2 I J R) else (kK (R l0 10) = 0 ∧ (kK (R l0 12) = 3 ∧ (kK (R l0 2) = 7 ∧ (P0_pass (R l0 10) (R l0 12) (R l0 2) (-1) I J R (fun r4 I4 J1 R1 => (if r4 = 0 then (rg (l2 + 0) ∧ (rg (l3 + 1) ∧ (k34 (l2 + 0) (l3 + 1) I4 J1 R1))) else (rg (l2 + 1) ∧ (rg (l3 + 1) ∧ (k34 (l2 + 1) (l3 + 1) I4 J1 R1))))))))))
def P11_years_b34 (l0 : Nat) (l1 : Int) (Q : Int → mI → mI → mR → Prop) : Nat → Int → Int → mI → mI → mR → Prop
  | 0 => fun _ _ _ _ _ => False
  | f + 1 => fun l2 l3 I J R => P11_years_b34_body l0 l1 Q (P11_years_b34 l0 l1 Q f) l2 l3 I J R
set_option maxRecDepth 20000 in
theorem W11_years_b34_body {C : wX} {ad : Nat → Nat} {n : Nat} {I J : mI} {R : mR} {Q : Int → mI → mI → mR → Prop} (hC : wOK C cX11_years 4 RX11) (hRm : wRm C 7 168 0 0) (hE : wEnd C (some .int) ad n (fun r I' J' R' => (True) ∧ Q r I' J' R')) {l0 : Nat} {l1 : Int} {l2 : Int} {l3 : Int}   (hk0 : kK l0 = 11)  {k34 : Int → Int → mI → mI → mR → Prop} (kk34 : ∀ (y2 : Int) (y3 : Int) (I' : mI) (J' : mI) (R' : mR), k34 y2 y3 I' J' R' → WM C ad n I' J' R' 0 0 34 [(0, vr l0), (1, vi l1), (2, vi y2), (3, vi y3)] []) (hw : P11_years_b34_body l0 l1 Q k34 l2 l3 I J R) : WM C ad n I J R 0 0 34 [(0, vr l0), (1, vi l1), (2, vi l2), (3, vi l3)] [] := by
  unfold P11_years_b34_body at hw
  refine wm_iload_n hC 3 dX11_years_34 rfl ?_
  refine wm_iload_n hC 1 dX11_years_35 rfl ?_
  refine wm_icmp_ge (tgt := 72) hC dX11_years_36 (by decide) hw (fun hw => ?_) (fun hw => ?_)
  · refine wm_iload_n hC 2 dX11_years_72 rfl ?_
    exact wm_ireturn hC hE dX11_years_73 ⟨trivial, hw⟩
  · refine wm_iload_n hC 2 dX11_years_39 rfl ?_
    refine wm_aload_n hC 0 dX11_years_40 rfl (k_ne0 hk0 (by decide)) ?_
    refine x_getR2 hC 10 fl_X11_97 rfl hk0 dX11_years_41 hw (fun g3 hw => ?_)
    refine wm_aload_n hC 0 dX11_years_44 rfl (k_ne0 hk0 (by decide)) ?_
    refine x_getR2 hC 12 fl_X11_57 rfl hk0 dX11_years_45 hw (fun g4 hw => ?_)
    refine wm_aload_n hC 0 dX11_years_48 rfl (k_ne0 hk0 (by decide)) ?_
    refine x_getR2 hC 2 fl_X11_26 rfl hk0 dX11_years_49 hw (fun g5 hw => ?_)
    refine wm_iconst hC dX11_years_52 (k := ?_)
    refine y_callV_z_IJR hC hRm noS ml_X11_278 g3 (C0_pass g3 g4 g5 hw) (Nat.le_of_ble_eq_true rfl) (Nat.le_of_ble_eq_true rfl) ⟨Nat.zero_le _, Nat.zero_le _⟩ rfl (st := [vi l2]) rfl (Nat.le_of_ble_eq_true rfl) dX11_years_53 (fun r4 I4 J1 R1 hw => ?_)
    refine wm_if_eq (tgt := 63) hC dX11_years_56 (by decide) hw (fun hw => ?_) (fun hw => ?_)
    · refine wm_iconst hC dX11_years_63 (k := ?_)
      refine x_iadd hC dX11_years_64 hw (fun hw => ?_)
      refine wm_istore_n hC dX11_years_65 (by decide) (L2 := [(2, vi (l2 + 0)), (0, vr l0), (1, vi l1), (3, vi l3)]) rfl ?_
      refine x_iinc hC 3 dX11_years_66 rfl (by decide) (L2 := [(3, vi (l3 + 1)), (2, vi (l2 + 0)), (0, vr l0), (1, vi l1)]) rfl hw (fun hw => ?_)
      refine wm_goto (tgt := 34) hC dX11_years_69 (by decide) ?_
      refine wm_sub [2, 3, 1, 0] (L2 := [(0, vr l0), (1, vi l1), (2, vi (l2 + 0)), (3, vi (l3 + 1))]) rfl ?_
      exact kk34 _ _ _ _ _ hw
    · refine wm_iconst hC dX11_years_59 (k := ?_)
      refine wm_goto (tgt := 64) hC dX11_years_60 (by decide) ?_
      refine x_iadd hC dX11_years_64 hw (fun hw => ?_)
      refine wm_istore_n hC dX11_years_65 (by decide) (L2 := [(2, vi (l2 + 1)), (0, vr l0), (1, vi l1), (3, vi l3)]) rfl ?_
      refine x_iinc hC 3 dX11_years_66 rfl (by decide) (L2 := [(3, vi (l3 + 1)), (2, vi (l2 + 1)), (0, vr l0), (1, vi l1)]) rfl hw (fun hw => ?_)
      refine wm_goto (tgt := 34) hC dX11_years_69 (by decide) ?_
      refine wm_sub [2, 3, 1, 0] (L2 := [(0, vr l0), (1, vi l1), (2, vi (l2 + 1)), (3, vi (l3 + 1))]) rfl ?_
      exact kk34 _ _ _ _ _ hw
set_option maxRecDepth 20000 in
theorem W11_years_b34 {C : wX} {ad : Nat → Nat} {n : Nat}  {Q : Int → mI → mI → mR → Prop} (hC : wOK C cX11_years 4 RX11) (hRm : wRm C 7 168 0 0) (hE : wEnd C (some .int) ad n (fun r I' J' R' => (True) ∧ Q r I' J' R')) {l0 : Nat} {l1 : Int}   (hk0 : kK l0 = 11)  : ∀ (f : Nat) (l2 : Int) (l3 : Int) (I : mI) (J : mI) (R : mR), P11_years_b34 l0 l1 Q f l2 l3 I J R → WM C ad n I J R 0 0 34 [(0, vr l0), (1, vi l1), (2, vi l2), (3, vi l3)] [] := by
  intro f
  induction f with
  | zero => intro l2 l3 I J R hw; exact hw.elim
  | succ f ih => intro l2 l3 I J R hw; exact W11_years_b34_body hC hRm hE hk0 (fun a0 a1 a2 a3 a4 hw => ih a0 a1 a2 a3 a4 hw) hw
def P11_years (l0 : Nat) (l1 : Int) (I : mI) (J : mI) (R : mR) (Q : Int → mI → mI → mR → Prop) : Prop := (if l1 < 1 then (P11_refuse l0 2 I R (fun r1 I1 => (Q r1 I1 J R))) else (P11_canPass l0 l1 I R (fun r2 => (if r2 = 0 then (P11_refuse l0 2 I R (fun r3 I3 => (Q r3 I3 J R))) else (kK (R l0 4) = 4 ∧ (kK (R l0 2) = 7 ∧ (P4_add (R l0 4) (R l0 2) I R (fun I2 => (∃ f, P11_years_b34 l0 l1 Q f 0 0 I2 J R)))))))))
set_option maxRecDepth 20000 in
theorem C11_years {ad : Nat → Nat} {n : Nat} {I J : mI} {R : mR} {Q : Int → mI → mI → mR → Prop}  {l0 : Nat} {l1 : Int} (hk0 : kK l0 = 11) (hw : P11_years l0 l1 I J R Q) : wMet yX11_years cX11_years 4 (some .int) 7 168 false ad n I J R [vr l0, vi l1] (fun r I' J' R' => (True) ∧ Q r I' J' R') := by
  refine wMet_of (by decide) (Nat.le_of_ble_eq_true rfl) (fun C hC hRm hE hS => ?_)
  refine (show WM C ad n I J R 0 0 0 [(0, vr l0), (1, vi l1)] [] from ?_)
  unfold P11_years at hw
  refine wm_iload_n hC 1 dX11_years_0 rfl ?_
  refine wm_iconst hC dX11_years_1 (k := ?_)
  refine wm_icmp_lt (tgt := 13) hC dX11_years_2 (by decide) hw (fun hw => ?_) (fun hw => ?_)
  · refine wm_aload_n hC 0 dX11_years_13 rfl (k_ne0 hk0 (by decide)) ?_
    refine wm_iconst hC dX11_years_14 (k := ?_)
    refine y_callV_i_I hC hRm noS ml_X11_117 hk0 (C11_refuse hk0 hw) (Nat.le_of_ble_eq_true rfl) (Nat.le_of_ble_eq_true rfl) ⟨Nat.zero_le _, Nat.zero_le _⟩ rfl (st := []) rfl (Nat.le_of_ble_eq_true rfl) dX11_years_15 (fun r1 I1 hw => ?_)
    exact wm_ireturn hC hE dX11_years_18 ⟨trivial, hw⟩
  · refine wm_aload_n hC 0 dX11_years_5 rfl (k_ne0 hk0 (by decide)) ?_
    refine wm_iload_n hC 1 dX11_years_6 rfl ?_
    refine y_callV_z_n hC hRm noS ml_X11_227 hk0 (C11_canPass hk0 hw) (Nat.le_of_ble_eq_true rfl) (Nat.le_of_ble_eq_true rfl) ⟨Nat.zero_le _, Nat.zero_le _⟩ rfl (st := []) rfl (Nat.le_of_ble_eq_true rfl) dX11_years_7 (fun r2 hw => ?_)
    refine wm_if_ne (tgt := 19) hC dX11_years_10 (by decide) hw (fun hw => ?_) (fun hw => ?_)
    · refine wm_aload_n hC 0 dX11_years_13 rfl (k_ne0 hk0 (by decide)) ?_
      refine wm_iconst hC dX11_years_14 (k := ?_)
      refine y_callV_i_I hC hRm noS ml_X11_117 hk0 (C11_refuse hk0 hw) (Nat.le_of_ble_eq_true rfl) (Nat.le_of_ble_eq_true rfl) ⟨Nat.zero_le _, Nat.zero_le _⟩ rfl (st := []) rfl (Nat.le_of_ble_eq_true rfl) dX11_years_15 (fun r3 I3 hw => ?_)
      exact wm_ireturn hC hE dX11_years_18 ⟨trivial, hw⟩
    · refine wm_aload_n hC 0 dX11_years_19 rfl (k_ne0 hk0 (by decide)) ?_
      refine x_getR2 hC 4 fl_X11_36 rfl hk0 dX11_years_20 hw (fun g1 hw => ?_)
      refine wm_aload_n hC 0 dX11_years_23 rfl (k_ne0 hk0 (by decide)) ?_
      refine x_getR2 hC 2 fl_X11_26 rfl hk0 dX11_years_24 hw (fun g2 hw => ?_)
      refine y_callV_v_I hC hRm noS ml_X11_274 g1 (C4_add g1 g2 hw) (Nat.le_of_ble_eq_true rfl) (Nat.le_of_ble_eq_true rfl) ⟨Nat.zero_le _, Nat.zero_le _⟩ rfl (st := []) rfl (Nat.le_of_ble_eq_true rfl) dX11_years_27 (fun I2 hw => ?_)
      refine wm_iconst hC dX11_years_30 (k := ?_)
      refine wm_istore_n hC dX11_years_31 (by decide) (L2 := [(2, vi 0), (0, vr l0), (1, vi l1)]) rfl ?_
      refine wm_iconst hC dX11_years_32 (k := ?_)
      refine wm_istore_n hC dX11_years_33 (by decide) (L2 := [(3, vi 0), (2, vi 0), (0, vr l0), (1, vi l1)]) rfl ?_
      obtain ⟨f, hw⟩ := hw
      refine wm_sub [2, 3, 1, 0] (L2 := [(0, vr l0), (1, vi l1), (2, vi 0), (3, vi 0)]) rfl ?_
      exact W11_years_b34 hC hRm hE hk0 f _ _ _ _ _ hw
def P11_draw (l0 : Nat) (l1 : Int) (I : mI) (Q : Int → mI → Prop) : Prop := (if (0 : Int) < l1 then (rl (1103515245 * (I l0 16)) ∧ (rl ((1103515245 * (I l0 16)) + 12345) ∧ (rg (lAnd ((1103515245 * (I l0 16)) + 12345) 2147483647) ∧ (wLet (up I l0 16 (lAnd ((1103515245 * (I l0 16)) + 12345) 2147483647)) (fun I1 => (l1 ≠ 0 ∧ (Q (Int.tmod (Int.tdiv (I1 l0 16) 64) l1) I1))))))) else (Q (-1) I))
set_option maxRecDepth 20000 in
theorem C11_draw {ad : Nat → Nat} {n : Nat} {I J : mI} {R : mR} {Q : Int → mI → Prop}  {l0 : Nat} {l1 : Int} (hk0 : kK l0 = 11) (hw : P11_draw l0 l1 I Q) : wMet yX11_draw cX11_draw 2 (some .int) 1 12 false ad n I J R [vr l0, vi l1] (fun r I' J' R' => (J' = J ∧ R' = R) ∧ Q r I') := by
  refine wMet_of (by decide) (Nat.le_of_ble_eq_true rfl) (fun C hC hRm hE hS => ?_)
  refine (show WM C ad n I J R 0 0 0 [(0, vr l0), (1, vi l1)] [] from ?_)
  unfold P11_draw at hw
  refine wm_iload_n hC 1 dX11_draw_0 rfl ?_
  refine wm_if_gt (tgt := 6) hC dX11_draw_1 (by decide) hw (fun hw => ?_) (fun hw => ?_)
  · refine wm_aload_n hC 0 dX11_draw_6 rfl (k_ne0 hk0 (by decide)) ?_
    refine wm_ldc2 hC (x := 1103515245) tc_X11_310 rfl dX11_draw_7 (k := ?_)
    refine wm_aload_n hC 0 dX11_draw_10 rfl (k_ne0 hk0 (by decide)) ?_
    refine x_getI hC 16 fl_X11_71 rfl hk0 dX11_draw_11 ?_
    refine wm_i2l hC dX11_draw_14 ?_
    refine x_lmul hC dX11_draw_15 hw (fun hw => ?_)
    refine wm_ldc2 hC (x := 12345) tc_X11_312 rfl dX11_draw_16 (k := ?_)
    refine x_ladd hC dX11_draw_19 hw (fun hw => ?_)
    refine wm_ldc2 hC (x := 2147483647) tc_X11_314 rfl dX11_draw_20 (k := ?_)
    refine wm_land hC dX11_draw_23 ?_
    refine x_l2i hC dX11_draw_24 hw (fun hw => ?_)
    refine x_putI hC 16 fl_X11_71 rfl hk0 dX11_draw_25 hw (fun I1 hw => ?_)
    refine wm_aload_n hC 0 dX11_draw_28 rfl (k_ne0 hk0 (by decide)) ?_
    refine x_getI hC 16 fl_X11_71 rfl hk0 dX11_draw_29 ?_
    refine wm_bipush hC dX11_draw_32 (k := ?_)
    refine x_idivP hC (by decide) dX11_draw_34 ?_
    refine wm_iload_n hC 1 dX11_draw_35 rfl ?_
    refine x_irem hC dX11_draw_36 hw (fun hw => ?_)
    exact wm_ireturn hC hE dX11_draw_37 ⟨⟨rfl, rfl⟩, hw⟩
  · refine wm_iconst hC dX11_draw_4 (k := ?_)
    exact wm_ireturn hC hE dX11_draw_5 ⟨⟨rfl, rfl⟩, hw⟩
def P11_chance_b86 (l0 : Nat) (l1 : Int) (l3 : Int) (l4 : Int) (s0 : Int) (s1 : Int) (I : mI) (J : mI) (R : mR) (k34 : Int → Int → mI → mI → mR → Prop) (Q : Int → mI → mI → mR → Prop) : Prop := (rg (s0 + s1) ∧ (kK (R l0 10) = 0 ∧ (kK (R l0 12) = 3 ∧ (kK (R l0 2) = 7 ∧ (P0_pass (R l0 10) (R l0 12) (R l0 2) l4 I J R (fun r6 I6 J1 R1 => (rg (l3 + 1) ∧ (k34 (s0 + s1) (l3 + 1) I6 J1 R1))))))))
set_option maxRecDepth 20000 in
theorem W11_chance_b86 {C : wX} {ad : Nat → Nat} {n : Nat} {I J : mI} {R : mR} {Q : Int → mI → mI → mR → Prop} (hC : wOK C cX11_chance 5 RX11) (hRm : wRm C 7 168 0 0) (hE : wEnd C (some .int) ad n (fun r I' J' R' => (True) ∧ Q r I' J' R')) {l0 : Nat} {l1 : Int} {l3 : Int} {l4 : Int} {s0 : Int} {s1 : Int}  {k34 : Int → Int → mI → mI → mR → Prop} (hk0 : kK l0 = 11) (kk34 : ∀ (y2 : Int) (y3 : Int) (I' : mI) (J' : mI) (R' : mR), k34 y2 y3 I' J' R' → WM C ad n I' J' R' 0 0 34 [(0, vr l0), (1, vi l1), (2, vi y2), (3, vi y3)] []) (hw : P11_chance_b86 l0 l1 l3 l4 s0 s1 I J R k34 Q) : WM C ad n I J R 0 0 86 [(0, vr l0), (1, vi l1), (3, vi l3), (4, vi l4)] [vi s1, vi s0] := by
  unfold P11_chance_b86 at hw
  refine x_iadd hC dX11_chance_86 hw (fun hw => ?_)
  refine wm_istore_n hC dX11_chance_87 (by decide) (L2 := [(2, vi (s0 + s1)), (0, vr l0), (1, vi l1), (3, vi l3), (4, vi l4)]) rfl ?_
  refine wm_aload_n hC 1 dX11_chance_88 rfl (k_ne0 hk0 (by decide)) ?_
  refine x_getR2 hC 10 fl_X11_97 rfl hk0 dX11_chance_89 hw (fun g6 hw => ?_)
  refine wm_aload_n hC 1 dX11_chance_92 rfl (k_ne0 hk0 (by decide)) ?_
  refine x_getR2 hC 12 fl_X11_57 rfl hk0 dX11_chance_93 hw (fun g7 hw => ?_)
  refine wm_aload_n hC 1 dX11_chance_96 rfl (k_ne0 hk0 (by decide)) ?_
  refine x_getR2 hC 2 fl_X11_26 rfl hk0 dX11_chance_97 hw (fun g8 hw => ?_)
  refine wm_iload hC 4 dX11_chance_100 rfl ?_
  refine y_callV_z_IJR hC hRm noS ml_X11_278 g6 (C0_pass g6 g7 g8 hw) (Nat.le_of_ble_eq_true rfl) (Nat.le_of_ble_eq_true rfl) ⟨Nat.zero_le _, Nat.zero_le _⟩ rfl (st := []) rfl (Nat.le_of_ble_eq_true rfl) dX11_chance_102 (fun r6 I6 J1 R1 hw => ?_)
  refine wm_pop hC dX11_chance_105 (k := ?_)
  refine x_iinc hC 3 dX11_chance_106 rfl (by decide) (L2 := [(3, vi (l3 + 1)), (2, vi (s0 + s1)), (0, vr l0), (1, vi l1), (4, vi l4)]) rfl hw (fun hw => ?_)
  refine wm_goto (tgt := 34) hC dX11_chance_109 (by decide) ?_
  refine wm_sub [2, 3, 1, 0] (L2 := [(0, vr l0), (1, vi l1), (2, vi (s0 + s1)), (3, vi (l3 + 1))]) rfl ?_
  exact kk34 _ _ _ _ _ hw
def P11_chance_b72 (l0 : Nat) (l1 : Int) (l2 : Int) (l3 : Int) (s0 : Int) (I : mI) (J : mI) (R : mR) (k34 : Int → Int → mI → mI → mR → Prop) (Q : Int → mI → mI → mR → Prop) : Prop := (if s0 = (-1) then (P11_chance_b86 l0 l1 l3 s0 l2 0 I J R k34 Q) else (P11_chance_b86 l0 l1 l3 s0 l2 1 I J R k34 Q))
set_option maxRecDepth 20000 in
theorem W11_chance_b72 {C : wX} {ad : Nat → Nat} {n : Nat} {I J : mI} {R : mR} {Q : Int → mI → mI → mR → Prop} (hC : wOK C cX11_chance 5 RX11) (hRm : wRm C 7 168 0 0) (hE : wEnd C (some .int) ad n (fun r I' J' R' => (True) ∧ Q r I' J' R')) {l0 : Nat} {l1 : Int} {l2 : Int} {l3 : Int} {s0 : Int}  {k34 : Int → Int → mI → mI → mR → Prop} (hk0 : kK l0 = 11) (kk34 : ∀ (y2 : Int) (y3 : Int) (I' : mI) (J' : mI) (R' : mR), k34 y2 y3 I' J' R' → WM C ad n I' J' R' 0 0 34 [(0, vr l0), (1, vi l1), (2, vi y2), (3, vi y3)] []) (hw : P11_chance_b72 l0 l1 l2 l3 s0 I J R k34 Q) : WM C ad n I J R 0 0 72 [(0, vr l0), (1, vi l1), (2, vi l2), (3, vi l3)] [vi s0] := by
  unfold P11_chance_b72 at hw
  refine wm_istore hC dX11_chance_72 (by decide) (L2 := [(4, vi s0), (0, vr l0), (1, vi l1), (2, vi l2), (3, vi l3)]) rfl ?_
  refine wm_iload_n hC 3 dX11_chance_74 rfl ?_
  refine wm_iload hC 0 dX11_chance_75 rfl ?_
  refine wm_iconst hC dX11_chance_77 (k := ?_)
  refine wm_icmp_ne (tgt := 85) hC dX11_chance_78 (by decide) hw (fun hw => ?_) (fun hw => ?_)
  · refine wm_iconst hC dX11_chance_81 (k := ?_)
    refine wm_goto (tgt := 86) hC dX11_chance_82 (by decide) ?_
    refine wm_sub [1, 2, 4, 0] (L2 := [(0, vr l0), (1, vi l1), (3, vi l3), (4, vi s0)]) rfl ?_
    exact W11_chance_b86 hC hRm hE hk0 kk34 hw
  · refine wm_iconst hC dX11_chance_85 (k := ?_)
    refine wm_sub [1, 2, 4, 0] (L2 := [(0, vr l0), (1, vi l1), (3, vi l3), (4, vi s0)]) rfl ?_
    exact W11_chance_b86 hC hRm hE hk0 kk34 hw
def P11_chance_b34_body (l0 : Nat) (l1 : Int) (Q : Int → mI → mI → mR → Prop) (k34 : Int → Int → mI → mI → mR → Prop) (l2 : Int) (l3 : Int) (I : mI) (J : mI) (R : mR) : Prop := (if l1 ≤ l3 then (Q l2 I J R) else (P11_draw l0 100 I (fun r4 I4 => (kK (R l0 12) = 3 ∧ (if (I4 (R l0 12) 11) ≤ r4 then (P11_chance_b72 l0 l1 l2 l3 (-1) I4 J R k34 Q) else (kK (R l0 12) = 3 ∧ (kK (R (R l0 12) 0) = 21 ∧ (((0 : Int) ≤ (0 : Int) ∧ (0 : Int) < (kN (R (R l0 12) 0) : Int)) ∧ (P11_draw l0 (I4 (R (R l0 12) 0) (0 : Int)) I4 (fun r5 I5 => (P11_chance_b72 l0 l1 l2 l3 r5 I5 J R k34 Q)))))))))))
def P11_chance_b34 (l0 : Nat) (l1 : Int) (Q : Int → mI → mI → mR → Prop) : Nat → Int → Int → mI → mI → mR → Prop
  | 0 => fun _ _ _ _ _ => False
  | f + 1 => fun l2 l3 I J R => P11_chance_b34_body l0 l1 Q (P11_chance_b34 l0 l1 Q f) l2 l3 I J R
set_option maxRecDepth 20000 in
theorem W11_chance_b34_body {C : wX} {ad : Nat → Nat} {n : Nat} {I J : mI} {R : mR} {Q : Int → mI → mI → mR → Prop} (hC : wOK C cX11_chance 5 RX11) (hRm : wRm C 7 168 0 0) (hE : wEnd C (some .int) ad n (fun r I' J' R' => (True) ∧ Q r I' J' R')) {l0 : Nat} {l1 : Int} {l2 : Int} {l3 : Int}   (hk0 : kK l0 = 11)  {k34 : Int → Int → mI → mI → mR → Prop} (kk34 : ∀ (y2 : Int) (y3 : Int) (I' : mI) (J' : mI) (R' : mR), k34 y2 y3 I' J' R' → WM C ad n I' J' R' 0 0 34 [(0, vr l0), (1, vi l1), (2, vi y2), (3, vi y3)] []) (hw : P11_chance_b34_body l0 l1 Q k34 l2 l3 I J R) : WM C ad n I J R 0 0 34 [(0, vr l0), (1, vi l1), (2, vi l2), (3, vi l3)] [] := by
  unfold P11_chance_b34_body at hw
  refine wm_iload_n hC 3 dX11_chance_34 rfl ?_
  refine wm_iload_n hC 1 dX11_chance_35 rfl ?_
  refine wm_icmp_ge (tgt := 112) hC dX11_chance_36 (by decide) hw (fun hw => ?_) (fun hw => ?_)
  · refine wm_iload_n hC 2 dX11_chance_112 rfl ?_
    exact wm_ireturn hC hE dX11_chance_113 ⟨trivial, hw⟩
  · refine wm_aload_n hC 0 dX11_chance_39 rfl (k_ne0 hk0 (by decide)) ?_
    refine wm_bipush hC dX11_chance_40 (k := ?_)
    refine y_callV_i_I hC hRm noS ml_X11_282 hk0 (C11_draw hk0 hw) (Nat.le_of_ble_eq_true rfl) (Nat.le_of_ble_eq_true rfl) ⟨Nat.zero_le _, Nat.zero_le _⟩ rfl (st := []) rfl (Nat.le_of_ble_eq_true rfl) dX11_chance_42 (fun r4 I4 hw => ?_)
    refine wm_aload_n hC 0 dX11_chance_45 rfl (k_ne0 hk0 (by decide)) ?_
    refine x_getR2 hC 12 fl_X11_57 rfl hk0 dX11_chance_46 hw (fun g3 hw => ?_)
    refine x_getI hC 11 fl_X11_285 rfl g3 dX11_chance_49 ?_
    refine wm_icmp_ge (tgt := 71) hC dX11_chance_52 (by decide) hw (fun hw => ?_) (fun hw => ?_)
    · refine wm_iconst hC dX11_chance_71 (k := ?_)
      exact W11_chance_b72 hC hRm hE hk0 kk34 hw
    · refine wm_aload_n hC 0 dX11_chance_55 rfl (k_ne0 hk0 (by decide)) ?_
      refine wm_aload_n hC 0 dX11_chance_56 rfl (k_ne0 hk0 (by decide)) ?_
      refine x_getR2 hC 12 fl_X11_57 rfl hk0 dX11_chance_57 hw (fun g4 hw => ?_)
      refine x_getR2 hC 0 fl_X11_145 rfl g4 dX11_chance_60 hw (fun g5 hw => ?_)
      refine wm_iconst hC dX11_chance_63 (k := ?_)
      refine x_iald hC g5 dX11_chance_64 hw (fun hw => ?_)
      refine y_callV_i_I hC hRm noS ml_X11_282 hk0 (C11_draw hk0 hw) (Nat.le_of_ble_eq_true rfl) (Nat.le_of_ble_eq_true rfl) ⟨Nat.zero_le _, Nat.zero_le _⟩ rfl (st := []) rfl (Nat.le_of_ble_eq_true rfl) dX11_chance_65 (fun r5 I5 hw => ?_)
      refine wm_goto (tgt := 72) hC dX11_chance_68 (by decide) ?_
      exact W11_chance_b72 hC hRm hE hk0 kk34 hw
set_option maxRecDepth 20000 in
theorem W11_chance_b34 {C : wX} {ad : Nat → Nat} {n : Nat}  {Q : Int → mI → mI → mR → Prop} (hC : wOK C cX11_chance 5 RX11) (hRm : wRm C 7 168 0 0) (hE : wEnd C (some .int) ad n (fun r I' J' R' => (True) ∧ Q r I' J' R')) {l0 : Nat} {l1 : Int}   (hk0 : kK l0 = 11)  : ∀ (f : Nat) (l2 : Int) (l3 : Int) (I : mI) (J : mI) (R : mR), P11_chance_b34 l0 l1 Q f l2 l3 I J R → WM C ad n I J R 0 0 34 [(0, vr l0), (1, vi l1), (2, vi l2), (3, vi l3)] [] := by
  intro f
  induction f with
  | zero => intro l2 l3 I J R hw; exact hw.elim
  | succ f ih => intro l2 l3 I J R hw; exact W11_chance_b34_body hC hRm hE hk0 (fun a0 a1 a2 a3 a4 hw => ih a0 a1 a2 a3 a4 hw) hw
def P11_chance (l0 : Nat) (l1 : Int) (I : mI) (J : mI) (R : mR) (Q : Int → mI → mI → mR → Prop) : Prop := (if l1 < 1 then (P11_refuse l0 2 I R (fun r1 I1 => (Q r1 I1 J R))) else (P11_canPass l0 l1 I R (fun r2 => (if r2 = 0 then (P11_refuse l0 2 I R (fun r3 I3 => (Q r3 I3 J R))) else (kK (R l0 4) = 4 ∧ (kK (R l0 2) = 7 ∧ (P4_add (R l0 4) (R l0 2) I R (fun I2 => (∃ f, P11_chance_b34 l0 l1 Q f 0 0 I2 J R)))))))))
set_option maxRecDepth 20000 in
theorem C11_chance {ad : Nat → Nat} {n : Nat} {I J : mI} {R : mR} {Q : Int → mI → mI → mR → Prop}  {l0 : Nat} {l1 : Int} (hk0 : kK l0 = 11) (hw : P11_chance l0 l1 I J R Q) : wMet yX11_chance cX11_chance 5 (some .int) 7 168 false ad n I J R [vr l0, vi l1] (fun r I' J' R' => (True) ∧ Q r I' J' R') := by
  refine wMet_of (by decide) (Nat.le_of_ble_eq_true rfl) (fun C hC hRm hE hS => ?_)
  refine (show WM C ad n I J R 0 0 0 [(0, vr l0), (1, vi l1)] [] from ?_)
  unfold P11_chance at hw
  refine wm_iload_n hC 1 dX11_chance_0 rfl ?_
  refine wm_iconst hC dX11_chance_1 (k := ?_)
  refine wm_icmp_lt (tgt := 13) hC dX11_chance_2 (by decide) hw (fun hw => ?_) (fun hw => ?_)
  · refine wm_aload_n hC 0 dX11_chance_13 rfl (k_ne0 hk0 (by decide)) ?_
    refine wm_iconst hC dX11_chance_14 (k := ?_)
    refine y_callV_i_I hC hRm noS ml_X11_117 hk0 (C11_refuse hk0 hw) (Nat.le_of_ble_eq_true rfl) (Nat.le_of_ble_eq_true rfl) ⟨Nat.zero_le _, Nat.zero_le _⟩ rfl (st := []) rfl (Nat.le_of_ble_eq_true rfl) dX11_chance_15 (fun r1 I1 hw => ?_)
    exact wm_ireturn hC hE dX11_chance_18 ⟨trivial, hw⟩
  · refine wm_aload_n hC 0 dX11_chance_5 rfl (k_ne0 hk0 (by decide)) ?_
    refine wm_iload_n hC 1 dX11_chance_6 rfl ?_
    refine y_callV_z_n hC hRm noS ml_X11_227 hk0 (C11_canPass hk0 hw) (Nat.le_of_ble_eq_true rfl) (Nat.le_of_ble_eq_true rfl) ⟨Nat.zero_le _, Nat.zero_le _⟩ rfl (st := []) rfl (Nat.le_of_ble_eq_true rfl) dX11_chance_7 (fun r2 hw => ?_)
    refine wm_if_ne (tgt := 19) hC dX11_chance_10 (by decide) hw (fun hw => ?_) (fun hw => ?_)
    · refine wm_aload_n hC 0 dX11_chance_13 rfl (k_ne0 hk0 (by decide)) ?_
      refine wm_iconst hC dX11_chance_14 (k := ?_)
      refine y_callV_i_I hC hRm noS ml_X11_117 hk0 (C11_refuse hk0 hw) (Nat.le_of_ble_eq_true rfl) (Nat.le_of_ble_eq_true rfl) ⟨Nat.zero_le _, Nat.zero_le _⟩ rfl (st := []) rfl (Nat.le_of_ble_eq_true rfl) dX11_chance_15 (fun r3 I3 hw => ?_)
      exact wm_ireturn hC hE dX11_chance_18 ⟨trivial, hw⟩
    · refine wm_aload_n hC 0 dX11_chance_19 rfl (k_ne0 hk0 (by decide)) ?_
      refine x_getR2 hC 4 fl_X11_36 rfl hk0 dX11_chance_20 hw (fun g1 hw => ?_)
      refine wm_aload_n hC 0 dX11_chance_23 rfl (k_ne0 hk0 (by decide)) ?_
      refine x_getR2 hC 2 fl_X11_26 rfl hk0 dX11_chance_24 hw (fun g2 hw => ?_)
      refine y_callV_v_I hC hRm noS ml_X11_274 g1 (C4_add g1 g2 hw) (Nat.le_of_ble_eq_true rfl) (Nat.le_of_ble_eq_true rfl) ⟨Nat.zero_le _, Nat.zero_le _⟩ rfl (st := []) rfl (Nat.le_of_ble_eq_true rfl) dX11_chance_27 (fun I2 hw => ?_)
      refine wm_iconst hC dX11_chance_30 (k := ?_)
      refine wm_istore_n hC dX11_chance_31 (by decide) (L2 := [(2, vi 0), (0, vr l0), (1, vi l1)]) rfl ?_
      refine wm_iconst hC dX11_chance_32 (k := ?_)
      refine wm_istore_n hC dX11_chance_33 (by decide) (L2 := [(3, vi 0), (2, vi 0), (0, vr l0), (1, vi l1)]) rfl ?_
      obtain ⟨f, hw⟩ := hw
      refine wm_sub [2, 3, 1, 0] (L2 := [(0, vr l0), (1, vi l1), (2, vi 0), (3, vi 0)]) rfl ?_
      exact W11_chance_b34 hC hRm hE hk0 f _ _ _ _ _ hw
def P11_paint_b29 (l0 : Nat) (l1 : Int) (l2 : Int) (I : mI) (R : mR) (Q : Int → mI → Prop) : Prop := (kK (R l0 2) = 7 ∧ (kK (R (R l0 2) 5) = 21 ∧ (((0 : Int) ≤ l1 ∧ l1 < (kN (R (R l0 2) 5) : Int)) ∧ (if (I (R (R l0 2) 5) l1) = l2 then (P11_refuseIt l0 3 I R (fun r5 I5 => ((r5 = 0 ∨ r5 = 1) ∧ (Q r5 I5)))) else (kK (R l0 4) = 4 ∧ (kK (R l0 2) = 7 ∧ (P4_add (R l0 4) (R l0 2) I R (fun I3 => (kK (R l0 2) = 7 ∧ (kK (R (R l0 2) 5) = 21 ∧ (((0 : Int) ≤ l1 ∧ l1 < (kN (R (R l0 2) 5) : Int)) ∧ wLet (up I3 (R (R l0 2) 5) l1 l2) (fun I4 => (Q 1 I4)))))))))))))
set_option maxRecDepth 20000 in
theorem W11_paint_b29 {C : wX} {ad : Nat → Nat} {n : Nat} {I J : mI} {R : mR} {Q : Int → mI → Prop} (hC : wOK C cX11_paint 3 RX11) (hRm : wRm C 3 102 0 0) (hE : wEnd C (some .boolean) ad n (fun r I' J' R' => (J' = J ∧ R' = R) ∧ Q r I')) {l0 : Nat} {l1 : Int} {l2 : Int}   (hk0 : kK l0 = 11)  (hw : P11_paint_b29 l0 l1 l2 I R Q) : WM C ad n I J R 0 0 29 [(0, vr l0), (1, vi l1), (2, vi l2)] [] := by
  unfold P11_paint_b29 at hw
  refine wm_aload_n hC 0 dX11_paint_29 rfl (k_ne0 hk0 (by decide)) ?_
  refine x_getR2 hC 2 fl_X11_26 rfl hk0 dX11_paint_30 hw (fun g3 hw => ?_)
  refine x_getR2 hC 5 fl_X11_157 rfl g3 dX11_paint_33 hw (fun g4 hw => ?_)
  refine wm_iload_n hC 1 dX11_paint_36 rfl ?_
  refine x_iald hC g4 dX11_paint_37 hw (fun hw => ?_)
  refine wm_iload_n hC 2 dX11_paint_38 rfl ?_
  refine wm_icmp_ne (tgt := 48) hC dX11_paint_39 (by decide) hw (fun hw => ?_) (fun hw => ?_)
  · refine wm_aload_n hC 0 dX11_paint_42 rfl (k_ne0 hk0 (by decide)) ?_
    refine wm_iconst hC dX11_paint_43 (k := ?_)
    refine y_callV_z_I hC hRm noS ml_X11_125 hk0 (C11_refuseIt hk0 hw) (Nat.le_of_ble_eq_true rfl) (Nat.le_of_ble_eq_true rfl) ⟨Nat.zero_le _, Nat.zero_le _⟩ rfl (st := []) rfl (Nat.le_of_ble_eq_true rfl) dX11_paint_44 (fun r5 I5 hw => ?_)
    obtain ⟨z01, hw⟩ := hw
    exact wm_zreturn hC hE z01 dX11_paint_47 ⟨⟨rfl, rfl⟩, hw⟩
  · refine wm_aload_n hC 0 dX11_paint_48 rfl (k_ne0 hk0 (by decide)) ?_
    refine x_getR2 hC 4 fl_X11_36 rfl hk0 dX11_paint_49 hw (fun g5 hw => ?_)
    refine wm_aload_n hC 0 dX11_paint_52 rfl (k_ne0 hk0 (by decide)) ?_
    refine x_getR2 hC 2 fl_X11_26 rfl hk0 dX11_paint_53 hw (fun g6 hw => ?_)
    refine y_callV_v_I hC hRm noS ml_X11_274 g5 (C4_add g5 g6 hw) (Nat.le_of_ble_eq_true rfl) (Nat.le_of_ble_eq_true rfl) ⟨Nat.zero_le _, Nat.zero_le _⟩ rfl (st := []) rfl (Nat.le_of_ble_eq_true rfl) dX11_paint_56 (fun I3 hw => ?_)
    refine wm_aload_n hC 0 dX11_paint_59 rfl (k_ne0 hk0 (by decide)) ?_
    refine x_getR2 hC 2 fl_X11_26 rfl hk0 dX11_paint_60 hw (fun g7 hw => ?_)
    refine x_getR2 hC 5 fl_X11_157 rfl g7 dX11_paint_63 hw (fun g8 hw => ?_)
    refine wm_iload_n hC 1 dX11_paint_66 rfl ?_
    refine wm_iload_n hC 2 dX11_paint_67 rfl ?_
    refine x_iast hC g8 dX11_paint_68 hw (fun I4 hw => ?_)
    refine wm_iconst hC dX11_paint_69 (k := ?_)
    exact wm_zreturn hC hE (Or.inr rfl) dX11_paint_70 ⟨⟨rfl, rfl⟩, hw⟩
def P11_paint (l0 : Nat) (l1 : Int) (l2 : Int) (I : mI) (R : mR) (Q : Int → mI → Prop) : Prop := (kK (R l0 12) = 3 ∧ (P3_isThere (R l0 12) 2 l1 I R (fun r1 => (if r1 = 0 then (P11_refuseIt l0 3 I R (fun r2 I1 => ((r2 = 0 ∨ r2 = 1) ∧ (Q r2 I1)))) else (if l2 = (-1) then (P11_paint_b29 l0 l1 l2 I R Q) else (kK (R l0 12) = 3 ∧ (P3_isThere (R l0 12) 1 l2 I R (fun r3 => (if r3 = 0 then (P11_refuseIt l0 3 I R (fun r4 I2 => ((r4 = 0 ∨ r4 = 1) ∧ (Q r4 I2)))) else (P11_paint_b29 l0 l1 l2 I R Q))))))))))
set_option maxRecDepth 20000 in
theorem C11_paint {ad : Nat → Nat} {n : Nat} {I J : mI} {R : mR} {Q : Int → mI → Prop}  {l0 : Nat} {l1 : Int} {l2 : Int} (hk0 : kK l0 = 11) (hw : P11_paint l0 l1 l2 I R Q) : wMet yX11_paint cX11_paint 3 (some .boolean) 3 102 false ad n I J R [vr l0, vi l1, vi l2] (fun r I' J' R' => (J' = J ∧ R' = R) ∧ Q r I') := by
  refine wMet_of (by decide) (Nat.le_of_ble_eq_true rfl) (fun C hC hRm hE hS => ?_)
  refine (show WM C ad n I J R 0 0 0 [(0, vr l0), (1, vi l1), (2, vi l2)] [] from ?_)
  unfold P11_paint at hw
  refine wm_aload_n hC 0 dX11_paint_0 rfl (k_ne0 hk0 (by decide)) ?_
  refine x_getR2 hC 12 fl_X11_57 rfl hk0 dX11_paint_1 hw (fun g1 hw => ?_)
  refine wm_iconst hC dX11_paint_4 (k := ?_)
  refine wm_iload_n hC 1 dX11_paint_5 rfl ?_
  refine y_callV_z_n hC hRm noS ml_X11_167 g1 (C3_isThere g1 hw) (Nat.le_of_ble_eq_true rfl) (Nat.le_of_ble_eq_true rfl) ⟨Nat.zero_le _, Nat.zero_le _⟩ rfl (st := []) rfl (Nat.le_of_ble_eq_true rfl) dX11_paint_6 (fun r1 hw => ?_)
  refine wm_if_eq (tgt := 42) hC dX11_paint_9 (by decide) hw (fun hw => ?_) (fun hw => ?_)
  · refine wm_aload_n hC 0 dX11_paint_42 rfl (k_ne0 hk0 (by decide)) ?_
    refine wm_iconst hC dX11_paint_43 (k := ?_)
    refine y_callV_z_I hC hRm noS ml_X11_125 hk0 (C11_refuseIt hk0 hw) (Nat.le_of_ble_eq_true rfl) (Nat.le_of_ble_eq_true rfl) ⟨Nat.zero_le _, Nat.zero_le _⟩ rfl (st := []) rfl (Nat.le_of_ble_eq_true rfl) dX11_paint_44 (fun r2 I1 hw => ?_)
    obtain ⟨z01, hw⟩ := hw
    exact wm_zreturn hC hE z01 dX11_paint_47 ⟨⟨rfl, rfl⟩, hw⟩
  · refine wm_iload_n hC 2 dX11_paint_12 rfl ?_
    refine wm_iconst hC dX11_paint_13 (k := ?_)
    refine wm_icmp_eq (tgt := 29) hC dX11_paint_14 (by decide) hw (fun hw => ?_) (fun hw => ?_)
    · exact W11_paint_b29 hC hRm hE hk0 hw
    · refine wm_aload_n hC 0 dX11_paint_17 rfl (k_ne0 hk0 (by decide)) ?_
      refine x_getR2 hC 12 fl_X11_57 rfl hk0 dX11_paint_18 hw (fun g2 hw => ?_)
      refine wm_iconst hC dX11_paint_21 (k := ?_)
      refine wm_iload_n hC 2 dX11_paint_22 rfl ?_
      refine y_callV_z_n hC hRm noS ml_X11_167 g2 (C3_isThere g2 hw) (Nat.le_of_ble_eq_true rfl) (Nat.le_of_ble_eq_true rfl) ⟨Nat.zero_le _, Nat.zero_le _⟩ rfl (st := []) rfl (Nat.le_of_ble_eq_true rfl) dX11_paint_23 (fun r3 hw => ?_)
      refine wm_if_eq (tgt := 42) hC dX11_paint_26 (by decide) hw (fun hw => ?_) (fun hw => ?_)
      · refine wm_aload_n hC 0 dX11_paint_42 rfl (k_ne0 hk0 (by decide)) ?_
        refine wm_iconst hC dX11_paint_43 (k := ?_)
        refine y_callV_z_I hC hRm noS ml_X11_125 hk0 (C11_refuseIt hk0 hw) (Nat.le_of_ble_eq_true rfl) (Nat.le_of_ble_eq_true rfl) ⟨Nat.zero_le _, Nat.zero_le _⟩ rfl (st := []) rfl (Nat.le_of_ble_eq_true rfl) dX11_paint_44 (fun r4 I2 hw => ?_)
        obtain ⟨z01, hw⟩ := hw
        exact wm_zreturn hC hE z01 dX11_paint_47 ⟨⟨rfl, rfl⟩, hw⟩
      · exact W11_paint_b29 hC hRm hE hk0 hw
def P11_swap (l0 : Nat) (l1 : Int) (l2 : Int) (I : mI) (R : mR) (Q : Int → mI → Prop) : Prop := (if l1 = l2 then (P11_refuseIt l0 3 I R (fun r1 I1 => ((r1 = 0 ∨ r1 = 1) ∧ (Q r1 I1)))) else (kK (R l0 12) = 3 ∧ (P3_isThere (R l0 12) 0 l1 I R (fun r2 => (if r2 = 0 then (P11_refuseIt l0 3 I R (fun r3 I2 => ((r3 = 0 ∨ r3 = 1) ∧ (Q r3 I2)))) else (kK (R l0 12) = 3 ∧ (P3_isThere (R l0 12) 0 l2 I R (fun r4 => (if r4 = 0 then (P11_refuseIt l0 3 I R (fun r5 I6 => ((r5 = 0 ∨ r5 = 1) ∧ (Q r5 I6)))) else (kK (R l0 4) = 4 ∧ (kK (R l0 2) = 7 ∧ (P4_add (R l0 4) (R l0 2) I R (fun I3 => (kK (R l0 2) = 7 ∧ (kK (R (R l0 2) 3) = 21 ∧ (((0 : Int) ≤ l1 ∧ l1 < (kN (R (R l0 2) 3) : Int)) ∧ (wLet (I3 (R (R l0 2) 3) l1) (fun x1 => (kK (R l0 2) = 7 ∧ (kK (R (R l0 2) 3) = 21 ∧ (kK (R l0 2) = 7 ∧ (kK (R (R l0 2) 3) = 21 ∧ (((0 : Int) ≤ l2 ∧ l2 < (kN (R (R l0 2) 3) : Int)) ∧ (((0 : Int) ≤ l1 ∧ l1 < (kN (R (R l0 2) 3) : Int)) ∧ wLet (up I3 (R (R l0 2) 3) l1 (I3 (R (R l0 2) 3) l2)) (fun I4 => (kK (R l0 2) = 7 ∧ (kK (R (R l0 2) 3) = 21 ∧ (((0 : Int) ≤ l2 ∧ l2 < (kN (R (R l0 2) 3) : Int)) ∧ wLet (up I4 (R (R l0 2) 3) l2 x1) (fun I5 => (Q 1 I5))))))))))))))))))))))))))))))
set_option maxRecDepth 20000 in
theorem C11_swap {ad : Nat → Nat} {n : Nat} {I J : mI} {R : mR} {Q : Int → mI → Prop}  {l0 : Nat} {l1 : Int} {l2 : Int} (hk0 : kK l0 = 11) (hw : P11_swap l0 l1 l2 I R Q) : wMet yX11_swap cX11_swap 4 (some .boolean) 3 102 false ad n I J R [vr l0, vi l1, vi l2] (fun r I' J' R' => (J' = J ∧ R' = R) ∧ Q r I') := by
  refine wMet_of (by decide) (Nat.le_of_ble_eq_true rfl) (fun C hC hRm hE hS => ?_)
  refine (show WM C ad n I J R 0 0 0 [(0, vr l0), (1, vi l1), (2, vi l2)] [] from ?_)
  unfold P11_swap at hw
  refine wm_iload_n hC 1 dX11_swap_0 rfl ?_
  refine wm_iload_n hC 2 dX11_swap_1 rfl ?_
  refine wm_icmp_eq (tgt := 29) hC dX11_swap_2 (by decide) hw (fun hw => ?_) (fun hw => ?_)
  · refine wm_aload_n hC 0 dX11_swap_29 rfl (k_ne0 hk0 (by decide)) ?_
    refine wm_iconst hC dX11_swap_30 (k := ?_)
    refine y_callV_z_I hC hRm noS ml_X11_125 hk0 (C11_refuseIt hk0 hw) (Nat.le_of_ble_eq_true rfl) (Nat.le_of_ble_eq_true rfl) ⟨Nat.zero_le _, Nat.zero_le _⟩ rfl (st := []) rfl (Nat.le_of_ble_eq_true rfl) dX11_swap_31 (fun r1 I1 hw => ?_)
    obtain ⟨z01, hw⟩ := hw
    exact wm_zreturn hC hE z01 dX11_swap_34 ⟨⟨rfl, rfl⟩, hw⟩
  · refine wm_aload_n hC 0 dX11_swap_5 rfl (k_ne0 hk0 (by decide)) ?_
    refine x_getR2 hC 12 fl_X11_57 rfl hk0 dX11_swap_6 hw (fun g1 hw => ?_)
    refine wm_iconst hC dX11_swap_9 (k := ?_)
    refine wm_iload_n hC 1 dX11_swap_10 rfl ?_
    refine y_callV_z_n hC hRm noS ml_X11_167 g1 (C3_isThere g1 hw) (Nat.le_of_ble_eq_true rfl) (Nat.le_of_ble_eq_true rfl) ⟨Nat.zero_le _, Nat.zero_le _⟩ rfl (st := []) rfl (Nat.le_of_ble_eq_true rfl) dX11_swap_11 (fun r2 hw => ?_)
    refine wm_if_eq (tgt := 29) hC dX11_swap_14 (by decide) hw (fun hw => ?_) (fun hw => ?_)
    · refine wm_aload_n hC 0 dX11_swap_29 rfl (k_ne0 hk0 (by decide)) ?_
      refine wm_iconst hC dX11_swap_30 (k := ?_)
      refine y_callV_z_I hC hRm noS ml_X11_125 hk0 (C11_refuseIt hk0 hw) (Nat.le_of_ble_eq_true rfl) (Nat.le_of_ble_eq_true rfl) ⟨Nat.zero_le _, Nat.zero_le _⟩ rfl (st := []) rfl (Nat.le_of_ble_eq_true rfl) dX11_swap_31 (fun r3 I2 hw => ?_)
      obtain ⟨z01, hw⟩ := hw
      exact wm_zreturn hC hE z01 dX11_swap_34 ⟨⟨rfl, rfl⟩, hw⟩
    · refine wm_aload_n hC 0 dX11_swap_17 rfl (k_ne0 hk0 (by decide)) ?_
      refine x_getR2 hC 12 fl_X11_57 rfl hk0 dX11_swap_18 hw (fun g2 hw => ?_)
      refine wm_iconst hC dX11_swap_21 (k := ?_)
      refine wm_iload_n hC 2 dX11_swap_22 rfl ?_
      refine y_callV_z_n hC hRm noS ml_X11_167 g2 (C3_isThere g2 hw) (Nat.le_of_ble_eq_true rfl) (Nat.le_of_ble_eq_true rfl) ⟨Nat.zero_le _, Nat.zero_le _⟩ rfl (st := []) rfl (Nat.le_of_ble_eq_true rfl) dX11_swap_23 (fun r4 hw => ?_)
      refine wm_if_ne (tgt := 35) hC dX11_swap_26 (by decide) hw (fun hw => ?_) (fun hw => ?_)
      · refine wm_aload_n hC 0 dX11_swap_29 rfl (k_ne0 hk0 (by decide)) ?_
        refine wm_iconst hC dX11_swap_30 (k := ?_)
        refine y_callV_z_I hC hRm noS ml_X11_125 hk0 (C11_refuseIt hk0 hw) (Nat.le_of_ble_eq_true rfl) (Nat.le_of_ble_eq_true rfl) ⟨Nat.zero_le _, Nat.zero_le _⟩ rfl (st := []) rfl (Nat.le_of_ble_eq_true rfl) dX11_swap_31 (fun r5 I6 hw => ?_)
        obtain ⟨z01, hw⟩ := hw
        exact wm_zreturn hC hE z01 dX11_swap_34 ⟨⟨rfl, rfl⟩, hw⟩
      · refine wm_aload_n hC 0 dX11_swap_35 rfl (k_ne0 hk0 (by decide)) ?_
        refine x_getR2 hC 4 fl_X11_36 rfl hk0 dX11_swap_36 hw (fun g3 hw => ?_)
        refine wm_aload_n hC 0 dX11_swap_39 rfl (k_ne0 hk0 (by decide)) ?_
        refine x_getR2 hC 2 fl_X11_26 rfl hk0 dX11_swap_40 hw (fun g4 hw => ?_)
        refine y_callV_v_I hC hRm noS ml_X11_274 g3 (C4_add g3 g4 hw) (Nat.le_of_ble_eq_true rfl) (Nat.le_of_ble_eq_true rfl) ⟨Nat.zero_le _, Nat.zero_le _⟩ rfl (st := []) rfl (Nat.le_of_ble_eq_true rfl) dX11_swap_43 (fun I3 hw => ?_)
        refine wm_aload_n hC 0 dX11_swap_46 rfl (k_ne0 hk0 (by decide)) ?_
        refine x_getR2 hC 2 fl_X11_26 rfl hk0 dX11_swap_47 hw (fun g5 hw => ?_)
        refine x_getR2 hC 3 fl_X11_213 rfl g5 dX11_swap_50 hw (fun g6 hw => ?_)
        refine wm_iload_n hC 1 dX11_swap_53 rfl ?_
        refine x_iald hC g6 dX11_swap_54 hw (fun hw => ?_)
        refine x_nameI hw (fun x1 hw => ?_)
        refine wm_istore_n hC dX11_swap_55 (by decide) (L2 := [(3, vi x1), (0, vr l0), (1, vi l1), (2, vi l2)]) rfl ?_
        refine wm_aload_n hC 1 dX11_swap_56 rfl (k_ne0 hk0 (by decide)) ?_
        refine x_getR2 hC 2 fl_X11_26 rfl hk0 dX11_swap_57 hw (fun g7 hw => ?_)
        refine x_getR2 hC 3 fl_X11_213 rfl g7 dX11_swap_60 hw (fun g8 hw => ?_)
        refine wm_iload_n hC 2 dX11_swap_63 rfl ?_
        refine wm_aload_n hC 1 dX11_swap_64 rfl (k_ne0 hk0 (by decide)) ?_
        refine x_getR2 hC 2 fl_X11_26 rfl hk0 dX11_swap_65 hw (fun g9 hw => ?_)
        refine x_getR2 hC 3 fl_X11_213 rfl g9 dX11_swap_68 hw (fun g10 hw => ?_)
        refine wm_iload_n hC 3 dX11_swap_71 rfl ?_
        refine x_iald hC g10 dX11_swap_72 hw (fun hw => ?_)
        refine x_iast hC g8 dX11_swap_73 hw (fun I4 hw => ?_)
        refine wm_aload_n hC 1 dX11_swap_74 rfl (k_ne0 hk0 (by decide)) ?_
        refine x_getR2 hC 2 fl_X11_26 rfl hk0 dX11_swap_75 hw (fun g11 hw => ?_)
        refine x_getR2 hC 3 fl_X11_213 rfl g11 dX11_swap_78 hw (fun g12 hw => ?_)
        refine wm_iload_n hC 3 dX11_swap_81 rfl ?_
        refine wm_iload_n hC 0 dX11_swap_82 rfl ?_
        refine x_iast hC g12 dX11_swap_83 hw (fun I5 hw => ?_)
        refine wm_iconst hC dX11_swap_84 (k := ?_)
        exact wm_zreturn hC hE (Or.inr rfl) dX11_swap_85 ⟨⟨rfl, rfl⟩, hw⟩
def P11_fill (l0 : Nat) (l1 : Int) (I : mI) (R : mR) (Q : Int → mI → Prop) : Prop := (if l1 < 0 then (P11_refuseIt l0 3 I R (fun r1 I1 => ((r1 = 0 ∨ r1 = 1) ∧ (Q r1 I1)))) else (if (9999 : Int) < l1 then (P11_refuseIt l0 3 I R (fun r2 I2 => ((r2 = 0 ∨ r2 = 1) ∧ (Q r2 I2)))) else (kK (R l0 2) = 7 ∧ (if l1 = (I (R l0 2) 1) then (P11_refuseIt l0 3 I R (fun r3 I5 => ((r3 = 0 ∨ r3 = 1) ∧ (Q r3 I5)))) else (kK (R l0 4) = 4 ∧ (kK (R l0 2) = 7 ∧ (P4_add (R l0 4) (R l0 2) I R (fun I3 => (kK (R l0 2) = 7 ∧ (wLet (up I3 (R l0 2) 1 l1) (fun I4 => (Q 1 I4))))))))))))
set_option maxRecDepth 20000 in
theorem C11_fill {ad : Nat → Nat} {n : Nat} {I J : mI} {R : mR} {Q : Int → mI → Prop}  {l0 : Nat} {l1 : Int} (hk0 : kK l0 = 11) (hw : P11_fill l0 l1 I R Q) : wMet yX11_fill cX11_fill 2 (some .boolean) 3 102 false ad n I J R [vr l0, vi l1] (fun r I' J' R' => (J' = J ∧ R' = R) ∧ Q r I') := by
  refine wMet_of (by decide) (Nat.le_of_ble_eq_true rfl) (fun C hC hRm hE hS => ?_)
  refine (show WM C ad n I J R 0 0 0 [(0, vr l0), (1, vi l1)] [] from ?_)
  unfold P11_fill at hw
  refine wm_iload_n hC 1 dX11_fill_0 rfl ?_
  refine wm_if_lt (tgt := 22) hC dX11_fill_1 (by decide) hw (fun hw => ?_) (fun hw => ?_)
  · refine wm_aload_n hC 0 dX11_fill_22 rfl (k_ne0 hk0 (by decide)) ?_
    refine wm_iconst hC dX11_fill_23 (k := ?_)
    refine y_callV_z_I hC hRm noS ml_X11_125 hk0 (C11_refuseIt hk0 hw) (Nat.le_of_ble_eq_true rfl) (Nat.le_of_ble_eq_true rfl) ⟨Nat.zero_le _, Nat.zero_le _⟩ rfl (st := []) rfl (Nat.le_of_ble_eq_true rfl) dX11_fill_24 (fun r1 I1 hw => ?_)
    obtain ⟨z01, hw⟩ := hw
    exact wm_zreturn hC hE z01 dX11_fill_27 ⟨⟨rfl, rfl⟩, hw⟩
  · refine wm_iload_n hC 1 dX11_fill_4 rfl ?_
    refine wm_sipush hC dX11_fill_5 (k := ?_)
    refine wm_icmp_gt (tgt := 22) hC dX11_fill_8 (by decide) hw (fun hw => ?_) (fun hw => ?_)
    · refine wm_aload_n hC 0 dX11_fill_22 rfl (k_ne0 hk0 (by decide)) ?_
      refine wm_iconst hC dX11_fill_23 (k := ?_)
      refine y_callV_z_I hC hRm noS ml_X11_125 hk0 (C11_refuseIt hk0 hw) (Nat.le_of_ble_eq_true rfl) (Nat.le_of_ble_eq_true rfl) ⟨Nat.zero_le _, Nat.zero_le _⟩ rfl (st := []) rfl (Nat.le_of_ble_eq_true rfl) dX11_fill_24 (fun r2 I2 hw => ?_)
      obtain ⟨z01, hw⟩ := hw
      exact wm_zreturn hC hE z01 dX11_fill_27 ⟨⟨rfl, rfl⟩, hw⟩
    · refine wm_iload_n hC 1 dX11_fill_11 rfl ?_
      refine wm_aload_n hC 0 dX11_fill_12 rfl (k_ne0 hk0 (by decide)) ?_
      refine x_getR2 hC 2 fl_X11_26 rfl hk0 dX11_fill_13 hw (fun g1 hw => ?_)
      refine x_getI hC 1 fl_X11_150 rfl g1 dX11_fill_16 ?_
      refine wm_icmp_ne (tgt := 28) hC dX11_fill_19 (by decide) hw (fun hw => ?_) (fun hw => ?_)
      · refine wm_aload_n hC 0 dX11_fill_22 rfl (k_ne0 hk0 (by decide)) ?_
        refine wm_iconst hC dX11_fill_23 (k := ?_)
        refine y_callV_z_I hC hRm noS ml_X11_125 hk0 (C11_refuseIt hk0 hw) (Nat.le_of_ble_eq_true rfl) (Nat.le_of_ble_eq_true rfl) ⟨Nat.zero_le _, Nat.zero_le _⟩ rfl (st := []) rfl (Nat.le_of_ble_eq_true rfl) dX11_fill_24 (fun r3 I5 hw => ?_)
        obtain ⟨z01, hw⟩ := hw
        exact wm_zreturn hC hE z01 dX11_fill_27 ⟨⟨rfl, rfl⟩, hw⟩
      · refine wm_aload_n hC 0 dX11_fill_28 rfl (k_ne0 hk0 (by decide)) ?_
        refine x_getR2 hC 4 fl_X11_36 rfl hk0 dX11_fill_29 hw (fun g2 hw => ?_)
        refine wm_aload_n hC 0 dX11_fill_32 rfl (k_ne0 hk0 (by decide)) ?_
        refine x_getR2 hC 2 fl_X11_26 rfl hk0 dX11_fill_33 hw (fun g3 hw => ?_)
        refine y_callV_v_I hC hRm noS ml_X11_274 g2 (C4_add g2 g3 hw) (Nat.le_of_ble_eq_true rfl) (Nat.le_of_ble_eq_true rfl) ⟨Nat.zero_le _, Nat.zero_le _⟩ rfl (st := []) rfl (Nat.le_of_ble_eq_true rfl) dX11_fill_36 (fun I3 hw => ?_)
        refine wm_aload_n hC 0 dX11_fill_39 rfl (k_ne0 hk0 (by decide)) ?_
        refine x_getR2 hC 2 fl_X11_26 rfl hk0 dX11_fill_40 hw (fun g4 hw => ?_)
        refine wm_iload_n hC 1 dX11_fill_43 rfl ?_
        refine x_putI hC 1 fl_X11_150 rfl g4 dX11_fill_44 hw (fun I4 hw => ?_)
        refine wm_iconst hC dX11_fill_47 (k := ?_)
        exact wm_zreturn hC hE (Or.inr rfl) dX11_fill_48 ⟨⟨rfl, rfl⟩, hw⟩
def P11_undo (l0 : Nat) (I : mI) (R : mR) (Q : Int → mI → Prop) : Prop := (kK (R l0 4) = 4 ∧ (if (I (R l0 4) 2) = 0 then (P11_refuseIt l0 4 I R (fun r1 I2 => ((r1 = 0 ∨ r1 = 1) ∧ (Q r1 I2)))) else (kK (R l0 4) = 4 ∧ (kK (R l0 2) = 7 ∧ (P4_takeBack (R l0 4) (R l0 2) I R (fun I1 => (Q 1 I1)))))))
set_option maxRecDepth 20000 in
theorem C11_undo {ad : Nat → Nat} {n : Nat} {I J : mI} {R : mR} {Q : Int → mI → Prop}  {l0 : Nat} (hk0 : kK l0 = 11) (hw : P11_undo l0 I R Q) : wMet yX11_undo cX11_undo 1 (some .boolean) 3 102 false ad n I J R [vr l0] (fun r I' J' R' => (J' = J ∧ R' = R) ∧ Q r I') := by
  refine wMet_of (by decide) (Nat.le_of_ble_eq_true rfl) (fun C hC hRm hE hS => ?_)
  refine (show WM C ad n I J R 0 0 0 [(0, vr l0)] [] from ?_)
  unfold P11_undo at hw
  refine wm_aload_n hC 0 dX11_undo_0 rfl (k_ne0 hk0 (by decide)) ?_
  refine x_getR2 hC 4 fl_X11_36 rfl hk0 dX11_undo_1 hw (fun g1 hw => ?_)
  refine x_getI hC 2 fl_X11_139 rfl g1 dX11_undo_4 ?_
  refine wm_if_ne (tgt := 16) hC dX11_undo_7 (by decide) hw (fun hw => ?_) (fun hw => ?_)
  · refine wm_aload_n hC 0 dX11_undo_10 rfl (k_ne0 hk0 (by decide)) ?_
    refine wm_iconst hC dX11_undo_11 (k := ?_)
    refine y_callV_z_I hC hRm noS ml_X11_125 hk0 (C11_refuseIt hk0 hw) (Nat.le_of_ble_eq_true rfl) (Nat.le_of_ble_eq_true rfl) ⟨Nat.zero_le _, Nat.zero_le _⟩ rfl (st := []) rfl (Nat.le_of_ble_eq_true rfl) dX11_undo_12 (fun r1 I2 hw => ?_)
    obtain ⟨z01, hw⟩ := hw
    exact wm_zreturn hC hE z01 dX11_undo_15 ⟨⟨rfl, rfl⟩, hw⟩
  · refine wm_aload_n hC 0 dX11_undo_16 rfl (k_ne0 hk0 (by decide)) ?_
    refine x_getR2 hC 4 fl_X11_36 rfl hk0 dX11_undo_17 hw (fun g2 hw => ?_)
    refine wm_aload_n hC 0 dX11_undo_20 rfl (k_ne0 hk0 (by decide)) ?_
    refine x_getR2 hC 2 fl_X11_26 rfl hk0 dX11_undo_21 hw (fun g3 hw => ?_)
    refine y_callV_v_I hC hRm noS ml_X11_287 g2 (C4_takeBack g2 g3 hw) (Nat.le_of_ble_eq_true rfl) (Nat.le_of_ble_eq_true rfl) ⟨Nat.zero_le _, Nat.zero_le _⟩ rfl (st := []) rfl (Nat.le_of_ble_eq_true rfl) dX11_undo_24 (fun I1 hw => ?_)
    refine wm_iconst hC dX11_undo_27 (k := ?_)
    exact wm_zreturn hC hE (Or.inr rfl) dX11_undo_28 ⟨⟨rfl, rfl⟩, hw⟩
def P11_seed (l0 : Nat) (l1 : Int) (I : mI) (R : mR) (Q : Int → mI → Prop) : Prop := (if (0 : Int) ≤ l1 then (wLet (up I l0 16 l1) (fun I1 => (Q 1 I1))) else (P11_refuseIt l0 5 I R (fun r1 I2 => ((r1 = 0 ∨ r1 = 1) ∧ (Q r1 I2)))))
set_option maxRecDepth 20000 in
theorem C11_seed {ad : Nat → Nat} {n : Nat} {I J : mI} {R : mR} {Q : Int → mI → Prop}  {l0 : Nat} {l1 : Int} (hk0 : kK l0 = 11) (hw : P11_seed l0 l1 I R Q) : wMet yX11_seed cX11_seed 2 (some .boolean) 3 54 false ad n I J R [vr l0, vi l1] (fun r I' J' R' => (J' = J ∧ R' = R) ∧ Q r I') := by
  refine wMet_of (by decide) (Nat.le_of_ble_eq_true rfl) (fun C hC hRm hE hS => ?_)
  refine (show WM C ad n I J R 0 0 0 [(0, vr l0), (1, vi l1)] [] from ?_)
  unfold P11_seed at hw
  refine wm_iload_n hC 1 dX11_seed_0 rfl ?_
  refine wm_if_ge (tgt := 10) hC dX11_seed_1 (by decide) hw (fun hw => ?_) (fun hw => ?_)
  · refine wm_aload_n hC 0 dX11_seed_10 rfl (k_ne0 hk0 (by decide)) ?_
    refine wm_iload_n hC 1 dX11_seed_11 rfl ?_
    refine x_putI hC 16 fl_X11_71 rfl hk0 dX11_seed_12 hw (fun I1 hw => ?_)
    refine wm_iconst hC dX11_seed_15 (k := ?_)
    exact wm_zreturn hC hE (Or.inr rfl) dX11_seed_16 ⟨⟨rfl, rfl⟩, hw⟩
  · refine wm_aload_n hC 0 dX11_seed_4 rfl (k_ne0 hk0 (by decide)) ?_
    refine wm_iconst hC dX11_seed_5 (k := ?_)
    refine y_callV_z_I hC hRm noS ml_X11_125 hk0 (C11_refuseIt hk0 hw) (Nat.le_of_ble_eq_true rfl) (Nat.le_of_ble_eq_true rfl) ⟨Nat.zero_le _, Nat.zero_le _⟩ rfl (st := []) rfl (Nat.le_of_ble_eq_true rfl) dX11_seed_6 (fun r1 I2 hw => ?_)
    obtain ⟨z01, hw⟩ := hw
    exact wm_zreturn hC hE z01 dX11_seed_9 ⟨⟨rfl, rfl⟩, hw⟩
def P11_kept (l0 : Nat) (l1 : Int) (l2 : Int) (I : mI) (R : mR) (Q : Int → Prop) : Prop := (kK (R l0 2) = 7 ∧ (P7_keptOf (R l0 2) l1 l2 I R (fun r1 => (Q r1))))
set_option maxRecDepth 20000 in
theorem C11_kept {ad : Nat → Nat} {n : Nat} {I J : mI} {R : mR} {Q : Int → Prop}  {l0 : Nat} {l1 : Int} {l2 : Int} (hk0 : kK l0 = 11) (hw : P11_kept l0 l1 l2 I R Q) : wMet yX11_kept cX11_kept 3 (some .int) 2 34 false ad n I J R [vr l0, vi l1, vi l2] (fun r I' J' R' => (I' = I ∧ J' = J ∧ R' = R) ∧ Q r) := by
  refine wMet_of (by decide) (Nat.le_of_ble_eq_true rfl) (fun C hC hRm hE hS => ?_)
  refine (show WM C ad n I J R 0 0 0 [(0, vr l0), (1, vi l1), (2, vi l2)] [] from ?_)
  unfold P11_kept at hw
  refine wm_aload_n hC 0 dX11_kept_0 rfl (k_ne0 hk0 (by decide)) ?_
  refine x_getR2 hC 2 fl_X11_26 rfl hk0 dX11_kept_1 hw (fun g1 hw => ?_)
  refine wm_iload_n hC 1 dX11_kept_4 rfl ?_
  refine wm_iload_n hC 2 dX11_kept_5 rfl ?_
  refine y_callV_i_n hC hRm noS ml_X11_290 g1 (C7_keptOf g1 hw) (Nat.le_of_ble_eq_true rfl) (Nat.le_of_ble_eq_true rfl) ⟨Nat.zero_le _, Nat.zero_le _⟩ rfl (st := []) rfl (Nat.le_of_ble_eq_true rfl) dX11_kept_6 (fun r1 hw => ?_)
  exact wm_ireturn hC hE dX11_kept_9 ⟨⟨rfl, rfl, rfl⟩, hw⟩
def P11_image (l0 : Nat) (I : mI) (R : mR) (Q : Int → mI → Prop) : Prop := (kK (R l0 5) = 5 ∧ (kK (R l0 12) = 3 ∧ (kK (R l0 2) = 7 ∧ (P5_write (R l0 5) (R l0 12) (R l0 2) I R (fun I1 => (kK (R l0 5) = 5 ∧ (Q (I1 (R l0 5) 1) I1)))))))
set_option maxRecDepth 20000 in
theorem C11_image {ad : Nat → Nat} {n : Nat} {I J : mI} {R : mR} {Q : Int → mI → Prop}  {l0 : Nat} (hk0 : kK l0 = 11) (hw : P11_image l0 I R Q) : wMet yX11_image cX11_image 1 (some .int) 3 58 false ad n I J R [vr l0] (fun r I' J' R' => (J' = J ∧ R' = R) ∧ Q r I') := by
  refine wMet_of (by decide) (Nat.le_of_ble_eq_true rfl) (fun C hC hRm hE hS => ?_)
  refine (show WM C ad n I J R 0 0 0 [(0, vr l0)] [] from ?_)
  unfold P11_image at hw
  refine wm_aload_n hC 0 dX11_image_0 rfl (k_ne0 hk0 (by decide)) ?_
  refine x_getR2 hC 5 fl_X11_43 rfl hk0 dX11_image_1 hw (fun g1 hw => ?_)
  refine wm_aload_n hC 0 dX11_image_4 rfl (k_ne0 hk0 (by decide)) ?_
  refine x_getR2 hC 12 fl_X11_57 rfl hk0 dX11_image_5 hw (fun g2 hw => ?_)
  refine wm_aload_n hC 0 dX11_image_8 rfl (k_ne0 hk0 (by decide)) ?_
  refine x_getR2 hC 2 fl_X11_26 rfl hk0 dX11_image_9 hw (fun g3 hw => ?_)
  refine y_callV_v_I hC hRm noS ml_X11_293 g1 (C5_write g1 g2 g3 hw) (Nat.le_of_ble_eq_true rfl) (Nat.le_of_ble_eq_true rfl) ⟨Nat.zero_le _, Nat.zero_le _⟩ rfl (st := []) rfl (Nat.le_of_ble_eq_true rfl) dX11_image_12 (fun I1 hw => ?_)
  refine wm_aload_n hC 0 dX11_image_15 rfl (k_ne0 hk0 (by decide)) ?_
  refine x_getR2 hC 5 fl_X11_43 rfl hk0 dX11_image_16 hw (fun g4 hw => ?_)
  refine x_getI hC 1 fl_X11_297 rfl g4 dX11_image_19 ?_
  exact wm_ireturn hC hE dX11_image_22 ⟨⟨rfl, rfl⟩, hw⟩
def P11_octet (l0 : Nat) (l1 : Int) (I : mI) (R : mR) (Q : Int → Prop) : Prop := (kK (R l0 5) = 5 ∧ (P5_byteAt (R l0 5) l1 I R (fun r1 => (Q r1))))
set_option maxRecDepth 20000 in
theorem C11_octet {ad : Nat → Nat} {n : Nat} {I J : mI} {R : mR} {Q : Int → Prop}  {l0 : Nat} {l1 : Int} (hk0 : kK l0 = 11) (hw : P11_octet l0 l1 I R Q) : wMet yX11_octet cX11_octet 2 (some .int) 2 33 false ad n I J R [vr l0, vi l1] (fun r I' J' R' => (I' = I ∧ J' = J ∧ R' = R) ∧ Q r) := by
  refine wMet_of (by decide) (Nat.le_of_ble_eq_true rfl) (fun C hC hRm hE hS => ?_)
  refine (show WM C ad n I J R 0 0 0 [(0, vr l0), (1, vi l1)] [] from ?_)
  unfold P11_octet at hw
  refine wm_aload_n hC 0 dX11_octet_0 rfl (k_ne0 hk0 (by decide)) ?_
  refine x_getR2 hC 5 fl_X11_43 rfl hk0 dX11_octet_1 hw (fun g1 hw => ?_)
  refine wm_iload_n hC 1 dX11_octet_4 rfl ?_
  refine y_callV_i_n hC hRm noS ml_X11_298 g1 (C5_byteAt g1 hw) (Nat.le_of_ble_eq_true rfl) (Nat.le_of_ble_eq_true rfl) ⟨Nat.zero_le _, Nat.zero_le _⟩ rfl (st := []) rfl (Nat.le_of_ble_eq_true rfl) dX11_octet_5 (fun r1 hw => ?_)
  exact wm_ireturn hC hE dX11_octet_8 ⟨⟨rfl, rfl, rfl⟩, hw⟩
def P11_on_b39 (l0 : Nat) (l1 : Int) (I : mI) (R : mR) (Q : Int → mI → Prop) : Prop := (kK (R l0 0) = 9 ∧ (wLet (up I (R l0 0) 1 0) (fun I3 => (if l1 = 0 then (P11_refuseIt l0 5 I3 R (fun r2 I4 => (if r2 = 0 then (Q 0 I4) else (Q 1 I4)))) else (Q 1 I3)))))
set_option maxRecDepth 20000 in
theorem W11_on_b39 {C : wX} {ad : Nat → Nat} {n : Nat} {I J : mI} {R : mR} {Q : Int → mI → Prop} (hC : wOK C cX11_on 2 RX11) (hRm : wRm C 4 81 0 0) (hE : wEnd C (some .boolean) ad n (fun r I' J' R' => (J' = J ∧ R' = R) ∧ Q r I')) {l0 : Nat} {l1 : Int}   (hk0 : kK l0 = 11)  (hw : P11_on_b39 l0 l1 I R Q) : WM C ad n I J R 0 0 39 [(0, vr l0), (1, vi l1)] [] := by
  unfold P11_on_b39 at hw
  refine wm_aload_n hC 0 dX11_on_39 rfl (k_ne0 hk0 (by decide)) ?_
  refine x_getR2 hC 0 fl_X11_10 rfl hk0 dX11_on_40 hw (fun g7 hw => ?_)
  refine wm_iconst hC dX11_on_43 (k := ?_)
  refine x_putI hC 1 fl_X11_114 rfl g7 dX11_on_44 hw (fun I3 hw => ?_)
  refine wm_iload_n hC 1 dX11_on_47 rfl ?_
  refine wm_if_ne (tgt := 59) hC dX11_on_48 (by decide) hw (fun hw => ?_) (fun hw => ?_)
  · refine wm_aload_n hC 0 dX11_on_51 rfl (k_ne0 hk0 (by decide)) ?_
    refine wm_iconst hC dX11_on_52 (k := ?_)
    refine y_callV_z_I hC hRm noS ml_X11_125 hk0 (C11_refuseIt hk0 hw) (Nat.le_of_ble_eq_true rfl) (Nat.le_of_ble_eq_true rfl) ⟨Nat.zero_le _, Nat.zero_le _⟩ rfl (st := []) rfl (Nat.le_of_ble_eq_true rfl) dX11_on_53 (fun r2 I4 hw => ?_)
    refine wm_if_eq (tgt := 63) hC dX11_on_56 (by decide) hw (fun hw => ?_) (fun hw => ?_)
    · refine wm_iconst hC dX11_on_63 (k := ?_)
      exact wm_zreturn hC hE (Or.inl rfl) dX11_on_64 ⟨⟨rfl, rfl⟩, hw⟩
    · refine wm_iconst hC dX11_on_59 (k := ?_)
      refine wm_goto (tgt := 64) hC dX11_on_60 (by decide) ?_
      exact wm_zreturn hC hE (Or.inr rfl) dX11_on_64 ⟨⟨rfl, rfl⟩, hw⟩
  · refine wm_iconst hC dX11_on_59 (k := ?_)
    refine wm_goto (tgt := 64) hC dX11_on_60 (by decide) ?_
    exact wm_zreturn hC hE (Or.inr rfl) dX11_on_64 ⟨⟨rfl, rfl⟩, hw⟩
def P11_on (l0 : Nat) (I : mI) (R : mR) (Q : Int → mI → Prop) : Prop := (kK (R l0 0) = 9 ∧ (kK (R l0 12) = 3 ∧ (P5_fits (R l0 0) (R l0 12) I R (fun r1 => (if r1 = 0 then (P11_on_b39 l0 r1 I R Q) else (kK (R l0 0) = 9 ∧ (kK (R l0 12) = 3 ∧ (kK (R l0 2) = 7 ∧ (P5_show (R l0 0) (R l0 12) (R l0 2) I R (fun I1 => (kK (R l0 4) = 4 ∧ (wLet (up I1 (R l0 4) 2 0) (fun I2 => (P11_on_b39 l0 r1 I2 R Q))))))))))))))
set_option maxRecDepth 20000 in
theorem C11_on {ad : Nat → Nat} {n : Nat} {I J : mI} {R : mR} {Q : Int → mI → Prop}  {l0 : Nat} (hk0 : kK l0 = 11) (hw : P11_on l0 I R Q) : wMet yX11_on cX11_on 2 (some .boolean) 4 81 false ad n I J R [vr l0] (fun r I' J' R' => (J' = J ∧ R' = R) ∧ Q r I') := by
  refine wMet_of (by decide) (Nat.le_of_ble_eq_true rfl) (fun C hC hRm hE hS => ?_)
  refine (show WM C ad n I J R 0 0 0 [(0, vr l0)] [] from ?_)
  unfold P11_on at hw
  refine wm_aload_n hC 0 dX11_on_0 rfl (k_ne0 hk0 (by decide)) ?_
  refine x_getR2 hC 0 fl_X11_10 rfl hk0 dX11_on_1 hw (fun g1 hw => ?_)
  refine wm_aload_n hC 0 dX11_on_4 rfl (k_ne0 hk0 (by decide)) ?_
  refine x_getR2 hC 12 fl_X11_57 rfl hk0 dX11_on_5 hw (fun g2 hw => ?_)
  refine y_callS_z_n hC hRm noS ml_X11_301 (C5_fits g1 g2 hw) (Nat.le_of_ble_eq_true rfl) (Nat.le_of_ble_eq_true rfl) ⟨Nat.zero_le _, Nat.zero_le _⟩ rfl (st := []) rfl (Nat.le_of_ble_eq_true rfl) dX11_on_8 (fun r1 hw => ?_)
  refine wm_istore_n hC dX11_on_11 (by decide) (L2 := [(1, vi r1), (0, vr l0)]) rfl ?_
  refine wm_iload_n hC 0 dX11_on_12 rfl ?_
  refine wm_if_eq (tgt := 39) hC dX11_on_13 (by decide) hw (fun hw => ?_) (fun hw => ?_)
  · refine wm_sub [1, 0] (L2 := [(0, vr l0), (1, vi r1)]) rfl ?_
    exact W11_on_b39 hC hRm hE hk0 hw
  · refine wm_aload_n hC 1 dX11_on_16 rfl (k_ne0 hk0 (by decide)) ?_
    refine x_getR2 hC 0 fl_X11_10 rfl hk0 dX11_on_17 hw (fun g3 hw => ?_)
    refine wm_aload_n hC 1 dX11_on_20 rfl (k_ne0 hk0 (by decide)) ?_
    refine x_getR2 hC 12 fl_X11_57 rfl hk0 dX11_on_21 hw (fun g4 hw => ?_)
    refine wm_aload_n hC 1 dX11_on_24 rfl (k_ne0 hk0 (by decide)) ?_
    refine x_getR2 hC 2 fl_X11_26 rfl hk0 dX11_on_25 hw (fun g5 hw => ?_)
    refine y_callS_v_I hC hRm noS ml_X11_304 (C5_show g3 g4 g5 hw) (Nat.le_of_ble_eq_true rfl) (Nat.le_of_ble_eq_true rfl) ⟨Nat.zero_le _, Nat.zero_le _⟩ rfl (st := []) rfl (Nat.le_of_ble_eq_true rfl) dX11_on_28 (fun I1 hw => ?_)
    refine wm_aload_n hC 1 dX11_on_31 rfl (k_ne0 hk0 (by decide)) ?_
    refine x_getR2 hC 4 fl_X11_36 rfl hk0 dX11_on_32 hw (fun g6 hw => ?_)
    refine wm_iconst hC dX11_on_35 (k := ?_)
    refine x_putI hC 2 fl_X11_139 rfl g6 dX11_on_36 hw (fun I2 hw => ?_)
    refine wm_sub [1, 0] (L2 := [(0, vr l0), (1, vi r1)]) rfl ?_
    exact W11_on_b39 hC hRm hE hk0 hw
def P11_status (l0 : Nat) (l1 : Int) (I : mI) (R : mR) (Q : Int → Prop) : Prop := (if l1 < 0 then (Q (-1)) else (kK (R l0 7) = 21 ∧ (if (kN (R l0 7) : Int) ≤ l1 then (Q (-1)) else (kK (R l0 7) = 21 ∧ (((0 : Int) ≤ l1 ∧ l1 < (kN (R l0 7) : Int)) ∧ (Q (I (R l0 7) l1)))))))
set_option maxRecDepth 20000 in
theorem C11_status {ad : Nat → Nat} {n : Nat} {I J : mI} {R : mR} {Q : Int → Prop}  {l0 : Nat} {l1 : Int} (hk0 : kK l0 = 11) (hw : P11_status l0 l1 I R Q) : wMet yX11_status cX11_status 2 (some .int) 1 12 false ad n I J R [vr l0, vi l1] (fun r I' J' R' => (I' = I ∧ J' = J ∧ R' = R) ∧ Q r) := by
  refine wMet_of (by decide) (Nat.le_of_ble_eq_true rfl) (fun C hC hRm hE hS => ?_)
  refine (show WM C ad n I J R 0 0 0 [(0, vr l0), (1, vi l1)] [] from ?_)
  unfold P11_status at hw
  refine wm_iload_n hC 1 dX11_status_0 rfl ?_
  refine wm_if_lt (tgt := 22) hC dX11_status_1 (by decide) hw (fun hw => ?_) (fun hw => ?_)
  · refine wm_iconst hC dX11_status_22 (k := ?_)
    exact wm_ireturn hC hE dX11_status_23 ⟨⟨rfl, rfl, rfl⟩, hw⟩
  · refine wm_iload_n hC 1 dX11_status_4 rfl ?_
    refine wm_aload_n hC 0 dX11_status_5 rfl (k_ne0 hk0 (by decide)) ?_
    refine x_getR2 hC 7 fl_X11_51 rfl hk0 dX11_status_6 hw (fun g1 hw => ?_)
    refine x_alen hC g1 (by decide) dX11_status_9 ?_
    refine wm_icmp_ge (tgt := 22) hC dX11_status_10 (by decide) hw (fun hw => ?_) (fun hw => ?_)
    · refine wm_iconst hC dX11_status_22 (k := ?_)
      exact wm_ireturn hC hE dX11_status_23 ⟨⟨rfl, rfl, rfl⟩, hw⟩
    · refine wm_aload_n hC 0 dX11_status_13 rfl (k_ne0 hk0 (by decide)) ?_
      refine x_getR2 hC 7 fl_X11_51 rfl hk0 dX11_status_14 hw (fun g2 hw => ?_)
      refine wm_iload_n hC 1 dX11_status_17 rfl ?_
      refine x_iald hC g2 dX11_status_18 hw (fun hw => ?_)
      refine wm_goto (tgt := 23) hC dX11_status_19 (by decide) ?_
      exact wm_ireturn hC hE dX11_status_23 ⟨⟨rfl, rfl, rfl⟩, hw⟩
def P12_is (l0 : Int) (l1 : Int) (l2 : Int)  (Q : Int → Prop) : Prop := (if l0 < l1 then (Q 0) else (if l2 < l0 then (Q 0) else (Q 1)))
set_option maxRecDepth 20000 in
theorem C12_is {ad : Nat → Nat} {n : Nat} {I J : mI} {R : mR} {Q : Int → Prop}  {l0 : Int} {l1 : Int} {l2 : Int}  (hw : P12_is l0 l1 l2 Q) : wMet yX12_is cX12_is 3 (some .boolean) 1 12 false ad n I J R [vi l0, vi l1, vi l2] (fun r I' J' R' => (I' = I ∧ J' = J ∧ R' = R) ∧ Q r) := by
  refine wMet_of (by decide) (Nat.le_of_ble_eq_true rfl) (fun C hC hRm hE hS => ?_)
  refine (show WM C ad n I J R 0 0 0 [(0, vi l0), (1, vi l1), (2, vi l2)] [] from ?_)
  unfold P12_is at hw
  refine wm_iload_n hC 0 dX12_is_0 rfl ?_
  refine wm_iload_n hC 1 dX12_is_1 rfl ?_
  refine wm_icmp_lt (tgt := 14) hC dX12_is_2 (by decide) hw (fun hw => ?_) (fun hw => ?_)
  · refine wm_iconst hC dX12_is_14 (k := ?_)
    exact wm_zreturn hC hE (Or.inl rfl) dX12_is_15 ⟨⟨rfl, rfl, rfl⟩, hw⟩
  · refine wm_iload_n hC 0 dX12_is_5 rfl ?_
    refine wm_iload_n hC 2 dX12_is_6 rfl ?_
    refine wm_icmp_gt (tgt := 14) hC dX12_is_7 (by decide) hw (fun hw => ?_) (fun hw => ?_)
    · refine wm_iconst hC dX12_is_14 (k := ?_)
      exact wm_zreturn hC hE (Or.inl rfl) dX12_is_15 ⟨⟨rfl, rfl, rfl⟩, hw⟩
    · refine wm_iconst hC dX12_is_10 (k := ?_)
      refine wm_goto (tgt := 15) hC dX12_is_11 (by decide) ?_
      exact wm_zreturn hC hE (Or.inr rfl) dX12_is_15 ⟨⟨rfl, rfl, rfl⟩, hw⟩
def P12_put_b3_body (l0 : Nat) (l1 : Int) (R : mR) (Q : mI → Prop) (k3 : Int → mI → Prop) (l2 : Int) (I : mI) : Prop := (if l2 < 0 then (Q I) else (kK (R l0 0) = 21 ∧ (((0 : Int) ≤ (I l0 1) ∧ (I l0 1) < (kN (R l0 0) : Int)) ∧ wLet (up I (R l0 0) (I l0 1) (bAnd (bShr l1 l2) 255)) (fun I1 => (rg ((I1 l0 1) + 1) ∧ (wLet (up I1 l0 1 ((I1 l0 1) + 1)) (fun I2 => (rg (l2 + (-8)) ∧ (k3 (l2 + (-8)) I2)))))))))
def P12_put_b3 (l0 : Nat) (l1 : Int) (R : mR) (Q : mI → Prop) : Nat → Int → mI → Prop
  | 0 => fun _ _ => False
  | f + 1 => fun l2 I => P12_put_b3_body l0 l1 R Q (P12_put_b3 l0 l1 R Q f) l2 I
set_option maxRecDepth 20000 in
theorem W12_put_b3_body {C : wX} {ad : Nat → Nat} {n : Nat} {I J : mI} {R : mR} {Q : mI → Prop} (hC : wOK C cX12_put 3 RX12) (hRm : wRm C 1 12 0 0) (hE : wEnd C none ad n (fun _ I' J' R' => (J' = J ∧ R' = R) ∧ Q I')) {l0 : Nat} {l1 : Int} {l2 : Int}   (hk0 : kK l0 = 12)  {k3 : Int → mI → Prop} (kk3 : ∀ (y2 : Int) (I' : mI), k3 y2 I' → WM C ad n I' J R 0 0 3 [(0, vr l0), (1, vi l1), (2, vi y2)] []) (hw : P12_put_b3_body l0 l1 R Q k3 l2 I) : WM C ad n I J R 0 0 3 [(0, vr l0), (1, vi l1), (2, vi l2)] [] := by
  unfold P12_put_b3_body at hw
  refine wm_iload_n hC 2 dX12_put_3 rfl ?_
  refine wm_if_lt (tgt := 39) hC dX12_put_4 (by decide) hw (fun hw => ?_) (fun hw => ?_)
  · exact wm_return hC hE dX12_put_39 ⟨⟨rfl, rfl⟩, hw⟩
  · refine wm_aload_n hC 0 dX12_put_7 rfl (k_ne0 hk0 (by decide)) ?_
    refine x_getR2 hC 0 fl_X12_7 rfl hk0 dX12_put_8 hw (fun g1 hw => ?_)
    refine wm_aload_n hC 0 dX12_put_11 rfl (k_ne0 hk0 (by decide)) ?_
    refine x_getI hC 1 fl_X12_13 rfl hk0 dX12_put_12 ?_
    refine wm_iload_n hC 1 dX12_put_15 rfl ?_
    refine wm_iload_n hC 2 dX12_put_16 rfl ?_
    refine wm_ishr hC dX12_put_17 ?_
    refine wm_sipush hC dX12_put_18 (k := ?_)
    refine wm_iand hC dX12_put_21 ?_
    refine x_iast hC g1 dX12_put_22 hw (fun I1 hw => ?_)
    refine wm_aload_n hC 0 dX12_put_23 rfl (k_ne0 hk0 (by decide)) ?_
    refine wm_dup hC dX12_put_24 (k := ?_)
    refine x_getI hC 1 fl_X12_13 rfl hk0 dX12_put_25 ?_
    refine wm_iconst hC dX12_put_28 (k := ?_)
    refine x_iadd hC dX12_put_29 hw (fun hw => ?_)
    refine x_putI hC 1 fl_X12_13 rfl hk0 dX12_put_30 hw (fun I2 hw => ?_)
    refine x_iinc hC 2 dX12_put_33 rfl (by decide) (L2 := [(2, vi (l2 + (-8))), (0, vr l0), (1, vi l1)]) rfl hw (fun hw => ?_)
    refine wm_goto (tgt := 3) hC dX12_put_36 (by decide) ?_
    refine wm_sub [1, 2, 0] (L2 := [(0, vr l0), (1, vi l1), (2, vi (l2 + (-8)))]) rfl ?_
    exact kk3 _ _ hw
set_option maxRecDepth 20000 in
theorem W12_put_b3 {C : wX} {ad : Nat → Nat} {n : Nat} {J : mI} {R : mR} {Q : mI → Prop} (hC : wOK C cX12_put 3 RX12) (hRm : wRm C 1 12 0 0) (hE : wEnd C none ad n (fun _ I' J' R' => (J' = J ∧ R' = R) ∧ Q I')) {l0 : Nat} {l1 : Int}   (hk0 : kK l0 = 12)  : ∀ (f : Nat) (l2 : Int) (I : mI), P12_put_b3 l0 l1 R Q f l2 I → WM C ad n I J R 0 0 3 [(0, vr l0), (1, vi l1), (2, vi l2)] [] := by
  intro f
  induction f with
  | zero => intro l2 I hw; exact hw.elim
  | succ f ih => intro l2 I hw; exact W12_put_b3_body hC hRm hE hk0 (fun a0 a1 hw => ih a0 a1 hw) hw
def P12_put (l0 : Nat) (l1 : Int) (I : mI) (R : mR) (Q : mI → Prop) : Prop := (∃ f, P12_put_b3 l0 l1 R Q f 24 I)
set_option maxRecDepth 20000 in
theorem C12_put {ad : Nat → Nat} {n : Nat} {I J : mI} {R : mR} {Q : mI → Prop}  {l0 : Nat} {l1 : Int} (hk0 : kK l0 = 12) (hw : P12_put l0 l1 I R Q) : wMet yX12_put cX12_put 3 none 1 12 false ad n I J R [vr l0, vi l1] (fun _ I' J' R' => (J' = J ∧ R' = R) ∧ Q I') := by
  refine wMet_of (by decide) (Nat.le_of_ble_eq_true rfl) (fun C hC hRm hE hS => ?_)
  refine (show WM C ad n I J R 0 0 0 [(0, vr l0), (1, vi l1)] [] from ?_)
  unfold P12_put at hw
  refine wm_bipush hC dX12_put_0 (k := ?_)
  refine wm_istore_n hC dX12_put_2 (by decide) (L2 := [(2, vi 24), (0, vr l0), (1, vi l1)]) rfl ?_
  obtain ⟨f, hw⟩ := hw
  refine wm_sub [1, 2, 0] (L2 := [(0, vr l0), (1, vi l1), (2, vi 24)]) rfl ?_
  exact W12_put_b3 hC hRm hE hk0 f _ _ hw
def P12_refuses (l0 : Nat) (l1 : Int) (I : mI) (R : mR) (Q : Int → mI → Prop) : Prop := (kK (R l0 44) = 21 ∧ (((0 : Int) ≤ l1 ∧ l1 < (kN (R l0 44) : Int)) ∧ (rg ((I (R l0 44) l1) + 1) ∧ (((0 : Int) ≤ l1 ∧ l1 < (kN (R l0 44) : Int)) ∧ wLet (up I (R l0 44) l1 ((I (R l0 44) l1) + 1)) (fun I1 => (Q (-1) I1))))))
set_option maxRecDepth 20000 in
theorem C12_refuses {ad : Nat → Nat} {n : Nat} {I J : mI} {R : mR} {Q : Int → mI → Prop}  {l0 : Nat} {l1 : Int} (hk0 : kK l0 = 12) (hw : P12_refuses l0 l1 I R Q) : wMet yX12_refuses cX12_refuses 2 (some .int) 1 12 false ad n I J R [vr l0, vi l1] (fun r I' J' R' => (J' = J ∧ R' = R) ∧ Q r I') := by
  refine wMet_of (by decide) (Nat.le_of_ble_eq_true rfl) (fun C hC hRm hE hS => ?_)
  refine (show WM C ad n I J R 0 0 0 [(0, vr l0), (1, vi l1)] [] from ?_)
  unfold P12_refuses at hw
  refine wm_aload_n hC 0 dX12_refuses_0 rfl (k_ne0 hk0 (by decide)) ?_
  refine x_getR2 hC 44 fl_X12_147 rfl hk0 dX12_refuses_1 hw (fun g1 hw => ?_)
  refine wm_iload_n hC 1 dX12_refuses_4 rfl ?_
  refine wm_dup2_11 hC dX12_refuses_5 (k := ?_)
  refine x_iald hC g1 dX12_refuses_6 hw (fun hw => ?_)
  refine wm_iconst hC dX12_refuses_7 (k := ?_)
  refine x_iadd hC dX12_refuses_8 hw (fun hw => ?_)
  refine x_iast hC g1 dX12_refuses_9 hw (fun I1 hw => ?_)
  refine wm_iconst hC dX12_refuses_10 (k := ?_)
  exact wm_ireturn hC hE dX12_refuses_11 ⟨⟨rfl, rfl⟩, hw⟩
def P12_feed (l0 : Nat) (l1 : Int) (l2 : Int) (l3 : Int) (l4 : Int) (l5 : Int) (I : mI) (R : mR) (Q : Int → mI → Prop) : Prop := (rg ((I l0 1) + 20) ∧ (if ((I l0 1) + 20) ≤ 1600 then (P12_put l0 l1 I R (fun I1 => (P12_put l0 l2 I1 R (fun I2 => (P12_put l0 l3 I2 R (fun I3 => (P12_put l0 l4 I3 R (fun I4 => (P12_put l0 l5 I4 R (fun I5 => (Q (I5 l0 1) I5))))))))))) else (P12_refuses l0 0 I R (fun r1 I6 => (Q r1 I6)))))
set_option maxRecDepth 20000 in
theorem C12_feed {ad : Nat → Nat} {n : Nat} {I J : mI} {R : mR} {Q : Int → mI → Prop}  {l0 : Nat} {l1 : Int} {l2 : Int} {l3 : Int} {l4 : Int} {l5 : Int} (hk0 : kK l0 = 12) (hw : P12_feed l0 l1 l2 l3 l4 l5 I R Q) : wMet yX12_feed cX12_feed 6 (some .int) 2 34 false ad n I J R [vr l0, vi l1, vi l2, vi l3, vi l4, vi l5] (fun r I' J' R' => (J' = J ∧ R' = R) ∧ Q r I') := by
  refine wMet_of (by decide) (Nat.le_of_ble_eq_true rfl) (fun C hC hRm hE hS => ?_)
  refine (show WM C ad n I J R 0 0 0 [(0, vr l0), (1, vi l1), (2, vi l2), (3, vi l3), (4, vi l4), (5, vi l5)] [] from ?_)
  unfold P12_feed at hw
  refine wm_aload_n hC 0 dX12_feed_0 rfl (k_ne0 hk0 (by decide)) ?_
  refine x_getI hC 1 fl_X12_13 rfl hk0 dX12_feed_1 ?_
  refine wm_bipush hC dX12_feed_4 (k := ?_)
  refine x_iadd hC dX12_feed_6 hw (fun hw => ?_)
  refine wm_sipush hC dX12_feed_7 (k := ?_)
  refine wm_icmp_le (tgt := 19) hC dX12_feed_10 (by decide) hw (fun hw => ?_) (fun hw => ?_)
  · refine wm_aload_n hC 0 dX12_feed_19 rfl (k_ne0 hk0 (by decide)) ?_
    refine wm_iload_n hC 1 dX12_feed_20 rfl ?_
    refine y_callV_v_I hC hRm noS ml_X12_226 hk0 (C12_put hk0 hw) (Nat.le_of_ble_eq_true rfl) (Nat.le_of_ble_eq_true rfl) ⟨Nat.zero_le _, Nat.zero_le _⟩ rfl (st := []) rfl (Nat.le_of_ble_eq_true rfl) dX12_feed_21 (fun I1 hw => ?_)
    refine wm_aload_n hC 0 dX12_feed_24 rfl (k_ne0 hk0 (by decide)) ?_
    refine wm_iload_n hC 2 dX12_feed_25 rfl ?_
    refine y_callV_v_I hC hRm noS ml_X12_226 hk0 (C12_put hk0 hw) (Nat.le_of_ble_eq_true rfl) (Nat.le_of_ble_eq_true rfl) ⟨Nat.zero_le _, Nat.zero_le _⟩ rfl (st := []) rfl (Nat.le_of_ble_eq_true rfl) dX12_feed_26 (fun I2 hw => ?_)
    refine wm_aload_n hC 0 dX12_feed_29 rfl (k_ne0 hk0 (by decide)) ?_
    refine wm_iload_n hC 3 dX12_feed_30 rfl ?_
    refine y_callV_v_I hC hRm noS ml_X12_226 hk0 (C12_put hk0 hw) (Nat.le_of_ble_eq_true rfl) (Nat.le_of_ble_eq_true rfl) ⟨Nat.zero_le _, Nat.zero_le _⟩ rfl (st := []) rfl (Nat.le_of_ble_eq_true rfl) dX12_feed_31 (fun I3 hw => ?_)
    refine wm_aload_n hC 0 dX12_feed_34 rfl (k_ne0 hk0 (by decide)) ?_
    refine wm_iload hC 4 dX12_feed_35 rfl ?_
    refine y_callV_v_I hC hRm noS ml_X12_226 hk0 (C12_put hk0 hw) (Nat.le_of_ble_eq_true rfl) (Nat.le_of_ble_eq_true rfl) ⟨Nat.zero_le _, Nat.zero_le _⟩ rfl (st := []) rfl (Nat.le_of_ble_eq_true rfl) dX12_feed_37 (fun I4 hw => ?_)
    refine wm_aload_n hC 0 dX12_feed_40 rfl (k_ne0 hk0 (by decide)) ?_
    refine wm_iload hC 5 dX12_feed_41 rfl ?_
    refine y_callV_v_I hC hRm noS ml_X12_226 hk0 (C12_put hk0 hw) (Nat.le_of_ble_eq_true rfl) (Nat.le_of_ble_eq_true rfl) ⟨Nat.zero_le _, Nat.zero_le _⟩ rfl (st := []) rfl (Nat.le_of_ble_eq_true rfl) dX12_feed_43 (fun I5 hw => ?_)
    refine wm_aload_n hC 0 dX12_feed_46 rfl (k_ne0 hk0 (by decide)) ?_
    refine x_getI hC 1 fl_X12_13 rfl hk0 dX12_feed_47 ?_
    exact wm_ireturn hC hE dX12_feed_50 ⟨⟨rfl, rfl⟩, hw⟩
  · refine wm_aload_n hC 0 dX12_feed_13 rfl (k_ne0 hk0 (by decide)) ?_
    refine wm_iconst hC dX12_feed_14 (k := ?_)
    refine y_callV_i_I hC hRm noS ml_X12_222 hk0 (C12_refuses hk0 hw) (Nat.le_of_ble_eq_true rfl) (Nat.le_of_ble_eq_true rfl) ⟨Nat.zero_le _, Nat.zero_le _⟩ rfl (st := []) rfl (Nat.le_of_ble_eq_true rfl) dX12_feed_15 (fun r1 I6 hw => ?_)
    exact wm_ireturn hC hE dX12_feed_18 ⟨⟨rfl, rfl⟩, hw⟩
def P12_end_b12 (l0 : Nat) (I : mI) (R : mR) (Q : Int → mI → Prop) : Prop := (P12_refuses l0 0 I R (fun r1 I2 => (if r1 < 0 then (Q 0 I2) else (Q 1 I2))))
set_option maxRecDepth 20000 in
theorem W12_end_b12 {C : wX} {ad : Nat → Nat} {n : Nat} {I J : mI} {R : mR} {Q : Int → mI → Prop} (hC : wOK C cX12_end 2 RX12) (hRm : wRm C 2 33 0 0) (hE : wEnd C (some .boolean) ad n (fun r I' J' R' => (J' = J ∧ R' = R) ∧ Q r I')) {l0 : Nat}   (hk0 : kK l0 = 12)  (hw : P12_end_b12 l0 I R Q) : WM C ad n I J R 0 0 12 [(0, vr l0)] [] := by
  unfold P12_end_b12 at hw
  refine wm_aload_n hC 0 dX12_end_12 rfl (k_ne0 hk0 (by decide)) ?_
  refine wm_iconst hC dX12_end_13 (k := ?_)
  refine y_callV_i_I hC hRm noS ml_X12_222 hk0 (C12_refuses hk0 hw) (Nat.le_of_ble_eq_true rfl) (Nat.le_of_ble_eq_true rfl) ⟨Nat.zero_le _, Nat.zero_le _⟩ rfl (st := []) rfl (Nat.le_of_ble_eq_true rfl) dX12_end_14 (fun r1 I2 hw => ?_)
  refine wm_if_lt (tgt := 24) hC dX12_end_17 (by decide) hw (fun hw => ?_) (fun hw => ?_)
  · refine wm_iconst hC dX12_end_24 (k := ?_)
    exact wm_zreturn hC hE (Or.inl rfl) dX12_end_25 ⟨⟨rfl, rfl⟩, hw⟩
  · refine wm_iconst hC dX12_end_20 (k := ?_)
    refine wm_goto (tgt := 25) hC dX12_end_21 (by decide) ?_
    exact wm_zreturn hC hE (Or.inr rfl) dX12_end_25 ⟨⟨rfl, rfl⟩, hw⟩
def P12_end (l0 : Nat) (l1 : Int) (I : mI) (R : mR) (Q : Int → mI → Prop) : Prop := (if l1 < 0 then (P12_end_b12 l0 I R Q) else (if l1 ≤ (I l0 1) then (wLet (up I l0 1 l1) (fun I1 => (Q 1 I1))) else (P12_end_b12 l0 I R Q)))
set_option maxRecDepth 20000 in
theorem C12_end {ad : Nat → Nat} {n : Nat} {I J : mI} {R : mR} {Q : Int → mI → Prop}  {l0 : Nat} {l1 : Int} (hk0 : kK l0 = 12) (hw : P12_end l0 l1 I R Q) : wMet yX12_end cX12_end 2 (some .boolean) 2 33 false ad n I J R [vr l0, vi l1] (fun r I' J' R' => (J' = J ∧ R' = R) ∧ Q r I') := by
  refine wMet_of (by decide) (Nat.le_of_ble_eq_true rfl) (fun C hC hRm hE hS => ?_)
  refine (show WM C ad n I J R 0 0 0 [(0, vr l0), (1, vi l1)] [] from ?_)
  unfold P12_end at hw
  refine wm_iload_n hC 1 dX12_end_0 rfl ?_
  refine wm_if_lt (tgt := 12) hC dX12_end_1 (by decide) hw (fun hw => ?_) (fun hw => ?_)
  · refine wm_sub [0] (L2 := [(0, vr l0)]) rfl ?_
    exact W12_end_b12 hC hRm hE hk0 hw
  · refine wm_iload_n hC 1 dX12_end_4 rfl ?_
    refine wm_aload_n hC 0 dX12_end_5 rfl (k_ne0 hk0 (by decide)) ?_
    refine x_getI hC 1 fl_X12_13 rfl hk0 dX12_end_6 ?_
    refine wm_icmp_le (tgt := 26) hC dX12_end_9 (by decide) hw (fun hw => ?_) (fun hw => ?_)
    · refine wm_aload_n hC 0 dX12_end_26 rfl (k_ne0 hk0 (by decide)) ?_
      refine wm_iload_n hC 1 dX12_end_27 rfl ?_
      refine x_putI hC 1 fl_X12_13 rfl hk0 dX12_end_28 hw (fun I1 hw => ?_)
      refine wm_iconst hC dX12_end_31 (k := ?_)
      exact wm_zreturn hC hE (Or.inr rfl) dX12_end_32 ⟨⟨rfl, rfl⟩, hw⟩
    · refine wm_sub [0] (L2 := [(0, vr l0)]) rfl ?_
      exact W12_end_b12 hC hRm hE hk0 hw
def P12_blame (l0 : Nat) (l1 : Int) (l2 : Int) (I : mI) (Q : mI → Prop) : Prop := (if (I l0 8) ≤ 0 then (wLet (up I l0 8 l1) (fun I1 => (wLet (up I1 l0 9 l2) (fun I2 => (Q I2))))) else (Q I))
set_option maxRecDepth 20000 in
theorem C12_blame {ad : Nat → Nat} {n : Nat} {I J : mI} {R : mR} {Q : mI → Prop}  {l0 : Nat} {l1 : Int} {l2 : Int} (hk0 : kK l0 = 12) (hw : P12_blame l0 l1 l2 I Q) : wMet yX12_blame cX12_blame 3 none 1 12 false ad n I J R [vr l0, vi l1, vi l2] (fun _ I' J' R' => (J' = J ∧ R' = R) ∧ Q I') := by
  refine wMet_of (by decide) (Nat.le_of_ble_eq_true rfl) (fun C hC hRm hE hS => ?_)
  refine (show WM C ad n I J R 0 0 0 [(0, vr l0), (1, vi l1), (2, vi l2)] [] from ?_)
  unfold P12_blame at hw
  refine wm_aload_n hC 0 dX12_blame_0 rfl (k_ne0 hk0 (by decide)) ?_
  refine x_getI hC 8 fl_X12_36 rfl hk0 dX12_blame_1 ?_
  refine wm_if_le (tgt := 8) hC dX12_blame_4 (by decide) hw (fun hw => ?_) (fun hw => ?_)
  · refine wm_aload_n hC 0 dX12_blame_8 rfl (k_ne0 hk0 (by decide)) ?_
    refine wm_iload_n hC 1 dX12_blame_9 rfl ?_
    refine x_putI hC 8 fl_X12_36 rfl hk0 dX12_blame_10 hw (fun I1 hw => ?_)
    refine wm_aload_n hC 0 dX12_blame_13 rfl (k_ne0 hk0 (by decide)) ?_
    refine wm_iload_n hC 2 dX12_blame_14 rfl ?_
    refine x_putI hC 9 fl_X12_39 rfl hk0 dX12_blame_15 hw (fun I2 hw => ?_)
    exact wm_return hC hE dX12_blame_18 ⟨⟨rfl, rfl⟩, hw⟩
  · exact wm_return hC hE dX12_blame_7 ⟨⟨rfl, rfl⟩, hw⟩
def P12_isLetter (l0 : Int)  (Q : Int → Prop) : Prop := (if l0 < 97 then (Q 0) else (if (122 : Int) < l0 then (Q 0) else (Q 1)))
set_option maxRecDepth 20000 in
theorem C12_isLetter {ad : Nat → Nat} {n : Nat} {I J : mI} {R : mR} {Q : Int → Prop}  {l0 : Int}  (hw : P12_isLetter l0 Q) : wMet yX12_isLetter cX12_isLetter 1 (some .boolean) 1 12 false ad n I J R [vi l0] (fun r I' J' R' => (I' = I ∧ J' = J ∧ R' = R) ∧ Q r) := by
  refine wMet_of (by decide) (Nat.le_of_ble_eq_true rfl) (fun C hC hRm hE hS => ?_)
  refine (show WM C ad n I J R 0 0 0 [(0, vi l0)] [] from ?_)
  unfold P12_isLetter at hw
  refine wm_iload_n hC 0 dX12_isLetter_0 rfl ?_
  refine wm_bipush hC dX12_isLetter_1 (k := ?_)
  refine wm_icmp_lt (tgt := 16) hC dX12_isLetter_3 (by decide) hw (fun hw => ?_) (fun hw => ?_)
  · refine wm_iconst hC dX12_isLetter_16 (k := ?_)
    exact wm_zreturn hC hE (Or.inl rfl) dX12_isLetter_17 ⟨⟨rfl, rfl, rfl⟩, hw⟩
  · refine wm_iload_n hC 0 dX12_isLetter_6 rfl ?_
    refine wm_bipush hC dX12_isLetter_7 (k := ?_)
    refine wm_icmp_gt (tgt := 16) hC dX12_isLetter_9 (by decide) hw (fun hw => ?_) (fun hw => ?_)
    · refine wm_iconst hC dX12_isLetter_16 (k := ?_)
      exact wm_zreturn hC hE (Or.inl rfl) dX12_isLetter_17 ⟨⟨rfl, rfl, rfl⟩, hw⟩
    · refine wm_iconst hC dX12_isLetter_12 (k := ?_)
      refine wm_goto (tgt := 17) hC dX12_isLetter_13 (by decide) ?_
      exact wm_zreturn hC hE (Or.inr rfl) dX12_isLetter_17 ⟨⟨rfl, rfl, rfl⟩, hw⟩
def P12_isDigit (l0 : Int)  (Q : Int → Prop) : Prop := (if l0 < 48 then (Q 0) else (if (57 : Int) < l0 then (Q 0) else (Q 1)))
set_option maxRecDepth 20000 in
theorem C12_isDigit {ad : Nat → Nat} {n : Nat} {I J : mI} {R : mR} {Q : Int → Prop}  {l0 : Int}  (hw : P12_isDigit l0 Q) : wMet yX12_isDigit cX12_isDigit 1 (some .boolean) 1 12 false ad n I J R [vi l0] (fun r I' J' R' => (I' = I ∧ J' = J ∧ R' = R) ∧ Q r) := by
  refine wMet_of (by decide) (Nat.le_of_ble_eq_true rfl) (fun C hC hRm hE hS => ?_)
  refine (show WM C ad n I J R 0 0 0 [(0, vi l0)] [] from ?_)
  unfold P12_isDigit at hw
  refine wm_iload_n hC 0 dX12_isDigit_0 rfl ?_
  refine wm_bipush hC dX12_isDigit_1 (k := ?_)
  refine wm_icmp_lt (tgt := 16) hC dX12_isDigit_3 (by decide) hw (fun hw => ?_) (fun hw => ?_)
  · refine wm_iconst hC dX12_isDigit_16 (k := ?_)
    exact wm_zreturn hC hE (Or.inl rfl) dX12_isDigit_17 ⟨⟨rfl, rfl, rfl⟩, hw⟩
  · refine wm_iload_n hC 0 dX12_isDigit_6 rfl ?_
    refine wm_bipush hC dX12_isDigit_7 (k := ?_)
    refine wm_icmp_gt (tgt := 16) hC dX12_isDigit_9 (by decide) hw (fun hw => ?_) (fun hw => ?_)
    · refine wm_iconst hC dX12_isDigit_16 (k := ?_)
      exact wm_zreturn hC hE (Or.inl rfl) dX12_isDigit_17 ⟨⟨rfl, rfl, rfl⟩, hw⟩
    · refine wm_iconst hC dX12_isDigit_12 (k := ?_)
      refine wm_goto (tgt := 17) hC dX12_isDigit_13 (by decide) ?_
      exact wm_zreturn hC hE (Or.inr rfl) dX12_isDigit_17 ⟨⟨rfl, rfl, rfl⟩, hw⟩
def P12_lex (l0 : Nat) (I : mI) (Q : mI → Prop) : Prop := (if (I l0 12) = (-1) then (Q I) else (P12_blame l0 1 (I l0 12) I (fun I1 => (Q I1))))
set_option maxRecDepth 20000 in
theorem C12_lex {ad : Nat → Nat} {n : Nat} {I J : mI} {R : mR} {Q : mI → Prop}  {l0 : Nat} (hk0 : kK l0 = 12) (hw : P12_lex l0 I Q) : wMet yX12_lex cX12_lex 1 none 2 34 false ad n I J R [vr l0] (fun _ I' J' R' => (J' = J ∧ R' = R) ∧ Q I') := by
  refine wMet_of (by decide) (Nat.le_of_ble_eq_true rfl) (fun C hC hRm hE hS => ?_)
  refine (show WM C ad n I J R 0 0 0 [(0, vr l0)] [] from ?_)
  unfold P12_lex at hw
  refine wm_aload_n hC 0 dX12_lex_0 rfl (k_ne0 hk0 (by decide)) ?_
  refine x_getI hC 12 fl_X12_48 rfl hk0 dX12_lex_1 ?_
  refine wm_iconst hC dX12_lex_4 (k := ?_)
  refine wm_icmp_eq (tgt := 17) hC dX12_lex_5 (by decide) hw (fun hw => ?_) (fun hw => ?_)
  · exact wm_return hC hE dX12_lex_17 ⟨⟨rfl, rfl⟩, hw⟩
  · refine wm_aload_n hC 0 dX12_lex_8 rfl (k_ne0 hk0 (by decide)) ?_
    refine wm_iconst hC dX12_lex_9 (k := ?_)
    refine wm_aload_n hC 0 dX12_lex_10 rfl (k_ne0 hk0 (by decide)) ?_
    refine x_getI hC 12 fl_X12_48 rfl hk0 dX12_lex_11 ?_
    refine y_callV_v_I hC hRm noS ml_X12_230 hk0 (C12_blame hk0 hw) (Nat.le_of_ble_eq_true rfl) (Nat.le_of_ble_eq_true rfl) ⟨Nat.zero_le _, Nat.zero_le _⟩ rfl (st := []) rfl (Nat.le_of_ble_eq_true rfl) dX12_lex_14 (fun I1 hw => ?_)
    exact wm_return hC hE dX12_lex_17 ⟨⟨rfl, rfl⟩, hw⟩
def P12_ahead_b293 (l0 : Nat) (l1 : Int) (l2 : Int) (l3 : Int) (l4 : Int) (l5 : Int) (I : mI) (J : mI) (R : mR) (k204 : Int → Int → mI → mI → Prop) (Q : mI → mI → Prop) : Prop := (if l4 ≤ l5 then (rg (l5 + 1) ∧ (rg (l1 + 1) ∧ (k204 (l1 + 1) (l5 + 1) I J))) else (if l3 = 0 then (rg (l5 + 1) ∧ (rg (l1 + 1) ∧ (k204 (l1 + 1) (l5 + 1) I J))) else (rg (10 * (I l0 6)) ∧ (kK (R l0 0) = 21 ∧ (((0 : Int) ≤ l1 ∧ l1 < (kN (R l0 0) : Int)) ∧ (rg ((10 * (I l0 6)) + (I (R l0 0) l1)) ∧ (rg (((10 * (I l0 6)) + (I (R l0 0) l1)) - 48) ∧ (wLet (up I l0 6 (((10 * (I l0 6)) + (I (R l0 0) l1)) - 48)) (fun I15 => (rg (l5 + 1) ∧ (rg (l1 + 1) ∧ (k204 (l1 + 1) (l5 + 1) I15 J))))))))))))
set_option maxRecDepth 20000 in
theorem W12_ahead_b293 {C : wX} {ad : Nat → Nat} {n : Nat} {I J : mI} {R : mR} {Q : mI → mI → Prop} (hC : wOK C cX12_ahead 6 RX12) (hRm : wRm C 2 32 0 0) (hE : wEnd C none ad n (fun _ I' J' R' => (R' = R) ∧ Q I' J')) {l0 : Nat} {l1 : Int} {l2 : Int} {l3 : Int} {l4 : Int} {l5 : Int}  {k204 : Int → Int → mI → mI → Prop} (hk0 : kK l0 = 12) (kk204 : ∀ (y1 : Int) (y5 : Int) (I' : mI) (J' : mI), k204 y1 y5 I' J' → WM C ad n I' J' R 0 0 204 [(0, vr l0), (1, vi y1), (2, vi l2), (3, vi l3), (4, vi l4), (5, vi y5)] []) (hw : P12_ahead_b293 l0 l1 l2 l3 l4 l5 I J R k204 Q) : WM C ad n I J R 0 0 293 [(0, vr l0), (1, vi l1), (2, vi l2), (3, vi l3), (4, vi l4), (5, vi l5)] [] := by
  unfold P12_ahead_b293 at hw
  refine wm_iload hC 5 dX12_ahead_293 rfl ?_
  refine wm_iload hC 4 dX12_ahead_295 rfl ?_
  refine wm_icmp_ge (tgt := 325) hC dX12_ahead_297 (by decide) hw (fun hw => ?_) (fun hw => ?_)
  · refine x_iinc hC 5 dX12_ahead_325 rfl (by decide) (L2 := [(5, vi (l5 + 1)), (0, vr l0), (1, vi l1), (2, vi l2), (3, vi l3), (4, vi l4)]) rfl hw (fun hw => ?_)
    refine x_iinc hC 2 dX12_ahead_328 rfl (by decide) (L2 := [(1, vi (l1 + 1)), (5, vi (l5 + 1)), (0, vr l0), (2, vi l2), (3, vi l3), (4, vi l4)]) rfl hw (fun hw => ?_)
    refine wm_goto (tgt := 204) hC dX12_ahead_331 (by decide) ?_
    refine wm_sub [2, 0, 3, 4, 5, 1] (L2 := [(0, vr l0), (1, vi (l1 + 1)), (2, vi l2), (3, vi l3), (4, vi l4), (5, vi (l5 + 1))]) rfl ?_
    exact kk204 _ _ _ _ hw
  · refine wm_iload_n hC 3 dX12_ahead_300 rfl ?_
    refine wm_if_eq (tgt := 325) hC dX12_ahead_301 (by decide) hw (fun hw => ?_) (fun hw => ?_)
    · refine x_iinc hC 5 dX12_ahead_325 rfl (by decide) (L2 := [(5, vi (l5 + 1)), (0, vr l0), (1, vi l1), (2, vi l2), (3, vi l3), (4, vi l4)]) rfl hw (fun hw => ?_)
      refine x_iinc hC 2 dX12_ahead_328 rfl (by decide) (L2 := [(1, vi (l1 + 1)), (5, vi (l5 + 1)), (0, vr l0), (2, vi l2), (3, vi l3), (4, vi l4)]) rfl hw (fun hw => ?_)
      refine wm_goto (tgt := 204) hC dX12_ahead_331 (by decide) ?_
      refine wm_sub [2, 0, 3, 4, 5, 1] (L2 := [(0, vr l0), (1, vi (l1 + 1)), (2, vi l2), (3, vi l3), (4, vi l4), (5, vi (l5 + 1))]) rfl ?_
      exact kk204 _ _ _ _ hw
    · refine wm_aload_n hC 0 dX12_ahead_304 rfl (k_ne0 hk0 (by decide)) ?_
      refine wm_bipush hC dX12_ahead_305 (k := ?_)
      refine wm_aload_n hC 0 dX12_ahead_307 rfl (k_ne0 hk0 (by decide)) ?_
      refine x_getI hC 6 fl_X12_29 rfl hk0 dX12_ahead_308 ?_
      refine x_imul hC dX12_ahead_311 hw (fun hw => ?_)
      refine wm_aload_n hC 0 dX12_ahead_312 rfl (k_ne0 hk0 (by decide)) ?_
      refine x_getR2 hC 0 fl_X12_7 rfl hk0 dX12_ahead_313 hw (fun g11 hw => ?_)
      refine wm_iload_n hC 1 dX12_ahead_316 rfl ?_
      refine x_iald hC g11 dX12_ahead_317 hw (fun hw => ?_)
      refine x_iadd hC dX12_ahead_318 hw (fun hw => ?_)
      refine wm_bipush hC dX12_ahead_319 (k := ?_)
      refine x_isub hC dX12_ahead_321 hw (fun hw => ?_)
      refine x_putI hC 6 fl_X12_29 rfl hk0 dX12_ahead_322 hw (fun I15 hw => ?_)
      refine x_iinc hC 5 dX12_ahead_325 rfl (by decide) (L2 := [(5, vi (l5 + 1)), (0, vr l0), (1, vi l1), (2, vi l2), (3, vi l3), (4, vi l4)]) rfl hw (fun hw => ?_)
      refine x_iinc hC 2 dX12_ahead_328 rfl (by decide) (L2 := [(1, vi (l1 + 1)), (5, vi (l5 + 1)), (0, vr l0), (2, vi l2), (3, vi l3), (4, vi l4)]) rfl hw (fun hw => ?_)
      refine wm_goto (tgt := 204) hC dX12_ahead_331 (by decide) ?_
      refine wm_sub [2, 0, 3, 4, 5, 1] (L2 := [(0, vr l0), (1, vi (l1 + 1)), (2, vi l2), (3, vi l3), (4, vi l4), (5, vi (l5 + 1))]) rfl ?_
      exact kk204 _ _ _ _ hw
def P12_ahead_b263 (l0 : Nat) (l1 : Int) (l2 : Int) (l3 : Int) (l4 : Int) (l5 : Int) (I : mI) (J : mI) (R : mR) (k204 : Int → Int → mI → mI → Prop) (Q : mI → mI → Prop) : Prop := (if l4 ≤ l5 then (P12_ahead_b293 l0 l1 l2 l3 l4 l5 I J R k204 Q) else (if l2 = 0 then (P12_ahead_b293 l0 l1 l2 l3 l4 l5 I J R k204 Q) else (kK (R l0 0) = 21 ∧ (((0 : Int) ≤ l1 ∧ l1 < (kN (R l0 0) : Int)) ∧ (wLet (up J l0 7 (lOr (lShl (J l0 7) 8) (I (R l0 0) l1))) (fun J2 => (P12_ahead_b293 l0 l1 l2 l3 l4 l5 I J2 R k204 Q)))))))
set_option maxRecDepth 20000 in
theorem W12_ahead_b263 {C : wX} {ad : Nat → Nat} {n : Nat} {I J : mI} {R : mR} {Q : mI → mI → Prop} (hC : wOK C cX12_ahead 6 RX12) (hRm : wRm C 2 32 0 0) (hE : wEnd C none ad n (fun _ I' J' R' => (R' = R) ∧ Q I' J')) {l0 : Nat} {l1 : Int} {l2 : Int} {l3 : Int} {l4 : Int} {l5 : Int}  {k204 : Int → Int → mI → mI → Prop} (hk0 : kK l0 = 12) (kk204 : ∀ (y1 : Int) (y5 : Int) (I' : mI) (J' : mI), k204 y1 y5 I' J' → WM C ad n I' J' R 0 0 204 [(0, vr l0), (1, vi y1), (2, vi l2), (3, vi l3), (4, vi l4), (5, vi y5)] []) (hw : P12_ahead_b263 l0 l1 l2 l3 l4 l5 I J R k204 Q) : WM C ad n I J R 0 0 263 [(0, vr l0), (1, vi l1), (2, vi l2), (3, vi l3), (4, vi l4), (5, vi l5)] [] := by
  unfold P12_ahead_b263 at hw
  refine wm_iload hC 5 dX12_ahead_263 rfl ?_
  refine wm_iload hC 4 dX12_ahead_265 rfl ?_
  refine wm_icmp_ge (tgt := 293) hC dX12_ahead_267 (by decide) hw (fun hw => ?_) (fun hw => ?_)
  · exact W12_ahead_b293 hC hRm hE hk0 kk204 hw
  · refine wm_iload_n hC 2 dX12_ahead_270 rfl ?_
    refine wm_if_eq (tgt := 293) hC dX12_ahead_271 (by decide) hw (fun hw => ?_) (fun hw => ?_)
    · exact W12_ahead_b293 hC hRm hE hk0 kk204 hw
    · refine wm_aload_n hC 0 dX12_ahead_274 rfl (k_ne0 hk0 (by decide)) ?_
      refine wm_aload_n hC 0 dX12_ahead_275 rfl (k_ne0 hk0 (by decide)) ?_
      refine x_getJ hC 7 fl_X12_32 rfl hk0 dX12_ahead_276 ?_
      refine wm_bipush hC dX12_ahead_279 (k := ?_)
      refine wm_lshl hC dX12_ahead_281 ?_
      refine wm_aload_n hC 0 dX12_ahead_282 rfl (k_ne0 hk0 (by decide)) ?_
      refine x_getR2 hC 0 fl_X12_7 rfl hk0 dX12_ahead_283 hw (fun g10 hw => ?_)
      refine wm_iload_n hC 1 dX12_ahead_286 rfl ?_
      refine x_iald hC g10 dX12_ahead_287 hw (fun hw => ?_)
      refine wm_i2l hC dX12_ahead_288 ?_
      refine wm_lor hC dX12_ahead_289 ?_
      refine x_putJ hC 7 fl_X12_32 rfl hk0 dX12_ahead_290 hw (fun J2 hw => ?_)
      exact W12_ahead_b293 hC hRm hE hk0 kk204 hw
def P12_ahead_b243 (l0 : Nat) (l1 : Int) (l2 : Int) (l3 : Int) (l4 : Int) (l5 : Int) (I : mI) (J : mI) (R : mR) (k204 : Int → Int → mI → mI → Prop) (Q : mI → mI → Prop) : Prop := (if l5 = l4 then (if (I l0 12) = (-1) then (wLet (up I l0 12 l1) (fun I14 => (P12_ahead_b263 l0 l1 l2 l3 l4 l5 I14 J R k204 Q))) else (P12_ahead_b263 l0 l1 l2 l3 l4 l5 I J R k204 Q)) else (P12_ahead_b263 l0 l1 l2 l3 l4 l5 I J R k204 Q))
set_option maxRecDepth 20000 in
theorem W12_ahead_b243 {C : wX} {ad : Nat → Nat} {n : Nat} {I J : mI} {R : mR} {Q : mI → mI → Prop} (hC : wOK C cX12_ahead 6 RX12) (hRm : wRm C 2 32 0 0) (hE : wEnd C none ad n (fun _ I' J' R' => (R' = R) ∧ Q I' J')) {l0 : Nat} {l1 : Int} {l2 : Int} {l3 : Int} {l4 : Int} {l5 : Int}  {k204 : Int → Int → mI → mI → Prop} (hk0 : kK l0 = 12) (kk204 : ∀ (y1 : Int) (y5 : Int) (I' : mI) (J' : mI), k204 y1 y5 I' J' → WM C ad n I' J' R 0 0 204 [(0, vr l0), (1, vi y1), (2, vi l2), (3, vi l3), (4, vi l4), (5, vi y5)] []) (hw : P12_ahead_b243 l0 l1 l2 l3 l4 l5 I J R k204 Q) : WM C ad n I J R 0 0 243 [(0, vr l0), (1, vi l1), (2, vi l2), (3, vi l3), (4, vi l4), (5, vi l5)] [] := by
  unfold P12_ahead_b243 at hw
  refine wm_iload hC 5 dX12_ahead_243 rfl ?_
  refine wm_iload hC 4 dX12_ahead_245 rfl ?_
  refine wm_icmp_ne (tgt := 263) hC dX12_ahead_247 (by decide) hw (fun hw => ?_) (fun hw => ?_)
  · refine wm_aload_n hC 0 dX12_ahead_250 rfl (k_ne0 hk0 (by decide)) ?_
    refine x_getI hC 12 fl_X12_48 rfl hk0 dX12_ahead_251 ?_
    refine wm_iconst hC dX12_ahead_254 (k := ?_)
    refine wm_icmp_ne (tgt := 263) hC dX12_ahead_255 (by decide) hw (fun hw => ?_) (fun hw => ?_)
    · refine wm_aload_n hC 0 dX12_ahead_258 rfl (k_ne0 hk0 (by decide)) ?_
      refine wm_iload_n hC 1 dX12_ahead_259 rfl ?_
      refine x_putI hC 12 fl_X12_48 rfl hk0 dX12_ahead_260 hw (fun I14 hw => ?_)
      exact W12_ahead_b263 hC hRm hE hk0 kk204 hw
    · exact W12_ahead_b263 hC hRm hE hk0 kk204 hw
  · exact W12_ahead_b263 hC hRm hE hk0 kk204 hw
def P12_ahead_b204_body (l0 : Nat) (l2 : Int) (l3 : Int) (l4 : Int) (R : mR) (Q : mI → mI → Prop) (k204 : Int → Int → mI → mI → Prop) (l1 : Int) (l5 : Int) (I : mI) (J : mI) : Prop := (if (I l0 2) ≤ l1 then (wLet (up I l0 5 l1) (fun I11 => (Q I11 J))) else (if l2 = 0 then (kK (R l0 0) = 21 ∧ (((0 : Int) ≤ l1 ∧ l1 < (kN (R l0 0) : Int)) ∧ (P12_isDigit (I (R l0 0) l1) (fun r5 => (if r5 = 0 then (wLet (up I l0 5 l1) (fun I12 => (Q I12 J))) else (P12_ahead_b243 l0 l1 l2 l3 l4 l5 I J R k204 Q)))))) else (kK (R l0 0) = 21 ∧ (((0 : Int) ≤ l1 ∧ l1 < (kN (R l0 0) : Int)) ∧ (P12_isLetter (I (R l0 0) l1) (fun r6 => (if r6 = 0 then (wLet (up I l0 5 l1) (fun I13 => (Q I13 J))) else (P12_ahead_b243 l0 l1 l2 l3 l4 l5 I J R k204 Q))))))))
def P12_ahead_b204 (l0 : Nat) (l2 : Int) (l3 : Int) (l4 : Int) (R : mR) (Q : mI → mI → Prop) : Nat → Int → Int → mI → mI → Prop
  | 0 => fun _ _ _ _ => False
  | f + 1 => fun l1 l5 I J => P12_ahead_b204_body l0 l2 l3 l4 R Q (P12_ahead_b204 l0 l2 l3 l4 R Q f) l1 l5 I J
set_option maxRecDepth 20000 in
theorem W12_ahead_b204_body {C : wX} {ad : Nat → Nat} {n : Nat} {I J : mI} {R : mR} {Q : mI → mI → Prop} (hC : wOK C cX12_ahead 6 RX12) (hRm : wRm C 2 32 0 0) (hE : wEnd C none ad n (fun _ I' J' R' => (R' = R) ∧ Q I' J')) {l0 : Nat} {l2 : Int} {l3 : Int} {l4 : Int} {l1 : Int} {l5 : Int}   (hk0 : kK l0 = 12)  {k204 : Int → Int → mI → mI → Prop} (kk204 : ∀ (y1 : Int) (y5 : Int) (I' : mI) (J' : mI), k204 y1 y5 I' J' → WM C ad n I' J' R 0 0 204 [(0, vr l0), (1, vi y1), (2, vi l2), (3, vi l3), (4, vi l4), (5, vi y5)] []) (hw : P12_ahead_b204_body l0 l2 l3 l4 R Q k204 l1 l5 I J) : WM C ad n I J R 0 0 204 [(0, vr l0), (1, vi l1), (2, vi l2), (3, vi l3), (4, vi l4), (5, vi l5)] [] := by
  unfold P12_ahead_b204_body at hw
  refine wm_iload_n hC 1 dX12_ahead_204 rfl ?_
  refine wm_aload_n hC 0 dX12_ahead_205 rfl (k_ne0 hk0 (by decide)) ?_
  refine x_getI hC 2 fl_X12_17 rfl hk0 dX12_ahead_206 ?_
  refine wm_icmp_ge (tgt := 334) hC dX12_ahead_209 (by decide) hw (fun hw => ?_) (fun hw => ?_)
  · refine wm_aload_n hC 0 dX12_ahead_334 rfl (k_ne0 hk0 (by decide)) ?_
    refine wm_iload_n hC 1 dX12_ahead_335 rfl ?_
    refine x_putI hC 5 fl_X12_26 rfl hk0 dX12_ahead_336 hw (fun I11 hw => ?_)
    exact wm_return hC hE dX12_ahead_339 ⟨rfl, hw⟩
  · refine wm_iload_n hC 2 dX12_ahead_212 rfl ?_
    refine wm_if_eq (tgt := 231) hC dX12_ahead_213 (by decide) hw (fun hw => ?_) (fun hw => ?_)
    · refine wm_aload_n hC 0 dX12_ahead_231 rfl (k_ne0 hk0 (by decide)) ?_
      refine x_getR2 hC 0 fl_X12_7 rfl hk0 dX12_ahead_232 hw (fun g8 hw => ?_)
      refine wm_iload_n hC 1 dX12_ahead_235 rfl ?_
      refine x_iald hC g8 dX12_ahead_236 hw (fun hw => ?_)
      refine y_callS_z_n hC hRm noS ml_X12_238 (C12_isDigit  hw) (Nat.le_of_ble_eq_true rfl) (Nat.le_of_ble_eq_true rfl) ⟨Nat.zero_le _, Nat.zero_le _⟩ rfl (st := []) rfl (Nat.le_of_ble_eq_true rfl) dX12_ahead_237 (fun r5 hw => ?_)
      refine wm_if_eq (tgt := 334) hC dX12_ahead_240 (by decide) hw (fun hw => ?_) (fun hw => ?_)
      · refine wm_aload_n hC 0 dX12_ahead_334 rfl (k_ne0 hk0 (by decide)) ?_
        refine wm_iload_n hC 1 dX12_ahead_335 rfl ?_
        refine x_putI hC 5 fl_X12_26 rfl hk0 dX12_ahead_336 hw (fun I12 hw => ?_)
        exact wm_return hC hE dX12_ahead_339 ⟨rfl, hw⟩
      · exact W12_ahead_b243 hC hRm hE hk0 kk204 hw
    · refine wm_aload_n hC 0 dX12_ahead_216 rfl (k_ne0 hk0 (by decide)) ?_
      refine x_getR2 hC 0 fl_X12_7 rfl hk0 dX12_ahead_217 hw (fun g9 hw => ?_)
      refine wm_iload_n hC 1 dX12_ahead_220 rfl ?_
      refine x_iald hC g9 dX12_ahead_221 hw (fun hw => ?_)
      refine y_callS_z_n hC hRm noS ml_X12_234 (C12_isLetter  hw) (Nat.le_of_ble_eq_true rfl) (Nat.le_of_ble_eq_true rfl) ⟨Nat.zero_le _, Nat.zero_le _⟩ rfl (st := []) rfl (Nat.le_of_ble_eq_true rfl) dX12_ahead_222 (fun r6 hw => ?_)
      refine wm_if_eq (tgt := 334) hC dX12_ahead_225 (by decide) hw (fun hw => ?_) (fun hw => ?_)
      · refine wm_aload_n hC 0 dX12_ahead_334 rfl (k_ne0 hk0 (by decide)) ?_
        refine wm_iload_n hC 1 dX12_ahead_335 rfl ?_
        refine x_putI hC 5 fl_X12_26 rfl hk0 dX12_ahead_336 hw (fun I13 hw => ?_)
        exact wm_return hC hE dX12_ahead_339 ⟨rfl, hw⟩
      · refine wm_goto (tgt := 243) hC dX12_ahead_228 (by decide) ?_
        exact W12_ahead_b243 hC hRm hE hk0 kk204 hw
set_option maxRecDepth 20000 in
theorem W12_ahead_b204 {C : wX} {ad : Nat → Nat} {n : Nat} {R : mR} {Q : mI → mI → Prop} (hC : wOK C cX12_ahead 6 RX12) (hRm : wRm C 2 32 0 0) (hE : wEnd C none ad n (fun _ I' J' R' => (R' = R) ∧ Q I' J')) {l0 : Nat} {l2 : Int} {l3 : Int} {l4 : Int}   (hk0 : kK l0 = 12)  : ∀ (f : Nat) (l1 : Int) (l5 : Int) (I : mI) (J : mI), P12_ahead_b204 l0 l2 l3 l4 R Q f l1 l5 I J → WM C ad n I J R 0 0 204 [(0, vr l0), (1, vi l1), (2, vi l2), (3, vi l3), (4, vi l4), (5, vi l5)] [] := by
  intro f
  induction f with
  | zero => intro l1 l5 I J hw; exact hw.elim
  | succ f ih => intro l1 l5 I J hw; exact W12_ahead_b204_body hC hRm hE hk0 (fun a0 a1 a2 a3 hw => ih a0 a1 a2 a3 hw) hw
def P12_ahead_b186 (l0 : Nat) (l1 : Int) (l2 : Int) (l3 : Int) (s0 : Nat) (s1 : Int) (I : mI) (J : mI) (R : mR) (Q : mI → mI → Prop) : Prop := (wLet (up I s0 3 s1) (fun I10 => (if l2 = 0 then (∃ f, P12_ahead_b204 l0 l2 l3 4 R Q f l1 0 I10 J) else (∃ f, P12_ahead_b204 l0 l2 l3 6 R Q f l1 0 I10 J))))
set_option maxRecDepth 20000 in
theorem W12_ahead_b186 {C : wX} {ad : Nat → Nat} {n : Nat} {I J : mI} {R : mR} {Q : mI → mI → Prop} (hC : wOK C cX12_ahead 6 RX12) (hRm : wRm C 2 32 0 0) (hE : wEnd C none ad n (fun _ I' J' R' => (R' = R) ∧ Q I' J')) {l0 : Nat} {l1 : Int} {l2 : Int} {l3 : Int} {s0 : Nat} {s1 : Int}   (hk0 : kK l0 = 12) (hs0 : kK s0 = 12)  (hw : P12_ahead_b186 l0 l1 l2 l3 s0 s1 I J R Q) : WM C ad n I J R 0 0 186 [(0, vr l0), (1, vi l1), (2, vi l2), (3, vi l3)] [vi s1, vr s0] := by
  unfold P12_ahead_b186 at hw
  refine x_putI hC 3 fl_X12_20 rfl hs0 dX12_ahead_186 hw (fun I10 hw => ?_)
  refine wm_iload_n hC 2 dX12_ahead_189 rfl ?_
  refine wm_if_eq (tgt := 198) hC dX12_ahead_190 (by decide) hw (fun hw => ?_) (fun hw => ?_)
  · refine wm_iconst hC dX12_ahead_198 (k := ?_)
    refine wm_istore hC dX12_ahead_199 (by decide) (L2 := [(4, vi 4), (0, vr l0), (1, vi l1), (2, vi l2), (3, vi l3)]) rfl ?_
    refine wm_iconst hC dX12_ahead_201 (k := ?_)
    refine wm_istore hC dX12_ahead_202 (by decide) (L2 := [(5, vi 0), (4, vi 4), (0, vr l0), (1, vi l1), (2, vi l2), (3, vi l3)]) rfl ?_
    obtain ⟨f, hw⟩ := hw
    refine wm_sub [2, 3, 4, 5, 1, 0] (L2 := [(0, vr l0), (1, vi l1), (2, vi l2), (3, vi l3), (4, vi 4), (5, vi 0)]) rfl ?_
    exact W12_ahead_b204 hC hRm hE hk0 f _ _ _ _ hw
  · refine wm_bipush hC dX12_ahead_193 (k := ?_)
    refine wm_goto (tgt := 199) hC dX12_ahead_195 (by decide) ?_
    refine wm_istore hC dX12_ahead_199 (by decide) (L2 := [(4, vi 6), (0, vr l0), (1, vi l1), (2, vi l2), (3, vi l3)]) rfl ?_
    refine wm_iconst hC dX12_ahead_201 (k := ?_)
    refine wm_istore hC dX12_ahead_202 (by decide) (L2 := [(5, vi 0), (4, vi 6), (0, vr l0), (1, vi l1), (2, vi l2), (3, vi l3)]) rfl ?_
    obtain ⟨f, hw⟩ := hw
    refine wm_sub [2, 3, 4, 5, 1, 0] (L2 := [(0, vr l0), (1, vi l1), (2, vi l2), (3, vi l3), (4, vi 6), (5, vi 0)]) rfl ?_
    exact W12_ahead_b204 hC hRm hE hk0 f _ _ _ _ hw
def P12_ahead_b176 (l0 : Nat) (l1 : Int) (l2 : Int) (l3 : Int) (I : mI) (J : mI) (R : mR) (Q : mI → mI → Prop) : Prop := (if l2 = 0 then (P12_ahead_b186 l0 l1 l2 l3 l0 2 I J R Q) else (P12_ahead_b186 l0 l1 l2 l3 l0 1 I J R Q))
set_option maxRecDepth 20000 in
theorem W12_ahead_b176 {C : wX} {ad : Nat → Nat} {n : Nat} {I J : mI} {R : mR} {Q : mI → mI → Prop} (hC : wOK C cX12_ahead 6 RX12) (hRm : wRm C 2 32 0 0) (hE : wEnd C none ad n (fun _ I' J' R' => (R' = R) ∧ Q I' J')) {l0 : Nat} {l1 : Int} {l2 : Int} {l3 : Int}   (hk0 : kK l0 = 12)  (hw : P12_ahead_b176 l0 l1 l2 l3 I J R Q) : WM C ad n I J R 0 0 176 [(0, vr l0), (1, vi l1), (2, vi l2), (3, vi l3)] [] := by
  unfold P12_ahead_b176 at hw
  refine wm_aload_n hC 0 dX12_ahead_176 rfl (k_ne0 hk0 (by decide)) ?_
  refine wm_iload_n hC 2 dX12_ahead_177 rfl ?_
  refine wm_if_eq (tgt := 185) hC dX12_ahead_178 (by decide) hw (fun hw => ?_) (fun hw => ?_)
  · refine wm_iconst hC dX12_ahead_185 (k := ?_)
    exact W12_ahead_b186 hC hRm hE hk0 hk0 hw
  · refine wm_iconst hC dX12_ahead_181 (k := ?_)
    refine wm_goto (tgt := 186) hC dX12_ahead_182 (by decide) ?_
    exact W12_ahead_b186 hC hRm hE hk0 hk0 hw
def P12_ahead_b135 (l0 : Nat) (l1 : Int) (l2 : Int) (l3 : Int) (I : mI) (J : mI) (R : mR) (Q : mI → mI → Prop) : Prop := (wLet (up I l0 6 0) (fun I6 => (wLet (up J l0 7 0) (fun J1 => (wLet (up I6 l0 3 3) (fun I7 => (rg (l1 + 1) ∧ (wLet (up I7 l0 5 (l1 + 1)) (fun I8 => (if l2 = 0 then (if l3 = 0 then (kK (R l0 0) = 21 ∧ (((0 : Int) ≤ l1 ∧ l1 < (kN (R l0 0) : Int)) ∧ (wLet (up I8 l0 6 (I8 (R l0 0) l1)) (fun I9 => (Q I9 J1))))) else (P12_ahead_b176 l0 l1 l2 l3 I8 J1 R Q)) else (P12_ahead_b176 l0 l1 l2 l3 I8 J1 R Q)))))))))))
set_option maxRecDepth 20000 in
theorem W12_ahead_b135 {C : wX} {ad : Nat → Nat} {n : Nat} {I J : mI} {R : mR} {Q : mI → mI → Prop} (hC : wOK C cX12_ahead 6 RX12) (hRm : wRm C 2 32 0 0) (hE : wEnd C none ad n (fun _ I' J' R' => (R' = R) ∧ Q I' J')) {l0 : Nat} {l1 : Int} {l2 : Int} {l3 : Int}   (hk0 : kK l0 = 12)  (hw : P12_ahead_b135 l0 l1 l2 l3 I J R Q) : WM C ad n I J R 0 0 135 [(0, vr l0), (1, vi l1), (2, vi l2), (3, vi l3)] [] := by
  unfold P12_ahead_b135 at hw
  refine wm_aload_n hC 0 dX12_ahead_135 rfl (k_ne0 hk0 (by decide)) ?_
  refine wm_iconst hC dX12_ahead_136 (k := ?_)
  refine x_putI hC 6 fl_X12_29 rfl hk0 dX12_ahead_137 hw (fun I6 hw => ?_)
  refine wm_aload_n hC 0 dX12_ahead_140 rfl (k_ne0 hk0 (by decide)) ?_
  refine wm_lconst hC (x := 0) dX12_ahead_141 (k := ?_)
  refine x_putJ hC 7 fl_X12_32 rfl hk0 dX12_ahead_142 hw (fun J1 hw => ?_)
  refine wm_aload_n hC 0 dX12_ahead_145 rfl (k_ne0 hk0 (by decide)) ?_
  refine wm_iconst hC dX12_ahead_146 (k := ?_)
  refine x_putI hC 3 fl_X12_20 rfl hk0 dX12_ahead_147 hw (fun I7 hw => ?_)
  refine wm_aload_n hC 0 dX12_ahead_150 rfl (k_ne0 hk0 (by decide)) ?_
  refine wm_iload_n hC 1 dX12_ahead_151 rfl ?_
  refine wm_iconst hC dX12_ahead_152 (k := ?_)
  refine x_iadd hC dX12_ahead_153 hw (fun hw => ?_)
  refine x_putI hC 5 fl_X12_26 rfl hk0 dX12_ahead_154 hw (fun I8 hw => ?_)
  refine wm_iload_n hC 2 dX12_ahead_157 rfl ?_
  refine wm_if_ne (tgt := 176) hC dX12_ahead_158 (by decide) hw (fun hw => ?_) (fun hw => ?_)
  · refine wm_iload_n hC 3 dX12_ahead_161 rfl ?_
    refine wm_if_ne (tgt := 176) hC dX12_ahead_162 (by decide) hw (fun hw => ?_) (fun hw => ?_)
    · refine wm_aload_n hC 0 dX12_ahead_165 rfl (k_ne0 hk0 (by decide)) ?_
      refine wm_aload_n hC 0 dX12_ahead_166 rfl (k_ne0 hk0 (by decide)) ?_
      refine x_getR2 hC 0 fl_X12_7 rfl hk0 dX12_ahead_167 hw (fun g7 hw => ?_)
      refine wm_iload_n hC 1 dX12_ahead_170 rfl ?_
      refine x_iald hC g7 dX12_ahead_171 hw (fun hw => ?_)
      refine x_putI hC 6 fl_X12_29 rfl hk0 dX12_ahead_172 hw (fun I9 hw => ?_)
      exact wm_return hC hE dX12_ahead_175 ⟨rfl, hw⟩
    · exact W12_ahead_b176 hC hRm hE hk0 hw
  · exact W12_ahead_b176 hC hRm hE hk0 hw
def P12_ahead_b130 (l0 : Nat) (l1 : Int) (l2 : Int) (l3 : Int) (I : mI) (J : mI) (R : mR) (Q : mI → mI → Prop) : Prop := (wLet (up I l0 12 l1) (fun I5 => (P12_ahead_b135 l0 l1 l2 l3 I5 J R Q)))
set_option maxRecDepth 20000 in
theorem W12_ahead_b130 {C : wX} {ad : Nat → Nat} {n : Nat} {I J : mI} {R : mR} {Q : mI → mI → Prop} (hC : wOK C cX12_ahead 6 RX12) (hRm : wRm C 2 32 0 0) (hE : wEnd C none ad n (fun _ I' J' R' => (R' = R) ∧ Q I' J')) {l0 : Nat} {l1 : Int} {l2 : Int} {l3 : Int}   (hk0 : kK l0 = 12)  (hw : P12_ahead_b130 l0 l1 l2 l3 I J R Q) : WM C ad n I J R 0 0 130 [(0, vr l0), (1, vi l1), (2, vi l2), (3, vi l3)] [] := by
  unfold P12_ahead_b130 at hw
  refine wm_aload_n hC 0 dX12_ahead_130 rfl (k_ne0 hk0 (by decide)) ?_
  refine wm_iload_n hC 1 dX12_ahead_131 rfl ?_
  refine x_putI hC 12 fl_X12_48 rfl hk0 dX12_ahead_132 hw (fun I5 hw => ?_)
  exact W12_ahead_b135 hC hRm hE hk0 hw
def P12_ahead_b98 (l0 : Nat) (l1 : Int) (l2 : Int) (l3 : Int) (I : mI) (J : mI) (R : mR) (Q : mI → mI → Prop) : Prop := (if l1 ≤ 0 then (P12_ahead_b135 l0 l1 l2 l3 I J R Q) else (kK (R l0 0) = 21 ∧ (rg (l1 - 1) ∧ (((0 : Int) ≤ (l1 - 1) ∧ (l1 - 1) < (kN (R l0 0) : Int)) ∧ (P12_isLetter (I (R l0 0) (l1 - 1)) (fun r3 => (if r3 = 0 then (kK (R l0 0) = 21 ∧ (rg (l1 - 1) ∧ (((0 : Int) ≤ (l1 - 1) ∧ (l1 - 1) < (kN (R l0 0) : Int)) ∧ (P12_isDigit (I (R l0 0) (l1 - 1)) (fun r4 => (if r4 = 0 then (P12_ahead_b135 l0 l1 l2 l3 I J R Q) else (P12_ahead_b130 l0 l1 l2 l3 I J R Q))))))) else (P12_ahead_b130 l0 l1 l2 l3 I J R Q))))))))
set_option maxRecDepth 20000 in
theorem W12_ahead_b98 {C : wX} {ad : Nat → Nat} {n : Nat} {I J : mI} {R : mR} {Q : mI → mI → Prop} (hC : wOK C cX12_ahead 6 RX12) (hRm : wRm C 2 32 0 0) (hE : wEnd C none ad n (fun _ I' J' R' => (R' = R) ∧ Q I' J')) {l0 : Nat} {l1 : Int} {l2 : Int} {l3 : Int}   (hk0 : kK l0 = 12)  (hw : P12_ahead_b98 l0 l1 l2 l3 I J R Q) : WM C ad n I J R 0 0 98 [(0, vr l0), (1, vi l1), (2, vi l2), (3, vi l3)] [] := by
  unfold P12_ahead_b98 at hw
  refine wm_iload_n hC 1 dX12_ahead_98 rfl ?_
  refine wm_if_le (tgt := 135) hC dX12_ahead_99 (by decide) hw (fun hw => ?_) (fun hw => ?_)
  · exact W12_ahead_b135 hC hRm hE hk0 hw
  · refine wm_aload_n hC 0 dX12_ahead_102 rfl (k_ne0 hk0 (by decide)) ?_
    refine x_getR2 hC 0 fl_X12_7 rfl hk0 dX12_ahead_103 hw (fun g5 hw => ?_)
    refine wm_iload_n hC 1 dX12_ahead_106 rfl ?_
    refine wm_iconst hC dX12_ahead_107 (k := ?_)
    refine x_isub hC dX12_ahead_108 hw (fun hw => ?_)
    refine x_iald hC g5 dX12_ahead_109 hw (fun hw => ?_)
    refine y_callS_z_n hC hRm noS ml_X12_234 (C12_isLetter  hw) (Nat.le_of_ble_eq_true rfl) (Nat.le_of_ble_eq_true rfl) ⟨Nat.zero_le _, Nat.zero_le _⟩ rfl (st := []) rfl (Nat.le_of_ble_eq_true rfl) dX12_ahead_110 (fun r3 hw => ?_)
    refine wm_if_ne (tgt := 130) hC dX12_ahead_113 (by decide) hw (fun hw => ?_) (fun hw => ?_)
    · refine wm_aload_n hC 0 dX12_ahead_116 rfl (k_ne0 hk0 (by decide)) ?_
      refine x_getR2 hC 0 fl_X12_7 rfl hk0 dX12_ahead_117 hw (fun g6 hw => ?_)
      refine wm_iload_n hC 1 dX12_ahead_120 rfl ?_
      refine wm_iconst hC dX12_ahead_121 (k := ?_)
      refine x_isub hC dX12_ahead_122 hw (fun hw => ?_)
      refine x_iald hC g6 dX12_ahead_123 hw (fun hw => ?_)
      refine y_callS_z_n hC hRm noS ml_X12_238 (C12_isDigit  hw) (Nat.le_of_ble_eq_true rfl) (Nat.le_of_ble_eq_true rfl) ⟨Nat.zero_le _, Nat.zero_le _⟩ rfl (st := []) rfl (Nat.le_of_ble_eq_true rfl) dX12_ahead_124 (fun r4 hw => ?_)
      refine wm_if_eq (tgt := 135) hC dX12_ahead_127 (by decide) hw (fun hw => ?_) (fun hw => ?_)
      · exact W12_ahead_b135 hC hRm hE hk0 hw
      · exact W12_ahead_b130 hC hRm hE hk0 hw
    · exact W12_ahead_b130 hC hRm hE hk0 hw
def P12_ahead_b41 (l0 : Nat) (l1 : Int) (I : mI) (J : mI) (R : mR) (Q : mI → mI → Prop) : Prop := (wLet (up I l0 4 l1) (fun I1 => (wLet (up I1 l0 5 l1) (fun I2 => (wLet (up I2 l0 3 0) (fun I3 => (wLet (up I3 l0 12 (-1)) (fun I4 => (if l1 < (I4 l0 2) then (kK (R l0 0) = 21 ∧ (((0 : Int) ≤ l1 ∧ l1 < (kN (R l0 0) : Int)) ∧ (P12_isLetter (I4 (R l0 0) l1) (fun r1 => (kK (R l0 0) = 21 ∧ (((0 : Int) ≤ l1 ∧ l1 < (kN (R l0 0) : Int)) ∧ (P12_isDigit (I4 (R l0 0) l1) (fun r2 => (if r1 = 0 then (if r2 = 0 then (P12_ahead_b135 l0 l1 r1 r2 I4 J R Q) else (P12_ahead_b98 l0 l1 r1 r2 I4 J R Q)) else (P12_ahead_b98 l0 l1 r1 r2 I4 J R Q)))))))))) else (Q I4 J))))))))))
set_option maxRecDepth 20000 in
theorem W12_ahead_b41 {C : wX} {ad : Nat → Nat} {n : Nat} {I J : mI} {R : mR} {Q : mI → mI → Prop} (hC : wOK C cX12_ahead 6 RX12) (hRm : wRm C 2 32 0 0) (hE : wEnd C none ad n (fun _ I' J' R' => (R' = R) ∧ Q I' J')) {l0 : Nat} {l1 : Int}   (hk0 : kK l0 = 12)  (hw : P12_ahead_b41 l0 l1 I J R Q) : WM C ad n I J R 0 0 41 [(0, vr l0), (1, vi l1)] [] := by
  unfold P12_ahead_b41 at hw
  refine wm_aload_n hC 0 dX12_ahead_41 rfl (k_ne0 hk0 (by decide)) ?_
  refine wm_iload_n hC 1 dX12_ahead_42 rfl ?_
  refine x_putI hC 4 fl_X12_23 rfl hk0 dX12_ahead_43 hw (fun I1 hw => ?_)
  refine wm_aload_n hC 0 dX12_ahead_46 rfl (k_ne0 hk0 (by decide)) ?_
  refine wm_iload_n hC 1 dX12_ahead_47 rfl ?_
  refine x_putI hC 5 fl_X12_26 rfl hk0 dX12_ahead_48 hw (fun I2 hw => ?_)
  refine wm_aload_n hC 0 dX12_ahead_51 rfl (k_ne0 hk0 (by decide)) ?_
  refine wm_iconst hC dX12_ahead_52 (k := ?_)
  refine x_putI hC 3 fl_X12_20 rfl hk0 dX12_ahead_53 hw (fun I3 hw => ?_)
  refine wm_aload_n hC 0 dX12_ahead_56 rfl (k_ne0 hk0 (by decide)) ?_
  refine wm_iconst hC dX12_ahead_57 (k := ?_)
  refine x_putI hC 12 fl_X12_48 rfl hk0 dX12_ahead_58 hw (fun I4 hw => ?_)
  refine wm_iload_n hC 1 dX12_ahead_61 rfl ?_
  refine wm_aload_n hC 0 dX12_ahead_62 rfl (k_ne0 hk0 (by decide)) ?_
  refine x_getI hC 2 fl_X12_17 rfl hk0 dX12_ahead_63 ?_
  refine wm_icmp_lt (tgt := 70) hC dX12_ahead_66 (by decide) hw (fun hw => ?_) (fun hw => ?_)
  · refine wm_aload_n hC 0 dX12_ahead_70 rfl (k_ne0 hk0 (by decide)) ?_
    refine x_getR2 hC 0 fl_X12_7 rfl hk0 dX12_ahead_71 hw (fun g3 hw => ?_)
    refine wm_iload_n hC 1 dX12_ahead_74 rfl ?_
    refine x_iald hC g3 dX12_ahead_75 hw (fun hw => ?_)
    refine y_callS_z_n hC hRm noS ml_X12_234 (C12_isLetter  hw) (Nat.le_of_ble_eq_true rfl) (Nat.le_of_ble_eq_true rfl) ⟨Nat.zero_le _, Nat.zero_le _⟩ rfl (st := []) rfl (Nat.le_of_ble_eq_true rfl) dX12_ahead_76 (fun r1 hw => ?_)
    refine wm_istore_n hC dX12_ahead_79 (by decide) (L2 := [(2, vi r1), (0, vr l0), (1, vi l1)]) rfl ?_
    refine wm_aload_n hC 1 dX12_ahead_80 rfl (k_ne0 hk0 (by decide)) ?_
    refine x_getR2 hC 0 fl_X12_7 rfl hk0 dX12_ahead_81 hw (fun g4 hw => ?_)
    refine wm_iload_n hC 2 dX12_ahead_84 rfl ?_
    refine x_iald hC g4 dX12_ahead_85 hw (fun hw => ?_)
    refine y_callS_z_n hC hRm noS ml_X12_238 (C12_isDigit  hw) (Nat.le_of_ble_eq_true rfl) (Nat.le_of_ble_eq_true rfl) ⟨Nat.zero_le _, Nat.zero_le _⟩ rfl (st := []) rfl (Nat.le_of_ble_eq_true rfl) dX12_ahead_86 (fun r2 hw => ?_)
    refine wm_istore_n hC dX12_ahead_89 (by decide) (L2 := [(3, vi r2), (2, vi r1), (0, vr l0), (1, vi l1)]) rfl ?_
    refine wm_iload_n hC 1 dX12_ahead_90 rfl ?_
    refine wm_if_ne (tgt := 98) hC dX12_ahead_91 (by decide) hw (fun hw => ?_) (fun hw => ?_)
    · refine wm_iload_n hC 0 dX12_ahead_94 rfl ?_
      refine wm_if_eq (tgt := 135) hC dX12_ahead_95 (by decide) hw (fun hw => ?_) (fun hw => ?_)
      · refine wm_sub [2, 3, 1, 0] (L2 := [(0, vr l0), (1, vi l1), (2, vi r1), (3, vi r2)]) rfl ?_
        exact W12_ahead_b135 hC hRm hE hk0 hw
      · refine wm_sub [2, 3, 1, 0] (L2 := [(0, vr l0), (1, vi l1), (2, vi r1), (3, vi r2)]) rfl ?_
        exact W12_ahead_b98 hC hRm hE hk0 hw
    · refine wm_sub [2, 3, 1, 0] (L2 := [(0, vr l0), (1, vi l1), (2, vi r1), (3, vi r2)]) rfl ?_
      exact W12_ahead_b98 hC hRm hE hk0 hw
  · exact wm_return hC hE dX12_ahead_69 ⟨rfl, hw⟩
def P12_ahead_b5_body (l0 : Nat) (I : mI) (J : mI) (R : mR) (Q : mI → mI → Prop) (k5 : Int → Prop) (l1 : Int) : Prop := (if (I l0 2) ≤ l1 then (P12_ahead_b41 l0 l1 I J R Q) else (kK (R l0 0) = 21 ∧ (((0 : Int) ≤ l1 ∧ l1 < (kN (R l0 0) : Int)) ∧ (if (I (R l0 0) l1) = 32 then (rg (l1 + 1) ∧ (k5 (l1 + 1))) else (kK (R l0 0) = 21 ∧ (((0 : Int) ≤ l1 ∧ l1 < (kN (R l0 0) : Int)) ∧ (if (I (R l0 0) l1) = 10 then (rg (l1 + 1) ∧ (k5 (l1 + 1))) else (P12_ahead_b41 l0 l1 I J R Q))))))))
def P12_ahead_b5 (l0 : Nat) (I : mI) (J : mI) (R : mR) (Q : mI → mI → Prop) : Nat → Int → Prop
  | 0 => fun _ => False
  | f + 1 => fun l1 => P12_ahead_b5_body l0 I J R Q (P12_ahead_b5 l0 I J R Q f) l1
set_option maxRecDepth 20000 in
theorem W12_ahead_b5_body {C : wX} {ad : Nat → Nat} {n : Nat} {I J : mI} {R : mR} {Q : mI → mI → Prop} (hC : wOK C cX12_ahead 6 RX12) (hRm : wRm C 2 32 0 0) (hE : wEnd C none ad n (fun _ I' J' R' => (R' = R) ∧ Q I' J')) {l0 : Nat} {l1 : Int}   (hk0 : kK l0 = 12)  {k5 : Int → Prop} (kk5 : ∀ (y1 : Int), k5 y1 → WM C ad n I J R 0 0 5 [(0, vr l0), (1, vi y1)] []) (hw : P12_ahead_b5_body l0 I J R Q k5 l1) : WM C ad n I J R 0 0 5 [(0, vr l0), (1, vi l1)] [] := by
  unfold P12_ahead_b5_body at hw
  refine wm_iload_n hC 1 dX12_ahead_5 rfl ?_
  refine wm_aload_n hC 0 dX12_ahead_6 rfl (k_ne0 hk0 (by decide)) ?_
  refine x_getI hC 2 fl_X12_17 rfl hk0 dX12_ahead_7 ?_
  refine wm_icmp_ge (tgt := 41) hC dX12_ahead_10 (by decide) hw (fun hw => ?_) (fun hw => ?_)
  · exact W12_ahead_b41 hC hRm hE hk0 hw
  · refine wm_aload_n hC 0 dX12_ahead_13 rfl (k_ne0 hk0 (by decide)) ?_
    refine x_getR2 hC 0 fl_X12_7 rfl hk0 dX12_ahead_14 hw (fun g1 hw => ?_)
    refine wm_iload_n hC 1 dX12_ahead_17 rfl ?_
    refine x_iald hC g1 dX12_ahead_18 hw (fun hw => ?_)
    refine wm_bipush hC dX12_ahead_19 (k := ?_)
    refine wm_icmp_eq (tgt := 35) hC dX12_ahead_21 (by decide) hw (fun hw => ?_) (fun hw => ?_)
    · refine x_iinc hC 1 dX12_ahead_35 rfl (by decide) (L2 := [(1, vi (l1 + 1)), (0, vr l0)]) rfl hw (fun hw => ?_)
      refine wm_goto (tgt := 5) hC dX12_ahead_38 (by decide) ?_
      refine wm_sub [1, 0] (L2 := [(0, vr l0), (1, vi (l1 + 1))]) rfl ?_
      exact kk5 _ hw
    · refine wm_aload_n hC 0 dX12_ahead_24 rfl (k_ne0 hk0 (by decide)) ?_
      refine x_getR2 hC 0 fl_X12_7 rfl hk0 dX12_ahead_25 hw (fun g2 hw => ?_)
      refine wm_iload_n hC 1 dX12_ahead_28 rfl ?_
      refine x_iald hC g2 dX12_ahead_29 hw (fun hw => ?_)
      refine wm_bipush hC dX12_ahead_30 (k := ?_)
      refine wm_icmp_ne (tgt := 41) hC dX12_ahead_32 (by decide) hw (fun hw => ?_) (fun hw => ?_)
      · refine x_iinc hC 1 dX12_ahead_35 rfl (by decide) (L2 := [(1, vi (l1 + 1)), (0, vr l0)]) rfl hw (fun hw => ?_)
        refine wm_goto (tgt := 5) hC dX12_ahead_38 (by decide) ?_
        refine wm_sub [1, 0] (L2 := [(0, vr l0), (1, vi (l1 + 1))]) rfl ?_
        exact kk5 _ hw
      · exact W12_ahead_b41 hC hRm hE hk0 hw
set_option maxRecDepth 20000 in
theorem W12_ahead_b5 {C : wX} {ad : Nat → Nat} {n : Nat} {I J : mI} {R : mR} {Q : mI → mI → Prop} (hC : wOK C cX12_ahead 6 RX12) (hRm : wRm C 2 32 0 0) (hE : wEnd C none ad n (fun _ I' J' R' => (R' = R) ∧ Q I' J')) {l0 : Nat}   (hk0 : kK l0 = 12)  : ∀ (f : Nat) (l1 : Int), P12_ahead_b5 l0 I J R Q f l1 → WM C ad n I J R 0 0 5 [(0, vr l0), (1, vi l1)] [] := by
  intro f
  induction f with
  | zero => intro l1 hw; exact hw.elim
  | succ f ih => intro l1 hw; exact W12_ahead_b5_body hC hRm hE hk0 (fun a0 hw => ih a0 hw) hw
def P12_ahead (l0 : Nat) (I : mI) (J : mI) (R : mR) (Q : mI → mI → Prop) : Prop := (∃ f, P12_ahead_b5 l0 I J R Q f (I l0 5))
set_option maxRecDepth 20000 in
theorem C12_ahead {ad : Nat → Nat} {n : Nat} {I J : mI} {R : mR} {Q : mI → mI → Prop}  {l0 : Nat} (hk0 : kK l0 = 12) (hw : P12_ahead l0 I J R Q) : wMet yX12_ahead cX12_ahead 6 none 2 32 false ad n I J R [vr l0] (fun _ I' J' R' => (R' = R) ∧ Q I' J') := by
  refine wMet_of (by decide) (Nat.le_of_ble_eq_true rfl) (fun C hC hRm hE hS => ?_)
  refine (show WM C ad n I J R 0 0 0 [(0, vr l0)] [] from ?_)
  unfold P12_ahead at hw
  refine wm_aload_n hC 0 dX12_ahead_0 rfl (k_ne0 hk0 (by decide)) ?_
  refine x_getI hC 5 fl_X12_26 rfl hk0 dX12_ahead_1 ?_
  refine wm_istore_n hC dX12_ahead_4 (by decide) (L2 := [(1, vi (I l0 5)), (0, vr l0)]) rfl ?_
  obtain ⟨f, hw⟩ := hw
  refine wm_sub [1, 0] (L2 := [(0, vr l0), (1, vi (I l0 5))]) rfl ?_
  exact W12_ahead_b5 hC hRm hE hk0 f _ hw
def P12_isSign (l0 : Nat) (l1 : Int) (I : mI) (Q : Int → Prop) : Prop := (if (I l0 3) = 3 then (if (I l0 6) = l1 then (Q 1) else (Q 0)) else (Q 0))
set_option maxRecDepth 20000 in
theorem C12_isSign {ad : Nat → Nat} {n : Nat} {I J : mI} {R : mR} {Q : Int → Prop}  {l0 : Nat} {l1 : Int} (hk0 : kK l0 = 12) (hw : P12_isSign l0 l1 I Q) : wMet yX12_isSign cX12_isSign 2 (some .boolean) 1 12 false ad n I J R [vr l0, vi l1] (fun r I' J' R' => (I' = I ∧ J' = J ∧ R' = R) ∧ Q r) := by
  refine wMet_of (by decide) (Nat.le_of_ble_eq_true rfl) (fun C hC hRm hE hS => ?_)
  refine (show WM C ad n I J R 0 0 0 [(0, vr l0), (1, vi l1)] [] from ?_)
  unfold P12_isSign at hw
  refine wm_aload_n hC 0 dX12_isSign_0 rfl (k_ne0 hk0 (by decide)) ?_
  refine x_getI hC 3 fl_X12_20 rfl hk0 dX12_isSign_1 ?_
  refine wm_iconst hC dX12_isSign_4 (k := ?_)
  refine wm_icmp_ne (tgt := 20) hC dX12_isSign_5 (by decide) hw (fun hw => ?_) (fun hw => ?_)
  · refine wm_aload_n hC 0 dX12_isSign_8 rfl (k_ne0 hk0 (by decide)) ?_
    refine x_getI hC 6 fl_X12_29 rfl hk0 dX12_isSign_9 ?_
    refine wm_iload_n hC 1 dX12_isSign_12 rfl ?_
    refine wm_icmp_ne (tgt := 20) hC dX12_isSign_13 (by decide) hw (fun hw => ?_) (fun hw => ?_)
    · refine wm_iconst hC dX12_isSign_16 (k := ?_)
      refine wm_goto (tgt := 21) hC dX12_isSign_17 (by decide) ?_
      exact wm_zreturn hC hE (Or.inr rfl) dX12_isSign_21 ⟨⟨rfl, rfl, rfl⟩, hw⟩
    · refine wm_iconst hC dX12_isSign_20 (k := ?_)
      exact wm_zreturn hC hE (Or.inl rfl) dX12_isSign_21 ⟨⟨rfl, rfl, rfl⟩, hw⟩
  · refine wm_iconst hC dX12_isSign_20 (k := ?_)
    exact wm_zreturn hC hE (Or.inl rfl) dX12_isSign_21 ⟨⟨rfl, rfl, rfl⟩, hw⟩
def P12_isWord (l0 : Nat) (l1 : Int) (I : mI) (J : mI) (Q : Int → Prop) : Prop := (if (I l0 3) = 1 then (if (J l0 7) = l1 then (Q 1) else (Q 0)) else (Q 0))
set_option maxRecDepth 20000 in
theorem C12_isWord {ad : Nat → Nat} {n : Nat} {I J : mI} {R : mR} {Q : Int → Prop}  {l0 : Nat} {l1 : Int} (hk0 : kK l0 = 12) (hw : P12_isWord l0 l1 I J Q) : wMet yX12_isWord cX12_isWord 3 (some .boolean) 1 12 false ad n I J R [vr l0, vl l1] (fun r I' J' R' => (I' = I ∧ J' = J ∧ R' = R) ∧ Q r) := by
  refine wMet_of (by decide) (Nat.le_of_ble_eq_true rfl) (fun C hC hRm hE hS => ?_)
  refine (show WM C ad n I J R 0 0 0 [(0, vr l0), (1, vl l1)] [] from ?_)
  unfold P12_isWord at hw
  refine wm_aload_n hC 0 dX12_isWord_0 rfl (k_ne0 hk0 (by decide)) ?_
  refine x_getI hC 3 fl_X12_20 rfl hk0 dX12_isWord_1 ?_
  refine wm_iconst hC dX12_isWord_4 (k := ?_)
  refine wm_icmp_ne (tgt := 21) hC dX12_isWord_5 (by decide) hw (fun hw => ?_) (fun hw => ?_)
  · refine wm_aload_n hC 0 dX12_isWord_8 rfl (k_ne0 hk0 (by decide)) ?_
    refine x_getJ hC 7 fl_X12_32 rfl hk0 dX12_isWord_9 ?_
    refine wm_lload_n hC 1 dX12_isWord_12 rfl ?_
    refine wm_lcmp_ne (tgt := 21) hC dX12_isWord_13 dX12_isWord_14 (by decide) hw (fun hw => ?_) (fun hw => ?_)
    · refine wm_iconst hC dX12_isWord_17 (k := ?_)
      refine wm_goto (tgt := 22) hC dX12_isWord_18 (by decide) ?_
      exact wm_zreturn hC hE (Or.inr rfl) dX12_isWord_22 ⟨⟨rfl, rfl, rfl⟩, hw⟩
    · refine wm_iconst hC dX12_isWord_21 (k := ?_)
      exact wm_zreturn hC hE (Or.inl rfl) dX12_isWord_22 ⟨⟨rfl, rfl, rfl⟩, hw⟩
  · refine wm_iconst hC dX12_isWord_21 (k := ?_)
    exact wm_zreturn hC hE (Or.inl rfl) dX12_isWord_22 ⟨⟨rfl, rfl, rfl⟩, hw⟩
