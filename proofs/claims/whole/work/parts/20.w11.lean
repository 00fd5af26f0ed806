def p12_runsOn_b2_body (l1 : Int) (Q : mI → mI → Prop) (k2 : Int → mI → mI → Prop) (l2 : Int) (I : mI) (J : mI) : Prop := (if l1 ≤ l2 then (Q I J) else (p12_ticks 1 (-1) I J (fun r1 I1 J1 => (rg (l2 + 1) ∧ (k2 (l2 + 1) I1 J1)))))
def p12_runsOn_b2 (l1 : Int) (Q : mI → mI → Prop) : Nat → Int → mI → mI → Prop
  | 0 => fun _ _ _ => False
  | f + 1 => fun l2 I J => p12_runsOn_b2_body l1 Q (p12_runsOn_b2 l1 Q f) l2 I J
set_option maxRecDepth 20000 in
theorem w12_runsOn_b2_body {C : wX} {ad : Nat → Nat} {n : Nat} {I J : mI} {R : mR} {Q : mI → mI → Prop} (hC : wOK C cX12_runsOn 3 RX12) (hRm : wRm C 9 214 0 0) (hE : wEnd C none ad n (fun _ I' J' R' => (R' = R) ∧ Q I' J')) (hRF : RF R) {l1 : Int} {l2 : Int}     {k2 : Int → mI → mI → Prop} (kk2 : ∀ (y2 : Int) (I' : mI) (J' : mI), k2 y2 I' J' → WM C ad n I' J' R 0 0 2 [(0, vr 159), (1, vi l1), (2, vi y2)] []) (hw : p12_runsOn_b2_body l1 Q k2 l2 I J) : WM C ad n I J R 0 0 2 [(0, vr 159), (1, vi l1), (2, vi l2)] [] := by
  unfold p12_runsOn_b2_body at hw
  refine wm_iload_n hC 2 dX12_runsOn_2 rfl ?_
  refine wm_iload_n hC 1 dX12_runsOn_3 rfl ?_
  refine wm_icmp_ge (tgt := 20) hC dX12_runsOn_4 (by decide) hw (fun hw => ?_) (fun hw => ?_)
  · exact wm_return hC hE dX12_runsOn_20 ⟨rfl, hw⟩
  · refine wm_aload_n hC 0 dX12_runsOn_7 rfl (k_ne0 kk_159 (by decide)) ?_
    refine wm_iconst hC dX12_runsOn_8 (k := ?_)
    refine wm_iconst hC dX12_runsOn_9 (k := ?_)
    refine y_callV_z_IJ hC hRm noS ml_X12_526 kk_159 (c12_ticks hRF  hw) (Nat.le_of_ble_eq_true rfl) (Nat.le_of_ble_eq_true rfl) ⟨Nat.zero_le _, Nat.zero_le _⟩ rfl (st := []) rfl (Nat.le_of_ble_eq_true rfl) dX12_runsOn_10 (fun r1 I1 J1 hw => ?_)
    refine wm_pop hC dX12_runsOn_13 (k := ?_)
    refine x_iinc hC 2 dX12_runsOn_14 rfl (by decide) (L2 := [(2, vi (l2 + 1)), (0, vr 159), (1, vi l1)]) rfl hw (fun hw => ?_)
    refine wm_goto (tgt := 2) hC dX12_runsOn_17 (by decide) ?_
    refine wm_sub [1, 2, 0] (L2 := [(0, vr 159), (1, vi l1), (2, vi (l2 + 1))]) rfl ?_
    exact kk2 _ _ _ hw
set_option maxRecDepth 20000 in
theorem w12_runsOn_b2 {C : wX} {ad : Nat → Nat} {n : Nat} {R : mR} {Q : mI → mI → Prop} (hC : wOK C cX12_runsOn 3 RX12) (hRm : wRm C 9 214 0 0) (hE : wEnd C none ad n (fun _ I' J' R' => (R' = R) ∧ Q I' J')) (hRF : RF R) {l1 : Int}     : ∀ (f : Nat) (l2 : Int) (I : mI) (J : mI), p12_runsOn_b2 l1 Q f l2 I J → WM C ad n I J R 0 0 2 [(0, vr 159), (1, vi l1), (2, vi l2)] [] := by
  intro f
  induction f with
  | zero => intro l2 I J hw; exact hw.elim
  | succ f ih => intro l2 I J hw; exact w12_runsOn_b2_body hC hRm hE hRF  (fun a0 a1 a2 aw => ih a0 a1 a2 aw) hw
def p12_runsOn (l1 : Int) (I : mI) (J : mI) (Q : mI → mI → Prop) : Prop := (∃ f, p12_runsOn_b2 l1 Q f 0 I J)
set_option maxRecDepth 20000 in
theorem c12_runsOn {ad : Nat → Nat} {n : Nat} {I J : mI} {R : mR} {Q : mI → mI → Prop}  (hRF : RF R) {l1 : Int}   (hw : p12_runsOn l1 I J Q) : wMet yX12_runsOn cX12_runsOn 3 none 9 214 false ad n I J R [vr 159, vi l1] (fun _ I' J' R' => (R' = R) ∧ Q I' J') := by
  refine wMet_of (by decide) (Nat.le_of_ble_eq_true rfl) (fun C hC hRm hE hS => ?_)
  refine (show WM C ad n I J R 0 0 0 [(0, vr 159), (1, vi l1)] [] from ?_)
  unfold p12_runsOn at hw
  refine wm_iconst hC dX12_runsOn_0 (k := ?_)
  refine wm_istore_n hC dX12_runsOn_1 (by decide) (L2 := [(2, vi 0), (0, vr 159), (1, vi l1)]) rfl ?_
  obtain ⟨f, hw⟩ := hw
  refine wm_sub [1, 2, 0] (L2 := [(0, vr 159), (1, vi l1), (2, vi 0)]) rfl ?_
  exact w12_runsOn_b2 hC hRm hE hRF  f _ _ _ hw
def p12_later (l1 : Int) (l2 : Int) (I : mI) (J : mI) (Q : Int → mI → mI → Prop) : Prop := (p12_isThing l1 I (fun r1 => (if r1 = 0 then (Q (-1) I J) else (p12_isAhead l2 0 40 I (fun r2 => (if r2 = 0 then (Q (-1) I J) else (p12_copies 1 0 I (fun I1 => (p12_runsOn l2 I1 J (fun I2 J1 => (rg (6 + l1) ∧ (((0 : Int) ≤ (6 + l1) ∧ (6 + l1) < (132 : Int)) ∧ (Q (I2 189 (6 + l1)) I2 J1)))))))))))))
set_option maxRecDepth 20000 in
theorem c12_later {ad : Nat → Nat} {n : Nat} {I J : mI} {R : mR} {Q : Int → mI → mI → Prop}  (hRF : RF R) {l1 : Int} {l2 : Int}    (hw : p12_later l1 l2 I J Q) : wMet yX12_later cX12_later 3 (some .int) 10 236 false ad n I J R [vr 159, vi l1, vi l2] (fun r I' J' R' => (R' = R) ∧ Q r I' J') := by
  refine wMet_of (by decide) (Nat.le_of_ble_eq_true rfl) (fun C hC hRm hE hS => ?_)
  refine (show WM C ad n I J R 0 0 0 [(0, vr 159), (1, vi l1), (2, vi l2)] [] from ?_)
  unfold p12_later at hw
  refine wm_aload_n hC 0 dX12_later_0 rfl (k_ne0 kk_159 (by decide)) ?_
  refine wm_iload_n hC 1 dX12_later_1 rfl ?_
  refine y_callV_z_n hC hRm noS ml_X12_513 kk_159 (c12_isThing hRF  hw) (Nat.le_of_ble_eq_true rfl) (Nat.le_of_ble_eq_true rfl) ⟨Nat.zero_le _, Nat.zero_le _⟩ rfl (st := []) rfl (Nat.le_of_ble_eq_true rfl) dX12_later_2 (fun r1 hw => ?_)
  refine wm_if_eq (tgt := 19) hC dX12_later_5 (by decide) hw (fun hw => ?_) (fun hw => ?_)
  · refine wm_iconst hC dX12_later_19 (k := ?_)
    exact wm_ireturn hC hE dX12_later_20 ⟨rfl, hw⟩
  · refine wm_aload_n hC 0 dX12_later_8 rfl (k_ne0 kk_159 (by decide)) ?_
    refine wm_iload_n hC 2 dX12_later_9 rfl ?_
    refine wm_iconst hC dX12_later_10 (k := ?_)
    refine wm_bipush hC dX12_later_11 (k := ?_)
    refine y_callV_z_n hC hRm noS ml_X12_529 kk_159 (c12_isAhead hRF  hw) (Nat.le_of_ble_eq_true rfl) (Nat.le_of_ble_eq_true rfl) ⟨Nat.zero_le _, Nat.zero_le _⟩ rfl (st := []) rfl (Nat.le_of_ble_eq_true rfl) dX12_later_13 (fun r2 hw => ?_)
    refine wm_if_ne (tgt := 21) hC dX12_later_16 (by decide) hw (fun hw => ?_) (fun hw => ?_)
    · refine wm_iconst hC dX12_later_19 (k := ?_)
      exact wm_ireturn hC hE dX12_later_20 ⟨rfl, hw⟩
    · refine wm_aload_n hC 0 dX12_later_21 rfl (k_ne0 kk_159 (by decide)) ?_
      refine wm_iconst hC dX12_later_22 (k := ?_)
      refine wm_iconst hC dX12_later_23 (k := ?_)
      refine y_callV_v_I hC hRm noS ml_X12_424 kk_159 (c12_copies hRF  hw) (Nat.le_of_ble_eq_true rfl) (Nat.le_of_ble_eq_true rfl) ⟨Nat.zero_le _, Nat.zero_le _⟩ rfl (st := []) rfl (Nat.le_of_ble_eq_true rfl) dX12_later_24 (fun I1 hw => ?_)
      refine wm_aload_n hC 0 dX12_later_27 rfl (k_ne0 kk_159 (by decide)) ?_
      refine wm_iload_n hC 2 dX12_later_28 rfl ?_
      refine y_callV_v_IJ hC hRm noS ml_X12_532 kk_159 (c12_runsOn hRF  hw) (Nat.le_of_ble_eq_true rfl) (Nat.le_of_ble_eq_true rfl) ⟨Nat.zero_le _, Nat.zero_le _⟩ rfl (st := []) rfl (Nat.le_of_ble_eq_true rfl) dX12_later_29 (fun I2 J1 hw => ?_)
      refine wm_aload_n hC 0 dX12_later_32 rfl (k_ne0 kk_159 (by decide)) ?_
      refine x_getR3 hC 49 fl_X12_162 rfl kk_159 (rf_159_49 hRF) dX12_later_33 ?_
      refine wm_bipush hC dX12_later_36 (k := ?_)
      refine wm_iload_n hC 1 dX12_later_38 rfl ?_
      refine x_iadd hC dX12_later_39 hw (fun hw => ?_)
      refine x_iald2 hC kk_189 kn_189 dX12_later_40 hw (fun hw => ?_)
      exact wm_ireturn hC hE dX12_later_41 ⟨rfl, hw⟩
def p12_rowsOf_b4_body (I : mI) (Q : Int → Prop) (k4 : Int → Int → Prop) (l1 : Int) (l2 : Int) : Prop := (((0 : Int) ≤ (I 159 13) ∧ (I 159 13) < (2 : Int)) ∧ (if (I 161 (I 159 13)) < l2 then (Q l1) else (rg (l1 * l2) ∧ (rg (l2 + 1) ∧ (k4 (l1 * l2) (l2 + 1))))))
def p12_rowsOf_b4 (I : mI) (Q : Int → Prop) : Nat → Int → Int → Prop
  | 0 => fun _ _ => False
  | f + 1 => fun l1 l2 => p12_rowsOf_b4_body I Q (p12_rowsOf_b4 I Q f) l1 l2
set_option maxRecDepth 20000 in
theorem w12_rowsOf_b4_body {C : wX} {ad : Nat → Nat} {n : Nat} {I J : mI} {R : mR} {Q : Int → Prop} (hC : wOK C cX12_rowsOf 3 RX12) (hRm : wRm C 1 12 0 0) (hE : wEnd C (some .int) ad n (fun r I' J' R' => (I' = I ∧ J' = J ∧ R' = R) ∧ Q r)) (hRF : RF R)  {l1 : Int} {l2 : Int}     {k4 : Int → Int → Prop} (kk4 : ∀ (y1 : Int) (y2 : Int), k4 y1 y2 → WM C ad n I J R 0 0 4 [(0, vr 159), (1, vi y1), (2, vi y2)] []) (hw : p12_rowsOf_b4_body I Q k4 l1 l2) : WM C ad n I J R 0 0 4 [(0, vr 159), (1, vi l1), (2, vi l2)] [] := by
  unfold p12_rowsOf_b4_body at hw
  refine wm_iload_n hC 2 dX12_rowsOf_4 rfl ?_
  refine wm_aload_n hC 0 dX12_rowsOf_5 rfl (k_ne0 kk_159 (by decide)) ?_
  refine x_getR3 hC 14 fl_X12_54 rfl kk_159 (rf_159_14 hRF) dX12_rowsOf_6 ?_
  refine wm_aload_n hC 0 dX12_rowsOf_9 rfl (k_ne0 kk_159 (by decide)) ?_
  refine x_getI hC 13 fl_X12_51 rfl kk_159 dX12_rowsOf_10 ?_
  refine x_iald2 hC kk_161 kn_161 dX12_rowsOf_13 hw (fun hw => ?_)
  refine wm_icmp_gt (tgt := 27) hC dX12_rowsOf_14 (by decide) hw (fun hw => ?_) (fun hw => ?_)
  · refine wm_iload_n hC 1 dX12_rowsOf_27 rfl ?_
    exact wm_ireturn hC hE dX12_rowsOf_28 ⟨⟨rfl, rfl, rfl⟩, hw⟩
  · refine wm_iload_n hC 1 dX12_rowsOf_17 rfl ?_
    refine wm_iload_n hC 2 dX12_rowsOf_18 rfl ?_
    refine x_imul hC dX12_rowsOf_19 hw (fun hw => ?_)
    refine wm_istore_n hC dX12_rowsOf_20 (by decide) (L2 := [(1, vi (l1 * l2)), (0, vr 159), (2, vi l2)]) rfl ?_
    refine x_iinc hC 2 dX12_rowsOf_21 rfl (by decide) (L2 := [(2, vi (l2 + 1)), (1, vi (l1 * l2)), (0, vr 159)]) rfl hw (fun hw => ?_)
    refine wm_goto (tgt := 4) hC dX12_rowsOf_24 (by decide) ?_
    refine wm_sub [2, 1, 0] (L2 := [(0, vr 159), (1, vi (l1 * l2)), (2, vi (l2 + 1))]) rfl ?_
    exact kk4 _ _ hw
set_option maxRecDepth 20000 in
theorem w12_rowsOf_b4 {C : wX} {ad : Nat → Nat} {n : Nat} {I : mI} {J : mI} {R : mR} {Q : Int → Prop} (hC : wOK C cX12_rowsOf 3 RX12) (hRm : wRm C 1 12 0 0) (hE : wEnd C (some .int) ad n (fun r I' J' R' => (I' = I ∧ J' = J ∧ R' = R) ∧ Q r)) (hRF : RF R)      : ∀ (f : Nat) (l1 : Int) (l2 : Int), p12_rowsOf_b4 I Q f l1 l2 → WM C ad n I J R 0 0 4 [(0, vr 159), (1, vi l1), (2, vi l2)] [] := by
  intro f
  induction f with
  | zero => intro l1 l2 hw; exact hw.elim
  | succ f ih => intro l1 l2 hw; exact w12_rowsOf_b4_body hC hRm hE hRF  (fun a0 a1 aw => ih a0 a1 aw) hw
def p12_rowsOf (I : mI) (Q : Int → Prop) : Prop := (∃ f, p12_rowsOf_b4 I Q f 1 2)
set_option maxRecDepth 20000 in
theorem c12_rowsOf {ad : Nat → Nat} {n : Nat} {I J : mI} {R : mR} {Q : Int → Prop}  (hRF : RF R)   (hw : p12_rowsOf I Q) : wMet yX12_rowsOf cX12_rowsOf 3 (some .int) 1 12 false ad n I J R [vr 159] (fun r I' J' R' => (I' = I ∧ J' = J ∧ R' = R) ∧ Q r) := by
  refine wMet_of (by decide) (Nat.le_of_ble_eq_true rfl) (fun C hC hRm hE hS => ?_)
  refine (show WM C ad n I J R 0 0 0 [(0, vr 159)] [] from ?_)
  unfold p12_rowsOf at hw
  refine wm_iconst hC dX12_rowsOf_0 (k := ?_)
  refine wm_istore_n hC dX12_rowsOf_1 (by decide) (L2 := [(1, vi 1), (0, vr 159)]) rfl ?_
  refine wm_iconst hC dX12_rowsOf_2 (k := ?_)
  refine wm_istore_n hC dX12_rowsOf_3 (by decide) (L2 := [(2, vi 2), (1, vi 1), (0, vr 159)]) rfl ?_
  obtain ⟨f, hw⟩ := hw
  refine wm_sub [2, 1, 0] (L2 := [(0, vr 159), (1, vi 1), (2, vi 2)]) rfl ?_
  exact w12_rowsOf_b4 hC hRm hE hRF  f _ _ hw
def p12_laysOrder_b55_body (l2 : Int) (l3 : Int) (l4 : Int) (l5 : Int) (l6 : Int) (I : mI) (k24 : Int → Int → Int → Int → mI → Prop) (Q : mI → Prop) (k55 : Int → Int → Prop) (l7 : Int) (l8 : Int) : Prop := (if l4 ≤ l8 then (rg (l6 + 1) ∧ (k24 l2 l3 l5 (l6 + 1) I)) else (p12_has2 l3 l8 (fun r2 => (if r2 = 0 then (if l7 = 0 then (((0 : Int) ≤ l6 ∧ l6 < (6 : Int)) ∧ wLet (up I 197 l6 l8) (fun I1 => (rg (l6 + 1) ∧ (k24 l2 (bOr l3 (bShl 1 l8)) l5 (l6 + 1) I1)))) else (rg (l7 + (-1)) ∧ (rg (l8 + 1) ∧ (k55 (l7 + (-1)) (l8 + 1))))) else (rg (l8 + 1) ∧ (k55 l7 (l8 + 1)))))))
def p12_laysOrder_b55 (l2 : Int) (l3 : Int) (l4 : Int) (l5 : Int) (l6 : Int) (I : mI) (k24 : Int → Int → Int → Int → mI → Prop) (Q : mI → Prop) : Nat → Int → Int → Prop
  | 0 => fun _ _ => False
  | f + 1 => fun l7 l8 => p12_laysOrder_b55_body l2 l3 l4 l5 l6 I k24 Q (p12_laysOrder_b55 l2 l3 l4 l5 l6 I k24 Q f) l7 l8
set_option maxRecDepth 20000 in
theorem w12_laysOrder_b55_body {C : wX} {ad : Nat → Nat} {n : Nat} {I J : mI} {R : mR} {Q : mI → Prop} (hC : wOK C cX12_laysOrder 9 RX12) (hRm : wRm C 2 34 0 0) (hE : wEnd C none ad n (fun _ I' J' R' => (J' = J ∧ R' = R) ∧ Q I')) (hRF : RF R) {l2 : Int} {l3 : Int} {l4 : Int} {l5 : Int} {l6 : Int} {l7 : Int} {l8 : Int}  {k24 : Int → Int → Int → Int → mI → Prop}  (kk24 : ∀ (y2 : Int) (y3 : Int) (y5 : Int) (y6 : Int) (I' : mI), k24 y2 y3 y5 y6 I' → WM C ad n I' J R 0 0 24 [(0, vr 159), (2, vi y2), (3, vi y3), (4, vi l4), (5, vi y5), (6, vi y6)] []) {k55 : Int → Int → Prop} (kk55 : ∀ (y7 : Int) (y8 : Int), k55 y7 y8 → WM C ad n I J R 0 0 55 [(0, vr 159), (2, vi l2), (3, vi l3), (4, vi l4), (5, vi l5), (6, vi l6), (7, vi y7), (8, vi y8)] []) (hw : p12_laysOrder_b55_body l2 l3 l4 l5 l6 I k24 Q k55 l7 l8) : WM C ad n I J R 0 0 55 [(0, vr 159), (2, vi l2), (3, vi l3), (4, vi l4), (5, vi l5), (6, vi l6), (7, vi l7), (8, vi l8)] [] := by
  unfold p12_laysOrder_b55_body at hw
  refine wm_iload hC 7 dX12_laysOrder_55 rfl ?_
  refine wm_iload hC 3 dX12_laysOrder_57 rfl ?_
  refine wm_icmp_ge (tgt := 107) hC dX12_laysOrder_59 (by decide) hw (fun hw => ?_) (fun hw => ?_)
  · refine x_iinc hC 5 dX12_laysOrder_107 rfl (by decide) (L2 := [(6, vi (l6 + 1)), (0, vr 159), (2, vi l2), (3, vi l3), (4, vi l4), (5, vi l5), (7, vi l7), (8, vi l8)]) rfl hw (fun hw => ?_)
    refine wm_goto (tgt := 24) hC dX12_laysOrder_110 (by decide) ?_
    refine wm_sub [1, 2, 3, 4, 5, 0] (L2 := [(0, vr 159), (2, vi l2), (3, vi l3), (4, vi l4), (5, vi l5), (6, vi (l6 + 1))]) rfl ?_
    exact kk24 _ _ _ _ _ hw
  · refine wm_iload_n hC 2 dX12_laysOrder_62 rfl ?_
    refine wm_iload hC 7 dX12_laysOrder_63 rfl ?_
    refine y_callS_z_n hC hRm noS ml_X12_351 (c12_has2 hRF  hw) (Nat.le_of_ble_eq_true rfl) (Nat.le_of_ble_eq_true rfl) ⟨Nat.zero_le _, Nat.zero_le _⟩ rfl (st := []) rfl (Nat.le_of_ble_eq_true rfl) dX12_laysOrder_65 (fun r2 hw => ?_)
    refine wm_if_eq (tgt := 74) hC dX12_laysOrder_68 (by decide) hw (fun hw => ?_) (fun hw => ?_)
    · refine wm_iload hC 6 dX12_laysOrder_74 rfl ?_
      refine wm_if_ne (tgt := 98) hC dX12_laysOrder_76 (by decide) hw (fun hw => ?_) (fun hw => ?_)
      · refine wm_aload_n hC 0 dX12_laysOrder_79 rfl (k_ne0 kk_159 (by decide)) ?_
        refine x_getR3 hC 60 fl_X12_195 rfl kk_159 (rf_159_60 hRF) dX12_laysOrder_80 ?_
        refine wm_iload hC 5 dX12_laysOrder_83 rfl ?_
        refine wm_iload hC 7 dX12_laysOrder_85 rfl ?_
        refine x_iast2 hC kk_197 kn_197 dX12_laysOrder_87 hw (fun I1 hw => ?_)
        refine wm_iload_n hC 2 dX12_laysOrder_88 rfl ?_
        refine wm_iconst hC dX12_laysOrder_89 (k := ?_)
        refine wm_iload hC 7 dX12_laysOrder_90 rfl ?_
        refine wm_ishl hC dX12_laysOrder_92 ?_
        refine wm_ior hC dX12_laysOrder_93 ?_
        refine wm_istore_n hC dX12_laysOrder_94 (by decide) (L2 := [(3, vi (bOr l3 (bShl 1 l8))), (0, vr 159), (2, vi l2), (4, vi l4), (5, vi l5), (6, vi l6), (7, vi l7), (8, vi l8)]) rfl ?_
        refine wm_goto (tgt := 107) hC dX12_laysOrder_95 (by decide) ?_
        refine x_iinc hC 5 dX12_laysOrder_107 rfl (by decide) (L2 := [(6, vi (l6 + 1)), (3, vi (bOr l3 (bShl 1 l8))), (0, vr 159), (2, vi l2), (4, vi l4), (5, vi l5), (7, vi l7), (8, vi l8)]) rfl hw (fun hw => ?_)
        refine wm_goto (tgt := 24) hC dX12_laysOrder_110 (by decide) ?_
        refine wm_sub [2, 3, 1, 4, 5, 0] (L2 := [(0, vr 159), (2, vi l2), (3, vi (bOr l3 (bShl 1 l8))), (4, vi l4), (5, vi l5), (6, vi (l6 + 1))]) rfl ?_
        exact kk24 _ _ _ _ _ hw
      · refine x_iinc hC 6 dX12_laysOrder_98 rfl (by decide) (L2 := [(7, vi (l7 + (-1))), (0, vr 159), (2, vi l2), (3, vi l3), (4, vi l4), (5, vi l5), (6, vi l6), (8, vi l8)]) rfl hw (fun hw => ?_)
        refine x_iinc hC 7 dX12_laysOrder_101 rfl (by decide) (L2 := [(8, vi (l8 + 1)), (7, vi (l7 + (-1))), (0, vr 159), (2, vi l2), (3, vi l3), (4, vi l4), (5, vi l5), (6, vi l6)]) rfl hw (fun hw => ?_)
        refine wm_goto (tgt := 55) hC dX12_laysOrder_104 (by decide) ?_
        refine wm_sub [2, 3, 4, 5, 6, 7, 1, 0] (L2 := [(0, vr 159), (2, vi l2), (3, vi l3), (4, vi l4), (5, vi l5), (6, vi l6), (7, vi (l7 + (-1))), (8, vi (l8 + 1))]) rfl ?_
        exact kk55 _ _ hw
    · refine wm_goto (tgt := 101) hC dX12_laysOrder_71 (by decide) ?_
      refine x_iinc hC 7 dX12_laysOrder_101 rfl (by decide) (L2 := [(8, vi (l8 + 1)), (0, vr 159), (2, vi l2), (3, vi l3), (4, vi l4), (5, vi l5), (6, vi l6), (7, vi l7)]) rfl hw (fun hw => ?_)
      refine wm_goto (tgt := 55) hC dX12_laysOrder_104 (by decide) ?_
      refine wm_sub [1, 2, 3, 4, 5, 6, 7, 0] (L2 := [(0, vr 159), (2, vi l2), (3, vi l3), (4, vi l4), (5, vi l5), (6, vi l6), (7, vi l7), (8, vi (l8 + 1))]) rfl ?_
      exact kk55 _ _ hw
set_option maxRecDepth 20000 in
theorem w12_laysOrder_b55 {C : wX} {ad : Nat → Nat} {n : Nat} {I : mI} {J : mI} {R : mR} {Q : mI → Prop} (hC : wOK C cX12_laysOrder 9 RX12) (hRm : wRm C 2 34 0 0) (hE : wEnd C none ad n (fun _ I' J' R' => (J' = J ∧ R' = R) ∧ Q I')) (hRF : RF R) {l2 : Int} {l3 : Int} {l4 : Int} {l5 : Int} {l6 : Int}  {k24 : Int → Int → Int → Int → mI → Prop}  (kk24 : ∀ (y2 : Int) (y3 : Int) (y5 : Int) (y6 : Int) (I' : mI), k24 y2 y3 y5 y6 I' → WM C ad n I' J R 0 0 24 [(0, vr 159), (2, vi y2), (3, vi y3), (4, vi l4), (5, vi y5), (6, vi y6)] []) : ∀ (f : Nat) (l7 : Int) (l8 : Int), p12_laysOrder_b55 l2 l3 l4 l5 l6 I k24 Q f l7 l8 → WM C ad n I J R 0 0 55 [(0, vr 159), (2, vi l2), (3, vi l3), (4, vi l4), (5, vi l5), (6, vi l6), (7, vi l7), (8, vi l8)] [] := by
  intro f
  induction f with
  | zero => intro l7 l8 hw; exact hw.elim
  | succ f ih => intro l7 l8 hw; exact w12_laysOrder_b55_body hC hRm hE hRF kk24 (fun a0 a1 aw => ih a0 a1 aw) hw
def p12_laysOrder_b24_body (l4 : Int) (Q : mI → Prop) (k24 : Int → Int → Int → Int → mI → Prop) (l2 : Int) (l3 : Int) (l5 : Int) (l6 : Int) (I : mI) : Prop := (if l4 ≤ l6 then (Q I) else (rg (l4 - l6) ∧ (((l4 - l6) ≠ 0 ∧ rg (Int.tdiv l5 (l4 - l6))) ∧ (wLet (Int.tdiv l5 (l4 - l6)) (fun x1 => ((x1 ≠ 0 ∧ rg (Int.tdiv l2 x1)) ∧ (x1 ≠ 0 ∧ (∃ f, p12_laysOrder_b55 (Int.tmod l2 x1) l3 l4 x1 l6 I k24 Q f (Int.tdiv l2 x1) 0))))))))
def p12_laysOrder_b24 (l4 : Int) (Q : mI → Prop) : Nat → Int → Int → Int → Int → mI → Prop
  | 0 => fun _ _ _ _ _ => False
  | f + 1 => fun l2 l3 l5 l6 I => p12_laysOrder_b24_body l4 Q (p12_laysOrder_b24 l4 Q f) l2 l3 l5 l6 I
set_option maxRecDepth 20000 in
theorem w12_laysOrder_b24_body {C : wX} {ad : Nat → Nat} {n : Nat} {I J : mI} {R : mR} {Q : mI → Prop} (hC : wOK C cX12_laysOrder 9 RX12) (hRm : wRm C 2 34 0 0) (hE : wEnd C none ad n (fun _ I' J' R' => (J' = J ∧ R' = R) ∧ Q I')) (hRF : RF R) {l4 : Int} {l2 : Int} {l3 : Int} {l5 : Int} {l6 : Int}     {k24 : Int → Int → Int → Int → mI → Prop} (kk24 : ∀ (y2 : Int) (y3 : Int) (y5 : Int) (y6 : Int) (I' : mI), k24 y2 y3 y5 y6 I' → WM C ad n I' J R 0 0 24 [(0, vr 159), (2, vi y2), (3, vi y3), (4, vi l4), (5, vi y5), (6, vi y6)] []) (hw : p12_laysOrder_b24_body l4 Q k24 l2 l3 l5 l6 I) : WM C ad n I J R 0 0 24 [(0, vr 159), (2, vi l2), (3, vi l3), (4, vi l4), (5, vi l5), (6, vi l6)] [] := by
  unfold p12_laysOrder_b24_body at hw
  refine wm_iload hC 5 dX12_laysOrder_24 rfl ?_
  refine wm_iload hC 3 dX12_laysOrder_26 rfl ?_
  refine wm_icmp_ge (tgt := 113) hC dX12_laysOrder_28 (by decide) hw (fun hw => ?_) (fun hw => ?_)
  · exact wm_return hC hE dX12_laysOrder_113 ⟨⟨rfl, rfl⟩, hw⟩
  · refine wm_iload hC 4 dX12_laysOrder_31 rfl ?_
    refine wm_iload hC 3 dX12_laysOrder_33 rfl ?_
    refine wm_iload hC 5 dX12_laysOrder_35 rfl ?_
    refine x_isub hC dX12_laysOrder_37 hw (fun hw => ?_)
    refine x_idiv hC dX12_laysOrder_38 hw (fun hw => ?_)
    refine x_nameI hw (fun x1 hw => ?_)
    refine wm_istore hC dX12_laysOrder_39 (by decide) (L2 := [(5, vi x1), (0, vr 159), (2, vi l2), (3, vi l3), (4, vi l4), (6, vi l6)]) rfl ?_
    refine wm_iload_n hC 2 dX12_laysOrder_41 rfl ?_
    refine wm_iload hC 0 dX12_laysOrder_42 rfl ?_
    refine x_idiv hC dX12_laysOrder_44 hw (fun hw => ?_)
    refine wm_istore hC dX12_laysOrder_45 (by decide) (L2 := [(7, vi (Int.tdiv l2 x1)), (5, vi x1), (0, vr 159), (2, vi l2), (3, vi l3), (4, vi l4), (6, vi l6)]) rfl ?_
    refine wm_iload_n hC 3 dX12_laysOrder_47 rfl ?_
    refine wm_iload hC 1 dX12_laysOrder_48 rfl ?_
    refine x_irem hC dX12_laysOrder_50 hw (fun hw => ?_)
    refine wm_istore_n hC dX12_laysOrder_51 (by decide) (L2 := [(2, vi (Int.tmod l2 x1)), (7, vi (Int.tdiv l2 x1)), (5, vi x1), (0, vr 159), (3, vi l3), (4, vi l4), (6, vi l6)]) rfl ?_
    refine wm_iconst hC dX12_laysOrder_52 (k := ?_)
    refine wm_istore hC dX12_laysOrder_53 (by decide) (L2 := [(8, vi 0), (2, vi (Int.tmod l2 x1)), (7, vi (Int.tdiv l2 x1)), (5, vi x1), (0, vr 159), (3, vi l3), (4, vi l4), (6, vi l6)]) rfl ?_
    obtain ⟨f, hw⟩ := hw
    refine wm_sub [4, 1, 5, 6, 3, 7, 2, 0] (L2 := [(0, vr 159), (2, vi (Int.tmod l2 x1)), (3, vi l3), (4, vi l4), (5, vi x1), (6, vi l6), (7, vi (Int.tdiv l2 x1)), (8, vi 0)]) rfl ?_
    exact w12_laysOrder_b55 hC hRm hE hRF kk24 f _ _ hw
set_option maxRecDepth 20000 in
theorem w12_laysOrder_b24 {C : wX} {ad : Nat → Nat} {n : Nat} {J : mI} {R : mR} {Q : mI → Prop} (hC : wOK C cX12_laysOrder 9 RX12) (hRm : wRm C 2 34 0 0) (hE : wEnd C none ad n (fun _ I' J' R' => (J' = J ∧ R' = R) ∧ Q I')) (hRF : RF R) {l4 : Int}     : ∀ (f : Nat) (l2 : Int) (l3 : Int) (l5 : Int) (l6 : Int) (I : mI), p12_laysOrder_b24 l4 Q f l2 l3 l5 l6 I → WM C ad n I J R 0 0 24 [(0, vr 159), (2, vi l2), (3, vi l3), (4, vi l4), (5, vi l5), (6, vi l6)] [] := by
  intro f
  induction f with
  | zero => intro l2 l3 l5 l6 I hw; exact hw.elim
  | succ f ih => intro l2 l3 l5 l6 I hw; exact w12_laysOrder_b24_body hC hRm hE hRF  (fun a0 a1 a2 a3 a4 aw => ih a0 a1 a2 a3 a4 aw) hw
def p12_laysOrder (l1 : Int) (I : mI) (Q : mI → Prop) : Prop := (((0 : Int) ≤ (I 159 13) ∧ (I 159 13) < (2 : Int)) ∧ (p12_rowsOf I (fun r1 => (∃ f, p12_laysOrder_b24 (I 161 (I 159 13)) Q f l1 0 r1 0 I))))
set_option maxRecDepth 20000 in
theorem c12_laysOrder {ad : Nat → Nat} {n : Nat} {I J : mI} {R : mR} {Q : mI → Prop}  (hRF : RF R) {l1 : Int}   (hw : p12_laysOrder l1 I Q) : wMet yX12_laysOrder cX12_laysOrder 9 none 2 34 false ad n I J R [vr 159, vi l1] (fun _ I' J' R' => (J' = J ∧ R' = R) ∧ Q I') := by
  refine wMet_of (by decide) (Nat.le_of_ble_eq_true rfl) (fun C hC hRm hE hS => ?_)
  refine (show WM C ad n I J R 0 0 0 [(0, vr 159), (1, vi l1)] [] from ?_)
  unfold p12_laysOrder at hw
  refine wm_iload_n hC 1 dX12_laysOrder_0 rfl ?_
  refine wm_istore_n hC dX12_laysOrder_1 (by decide) (L2 := [(2, vi l1), (0, vr 159), (1, vi l1)]) rfl ?_
  refine wm_iconst hC dX12_laysOrder_2 (k := ?_)
  refine wm_istore_n hC dX12_laysOrder_3 (by decide) (L2 := [(3, vi 0), (2, vi l1), (0, vr 159), (1, vi l1)]) rfl ?_
  refine wm_aload_n hC 2 dX12_laysOrder_4 rfl (k_ne0 kk_159 (by decide)) ?_
  refine x_getR3 hC 14 fl_X12_54 rfl kk_159 (rf_159_14 hRF) dX12_laysOrder_5 ?_
  refine wm_aload_n hC 2 dX12_laysOrder_8 rfl (k_ne0 kk_159 (by decide)) ?_
  refine x_getI hC 13 fl_X12_51 rfl kk_159 dX12_laysOrder_9 ?_
  refine x_iald2 hC kk_161 kn_161 dX12_laysOrder_12 hw (fun hw => ?_)
  refine wm_istore hC dX12_laysOrder_13 (by decide) (L2 := [(4, vi (I 161 (I 159 13))), (3, vi 0), (2, vi l1), (0, vr 159), (1, vi l1)]) rfl ?_
  refine wm_aload_n hC 3 dX12_laysOrder_15 rfl (k_ne0 kk_159 (by decide)) ?_
  refine y_callV_i_n hC hRm noS ml_X12_535 kk_159 (c12_rowsOf hRF  hw) (Nat.le_of_ble_eq_true rfl) (Nat.le_of_ble_eq_true rfl) ⟨Nat.zero_le _, Nat.zero_le _⟩ rfl (st := []) rfl (Nat.le_of_ble_eq_true rfl) dX12_laysOrder_16 (fun r1 hw => ?_)
  refine wm_istore hC dX12_laysOrder_19 (by decide) (L2 := [(5, vi r1), (4, vi (I 161 (I 159 13))), (3, vi 0), (2, vi l1), (0, vr 159), (1, vi l1)]) rfl ?_
  refine wm_iconst hC dX12_laysOrder_21 (k := ?_)
  refine wm_istore hC dX12_laysOrder_22 (by decide) (L2 := [(6, vi 0), (5, vi r1), (4, vi (I 161 (I 159 13))), (3, vi 0), (2, vi l1), (0, vr 159), (1, vi l1)]) rfl ?_
  obtain ⟨f, hw⟩ := hw
  refine wm_sub [5, 4, 3, 2, 1, 0] (L2 := [(0, vr 159), (2, vi l1), (3, vi 0), (4, vi (I 161 (I 159 13))), (5, vi r1), (6, vi 0)]) rfl ?_
  exact w12_laysOrder_b24 hC hRm hE hRF  f _ _ _ _ _ hw
def p12_letter_b89_body (l3 : Int) (l5 : Int) (I : mI) (J : mI) (Q : Int → Prop) (k89 : Int → Int → Prop) (l7 : Int) (l8 : Int) : Prop := (if l8 ≤ 0 then (if l3 < l7 then (rg (l7 - 1) ∧ (rg ((l7 - 1) - l3) ∧ (rg (8 * ((l7 - 1) - l3)) ∧ (rg (lAnd (lShr l5 (8 * ((l7 - 1) - l3))) 255) ∧ (rg ((lAnd (lShr l5 (8 * ((l7 - 1) - l3))) 255) - 97) ∧ (rg (((lAnd (lShr l5 (8 * ((l7 - 1) - l3))) 255) - 97) + 1) ∧ (Q (((lAnd (lShr l5 (8 * ((l7 - 1) - l3))) 255) - 97) + 1)))))))) else (Q 0)) else (rg (l7 + 1) ∧ (k89 (l7 + 1) (lShr l8 8))))
def p12_letter_b89 (l3 : Int) (l5 : Int) (I : mI) (J : mI) (Q : Int → Prop) : Nat → Int → Int → Prop
  | 0 => fun _ _ => False
  | f + 1 => fun l7 l8 => p12_letter_b89_body l3 l5 I J Q (p12_letter_b89 l3 l5 I J Q f) l7 l8
set_option maxRecDepth 20000 in
theorem w12_letter_b89_body {C : wX} {ad : Nat → Nat} {n : Nat} {I J : mI} {R : mR} {Q : Int → Prop} (hC : wOK C cX12_letter 10 RX12) (hRm : wRm C 2 34 0 0) (hE : wEnd C (some .int) ad n (fun r I' J' R' => (I' = I ∧ J' = J ∧ R' = R) ∧ Q r)) (hRF : RF R) {l3 : Int} {l5 : Int} {l7 : Int} {l8 : Int}     {k89 : Int → Int → Prop} (kk89 : ∀ (y7 : Int) (y8 : Int), k89 y7 y8 → WM C ad n I J R 0 0 89 [(3, vi l3), (5, vl l5), (7, vi y7), (8, vl y8)] []) (hw : p12_letter_b89_body l3 l5 I J Q k89 l7 l8) : WM C ad n I J R 0 0 89 [(3, vi l3), (5, vl l5), (7, vi l7), (8, vl l8)] [] := by
  unfold p12_letter_b89_body at hw
  refine wm_lload hC 3 dX12_letter_89 rfl ?_
  refine wm_lconst hC (x := 0) dX12_letter_91 (k := ?_)
  refine wm_lcmp_le (tgt := 109) hC dX12_letter_92 dX12_letter_93 (by decide) hw (fun hw => ?_) (fun hw => ?_)
  · refine wm_iload_n hC 0 dX12_letter_109 rfl ?_
    refine wm_iload hC 2 dX12_letter_110 rfl ?_
    refine wm_icmp_lt (tgt := 119) hC dX12_letter_112 (by decide) hw (fun hw => ?_) (fun hw => ?_)
    · refine wm_lload hC 1 dX12_letter_119 rfl ?_
      refine wm_bipush hC dX12_letter_121 (k := ?_)
      refine wm_iload hC 2 dX12_letter_123 rfl ?_
      refine wm_iconst hC dX12_letter_125 (k := ?_)
      refine x_isub hC dX12_letter_126 hw (fun hw => ?_)
      refine wm_iload_n hC 0 dX12_letter_127 rfl ?_
      refine x_isub hC dX12_letter_128 hw (fun hw => ?_)
      refine x_imul hC dX12_letter_129 hw (fun hw => ?_)
      refine wm_lshr hC dX12_letter_130 ?_
      refine wm_ldc2 hC (x := 255) tc_X12_516 rfl dX12_letter_131 (k := ?_)
      refine wm_land hC dX12_letter_134 ?_
      refine x_l2i hC dX12_letter_135 hw (fun hw => ?_)
      refine wm_bipush hC dX12_letter_136 (k := ?_)
      refine x_isub hC dX12_letter_138 hw (fun hw => ?_)
      refine wm_iconst hC dX12_letter_139 (k := ?_)
      refine x_iadd hC dX12_letter_140 hw (fun hw => ?_)
      exact wm_ireturn hC hE dX12_letter_141 ⟨⟨rfl, rfl, rfl⟩, hw⟩
    · refine wm_iconst hC dX12_letter_115 (k := ?_)
      refine wm_goto (tgt := 141) hC dX12_letter_116 (by decide) ?_
      exact wm_ireturn hC hE dX12_letter_141 ⟨⟨rfl, rfl, rfl⟩, hw⟩
  · refine x_iinc hC 2 dX12_letter_96 rfl (by decide) (L2 := [(7, vi (l7 + 1)), (3, vi l3), (5, vl l5), (8, vl l8)]) rfl hw (fun hw => ?_)
    refine wm_lload hC 3 dX12_letter_99 rfl ?_
    refine wm_bipush hC dX12_letter_101 (k := ?_)
    refine wm_lshr hC dX12_letter_103 ?_
    refine wm_lstore hC dX12_letter_104 (by decide) (L2 := [(8, vl (lShr l8 8)), (7, vi (l7 + 1)), (3, vi l3), (5, vl l5)]) rfl ?_
    refine wm_goto (tgt := 89) hC dX12_letter_106 (by decide) ?_
    refine wm_sub [2, 3, 1, 0] (L2 := [(3, vi l3), (5, vl l5), (7, vi (l7 + 1)), (8, vl (lShr l8 8))]) rfl ?_
    exact kk89 _ _ hw
set_option maxRecDepth 20000 in
theorem w12_letter_b89 {C : wX} {ad : Nat → Nat} {n : Nat} {I : mI} {J : mI} {R : mR} {Q : Int → Prop} (hC : wOK C cX12_letter 10 RX12) (hRm : wRm C 2 34 0 0) (hE : wEnd C (some .int) ad n (fun r I' J' R' => (I' = I ∧ J' = J ∧ R' = R) ∧ Q r)) (hRF : RF R) {l3 : Int} {l5 : Int}     : ∀ (f : Nat) (l7 : Int) (l8 : Int), p12_letter_b89 l3 l5 I J Q f l7 l8 → WM C ad n I J R 0 0 89 [(3, vi l3), (5, vl l5), (7, vi l7), (8, vl l8)] [] := by
  intro f
  induction f with
  | zero => intro l7 l8 hw; exact hw.elim
  | succ f ih => intro l7 l8 hw; exact w12_letter_b89_body hC hRm hE hRF  (fun a0 a1 aw => ih a0 a1 aw) hw
def p12_letter_b43 (l1 : Int) (l2 : Int) (l3 : Int) (s0 : Int) (I : mI) (J : mI) (Q : Int → Prop) : Prop := (if s0 = 0 then (Q (-1)) else (p12_is l3 0 5 (fun r4 => (if r4 = 0 then (Q (-1)) else (rg (18 * (I 159 13)) ∧ (rg (6 * l1) ∧ (rg ((18 * (I 159 13)) + (6 * l1)) ∧ (rg (((18 * (I 159 13)) + (6 * l1)) + l2) ∧ (((0 : Int) ≤ (((18 * (I 159 13)) + (6 * l1)) + l2) ∧ (((18 * (I 159 13)) + (6 * l1)) + l2) < (36 : Int)) ∧ (wLet (J 177 (((18 * (I 159 13)) + (6 * l1)) + l2)) (fun x1 => (∃ f, p12_letter_b89 l3 x1 I J Q f 0 x1))))))))))))
set_option maxRecDepth 20000 in
theorem w12_letter_b43 {C : wX} {ad : Nat → Nat} {n : Nat} {I J : mI} {R : mR} {Q : Int → Prop} (hC : wOK C cX12_letter 10 RX12) (hRm : wRm C 2 34 0 0) (hE : wEnd C (some .int) ad n (fun r I' J' R' => (I' = I ∧ J' = J ∧ R' = R) ∧ Q r)) (hRF : RF R) {l1 : Int} {l2 : Int} {l3 : Int} {s0 : Int}     (hw : p12_letter_b43 l1 l2 l3 s0 I J Q) : WM C ad n I J R 0 0 43 [(0, vr 159), (1, vi l1), (2, vi l2), (3, vi l3)] [vi s0] := by
  unfold p12_letter_b43 at hw
  refine wm_istore hC dX12_letter_43 (by decide) (L2 := [(4, vi s0), (0, vr 159), (1, vi l1), (2, vi l2), (3, vi l3)]) rfl ?_
  refine wm_iload hC 0 dX12_letter_45 rfl ?_
  refine wm_if_eq (tgt := 59) hC dX12_letter_47 (by decide) hw (fun hw => ?_) (fun hw => ?_)
  · refine wm_iconst hC dX12_letter_59 (k := ?_)
    exact wm_ireturn hC hE dX12_letter_60 ⟨⟨rfl, rfl, rfl⟩, hw⟩
  · refine wm_iload_n hC 4 dX12_letter_50 rfl ?_
    refine wm_iconst hC dX12_letter_51 (k := ?_)
    refine wm_iconst hC dX12_letter_52 (k := ?_)
    refine y_callS_z_n hC hRm noS ml_X12_309 (c12_is hRF  hw) (Nat.le_of_ble_eq_true rfl) (Nat.le_of_ble_eq_true rfl) ⟨Nat.zero_le _, Nat.zero_le _⟩ rfl (st := []) rfl (Nat.le_of_ble_eq_true rfl) dX12_letter_53 (fun r4 hw => ?_)
    refine wm_if_ne (tgt := 61) hC dX12_letter_56 (by decide) hw (fun hw => ?_) (fun hw => ?_)
    · refine wm_iconst hC dX12_letter_59 (k := ?_)
      exact wm_ireturn hC hE dX12_letter_60 ⟨⟨rfl, rfl, rfl⟩, hw⟩
    · refine wm_aload_n hC 1 dX12_letter_61 rfl (k_ne0 kk_159 (by decide)) ?_
      refine x_getR3 hC 30 fl_X12_102 rfl kk_159 (rf_159_30 hRF) dX12_letter_62 ?_
      refine wm_bipush hC dX12_letter_65 (k := ?_)
      refine wm_aload_n hC 1 dX12_letter_67 rfl (k_ne0 kk_159 (by decide)) ?_
      refine x_getI hC 13 fl_X12_51 rfl kk_159 dX12_letter_68 ?_
      refine x_imul hC dX12_letter_71 hw (fun hw => ?_)
      refine wm_bipush hC dX12_letter_72 (k := ?_)
      refine wm_iload_n hC 2 dX12_letter_74 rfl ?_
      refine x_imul hC dX12_letter_75 hw (fun hw => ?_)
      refine x_iadd hC dX12_letter_76 hw (fun hw => ?_)
      refine wm_iload_n hC 3 dX12_letter_77 rfl ?_
      refine x_iadd hC dX12_letter_78 hw (fun hw => ?_)
      refine x_lald2 hC kk_177 kn_177 dX12_letter_79 hw (fun hw => ?_)
      refine x_nameL hw (fun x1 hw => ?_)
      refine wm_lstore hC dX12_letter_80 (by decide) (L2 := [(5, vl x1), (4, vi s0), (0, vr 159), (1, vi l1), (2, vi l2), (3, vi l3)]) rfl ?_
      refine wm_iconst hC dX12_letter_82 (k := ?_)
      refine wm_istore hC dX12_letter_83 (by decide) (L2 := [(7, vi 0), (5, vl x1), (4, vi s0), (0, vr 159), (1, vi l1), (2, vi l2), (3, vi l3)]) rfl ?_
      refine wm_lload hC 1 dX12_letter_85 rfl ?_
      refine wm_lstore hC dX12_letter_87 (by decide) (L2 := [(8, vl x1), (7, vi 0), (5, vl x1), (4, vi s0), (0, vr 159), (1, vi l1), (2, vi l2), (3, vi l3)]) rfl ?_
      obtain ⟨f, hw⟩ := hw
      refine wm_sub [7, 2, 1, 0] (L2 := [(3, vi l3), (5, vl x1), (7, vi 0), (8, vl x1)]) rfl ?_
      exact w12_letter_b89 hC hRm hE hRF  f _ _ hw
def p12_letter_b42 (l1 : Int) (l2 : Int) (l3 : Int) (I : mI) (J : mI) (Q : Int → Prop) : Prop := (p12_letter_b43 l1 l2 l3 0 I J Q)
set_option maxRecDepth 20000 in
theorem w12_letter_b42 {C : wX} {ad : Nat → Nat} {n : Nat} {I J : mI} {R : mR} {Q : Int → Prop} (hC : wOK C cX12_letter 10 RX12) (hRm : wRm C 2 34 0 0) (hE : wEnd C (some .int) ad n (fun r I' J' R' => (I' = I ∧ J' = J ∧ R' = R) ∧ Q r)) (hRF : RF R) {l1 : Int} {l2 : Int} {l3 : Int}     (hw : p12_letter_b42 l1 l2 l3 I J Q) : WM C ad n I J R 0 0 42 [(0, vr 159), (1, vi l1), (2, vi l2), (3, vi l3)] [] := by
  unfold p12_letter_b42 at hw
  refine wm_iconst hC dX12_letter_42 (k := ?_)
  exact w12_letter_b43 hC hRm hE hRF  hw
def p12_letter (l1 : Int) (l2 : Int) (l3 : Int) (I : mI) (J : mI) (Q : Int → Prop) : Prop := (if l1 = 0 then (p12_isBlind l2 I (fun r3 => (p12_letter_b43 l1 l2 l3 r3 I J Q))) else (if l1 = 1 then (p12_isColour l2 I (fun r2 => (p12_letter_b43 l1 l2 l3 r2 I J Q))) else (if l1 = 2 then (p12_isThing l2 I (fun r1 => (if r1 = 0 then (p12_letter_b42 l1 l2 l3 I J Q) else (p12_letter_b43 l1 l2 l3 1 I J Q)))) else (p12_letter_b42 l1 l2 l3 I J Q))))
set_option maxRecDepth 20000 in
theorem c12_letter {ad : Nat → Nat} {n : Nat} {I J : mI} {R : mR} {Q : Int → Prop}  (hRF : RF R) {l1 : Int} {l2 : Int} {l3 : Int}     (hw : p12_letter l1 l2 l3 I J Q) : wMet yX12_letter cX12_letter 10 (some .int) 2 34 false ad n I J R [vr 159, vi l1, vi l2, vi l3] (fun r I' J' R' => (I' = I ∧ J' = J ∧ R' = R) ∧ Q r) := by
  refine wMet_of (by decide) (Nat.le_of_ble_eq_true rfl) (fun C hC hRm hE hS => ?_)
  refine (show WM C ad n I J R 0 0 0 [(0, vr 159), (1, vi l1), (2, vi l2), (3, vi l3)] [] from ?_)
  unfold p12_letter at hw
  refine wm_iload_n hC 1 dX12_letter_0 rfl ?_
  refine wm_if_ne (tgt := 12) hC dX12_letter_1 (by decide) hw (fun hw => ?_) (fun hw => ?_)
  · refine wm_aload_n hC 0 dX12_letter_4 rfl (k_ne0 kk_159 (by decide)) ?_
    refine wm_iload_n hC 2 dX12_letter_5 rfl ?_
    refine y_callV_z_n hC hRm noS ml_X12_507 kk_159 (c12_isBlind hRF  hw) (Nat.le_of_ble_eq_true rfl) (Nat.le_of_ble_eq_true rfl) ⟨Nat.zero_le _, Nat.zero_le _⟩ rfl (st := []) rfl (Nat.le_of_ble_eq_true rfl) dX12_letter_6 (fun r3 hw => ?_)
    refine wm_goto (tgt := 43) hC dX12_letter_9 (by decide) ?_
    exact w12_letter_b43 hC hRm hE hRF  hw
  · refine wm_iload_n hC 1 dX12_letter_12 rfl ?_
    refine wm_iconst hC dX12_letter_13 (k := ?_)
    refine wm_icmp_ne (tgt := 25) hC dX12_letter_14 (by decide) hw (fun hw => ?_) (fun hw => ?_)
    · refine wm_aload_n hC 0 dX12_letter_17 rfl (k_ne0 kk_159 (by decide)) ?_
      refine wm_iload_n hC 2 dX12_letter_18 rfl ?_
      refine y_callV_z_n hC hRm noS ml_X12_510 kk_159 (c12_isColour hRF  hw) (Nat.le_of_ble_eq_true rfl) (Nat.le_of_ble_eq_true rfl) ⟨Nat.zero_le _, Nat.zero_le _⟩ rfl (st := []) rfl (Nat.le_of_ble_eq_true rfl) dX12_letter_19 (fun r2 hw => ?_)
      refine wm_goto (tgt := 43) hC dX12_letter_22 (by decide) ?_
      exact w12_letter_b43 hC hRm hE hRF  hw
    · refine wm_iload_n hC 1 dX12_letter_25 rfl ?_
      refine wm_iconst hC dX12_letter_26 (k := ?_)
      refine wm_icmp_ne (tgt := 42) hC dX12_letter_27 (by decide) hw (fun hw => ?_) (fun hw => ?_)
      · refine wm_aload_n hC 0 dX12_letter_30 rfl (k_ne0 kk_159 (by decide)) ?_
        refine wm_iload_n hC 2 dX12_letter_31 rfl ?_
        refine y_callV_z_n hC hRm noS ml_X12_513 kk_159 (c12_isThing hRF  hw) (Nat.le_of_ble_eq_true rfl) (Nat.le_of_ble_eq_true rfl) ⟨Nat.zero_le _, Nat.zero_le _⟩ rfl (st := []) rfl (Nat.le_of_ble_eq_true rfl) dX12_letter_32 (fun r1 hw => ?_)
        refine wm_if_eq (tgt := 42) hC dX12_letter_35 (by decide) hw (fun hw => ?_) (fun hw => ?_)
        · exact w12_letter_b42 hC hRm hE hRF  hw
        · refine wm_iconst hC dX12_letter_38 (k := ?_)
          refine wm_goto (tgt := 43) hC dX12_letter_39 (by decide) ?_
          exact w12_letter_b43 hC hRm hE hRF  hw
      · exact w12_letter_b42 hC hRm hE hRF  hw
def p12_meet_b129_body (Q : Int → mI → Prop) (k129 : Int → mI → Prop) (l3 : Int) (I : mI) : Prop := (if (I 159 62) ≤ l3 then (Q (I 159 62) I) else (rg (3 * l3) ∧ (((0 : Int) ≤ (3 * l3) ∧ (3 * l3) < (1800 : Int)) ∧ (((0 : Int) ≤ l3 ∧ l3 < (16 : Int)) ∧ wLet (up I 199 l3 (I 160 (3 * l3))) (fun I4 => (rg (3 * l3) ∧ (rg ((3 * l3) + 1) ∧ (((0 : Int) ≤ ((3 * l3) + 1) ∧ ((3 * l3) + 1) < (1800 : Int)) ∧ (((0 : Int) ≤ l3 ∧ l3 < (16 : Int)) ∧ wLet (up I4 200 l3 (I4 160 ((3 * l3) + 1))) (fun I5 => (rg (3 * l3) ∧ (rg ((3 * l3) + 2) ∧ (((0 : Int) ≤ ((3 * l3) + 2) ∧ ((3 * l3) + 2) < (1800 : Int)) ∧ (if (I5 160 ((3 * l3) + 2)) = 255 then (((0 : Int) ≤ l3 ∧ l3 < (16 : Int)) ∧ wLet (up I5 201 l3 (-1)) (fun I7 => (rg (l3 + 1) ∧ (k129 (l3 + 1) I7)))) else (rg (3 * l3) ∧ (rg ((3 * l3) + 2) ∧ (((0 : Int) ≤ ((3 * l3) + 2) ∧ ((3 * l3) + 2) < (1800 : Int)) ∧ (((0 : Int) ≤ l3 ∧ l3 < (16 : Int)) ∧ wLet (up I5 201 l3 (I5 160 ((3 * l3) + 2))) (fun I6 => (rg (l3 + 1) ∧ (k129 (l3 + 1) I6)))))))))))))))))))))
def p12_meet_b129 (Q : Int → mI → Prop) : Nat → Int → mI → Prop
  | 0 => fun _ _ => False
  | f + 1 => fun l3 I => p12_meet_b129_body Q (p12_meet_b129 Q f) l3 I
set_option maxRecDepth 20000 in
theorem w12_meet_b129_body {C : wX} {ad : Nat → Nat} {n : Nat} {I J : mI} {R : mR} {Q : Int → mI → Prop} (hC : wOK C cX12_meet 4 RX12) (hRm : wRm C 2 33 0 0) (hE : wEnd C (some .int) ad n (fun r I' J' R' => (J' = J ∧ R' = R) ∧ Q r I')) (hRF : RF R)  {l3 : Int}     {k129 : Int → mI → Prop} (kk129 : ∀ (y3 : Int) (I' : mI), k129 y3 I' → WM C ad n I' J R 0 0 129 [(0, vr 159), (3, vi y3)] []) (hw : p12_meet_b129_body Q k129 l3 I) : WM C ad n I J R 0 0 129 [(0, vr 159), (3, vi l3)] [] := by
  unfold p12_meet_b129_body at hw
  refine wm_iload_n hC 1 dX12_meet_129 rfl ?_
  refine wm_aload_n hC 0 dX12_meet_130 rfl (k_ne0 kk_159 (by decide)) ?_
  refine x_getI hC 62 fl_X12_201 rfl kk_159 dX12_meet_131 ?_
  refine wm_icmp_ge (tgt := 209) hC dX12_meet_134 (by decide) hw (fun hw => ?_) (fun hw => ?_)
  · refine wm_aload_n hC 0 dX12_meet_209 rfl (k_ne0 kk_159 (by decide)) ?_
    refine x_getI hC 62 fl_X12_201 rfl kk_159 dX12_meet_210 ?_
    exact wm_ireturn hC hE dX12_meet_213 ⟨⟨rfl, rfl⟩, hw⟩
  · refine wm_aload_n hC 0 dX12_meet_137 rfl (k_ne0 kk_159 (by decide)) ?_
    refine x_getR3 hC 63 fl_X12_204 rfl kk_159 (rf_159_63 hRF) dX12_meet_138 ?_
    refine wm_iload_n hC 1 dX12_meet_141 rfl ?_
    refine wm_aload_n hC 0 dX12_meet_142 rfl (k_ne0 kk_159 (by decide)) ?_
    refine x_getR3 hC 0 fl_X12_7 rfl kk_159 (rf_159_0 hRF) dX12_meet_143 ?_
    refine wm_iconst hC dX12_meet_146 (k := ?_)
    refine wm_iload_n hC 1 dX12_meet_147 rfl ?_
    refine x_imul hC dX12_meet_148 hw (fun hw => ?_)
    refine x_iald2 hC kk_160 kn_160 dX12_meet_149 hw (fun hw => ?_)
    refine x_iast2 hC kk_199 kn_199 dX12_meet_150 hw (fun I4 hw => ?_)
    refine wm_aload_n hC 0 dX12_meet_151 rfl (k_ne0 kk_159 (by decide)) ?_
    refine x_getR3 hC 64 fl_X12_207 rfl kk_159 (rf_159_64 hRF) dX12_meet_152 ?_
    refine wm_iload_n hC 1 dX12_meet_155 rfl ?_
    refine wm_aload_n hC 0 dX12_meet_156 rfl (k_ne0 kk_159 (by decide)) ?_
    refine x_getR3 hC 0 fl_X12_7 rfl kk_159 (rf_159_0 hRF) dX12_meet_157 ?_
    refine wm_iconst hC dX12_meet_160 (k := ?_)
    refine wm_iload_n hC 1 dX12_meet_161 rfl ?_
    refine x_imul hC dX12_meet_162 hw (fun hw => ?_)
    refine wm_iconst hC dX12_meet_163 (k := ?_)
    refine x_iadd hC dX12_meet_164 hw (fun hw => ?_)
    refine x_iald2 hC kk_160 kn_160 dX12_meet_165 hw (fun hw => ?_)
    refine x_iast2 hC kk_200 kn_200 dX12_meet_166 hw (fun I5 hw => ?_)
    refine wm_aload_n hC 0 dX12_meet_167 rfl (k_ne0 kk_159 (by decide)) ?_
    refine x_getR3 hC 65 fl_X12_210 rfl kk_159 (rf_159_65 hRF) dX12_meet_168 ?_
    refine wm_iload_n hC 1 dX12_meet_171 rfl ?_
    refine wm_aload_n hC 0 dX12_meet_172 rfl (k_ne0 kk_159 (by decide)) ?_
    refine x_getR3 hC 0 fl_X12_7 rfl kk_159 (rf_159_0 hRF) dX12_meet_173 ?_
    refine wm_iconst hC dX12_meet_176 (k := ?_)
    refine wm_iload_n hC 1 dX12_meet_177 rfl ?_
    refine x_imul hC dX12_meet_178 hw (fun hw => ?_)
    refine wm_iconst hC dX12_meet_179 (k := ?_)
    refine x_iadd hC dX12_meet_180 hw (fun hw => ?_)
    refine x_iald2 hC kk_160 kn_160 dX12_meet_181 hw (fun hw => ?_)
    refine wm_sipush hC dX12_meet_182 (k := ?_)
    refine wm_icmp_ne (tgt := 192) hC dX12_meet_185 (by decide) hw (fun hw => ?_) (fun hw => ?_)
    · refine wm_iconst hC dX12_meet_188 (k := ?_)
      refine wm_goto (tgt := 202) hC dX12_meet_189 (by decide) ?_
      refine x_iast2 hC kk_201 kn_201 dX12_meet_202 hw (fun I7 hw => ?_)
      refine x_iinc hC 1 dX12_meet_203 rfl (by decide) (L2 := [(3, vi (l3 + 1)), (0, vr 159)]) rfl hw (fun hw => ?_)
      refine wm_goto (tgt := 129) hC dX12_meet_206 (by decide) ?_
      refine wm_sub [1, 0] (L2 := [(0, vr 159), (3, vi (l3 + 1))]) rfl ?_
      exact kk129 _ _ hw
    · refine wm_aload_n hC 0 dX12_meet_192 rfl (k_ne0 kk_159 (by decide)) ?_
      refine x_getR3 hC 0 fl_X12_7 rfl kk_159 (rf_159_0 hRF) dX12_meet_193 ?_
      refine wm_iconst hC dX12_meet_196 (k := ?_)
      refine wm_iload_n hC 1 dX12_meet_197 rfl ?_
      refine x_imul hC dX12_meet_198 hw (fun hw => ?_)
      refine wm_iconst hC dX12_meet_199 (k := ?_)
      refine x_iadd hC dX12_meet_200 hw (fun hw => ?_)
      refine x_iald2 hC kk_160 kn_160 dX12_meet_201 hw (fun hw => ?_)
      refine x_iast2 hC kk_201 kn_201 dX12_meet_202 hw (fun I6 hw => ?_)
      refine x_iinc hC 1 dX12_meet_203 rfl (by decide) (L2 := [(3, vi (l3 + 1)), (0, vr 159)]) rfl hw (fun hw => ?_)
      refine wm_goto (tgt := 129) hC dX12_meet_206 (by decide) ?_
      refine wm_sub [1, 0] (L2 := [(0, vr 159), (3, vi (l3 + 1))]) rfl ?_
      exact kk129 _ _ hw
set_option maxRecDepth 20000 in
theorem w12_meet_b129 {C : wX} {ad : Nat → Nat} {n : Nat} {J : mI} {R : mR} {Q : Int → mI → Prop} (hC : wOK C cX12_meet 4 RX12) (hRm : wRm C 2 33 0 0) (hE : wEnd C (some .int) ad n (fun r I' J' R' => (J' = J ∧ R' = R) ∧ Q r I')) (hRF : RF R)      : ∀ (f : Nat) (l3 : Int) (I : mI), p12_meet_b129 Q f l3 I → WM C ad n I J R 0 0 129 [(0, vr 159), (3, vi l3)] [] := by
  intro f
  induction f with
  | zero => intro l3 I hw; exact hw.elim
  | succ f ih => intro l3 I hw; exact w12_meet_b129_body hC hRm hE hRF  (fun a0 a1 aw => ih a0 a1 aw) hw
def p12_meet_b110 (l1 : Int) (l2 : Int) (I : mI) (Q : Int → mI → Prop) : Prop := (if l2 = 0 then (p12_refuses 5 I (fun r3 I3 => (Q r3 I3))) else (wLet (up I 159 62 (Int.tdiv l1 3)) (fun I2 => (∃ f, p12_meet_b129 Q f 0 I2))))
set_option maxRecDepth 20000 in
theorem w12_meet_b110 {C : wX} {ad : Nat → Nat} {n : Nat} {I J : mI} {R : mR} {Q : Int → mI → Prop} (hC : wOK C cX12_meet 4 RX12) (hRm : wRm C 2 33 0 0) (hE : wEnd C (some .int) ad n (fun r I' J' R' => (J' = J ∧ R' = R) ∧ Q r I')) (hRF : RF R) {l1 : Int} {l2 : Int}     (hw : p12_meet_b110 l1 l2 I Q) : WM C ad n I J R 0 0 110 [(0, vr 159), (1, vi l1), (2, vi l2)] [] := by
  unfold p12_meet_b110 at hw
  refine wm_iload_n hC 2 dX12_meet_110 rfl ?_
  refine wm_if_ne (tgt := 120) hC dX12_meet_111 (by decide) hw (fun hw => ?_) (fun hw => ?_)
  · refine wm_aload_n hC 0 dX12_meet_114 rfl (k_ne0 kk_159 (by decide)) ?_
    refine wm_iconst hC dX12_meet_115 (k := ?_)
    refine y_callV_i_I hC hRm noS ml_X12_222 kk_159 (c12_refuses hRF  hw) (Nat.le_of_ble_eq_true rfl) (Nat.le_of_ble_eq_true rfl) ⟨Nat.zero_le _, Nat.zero_le _⟩ rfl (st := []) rfl (Nat.le_of_ble_eq_true rfl) dX12_meet_116 (fun r3 I3 hw => ?_)
    exact wm_ireturn hC hE dX12_meet_119 ⟨⟨rfl, rfl⟩, hw⟩
  · refine wm_aload_n hC 0 dX12_meet_120 rfl (k_ne0 kk_159 (by decide)) ?_
    refine wm_iload_n hC 1 dX12_meet_121 rfl ?_
    refine wm_iconst hC dX12_meet_122 (k := ?_)
    refine x_idivP hC (by decide) dX12_meet_123 ?_
    refine x_putI hC 62 fl_X12_201 rfl kk_159 dX12_meet_124 hw (fun I2 hw => ?_)
    refine wm_iconst hC dX12_meet_127 (k := ?_)
    refine wm_istore_n hC dX12_meet_128 (by decide) (L2 := [(3, vi 0), (0, vr 159), (1, vi l1), (2, vi l2)]) rfl ?_
    obtain ⟨f, hw⟩ := hw
    refine wm_sub [1, 0] (L2 := [(0, vr 159), (3, vi 0)]) rfl ?_
    exact w12_meet_b129 hC hRm hE hRF  f _ _ hw
def p12_meet_b34_body (l1 : Int) (I : mI) (Q : Int → mI → Prop) (k34 : Int → Int → Prop) (l2 : Int) (l3 : Int) : Prop := (if l1 ≤ l3 then (p12_meet_b110 l1 l2 I Q) else (if l2 = 0 then (p12_meet_b110 l1 l2 I Q) else (((0 : Int) ≤ l3 ∧ l3 < (1800 : Int)) ∧ (if (30 : Int) < (I 160 l3) then (rg (l3 + 3) ∧ (k34 0 (l3 + 3))) else (rg (l3 + 1) ∧ (((0 : Int) ≤ (l3 + 1) ∧ (l3 + 1) < (1800 : Int)) ∧ (p12_isThing (I 160 (l3 + 1)) I (fun r1 => (if r1 = 0 then (rg (l3 + 3) ∧ (k34 0 (l3 + 3))) else (rg (l3 + 2) ∧ (((0 : Int) ≤ (l3 + 2) ∧ (l3 + 2) < (1800 : Int)) ∧ (p12_isColour (I 160 (l3 + 2)) I (fun r2 => (if r2 = 0 then (rg (l3 + 2) ∧ (((0 : Int) ≤ (l3 + 2) ∧ (l3 + 2) < (1800 : Int)) ∧ (if (I 160 (l3 + 2)) = 255 then (rg (l3 + 3) ∧ (k34 1 (l3 + 3))) else (rg (l3 + 3) ∧ (k34 0 (l3 + 3)))))) else (rg (l3 + 3) ∧ (k34 1 (l3 + 3)))))))))))))))))
def p12_meet_b34 (l1 : Int) (I : mI) (Q : Int → mI → Prop) : Nat → Int → Int → Prop
  | 0 => fun _ _ => False
  | f + 1 => fun l2 l3 => p12_meet_b34_body l1 I Q (p12_meet_b34 l1 I Q f) l2 l3
set_option maxRecDepth 20000 in
theorem w12_meet_b34_body {C : wX} {ad : Nat → Nat} {n : Nat} {I J : mI} {R : mR} {Q : Int → mI → Prop} (hC : wOK C cX12_meet 4 RX12) (hRm : wRm C 2 33 0 0) (hE : wEnd C (some .int) ad n (fun r I' J' R' => (J' = J ∧ R' = R) ∧ Q r I')) (hRF : RF R) {l1 : Int} {l2 : Int} {l3 : Int}     {k34 : Int → Int → Prop} (kk34 : ∀ (y2 : Int) (y3 : Int), k34 y2 y3 → WM C ad n I J R 0 0 34 [(0, vr 159), (1, vi l1), (2, vi y2), (3, vi y3)] []) (hw : p12_meet_b34_body l1 I Q k34 l2 l3) : WM C ad n I J R 0 0 34 [(0, vr 159), (1, vi l1), (2, vi l2), (3, vi l3)] [] := by
  unfold p12_meet_b34_body at hw
  refine wm_iload_n hC 3 dX12_meet_34 rfl ?_
  refine wm_iload_n hC 1 dX12_meet_35 rfl ?_
  refine wm_icmp_ge (tgt := 110) hC dX12_meet_36 (by decide) hw (fun hw => ?_) (fun hw => ?_)
  · refine wm_sub [0, 1, 2] (L2 := [(0, vr 159), (1, vi l1), (2, vi l2)]) rfl ?_
    exact w12_meet_b110 hC hRm hE hRF  hw
  · refine wm_iload_n hC 2 dX12_meet_39 rfl ?_
    refine wm_if_eq (tgt := 110) hC dX12_meet_40 (by decide) hw (fun hw => ?_) (fun hw => ?_)
    · refine wm_sub [0, 1, 2] (L2 := [(0, vr 159), (1, vi l1), (2, vi l2)]) rfl ?_
      exact w12_meet_b110 hC hRm hE hRF  hw
    · refine wm_aload_n hC 0 dX12_meet_43 rfl (k_ne0 kk_159 (by decide)) ?_
      refine x_getR3 hC 0 fl_X12_7 rfl kk_159 (rf_159_0 hRF) dX12_meet_44 ?_
      refine wm_iload_n hC 3 dX12_meet_47 rfl ?_
      refine x_iald2 hC kk_160 kn_160 dX12_meet_48 hw (fun hw => ?_)
      refine wm_bipush hC dX12_meet_49 (k := ?_)
      refine wm_icmp_gt (tgt := 102) hC dX12_meet_51 (by decide) hw (fun hw => ?_) (fun hw => ?_)
      · refine wm_iconst hC dX12_meet_102 (k := ?_)
        refine wm_istore_n hC dX12_meet_103 (by decide) (L2 := [(2, vi 0), (0, vr 159), (1, vi l1), (3, vi l3)]) rfl ?_
        refine x_iinc hC 3 dX12_meet_104 rfl (by decide) (L2 := [(3, vi (l3 + 3)), (2, vi 0), (0, vr 159), (1, vi l1)]) rfl hw (fun hw => ?_)
        refine wm_goto (tgt := 34) hC dX12_meet_107 (by decide) ?_
        refine wm_sub [2, 3, 1, 0] (L2 := [(0, vr 159), (1, vi l1), (2, vi 0), (3, vi (l3 + 3))]) rfl ?_
        exact kk34 _ _ hw
      · refine wm_aload_n hC 0 dX12_meet_54 rfl (k_ne0 kk_159 (by decide)) ?_
        refine wm_aload_n hC 0 dX12_meet_55 rfl (k_ne0 kk_159 (by decide)) ?_
        refine x_getR3 hC 0 fl_X12_7 rfl kk_159 (rf_159_0 hRF) dX12_meet_56 ?_
        refine wm_iload_n hC 3 dX12_meet_59 rfl ?_
        refine wm_iconst hC dX12_meet_60 (k := ?_)
        refine x_iadd hC dX12_meet_61 hw (fun hw => ?_)
        refine x_iald2 hC kk_160 kn_160 dX12_meet_62 hw (fun hw => ?_)
        refine y_callV_z_n hC hRm noS ml_X12_513 kk_159 (c12_isThing hRF  hw) (Nat.le_of_ble_eq_true rfl) (Nat.le_of_ble_eq_true rfl) ⟨Nat.zero_le _, Nat.zero_le _⟩ rfl (st := []) rfl (Nat.le_of_ble_eq_true rfl) dX12_meet_63 (fun r1 hw => ?_)
        refine wm_if_eq (tgt := 102) hC dX12_meet_66 (by decide) hw (fun hw => ?_) (fun hw => ?_)
        · refine wm_iconst hC dX12_meet_102 (k := ?_)
          refine wm_istore_n hC dX12_meet_103 (by decide) (L2 := [(2, vi 0), (0, vr 159), (1, vi l1), (3, vi l3)]) rfl ?_
          refine x_iinc hC 3 dX12_meet_104 rfl (by decide) (L2 := [(3, vi (l3 + 3)), (2, vi 0), (0, vr 159), (1, vi l1)]) rfl hw (fun hw => ?_)
          refine wm_goto (tgt := 34) hC dX12_meet_107 (by decide) ?_
          refine wm_sub [2, 3, 1, 0] (L2 := [(0, vr 159), (1, vi l1), (2, vi 0), (3, vi (l3 + 3))]) rfl ?_
          exact kk34 _ _ hw
        · refine wm_aload_n hC 0 dX12_meet_69 rfl (k_ne0 kk_159 (by decide)) ?_
          refine wm_aload_n hC 0 dX12_meet_70 rfl (k_ne0 kk_159 (by decide)) ?_
          refine x_getR3 hC 0 fl_X12_7 rfl kk_159 (rf_159_0 hRF) dX12_meet_71 ?_
          refine wm_iload_n hC 3 dX12_meet_74 rfl ?_
          refine wm_iconst hC dX12_meet_75 (k := ?_)
          refine x_iadd hC dX12_meet_76 hw (fun hw => ?_)
          refine x_iald2 hC kk_160 kn_160 dX12_meet_77 hw (fun hw => ?_)
          refine y_callV_z_n hC hRm noS ml_X12_510 kk_159 (c12_isColour hRF  hw) (Nat.le_of_ble_eq_true rfl) (Nat.le_of_ble_eq_true rfl) ⟨Nat.zero_le _, Nat.zero_le _⟩ rfl (st := []) rfl (Nat.le_of_ble_eq_true rfl) dX12_meet_78 (fun r2 hw => ?_)
          refine wm_if_ne (tgt := 98) hC dX12_meet_81 (by decide) hw (fun hw => ?_) (fun hw => ?_)
          · refine wm_aload_n hC 0 dX12_meet_84 rfl (k_ne0 kk_159 (by decide)) ?_
            refine x_getR3 hC 0 fl_X12_7 rfl kk_159 (rf_159_0 hRF) dX12_meet_85 ?_
            refine wm_iload_n hC 3 dX12_meet_88 rfl ?_
            refine wm_iconst hC dX12_meet_89 (k := ?_)
            refine x_iadd hC dX12_meet_90 hw (fun hw => ?_)
            refine x_iald2 hC kk_160 kn_160 dX12_meet_91 hw (fun hw => ?_)
            refine wm_sipush hC dX12_meet_92 (k := ?_)
            refine wm_icmp_ne (tgt := 102) hC dX12_meet_95 (by decide) hw (fun hw => ?_) (fun hw => ?_)
            · refine wm_iconst hC dX12_meet_98 (k := ?_)
              refine wm_goto (tgt := 103) hC dX12_meet_99 (by decide) ?_
              refine wm_istore_n hC dX12_meet_103 (by decide) (L2 := [(2, vi 1), (0, vr 159), (1, vi l1), (3, vi l3)]) rfl ?_
              refine x_iinc hC 3 dX12_meet_104 rfl (by decide) (L2 := [(3, vi (l3 + 3)), (2, vi 1), (0, vr 159), (1, vi l1)]) rfl hw (fun hw => ?_)
              refine wm_goto (tgt := 34) hC dX12_meet_107 (by decide) ?_
              refine wm_sub [2, 3, 1, 0] (L2 := [(0, vr 159), (1, vi l1), (2, vi 1), (3, vi (l3 + 3))]) rfl ?_
              exact kk34 _ _ hw
            · refine wm_iconst hC dX12_meet_102 (k := ?_)
              refine wm_istore_n hC dX12_meet_103 (by decide) (L2 := [(2, vi 0), (0, vr 159), (1, vi l1), (3, vi l3)]) rfl ?_
              refine x_iinc hC 3 dX12_meet_104 rfl (by decide) (L2 := [(3, vi (l3 + 3)), (2, vi 0), (0, vr 159), (1, vi l1)]) rfl hw (fun hw => ?_)
              refine wm_goto (tgt := 34) hC dX12_meet_107 (by decide) ?_
              refine wm_sub [2, 3, 1, 0] (L2 := [(0, vr 159), (1, vi l1), (2, vi 0), (3, vi (l3 + 3))]) rfl ?_
              exact kk34 _ _ hw
          · refine wm_iconst hC dX12_meet_98 (k := ?_)
            refine wm_goto (tgt := 103) hC dX12_meet_99 (by decide) ?_
            refine wm_istore_n hC dX12_meet_103 (by decide) (L2 := [(2, vi 1), (0, vr 159), (1, vi l1), (3, vi l3)]) rfl ?_
            refine x_iinc hC 3 dX12_meet_104 rfl (by decide) (L2 := [(3, vi (l3 + 3)), (2, vi 1), (0, vr 159), (1, vi l1)]) rfl hw (fun hw => ?_)
            refine wm_goto (tgt := 34) hC dX12_meet_107 (by decide) ?_
            refine wm_sub [2, 3, 1, 0] (L2 := [(0, vr 159), (1, vi l1), (2, vi 1), (3, vi (l3 + 3))]) rfl ?_
            exact kk34 _ _ hw
set_option maxRecDepth 20000 in
theorem w12_meet_b34 {C : wX} {ad : Nat → Nat} {n : Nat} {I : mI} {J : mI} {R : mR} {Q : Int → mI → Prop} (hC : wOK C cX12_meet 4 RX12) (hRm : wRm C 2 33 0 0) (hE : wEnd C (some .int) ad n (fun r I' J' R' => (J' = J ∧ R' = R) ∧ Q r I')) (hRF : RF R) {l1 : Int}     : ∀ (f : Nat) (l2 : Int) (l3 : Int), p12_meet_b34 l1 I Q f l2 l3 → WM C ad n I J R 0 0 34 [(0, vr 159), (1, vi l1), (2, vi l2), (3, vi l3)] [] := by
  intro f
  induction f with
  | zero => intro l2 l3 hw; exact hw.elim
  | succ f ih => intro l2 l3 hw; exact w12_meet_b34_body hC hRm hE hRF  (fun a0 a1 aw => ih a0 a1 aw) hw
def p12_meet (I : mI) (Q : Int → mI → Prop) : Prop := (wLet (up I 159 1 0) (fun I1 => (if (I 159 1) ≤ 0 then (∃ f, p12_meet_b34 (I 159 1) I1 Q f 0 0) else (if (Int.tmod (I 159 1) 3) = 0 then (if (48 : Int) < (I 159 1) then (∃ f, p12_meet_b34 (I 159 1) I1 Q f 0 0) else (∃ f, p12_meet_b34 (I 159 1) I1 Q f 1 0)) else (∃ f, p12_meet_b34 (I 159 1) I1 Q f 0 0)))))
set_option maxRecDepth 20000 in
theorem c12_meet {ad : Nat → Nat} {n : Nat} {I J : mI} {R : mR} {Q : Int → mI → Prop}  (hRF : RF R)   (hw : p12_meet I Q) : wMet yX12_meet cX12_meet 4 (some .int) 2 33 false ad n I J R [vr 159] (fun r I' J' R' => (J' = J ∧ R' = R) ∧ Q r I') := by
  refine wMet_of (by decide) (Nat.le_of_ble_eq_true rfl) (fun C hC hRm hE hS => ?_)
  refine (show WM C ad n I J R 0 0 0 [(0, vr 159)] [] from ?_)
  unfold p12_meet at hw
  refine wm_aload_n hC 0 dX12_meet_0 rfl (k_ne0 kk_159 (by decide)) ?_
  refine x_getI hC 1 fl_X12_13 rfl kk_159 dX12_meet_1 ?_
  refine wm_istore_n hC dX12_meet_4 (by decide) (L2 := [(1, vi (I 159 1)), (0, vr 159)]) rfl ?_
  refine wm_aload_n hC 1 dX12_meet_5 rfl (k_ne0 kk_159 (by decide)) ?_
  refine wm_iconst hC dX12_meet_6 (k := ?_)
  refine x_putI hC 1 fl_X12_13 rfl kk_159 dX12_meet_7 hw (fun I1 hw => ?_)
  refine wm_iload_n hC 0 dX12_meet_10 rfl ?_
  refine wm_if_le (tgt := 30) hC dX12_meet_11 (by decide) hw (fun hw => ?_) (fun hw => ?_)
  · refine wm_iconst hC dX12_meet_30 (k := ?_)
    refine wm_istore_n hC dX12_meet_31 (by decide) (L2 := [(2, vi 0), (1, vi (I 159 1)), (0, vr 159)]) rfl ?_
    refine wm_iconst hC dX12_meet_32 (k := ?_)
    refine wm_istore_n hC dX12_meet_33 (by decide) (L2 := [(3, vi 0), (2, vi 0), (1, vi (I 159 1)), (0, vr 159)]) rfl ?_
    obtain ⟨f, hw⟩ := hw
    refine wm_sub [3, 2, 1, 0] (L2 := [(0, vr 159), (1, vi (I 159 1)), (2, vi 0), (3, vi 0)]) rfl ?_
    exact w12_meet_b34 hC hRm hE hRF  f _ _ hw
  · refine wm_iload_n hC 0 dX12_meet_14 rfl ?_
    refine wm_iconst hC dX12_meet_15 (k := ?_)
    refine x_iremP hC (by decide) dX12_meet_16 ?_
    refine wm_if_ne (tgt := 30) hC dX12_meet_17 (by decide) hw (fun hw => ?_) (fun hw => ?_)
    · refine wm_iload_n hC 0 dX12_meet_20 rfl ?_
      refine wm_bipush hC dX12_meet_21 (k := ?_)
      refine wm_icmp_gt (tgt := 30) hC dX12_meet_23 (by decide) hw (fun hw => ?_) (fun hw => ?_)
      · refine wm_iconst hC dX12_meet_30 (k := ?_)
        refine wm_istore_n hC dX12_meet_31 (by decide) (L2 := [(2, vi 0), (1, vi (I 159 1)), (0, vr 159)]) rfl ?_
        refine wm_iconst hC dX12_meet_32 (k := ?_)
        refine wm_istore_n hC dX12_meet_33 (by decide) (L2 := [(3, vi 0), (2, vi 0), (1, vi (I 159 1)), (0, vr 159)]) rfl ?_
        obtain ⟨f, hw⟩ := hw
        refine wm_sub [3, 2, 1, 0] (L2 := [(0, vr 159), (1, vi (I 159 1)), (2, vi 0), (3, vi 0)]) rfl ?_
        exact w12_meet_b34 hC hRm hE hRF  f _ _ hw
      · refine wm_iconst hC dX12_meet_26 (k := ?_)
        refine wm_goto (tgt := 31) hC dX12_meet_27 (by decide) ?_
        refine wm_istore_n hC dX12_meet_31 (by decide) (L2 := [(2, vi 1), (1, vi (I 159 1)), (0, vr 159)]) rfl ?_
        refine wm_iconst hC dX12_meet_32 (k := ?_)
        refine wm_istore_n hC dX12_meet_33 (by decide) (L2 := [(3, vi 0), (2, vi 1), (1, vi (I 159 1)), (0, vr 159)]) rfl ?_
        obtain ⟨f, hw⟩ := hw
        refine wm_sub [3, 2, 1, 0] (L2 := [(0, vr 159), (1, vi (I 159 1)), (2, vi 1), (3, vi 0)]) rfl ?_
        exact w12_meet_b34 hC hRm hE hRF  f _ _ hw
    · refine wm_iconst hC dX12_meet_30 (k := ?_)
      refine wm_istore_n hC dX12_meet_31 (by decide) (L2 := [(2, vi 0), (1, vi (I 159 1)), (0, vr 159)]) rfl ?_
      refine wm_iconst hC dX12_meet_32 (k := ?_)
      refine wm_istore_n hC dX12_meet_33 (by decide) (L2 := [(3, vi 0), (2, vi 0), (1, vi (I 159 1)), (0, vr 159)]) rfl ?_
      obtain ⟨f, hw⟩ := hw
      refine wm_sub [3, 2, 1, 0] (L2 := [(0, vr 159), (1, vi (I 159 1)), (2, vi 0), (3, vi 0)]) rfl ?_
      exact w12_meet_b34 hC hRm hE hRF  f _ _ hw
def p12_mood (l1 : Int) (l2 : Int) (I : mI) (J : mI) (Q : Int → mI → mI → Prop) : Prop := (p12_isBlind l1 I (fun r1 => (if r1 = 0 then (Q (-1) I J) else (p12_isAhead l2 0 40 I (fun r2 => (if r2 = 0 then (Q (-1) I J) else (p12_copies 1 0 I (fun I1 => (p12_runsOn l2 I1 J (fun I2 J1 => (rg (6 + l1) ∧ (((0 : Int) ≤ (6 + l1) ∧ (6 + l1) < (132 : Int)) ∧ (Q (I2 188 (6 + l1)) I2 J1)))))))))))))
set_option maxRecDepth 20000 in
theorem c12_mood {ad : Nat → Nat} {n : Nat} {I J : mI} {R : mR} {Q : Int → mI → mI → Prop}  (hRF : RF R) {l1 : Int} {l2 : Int}    (hw : p12_mood l1 l2 I J Q) : wMet yX12_mood cX12_mood 3 (some .int) 10 236 false ad n I J R [vr 159, vi l1, vi l2] (fun r I' J' R' => (R' = R) ∧ Q r I' J') := by
  refine wMet_of (by decide) (Nat.le_of_ble_eq_true rfl) (fun C hC hRm hE hS => ?_)
  refine (show WM C ad n I J R 0 0 0 [(0, vr 159), (1, vi l1), (2, vi l2)] [] from ?_)
  unfold p12_mood at hw
  refine wm_aload_n hC 0 dX12_mood_0 rfl (k_ne0 kk_159 (by decide)) ?_
  refine wm_iload_n hC 1 dX12_mood_1 rfl ?_
  refine y_callV_z_n hC hRm noS ml_X12_507 kk_159 (c12_isBlind hRF  hw) (Nat.le_of_ble_eq_true rfl) (Nat.le_of_ble_eq_true rfl) ⟨Nat.zero_le _, Nat.zero_le _⟩ rfl (st := []) rfl (Nat.le_of_ble_eq_true rfl) dX12_mood_2 (fun r1 hw => ?_)
  refine wm_if_eq (tgt := 19) hC dX12_mood_5 (by decide) hw (fun hw => ?_) (fun hw => ?_)
  · refine wm_iconst hC dX12_mood_19 (k := ?_)
    exact wm_ireturn hC hE dX12_mood_20 ⟨rfl, hw⟩
  · refine wm_aload_n hC 0 dX12_mood_8 rfl (k_ne0 kk_159 (by decide)) ?_
    refine wm_iload_n hC 2 dX12_mood_9 rfl ?_
    refine wm_iconst hC dX12_mood_10 (k := ?_)
    refine wm_bipush hC dX12_mood_11 (k := ?_)
    refine y_callV_z_n hC hRm noS ml_X12_529 kk_159 (c12_isAhead hRF  hw) (Nat.le_of_ble_eq_true rfl) (Nat.le_of_ble_eq_true rfl) ⟨Nat.zero_le _, Nat.zero_le _⟩ rfl (st := []) rfl (Nat.le_of_ble_eq_true rfl) dX12_mood_13 (fun r2 hw => ?_)
    refine wm_if_ne (tgt := 21) hC dX12_mood_16 (by decide) hw (fun hw => ?_) (fun hw => ?_)
    · refine wm_iconst hC dX12_mood_19 (k := ?_)
      exact wm_ireturn hC hE dX12_mood_20 ⟨rfl, hw⟩
    · refine wm_aload_n hC 0 dX12_mood_21 rfl (k_ne0 kk_159 (by decide)) ?_
      refine wm_iconst hC dX12_mood_22 (k := ?_)
      refine wm_iconst hC dX12_mood_23 (k := ?_)
      refine y_callV_v_I hC hRm noS ml_X12_424 kk_159 (c12_copies hRF  hw) (Nat.le_of_ble_eq_true rfl) (Nat.le_of_ble_eq_true rfl) ⟨Nat.zero_le _, Nat.zero_le _⟩ rfl (st := []) rfl (Nat.le_of_ble_eq_true rfl) dX12_mood_24 (fun I1 hw => ?_)
      refine wm_aload_n hC 0 dX12_mood_27 rfl (k_ne0 kk_159 (by decide)) ?_
      refine wm_iload_n hC 2 dX12_mood_28 rfl ?_
      refine y_callV_v_IJ hC hRm noS ml_X12_532 kk_159 (c12_runsOn hRF  hw) (Nat.le_of_ble_eq_true rfl) (Nat.le_of_ble_eq_true rfl) ⟨Nat.zero_le _, Nat.zero_le _⟩ rfl (st := []) rfl (Nat.le_of_ble_eq_true rfl) dX12_mood_29 (fun I2 J1 hw => ?_)
      refine wm_aload_n hC 0 dX12_mood_32 rfl (k_ne0 kk_159 (by decide)) ?_
      refine x_getR3 hC 48 fl_X12_159 rfl kk_159 (rf_159_48 hRF) dX12_mood_33 ?_
      refine wm_bipush hC dX12_mood_36 (k := ?_)
      refine wm_iload_n hC 1 dX12_mood_38 rfl ?_
      refine x_iadd hC dX12_mood_39 hw (fun hw => ?_)
      refine x_iald2 hC kk_188 kn_188 dX12_mood_40 hw (fun hw => ?_)
      exact wm_ireturn hC hE dX12_mood_41 ⟨rfl, hw⟩
def p12_mostBy_b19_body (l1 : Int) (l2 : Int) (l3 : Int) (l4 : Int) (l5 : Int) (I : mI) (k6 : Int → Int → Prop) (Q : Int → Prop) (k19 : Int → Int → Prop) (l6 : Int) (l7 : Int) : Prop := (if (9 : Int) < l7 then (if l6 ≤ l4 then (rg (l5 + 1) ∧ (k6 l4 (l5 + 1))) else (rg (l5 + 1) ∧ (k6 l6 (l5 + 1)))) else (p12_has2 l1 l5 (fun r1 => (if r1 = 0 then (rg (l6 + 0) ∧ (rg (l7 + 1) ∧ (k19 (l6 + 0) (l7 + 1)))) else (p12_has2 l1 l7 (fun r2 => (if r2 = 0 then (rg (l6 + 0) ∧ (rg (l7 + 1) ∧ (k19 (l6 + 0) (l7 + 1)))) else (rg (31 * l5) ∧ (rg ((31 * l5) + l2) ∧ (rg (6 * ((31 * l5) + l2)) ∧ (rg ((6 * ((31 * l5) + l2)) + l3) ∧ (((0 : Int) ≤ ((6 * ((31 * l5) + l2)) + l3) ∧ ((6 * ((31 * l5) + l2)) + l3) < (1860 : Int)) ∧ (rg (31 * l7) ∧ (rg ((31 * l7) + l2) ∧ (rg (6 * ((31 * l7) + l2)) ∧ (rg ((6 * ((31 * l7) + l2)) + l3) ∧ (((0 : Int) ≤ ((6 * ((31 * l7) + l2)) + l3) ∧ ((6 * ((31 * l7) + l2)) + l3) < (1860 : Int)) ∧ (if (I 202 ((6 * ((31 * l5) + l2)) + l3)) = (I 202 ((6 * ((31 * l7) + l2)) + l3)) then (rg (l6 + 1) ∧ (rg (l7 + 1) ∧ (k19 (l6 + 1) (l7 + 1)))) else (rg (l6 + 0) ∧ (rg (l7 + 1) ∧ (k19 (l6 + 0) (l7 + 1))))))))))))))))))))))
def p12_mostBy_b19 (l1 : Int) (l2 : Int) (l3 : Int) (l4 : Int) (l5 : Int) (I : mI) (k6 : Int → Int → Prop) (Q : Int → Prop) : Nat → Int → Int → Prop
  | 0 => fun _ _ => False
  | f + 1 => fun l6 l7 => p12_mostBy_b19_body l1 l2 l3 l4 l5 I k6 Q (p12_mostBy_b19 l1 l2 l3 l4 l5 I k6 Q f) l6 l7
set_option maxRecDepth 20000 in
theorem w12_mostBy_b19_body {C : wX} {ad : Nat → Nat} {n : Nat} {I J : mI} {R : mR} {Q : Int → Prop} (hC : wOK C cX12_mostBy 8 RX12) (hRm : wRm C 2 33 0 0) (hE : wEnd C (some .int) ad n (fun r I' J' R' => (I' = I ∧ J' = J ∧ R' = R) ∧ Q r)) (hRF : RF R) {l1 : Int} {l2 : Int} {l3 : Int} {l4 : Int} {l5 : Int} {l6 : Int} {l7 : Int}  {k6 : Int → Int → Prop}  (kk6 : ∀ (y4 : Int) (y5 : Int), k6 y4 y5 → WM C ad n I J R 0 0 6 [(0, vr 159), (1, vi l1), (2, vi l2), (3, vi l3), (4, vi y4), (5, vi y5)] []) {k19 : Int → Int → Prop} (kk19 : ∀ (y6 : Int) (y7 : Int), k19 y6 y7 → WM C ad n I J R 0 0 19 [(0, vr 159), (1, vi l1), (2, vi l2), (3, vi l3), (4, vi l4), (5, vi l5), (6, vi y6), (7, vi y7)] []) (hw : p12_mostBy_b19_body l1 l2 l3 l4 l5 I k6 Q k19 l6 l7) : WM C ad n I J R 0 0 19 [(0, vr 159), (1, vi l1), (2, vi l2), (3, vi l3), (4, vi l4), (5, vi l5), (6, vi l6), (7, vi l7)] [] := by
  unfold p12_mostBy_b19_body at hw
  refine wm_iload hC 7 dX12_mostBy_19 rfl ?_
  refine wm_bipush hC dX12_mostBy_21 (k := ?_)
  refine wm_icmp_gt (tgt := 97) hC dX12_mostBy_23 (by decide) hw (fun hw => ?_) (fun hw => ?_)
  · refine wm_iload hC 6 dX12_mostBy_97 rfl ?_
    refine wm_iload hC 4 dX12_mostBy_99 rfl ?_
    refine wm_icmp_le (tgt := 109) hC dX12_mostBy_101 (by decide) hw (fun hw => ?_) (fun hw => ?_)
    · refine wm_iload hC 4 dX12_mostBy_109 rfl ?_
      refine wm_istore hC dX12_mostBy_111 (by decide) (L2 := [(4, vi l4), (0, vr 159), (1, vi l1), (2, vi l2), (3, vi l3), (5, vi l5), (6, vi l6), (7, vi l7)]) rfl ?_
      refine x_iinc hC 5 dX12_mostBy_113 rfl (by decide) (L2 := [(5, vi (l5 + 1)), (4, vi l4), (0, vr 159), (1, vi l1), (2, vi l2), (3, vi l3), (6, vi l6), (7, vi l7)]) rfl hw (fun hw => ?_)
      refine wm_goto (tgt := 6) hC dX12_mostBy_116 (by decide) ?_
      refine wm_sub [2, 3, 4, 5, 1, 0] (L2 := [(0, vr 159), (1, vi l1), (2, vi l2), (3, vi l3), (4, vi l4), (5, vi (l5 + 1))]) rfl ?_
      exact kk6 _ _ hw
    · refine wm_iload hC 6 dX12_mostBy_104 rfl ?_
      refine wm_goto (tgt := 111) hC dX12_mostBy_106 (by decide) ?_
      refine wm_istore hC dX12_mostBy_111 (by decide) (L2 := [(4, vi l6), (0, vr 159), (1, vi l1), (2, vi l2), (3, vi l3), (5, vi l5), (6, vi l6), (7, vi l7)]) rfl ?_
      refine x_iinc hC 5 dX12_mostBy_113 rfl (by decide) (L2 := [(5, vi (l5 + 1)), (4, vi l6), (0, vr 159), (1, vi l1), (2, vi l2), (3, vi l3), (6, vi l6), (7, vi l7)]) rfl hw (fun hw => ?_)
      refine wm_goto (tgt := 6) hC dX12_mostBy_116 (by decide) ?_
      refine wm_sub [2, 3, 4, 5, 1, 0] (L2 := [(0, vr 159), (1, vi l1), (2, vi l2), (3, vi l3), (4, vi l6), (5, vi (l5 + 1))]) rfl ?_
      exact kk6 _ _ hw
  · refine wm_iload hC 6 dX12_mostBy_26 rfl ?_
    refine wm_iload_n hC 1 dX12_mostBy_28 rfl ?_
    refine wm_iload hC 5 dX12_mostBy_29 rfl ?_
    refine y_callS_z_n hC hRm noS ml_X12_351 (c12_has2 hRF  hw) (Nat.le_of_ble_eq_true rfl) (Nat.le_of_ble_eq_true rfl) ⟨Nat.zero_le _, Nat.zero_le _⟩ rfl (st := [vi l6]) rfl (Nat.le_of_ble_eq_true rfl) dX12_mostBy_31 (fun r1 hw => ?_)
    refine wm_if_eq (tgt := 87) hC dX12_mostBy_34 (by decide) hw (fun hw => ?_) (fun hw => ?_)
    · refine wm_iconst hC dX12_mostBy_87 (k := ?_)
      refine x_iadd hC dX12_mostBy_88 hw (fun hw => ?_)
      refine wm_istore hC dX12_mostBy_89 (by decide) (L2 := [(6, vi (l6 + 0)), (0, vr 159), (1, vi l1), (2, vi l2), (3, vi l3), (4, vi l4), (5, vi l5), (7, vi l7)]) rfl ?_
      refine x_iinc hC 7 dX12_mostBy_91 rfl (by decide) (L2 := [(7, vi (l7 + 1)), (6, vi (l6 + 0)), (0, vr 159), (1, vi l1), (2, vi l2), (3, vi l3), (4, vi l4), (5, vi l5)]) rfl hw (fun hw => ?_)
      refine wm_goto (tgt := 19) hC dX12_mostBy_94 (by decide) ?_
      refine wm_sub [2, 3, 4, 5, 6, 7, 1, 0] (L2 := [(0, vr 159), (1, vi l1), (2, vi l2), (3, vi l3), (4, vi l4), (5, vi l5), (6, vi (l6 + 0)), (7, vi (l7 + 1))]) rfl ?_
      exact kk19 _ _ hw
    · refine wm_iload_n hC 1 dX12_mostBy_37 rfl ?_
      refine wm_iload hC 7 dX12_mostBy_38 rfl ?_
      refine y_callS_z_n hC hRm noS ml_X12_351 (c12_has2 hRF  hw) (Nat.le_of_ble_eq_true rfl) (Nat.le_of_ble_eq_true rfl) ⟨Nat.zero_le _, Nat.zero_le _⟩ rfl (st := [vi l6]) rfl (Nat.le_of_ble_eq_true rfl) dX12_mostBy_40 (fun r2 hw => ?_)
      refine wm_if_eq (tgt := 87) hC dX12_mostBy_43 (by decide) hw (fun hw => ?_) (fun hw => ?_)
      · refine wm_iconst hC dX12_mostBy_87 (k := ?_)
        refine x_iadd hC dX12_mostBy_88 hw (fun hw => ?_)
        refine wm_istore hC dX12_mostBy_89 (by decide) (L2 := [(6, vi (l6 + 0)), (0, vr 159), (1, vi l1), (2, vi l2), (3, vi l3), (4, vi l4), (5, vi l5), (7, vi l7)]) rfl ?_
        refine x_iinc hC 7 dX12_mostBy_91 rfl (by decide) (L2 := [(7, vi (l7 + 1)), (6, vi (l6 + 0)), (0, vr 159), (1, vi l1), (2, vi l2), (3, vi l3), (4, vi l4), (5, vi l5)]) rfl hw (fun hw => ?_)
        refine wm_goto (tgt := 19) hC dX12_mostBy_94 (by decide) ?_
        refine wm_sub [2, 3, 4, 5, 6, 7, 1, 0] (L2 := [(0, vr 159), (1, vi l1), (2, vi l2), (3, vi l3), (4, vi l4), (5, vi l5), (6, vi (l6 + 0)), (7, vi (l7 + 1))]) rfl ?_
        exact kk19 _ _ hw
      · refine wm_aload_n hC 0 dX12_mostBy_46 rfl (k_ne0 kk_159 (by decide)) ?_
        refine x_getR3 hC 66 fl_X12_213 rfl kk_159 (rf_159_66 hRF) dX12_mostBy_47 ?_
        refine wm_bipush hC dX12_mostBy_50 (k := ?_)
        refine wm_bipush hC dX12_mostBy_52 (k := ?_)
        refine wm_iload hC 5 dX12_mostBy_54 rfl ?_
        refine x_imul hC dX12_mostBy_56 hw (fun hw => ?_)
        refine wm_iload_n hC 2 dX12_mostBy_57 rfl ?_
        refine x_iadd hC dX12_mostBy_58 hw (fun hw => ?_)
        refine x_imul hC dX12_mostBy_59 hw (fun hw => ?_)
        refine wm_iload_n hC 3 dX12_mostBy_60 rfl ?_
        refine x_iadd hC dX12_mostBy_61 hw (fun hw => ?_)
        refine x_iald2 hC kk_202 kn_202 dX12_mostBy_62 hw (fun hw => ?_)
        refine wm_aload_n hC 0 dX12_mostBy_63 rfl (k_ne0 kk_159 (by decide)) ?_
        refine x_getR3 hC 66 fl_X12_213 rfl kk_159 (rf_159_66 hRF) dX12_mostBy_64 ?_
        refine wm_bipush hC dX12_mostBy_67 (k := ?_)
        refine wm_bipush hC dX12_mostBy_69 (k := ?_)
        refine wm_iload hC 7 dX12_mostBy_71 rfl ?_
        refine x_imul hC dX12_mostBy_73 hw (fun hw => ?_)
        refine wm_iload_n hC 2 dX12_mostBy_74 rfl ?_
        refine x_iadd hC dX12_mostBy_75 hw (fun hw => ?_)
        refine x_imul hC dX12_mostBy_76 hw (fun hw => ?_)
        refine wm_iload_n hC 3 dX12_mostBy_77 rfl ?_
        refine x_iadd hC dX12_mostBy_78 hw (fun hw => ?_)
        refine x_iald2 hC kk_202 kn_202 dX12_mostBy_79 hw (fun hw => ?_)
        refine wm_icmp_ne (tgt := 87) hC dX12_mostBy_80 (by decide) hw (fun hw => ?_) (fun hw => ?_)
        · refine wm_iconst hC dX12_mostBy_83 (k := ?_)
          refine wm_goto (tgt := 88) hC dX12_mostBy_84 (by decide) ?_
          refine x_iadd hC dX12_mostBy_88 hw (fun hw => ?_)
          refine wm_istore hC dX12_mostBy_89 (by decide) (L2 := [(6, vi (l6 + 1)), (0, vr 159), (1, vi l1), (2, vi l2), (3, vi l3), (4, vi l4), (5, vi l5), (7, vi l7)]) rfl ?_
          refine x_iinc hC 7 dX12_mostBy_91 rfl (by decide) (L2 := [(7, vi (l7 + 1)), (6, vi (l6 + 1)), (0, vr 159), (1, vi l1), (2, vi l2), (3, vi l3), (4, vi l4), (5, vi l5)]) rfl hw (fun hw => ?_)
          refine wm_goto (tgt := 19) hC dX12_mostBy_94 (by decide) ?_
          refine wm_sub [2, 3, 4, 5, 6, 7, 1, 0] (L2 := [(0, vr 159), (1, vi l1), (2, vi l2), (3, vi l3), (4, vi l4), (5, vi l5), (6, vi (l6 + 1)), (7, vi (l7 + 1))]) rfl ?_
          exact kk19 _ _ hw
        · refine wm_iconst hC dX12_mostBy_87 (k := ?_)
          refine x_iadd hC dX12_mostBy_88 hw (fun hw => ?_)
          refine wm_istore hC dX12_mostBy_89 (by decide) (L2 := [(6, vi (l6 + 0)), (0, vr 159), (1, vi l1), (2, vi l2), (3, vi l3), (4, vi l4), (5, vi l5), (7, vi l7)]) rfl ?_
          refine x_iinc hC 7 dX12_mostBy_91 rfl (by decide) (L2 := [(7, vi (l7 + 1)), (6, vi (l6 + 0)), (0, vr 159), (1, vi l1), (2, vi l2), (3, vi l3), (4, vi l4), (5, vi l5)]) rfl hw (fun hw => ?_)
          refine wm_goto (tgt := 19) hC dX12_mostBy_94 (by decide) ?_
          refine wm_sub [2, 3, 4, 5, 6, 7, 1, 0] (L2 := [(0, vr 159), (1, vi l1), (2, vi l2), (3, vi l3), (4, vi l4), (5, vi l5), (6, vi (l6 + 0)), (7, vi (l7 + 1))]) rfl ?_
          exact kk19 _ _ hw
set_option maxRecDepth 20000 in
theorem w12_mostBy_b19 {C : wX} {ad : Nat → Nat} {n : Nat} {I : mI} {J : mI} {R : mR} {Q : Int → Prop} (hC : wOK C cX12_mostBy 8 RX12) (hRm : wRm C 2 33 0 0) (hE : wEnd C (some .int) ad n (fun r I' J' R' => (I' = I ∧ J' = J ∧ R' = R) ∧ Q r)) (hRF : RF R) {l1 : Int} {l2 : Int} {l3 : Int} {l4 : Int} {l5 : Int}  {k6 : Int → Int → Prop}  (kk6 : ∀ (y4 : Int) (y5 : Int), k6 y4 y5 → WM C ad n I J R 0 0 6 [(0, vr 159), (1, vi l1), (2, vi l2), (3, vi l3), (4, vi y4), (5, vi y5)] []) : ∀ (f : Nat) (l6 : Int) (l7 : Int), p12_mostBy_b19 l1 l2 l3 l4 l5 I k6 Q f l6 l7 → WM C ad n I J R 0 0 19 [(0, vr 159), (1, vi l1), (2, vi l2), (3, vi l3), (4, vi l4), (5, vi l5), (6, vi l6), (7, vi l7)] [] := by
  intro f
  induction f with
  | zero => intro l6 l7 hw; exact hw.elim
  | succ f ih => intro l6 l7 hw; exact w12_mostBy_b19_body hC hRm hE hRF kk6 (fun a0 a1 aw => ih a0 a1 aw) hw
def p12_mostBy_b6_body (l1 : Int) (l2 : Int) (l3 : Int) (I : mI) (Q : Int → Prop) (k6 : Int → Int → Prop) (l4 : Int) (l5 : Int) : Prop := (if (9 : Int) < l5 then (Q l4) else (∃ f, p12_mostBy_b19 l1 l2 l3 l4 l5 I k6 Q f 0 0))
def p12_mostBy_b6 (l1 : Int) (l2 : Int) (l3 : Int) (I : mI) (Q : Int → Prop) : Nat → Int → Int → Prop
  | 0 => fun _ _ => False
  | f + 1 => fun l4 l5 => p12_mostBy_b6_body l1 l2 l3 I Q (p12_mostBy_b6 l1 l2 l3 I Q f) l4 l5
set_option maxRecDepth 20000 in
theorem w12_mostBy_b6_body {C : wX} {ad : Nat → Nat} {n : Nat} {I J : mI} {R : mR} {Q : Int → Prop} (hC : wOK C cX12_mostBy 8 RX12) (hRm : wRm C 2 33 0 0) (hE : wEnd C (some .int) ad n (fun r I' J' R' => (I' = I ∧ J' = J ∧ R' = R) ∧ Q r)) (hRF : RF R) {l1 : Int} {l2 : Int} {l3 : Int} {l4 : Int} {l5 : Int}     {k6 : Int → Int → Prop} (kk6 : ∀ (y4 : Int) (y5 : Int), k6 y4 y5 → WM C ad n I J R 0 0 6 [(0, vr 159), (1, vi l1), (2, vi l2), (3, vi l3), (4, vi y4), (5, vi y5)] []) (hw : p12_mostBy_b6_body l1 l2 l3 I Q k6 l4 l5) : WM C ad n I J R 0 0 6 [(0, vr 159), (1, vi l1), (2, vi l2), (3, vi l3), (4, vi l4), (5, vi l5)] [] := by
  unfold p12_mostBy_b6_body at hw
  refine wm_iload hC 5 dX12_mostBy_6 rfl ?_
  refine wm_bipush hC dX12_mostBy_8 (k := ?_)
  refine wm_icmp_gt (tgt := 119) hC dX12_mostBy_10 (by decide) hw (fun hw => ?_) (fun hw => ?_)
  · refine wm_iload hC 4 dX12_mostBy_119 rfl ?_
    exact wm_ireturn hC hE dX12_mostBy_121 ⟨⟨rfl, rfl, rfl⟩, hw⟩
  · refine wm_iconst hC dX12_mostBy_13 (k := ?_)
    refine wm_istore hC dX12_mostBy_14 (by decide) (L2 := [(6, vi 0), (0, vr 159), (1, vi l1), (2, vi l2), (3, vi l3), (4, vi l4), (5, vi l5)]) rfl ?_
    refine wm_iconst hC dX12_mostBy_16 (k := ?_)
    refine wm_istore hC dX12_mostBy_17 (by decide) (L2 := [(7, vi 0), (6, vi 0), (0, vr 159), (1, vi l1), (2, vi l2), (3, vi l3), (4, vi l4), (5, vi l5)]) rfl ?_
    obtain ⟨f, hw⟩ := hw
    refine wm_sub [2, 3, 4, 5, 6, 7, 1, 0] (L2 := [(0, vr 159), (1, vi l1), (2, vi l2), (3, vi l3), (4, vi l4), (5, vi l5), (6, vi 0), (7, vi 0)]) rfl ?_
    exact w12_mostBy_b19 hC hRm hE hRF kk6 f _ _ hw
set_option maxRecDepth 20000 in
theorem w12_mostBy_b6 {C : wX} {ad : Nat → Nat} {n : Nat} {I : mI} {J : mI} {R : mR} {Q : Int → Prop} (hC : wOK C cX12_mostBy 8 RX12) (hRm : wRm C 2 33 0 0) (hE : wEnd C (some .int) ad n (fun r I' J' R' => (I' = I ∧ J' = J ∧ R' = R) ∧ Q r)) (hRF : RF R) {l1 : Int} {l2 : Int} {l3 : Int}     : ∀ (f : Nat) (l4 : Int) (l5 : Int), p12_mostBy_b6 l1 l2 l3 I Q f l4 l5 → WM C ad n I J R 0 0 6 [(0, vr 159), (1, vi l1), (2, vi l2), (3, vi l3), (4, vi l4), (5, vi l5)] [] := by
  intro f
  induction f with
  | zero => intro l4 l5 hw; exact hw.elim
  | succ f ih => intro l4 l5 hw; exact w12_mostBy_b6_body hC hRm hE hRF  (fun a0 a1 aw => ih a0 a1 aw) hw
def p12_mostBy (l1 : Int) (l2 : Int) (l3 : Int) (I : mI) (Q : Int → Prop) : Prop := (∃ f, p12_mostBy_b6 l1 l2 l3 I Q f 0 0)
set_option maxRecDepth 20000 in
theorem c12_mostBy {ad : Nat → Nat} {n : Nat} {I J : mI} {R : mR} {Q : Int → Prop}  (hRF : RF R) {l1 : Int} {l2 : Int} {l3 : Int}     (hw : p12_mostBy l1 l2 l3 I Q) : wMet yX12_mostBy cX12_mostBy 8 (some .int) 2 33 false ad n I J R [vr 159, vi l1, vi l2, vi l3] (fun r I' J' R' => (I' = I ∧ J' = J ∧ R' = R) ∧ Q r) := by
  refine wMet_of (by decide) (Nat.le_of_ble_eq_true rfl) (fun C hC hRm hE hS => ?_)
  refine (show WM C ad n I J R 0 0 0 [(0, vr 159), (1, vi l1), (2, vi l2), (3, vi l3)] [] from ?_)
  unfold p12_mostBy at hw
  refine wm_iconst hC dX12_mostBy_0 (k := ?_)
  refine wm_istore hC dX12_mostBy_1 (by decide) (L2 := [(4, vi 0), (0, vr 159), (1, vi l1), (2, vi l2), (3, vi l3)]) rfl ?_
  refine wm_iconst hC dX12_mostBy_3 (k := ?_)
  refine wm_istore hC dX12_mostBy_4 (by decide) (L2 := [(5, vi 0), (4, vi 0), (0, vr 159), (1, vi l1), (2, vi l2), (3, vi l3)]) rfl ?_
  obtain ⟨f, hw⟩ := hw
  refine wm_sub [2, 3, 4, 5, 1, 0] (L2 := [(0, vr 159), (1, vi l1), (2, vi l2), (3, vi l3), (4, vi 0), (5, vi 0)]) rfl ?_
  exact w12_mostBy_b6 hC hRm hE hRF  f _ _ hw
def p12_octet (l1 : Int) (I : mI) (Q : Int → Prop) : Prop := (rg ((I 159 68) - 1) ∧ (p12_is l1 0 ((I 159 68) - 1) (fun r1 => (if r1 = 0 then (Q (-1)) else (((0 : Int) ≤ l1 ∧ l1 < (30 : Int)) ∧ (Q (I 203 l1)))))))
set_option maxRecDepth 20000 in
theorem c12_octet {ad : Nat → Nat} {n : Nat} {I J : mI} {R : mR} {Q : Int → Prop}  (hRF : RF R) {l1 : Int}   (hw : p12_octet l1 I Q) : wMet yX12_octet cX12_octet 2 (some .int) 2 34 false ad n I J R [vr 159, vi l1] (fun r I' J' R' => (I' = I ∧ J' = J ∧ R' = R) ∧ Q r) := by
  refine wMet_of (by decide) (Nat.le_of_ble_eq_true rfl) (fun C hC hRm hE hS => ?_)
  refine (show WM C ad n I J R 0 0 0 [(0, vr 159), (1, vi l1)] [] from ?_)
  unfold p12_octet at hw
  refine wm_iload_n hC 1 dX12_octet_0 rfl ?_
  refine wm_iconst hC dX12_octet_1 (k := ?_)
  refine wm_aload_n hC 0 dX12_octet_2 rfl (k_ne0 kk_159 (by decide)) ?_
  refine x_getI hC 68 fl_X12_219 rfl kk_159 dX12_octet_3 ?_
  refine wm_iconst hC dX12_octet_6 (k := ?_)
  refine x_isub hC dX12_octet_7 hw (fun hw => ?_)
  refine y_callS_z_n hC hRm noS ml_X12_309 (c12_is hRF  hw) (Nat.le_of_ble_eq_true rfl) (Nat.le_of_ble_eq_true rfl) ⟨Nat.zero_le _, Nat.zero_le _⟩ rfl (st := []) rfl (Nat.le_of_ble_eq_true rfl) dX12_octet_8 (fun r1 hw => ?_)
  refine wm_if_eq (tgt := 23) hC dX12_octet_11 (by decide) hw (fun hw => ?_) (fun hw => ?_)
  · refine wm_iconst hC dX12_octet_23 (k := ?_)
    exact wm_ireturn hC hE dX12_octet_24 ⟨⟨rfl, rfl, rfl⟩, hw⟩
  · refine wm_aload_n hC 0 dX12_octet_14 rfl (k_ne0 kk_159 (by decide)) ?_
    refine x_getR3 hC 67 fl_X12_216 rfl kk_159 (rf_159_67 hRF) dX12_octet_15 ?_
    refine wm_iload_n hC 1 dX12_octet_18 rfl ?_
    refine x_iald2 hC kk_203 kn_203 dX12_octet_19 hw (fun hw => ?_)
    refine wm_goto (tgt := 24) hC dX12_octet_20 (by decide) ?_
    exact wm_ireturn hC hE dX12_octet_24 ⟨⟨rfl, rfl, rfl⟩, hw⟩
def p12_odds_b128_body (l1 : Int) (l2 : Int) (Q : Int → mI → mI → Prop) (k128 : Int → Int → mI → mI → Prop) (l3 : Int) (l4 : Int) (I : mI) (J : mI) : Prop := (((0 : Int) ≤ (I 159 13) ∧ (I 159 13) < (2 : Int)) ∧ (if (I 161 (I 159 13)) ≤ l4 then (Q l3 I J) else (p12_everybody I (fun r5 => (p12_choiceOf 0 l2 (bAnd r5 (bXor (bShl 1 l4) (-1))) I J (fun r6 I2 J2 => (if r6 = l1 then (((0 : Int) ≤ (I2 159 13) ∧ (I2 159 13) < (2 : Int)) ∧ (rg (l3 + (I2 172 (I2 159 13))) ∧ (wLet (l3 + (I2 172 (I2 159 13))) (fun x3 => (rg (l4 + 1) ∧ (k128 x3 (l4 + 1) I2 J2)))))) else (rg (l3 + 0) ∧ (rg (l4 + 1) ∧ (k128 (l3 + 0) (l4 + 1) I2 J2))))))))))
def p12_odds_b128 (l1 : Int) (l2 : Int) (Q : Int → mI → mI → Prop) : Nat → Int → Int → mI → mI → Prop
  | 0 => fun _ _ _ _ => False
  | f + 1 => fun l3 l4 I J => p12_odds_b128_body l1 l2 Q (p12_odds_b128 l1 l2 Q f) l3 l4 I J
set_option maxRecDepth 20000 in
theorem w12_odds_b128_body {C : wX} {ad : Nat → Nat} {n : Nat} {I J : mI} {R : mR} {Q : Int → mI → mI → Prop} (hC : wOK C cX12_odds 5 RX12) (hRm : wRm C 8 188 0 0) (hE : wEnd C (some .int) ad n (fun r I' J' R' => (R' = R) ∧ Q r I' J')) (hRF : RF R) {l1 : Int} {l2 : Int} {l3 : Int} {l4 : Int}     {k128 : Int → Int → mI → mI → Prop} (kk128 : ∀ (y3 : Int) (y4 : Int) (I' : mI) (J' : mI), k128 y3 y4 I' J' → WM C ad n I' J' R 0 0 128 [(0, vr 159), (1, vi l1), (2, vi l2), (3, vi y3), (4, vi y4)] []) (hw : p12_odds_b128_body l1 l2 Q k128 l3 l4 I J) : WM C ad n I J R 0 0 128 [(0, vr 159), (1, vi l1), (2, vi l2), (3, vi l3), (4, vi l4)] [] := by
  unfold p12_odds_b128_body at hw
  refine wm_iload hC 4 dX12_odds_128 rfl ?_
  refine wm_aload_n hC 0 dX12_odds_130 rfl (k_ne0 kk_159 (by decide)) ?_
  refine x_getR3 hC 14 fl_X12_54 rfl kk_159 (rf_159_14 hRF) dX12_odds_131 ?_
  refine wm_aload_n hC 0 dX12_odds_134 rfl (k_ne0 kk_159 (by decide)) ?_
  refine x_getI hC 13 fl_X12_51 rfl kk_159 dX12_odds_135 ?_
  refine x_iald2 hC kk_161 kn_161 dX12_odds_138 hw (fun hw => ?_)
  refine wm_icmp_ge (tgt := 185) hC dX12_odds_139 (by decide) hw (fun hw => ?_) (fun hw => ?_)
  · refine wm_iload_n hC 3 dX12_odds_185 rfl ?_
    exact wm_ireturn hC hE dX12_odds_186 ⟨rfl, hw⟩
  · refine wm_iload_n hC 3 dX12_odds_142 rfl ?_
    refine wm_aload_n hC 0 dX12_odds_143 rfl (k_ne0 kk_159 (by decide)) ?_
    refine wm_iconst hC dX12_odds_144 (k := ?_)
    refine wm_iload_n hC 2 dX12_odds_145 rfl ?_
    refine wm_aload_n hC 0 dX12_odds_146 rfl (k_ne0 kk_159 (by decide)) ?_
    refine y_callV_i_n hC hRm noS ml_X12_487 kk_159 (c12_everybody hRF  hw) (Nat.le_of_ble_eq_true rfl) (Nat.le_of_ble_eq_true rfl) ⟨Nat.zero_le _, Nat.zero_le _⟩ rfl (st := [vi l2, vi 0, vr 159, vi l3]) rfl (Nat.le_of_ble_eq_true rfl) dX12_odds_147 (fun r5 hw => ?_)
    refine wm_iconst hC dX12_odds_150 (k := ?_)
    refine wm_iload hC 4 dX12_odds_151 rfl ?_
    refine wm_ishl hC dX12_odds_153 ?_
    refine wm_iconst hC dX12_odds_154 (k := ?_)
    refine wm_ixor hC dX12_odds_155 ?_
    refine wm_iand hC dX12_odds_156 ?_
    refine y_callV_i_IJ hC hRm noS ml_X12_491 kk_159 (c12_choiceOf hRF  hw) (Nat.le_of_ble_eq_true rfl) (Nat.le_of_ble_eq_true rfl) ⟨Nat.zero_le _, Nat.zero_le _⟩ rfl (st := [vi l3]) rfl (Nat.le_of_ble_eq_true rfl) dX12_odds_157 (fun r6 I2 J2 hw => ?_)
    refine wm_iload_n hC 1 dX12_odds_160 rfl ?_
    refine wm_icmp_ne (tgt := 176) hC dX12_odds_161 (by decide) hw (fun hw => ?_) (fun hw => ?_)
    · refine wm_aload_n hC 0 dX12_odds_164 rfl (k_ne0 kk_159 (by decide)) ?_
      refine x_getR3 hC 25 fl_X12_87 rfl kk_159 (rf_159_25 hRF) dX12_odds_165 ?_
      refine wm_aload_n hC 0 dX12_odds_168 rfl (k_ne0 kk_159 (by decide)) ?_
      refine x_getI hC 13 fl_X12_51 rfl kk_159 dX12_odds_169 ?_
      refine x_iald2 hC kk_172 kn_172 dX12_odds_172 hw (fun hw => ?_)
      refine wm_goto (tgt := 177) hC dX12_odds_173 (by decide) ?_
      refine x_iadd hC dX12_odds_177 hw (fun hw => ?_)
      refine x_nameI hw (fun x3 hw => ?_)
      refine wm_istore_n hC dX12_odds_178 (by decide) (L2 := [(3, vi x3), (0, vr 159), (1, vi l1), (2, vi l2), (4, vi l4)]) rfl ?_
      refine x_iinc hC 4 dX12_odds_179 rfl (by decide) (L2 := [(4, vi (l4 + 1)), (3, vi x3), (0, vr 159), (1, vi l1), (2, vi l2)]) rfl hw (fun hw => ?_)
      refine wm_goto (tgt := 128) hC dX12_odds_182 (by decide) ?_
      refine wm_sub [2, 3, 4, 1, 0] (L2 := [(0, vr 159), (1, vi l1), (2, vi l2), (3, vi x3), (4, vi (l4 + 1))]) rfl ?_
      exact kk128 _ _ _ _ hw
    · refine wm_iconst hC dX12_odds_176 (k := ?_)
      refine x_iadd hC dX12_odds_177 hw (fun hw => ?_)
      refine wm_istore_n hC dX12_odds_178 (by decide) (L2 := [(3, vi (l3 + 0)), (0, vr 159), (1, vi l1), (2, vi l2), (4, vi l4)]) rfl ?_
      refine x_iinc hC 4 dX12_odds_179 rfl (by decide) (L2 := [(4, vi (l4 + 1)), (3, vi (l3 + 0)), (0, vr 159), (1, vi l1), (2, vi l2)]) rfl hw (fun hw => ?_)
      refine wm_goto (tgt := 128) hC dX12_odds_182 (by decide) ?_
      refine wm_sub [2, 3, 4, 1, 0] (L2 := [(0, vr 159), (1, vi l1), (2, vi l2), (3, vi (l3 + 0)), (4, vi (l4 + 1))]) rfl ?_
      exact kk128 _ _ _ _ hw
set_option maxRecDepth 20000 in
theorem w12_odds_b128 {C : wX} {ad : Nat → Nat} {n : Nat} {R : mR} {Q : Int → mI → mI → Prop} (hC : wOK C cX12_odds 5 RX12) (hRm : wRm C 8 188 0 0) (hE : wEnd C (some .int) ad n (fun r I' J' R' => (R' = R) ∧ Q r I' J')) (hRF : RF R) {l1 : Int} {l2 : Int}     : ∀ (f : Nat) (l3 : Int) (l4 : Int) (I : mI) (J : mI), p12_odds_b128 l1 l2 Q f l3 l4 I J → WM C ad n I J R 0 0 128 [(0, vr 159), (1, vi l1), (2, vi l2), (3, vi l3), (4, vi l4)] [] := by
  intro f
  induction f with
  | zero => intro l3 l4 I J hw; exact hw.elim
  | succ f ih => intro l3 l4 I J hw; exact w12_odds_b128_body hC hRm hE hRF  (fun a0 a1 a2 a3 aw => ih a0 a1 a2 a3 aw) hw
def p12_odds_b13 (l1 : Int) (I : mI) (J : mI) (Q : Int → mI → mI → Prop) : Prop := (((0 : Int) ≤ (I 159 13) ∧ (I 159 13) < (2 : Int)) ∧ (if (I 161 (I 159 13)) = 0 then (Q (-1) I J) else (((0 : Int) ≤ (I 159 13) ∧ (I 159 13) < (2 : Int)) ∧ (if (I 167 (I 159 13)) = 0 then (Q (-1) I J) else (p12_isAhead 1 1 1 I (fun r2 => (if r2 = 0 then (Q (-1) I J) else (if l1 = (-1) then (((0 : Int) ≤ (I 159 13) ∧ (I 159 13) < (2 : Int)) ∧ (rg (100 * (I 161 (I 159 13))) ∧ (Q (100 * (I 161 (I 159 13))) I J))) else (((0 : Int) ≤ (I 159 13) ∧ (I 159 13) < (2 : Int)) ∧ ((I 167 (I 159 13)) ≠ 0 ∧ (wLet (Int.tmod (I 185 0) (I 167 (I 159 13))) (fun x1 => (p12_everybody I (fun r3 => (p12_choiceOf 0 x1 r3 I J (fun r4 I1 J1 => (if r4 = l1 then (((0 : Int) ≤ (I1 159 13) ∧ (I1 159 13) < (2 : Int)) ∧ (rg (100 - (I1 172 (I1 159 13))) ∧ (((0 : Int) ≤ (I1 159 13) ∧ (I1 159 13) < (2 : Int)) ∧ (rg ((100 - (I1 172 (I1 159 13))) * (I1 161 (I1 159 13))) ∧ (wLet ((100 - (I1 172 (I1 159 13))) * (I1 161 (I1 159 13))) (fun x2 => (∃ f, p12_odds_b128 l1 x1 Q f x2 0 I1 J1))))))) else (∃ f, p12_odds_b128 l1 x1 Q f 0 0 I1 J1))))))))))))))))))
set_option maxRecDepth 20000 in
theorem w12_odds_b13 {C : wX} {ad : Nat → Nat} {n : Nat} {I J : mI} {R : mR} {Q : Int → mI → mI → Prop} (hC : wOK C cX12_odds 5 RX12) (hRm : wRm C 8 188 0 0) (hE : wEnd C (some .int) ad n (fun r I' J' R' => (R' = R) ∧ Q r I' J')) (hRF : RF R) {l1 : Int}     (hw : p12_odds_b13 l1 I J Q) : WM C ad n I J R 0 0 13 [(0, vr 159), (1, vi l1)] [] := by
  unfold p12_odds_b13 at hw
  refine wm_aload_n hC 0 dX12_odds_13 rfl (k_ne0 kk_159 (by decide)) ?_
  refine x_getR3 hC 14 fl_X12_54 rfl kk_159 (rf_159_14 hRF) dX12_odds_14 ?_
  refine wm_aload_n hC 0 dX12_odds_17 rfl (k_ne0 kk_159 (by decide)) ?_
  refine x_getI hC 13 fl_X12_51 rfl kk_159 dX12_odds_18 ?_
  refine x_iald2 hC kk_161 kn_161 dX12_odds_21 hw (fun hw => ?_)
  refine wm_if_eq (tgt := 47) hC dX12_odds_22 (by decide) hw (fun hw => ?_) (fun hw => ?_)
  · refine wm_iconst hC dX12_odds_47 (k := ?_)
    exact wm_ireturn hC hE dX12_odds_48 ⟨rfl, hw⟩
  · refine wm_aload_n hC 0 dX12_odds_25 rfl (k_ne0 kk_159 (by decide)) ?_
    refine x_getR3 hC 20 fl_X12_72 rfl kk_159 (rf_159_20 hRF) dX12_odds_26 ?_
    refine wm_aload_n hC 0 dX12_odds_29 rfl (k_ne0 kk_159 (by decide)) ?_
    refine x_getI hC 13 fl_X12_51 rfl kk_159 dX12_odds_30 ?_
    refine x_iald2 hC kk_167 kn_167 dX12_odds_33 hw (fun hw => ?_)
    refine wm_if_eq (tgt := 47) hC dX12_odds_34 (by decide) hw (fun hw => ?_) (fun hw => ?_)
    · refine wm_iconst hC dX12_odds_47 (k := ?_)
      exact wm_ireturn hC hE dX12_odds_48 ⟨rfl, hw⟩
    · refine wm_aload_n hC 0 dX12_odds_37 rfl (k_ne0 kk_159 (by decide)) ?_
      refine wm_iconst hC dX12_odds_38 (k := ?_)
      refine wm_iconst hC dX12_odds_39 (k := ?_)
      refine wm_iconst hC dX12_odds_40 (k := ?_)
      refine y_callV_z_n hC hRm noS ml_X12_529 kk_159 (c12_isAhead hRF  hw) (Nat.le_of_ble_eq_true rfl) (Nat.le_of_ble_eq_true rfl) ⟨Nat.zero_le _, Nat.zero_le _⟩ rfl (st := []) rfl (Nat.le_of_ble_eq_true rfl) dX12_odds_41 (fun r2 hw => ?_)
      refine wm_if_ne (tgt := 49) hC dX12_odds_44 (by decide) hw (fun hw => ?_) (fun hw => ?_)
      · refine wm_iconst hC dX12_odds_47 (k := ?_)
        exact wm_ireturn hC hE dX12_odds_48 ⟨rfl, hw⟩
      · refine wm_iload_n hC 1 dX12_odds_49 rfl ?_
        refine wm_iconst hC dX12_odds_50 (k := ?_)
        refine wm_icmp_ne (tgt := 67) hC dX12_odds_51 (by decide) hw (fun hw => ?_) (fun hw => ?_)
        · refine wm_bipush hC dX12_odds_54 (k := ?_)
          refine wm_aload_n hC 0 dX12_odds_56 rfl (k_ne0 kk_159 (by decide)) ?_
          refine x_getR3 hC 14 fl_X12_54 rfl kk_159 (rf_159_14 hRF) dX12_odds_57 ?_
          refine wm_aload_n hC 0 dX12_odds_60 rfl (k_ne0 kk_159 (by decide)) ?_
          refine x_getI hC 13 fl_X12_51 rfl kk_159 dX12_odds_61 ?_
          refine x_iald2 hC kk_161 kn_161 dX12_odds_64 hw (fun hw => ?_)
          refine x_imul hC dX12_odds_65 hw (fun hw => ?_)
          exact wm_ireturn hC hE dX12_odds_66 ⟨rfl, hw⟩
        · refine wm_aload_n hC 0 dX12_odds_67 rfl (k_ne0 kk_159 (by decide)) ?_
          refine x_getR3 hC 45 fl_X12_150 rfl kk_159 (rf_159_45 hRF) dX12_odds_68 ?_
          refine wm_iconst hC dX12_odds_71 (k := ?_)
          refine x_ialdK hC kk_185 kn_185 (by decide) (by decide) dX12_odds_72 ?_
          refine wm_aload_n hC 0 dX12_odds_73 rfl (k_ne0 kk_159 (by decide)) ?_
          refine x_getR3 hC 20 fl_X12_72 rfl kk_159 (rf_159_20 hRF) dX12_odds_74 ?_
          refine wm_aload_n hC 0 dX12_odds_77 rfl (k_ne0 kk_159 (by decide)) ?_
          refine x_getI hC 13 fl_X12_51 rfl kk_159 dX12_odds_78 ?_
          refine x_iald2 hC kk_167 kn_167 dX12_odds_81 hw (fun hw => ?_)
          refine x_irem hC dX12_odds_82 hw (fun hw => ?_)
          refine x_nameI hw (fun x1 hw => ?_)
          refine wm_istore_n hC dX12_odds_83 (by decide) (L2 := [(2, vi x1), (0, vr 159), (1, vi l1)]) rfl ?_
          refine wm_aload_n hC 1 dX12_odds_84 rfl (k_ne0 kk_159 (by decide)) ?_
          refine wm_iconst hC dX12_odds_85 (k := ?_)
          refine wm_iload_n hC 0 dX12_odds_86 rfl ?_
          refine wm_aload_n hC 1 dX12_odds_87 rfl (k_ne0 kk_159 (by decide)) ?_
          refine y_callV_i_n hC hRm noS ml_X12_487 kk_159 (c12_everybody hRF  hw) (Nat.le_of_ble_eq_true rfl) (Nat.le_of_ble_eq_true rfl) ⟨Nat.zero_le _, Nat.zero_le _⟩ rfl (st := [vi x1, vi 0, vr 159]) rfl (Nat.le_of_ble_eq_true rfl) dX12_odds_88 (fun r3 hw => ?_)
          refine y_callV_i_IJ hC hRm noS ml_X12_491 kk_159 (c12_choiceOf hRF  hw) (Nat.le_of_ble_eq_true rfl) (Nat.le_of_ble_eq_true rfl) ⟨Nat.zero_le _, Nat.zero_le _⟩ rfl (st := []) rfl (Nat.le_of_ble_eq_true rfl) dX12_odds_91 (fun r4 I1 J1 hw => ?_)
          refine wm_iload_n hC 2 dX12_odds_94 rfl ?_
          refine wm_icmp_ne (tgt := 123) hC dX12_odds_95 (by decide) hw (fun hw => ?_) (fun hw => ?_)
          · refine wm_bipush hC dX12_odds_98 (k := ?_)
            refine wm_aload_n hC 1 dX12_odds_100 rfl (k_ne0 kk_159 (by decide)) ?_
            refine x_getR3 hC 25 fl_X12_87 rfl kk_159 (rf_159_25 hRF) dX12_odds_101 ?_
            refine wm_aload_n hC 1 dX12_odds_104 rfl (k_ne0 kk_159 (by decide)) ?_
            refine x_getI hC 13 fl_X12_51 rfl kk_159 dX12_odds_105 ?_
            refine x_iald2 hC kk_172 kn_172 dX12_odds_108 hw (fun hw => ?_)
            refine x_isub hC dX12_odds_109 hw (fun hw => ?_)
            refine wm_aload_n hC 1 dX12_odds_110 rfl (k_ne0 kk_159 (by decide)) ?_
            refine x_getR3 hC 14 fl_X12_54 rfl kk_159 (rf_159_14 hRF) dX12_odds_111 ?_
            refine wm_aload_n hC 1 dX12_odds_114 rfl (k_ne0 kk_159 (by decide)) ?_
            refine x_getI hC 13 fl_X12_51 rfl kk_159 dX12_odds_115 ?_
            refine x_iald2 hC kk_161 kn_161 dX12_odds_118 hw (fun hw => ?_)
            refine x_imul hC dX12_odds_119 hw (fun hw => ?_)
            refine wm_goto (tgt := 124) hC dX12_odds_120 (by decide) ?_
            refine x_nameI hw (fun x2 hw => ?_)
            refine wm_istore_n hC dX12_odds_124 (by decide) (L2 := [(3, vi x2), (2, vi x1), (0, vr 159), (1, vi l1)]) rfl ?_
            refine wm_iconst hC dX12_odds_125 (k := ?_)
            refine wm_istore hC dX12_odds_126 (by decide) (L2 := [(4, vi 0), (3, vi x2), (2, vi x1), (0, vr 159), (1, vi l1)]) rfl ?_
            obtain ⟨f, hw⟩ := hw
            refine wm_sub [3, 4, 2, 1, 0] (L2 := [(0, vr 159), (1, vi l1), (2, vi x1), (3, vi x2), (4, vi 0)]) rfl ?_
            exact w12_odds_b128 hC hRm hE hRF  f _ _ _ _ hw
          · refine wm_iconst hC dX12_odds_123 (k := ?_)
            refine wm_istore_n hC dX12_odds_124 (by decide) (L2 := [(3, vi 0), (2, vi x1), (0, vr 159), (1, vi l1)]) rfl ?_
            refine wm_iconst hC dX12_odds_125 (k := ?_)
            refine wm_istore hC dX12_odds_126 (by decide) (L2 := [(4, vi 0), (3, vi 0), (2, vi x1), (0, vr 159), (1, vi l1)]) rfl ?_
            obtain ⟨f, hw⟩ := hw
            refine wm_sub [3, 4, 2, 1, 0] (L2 := [(0, vr 159), (1, vi l1), (2, vi x1), (3, vi 0), (4, vi 0)]) rfl ?_
            exact w12_odds_b128 hC hRm hE hRF  f _ _ _ _ hw
def p12_odds (l1 : Int) (I : mI) (J : mI) (Q : Int → mI → mI → Prop) : Prop := (if l1 = (-1) then (p12_odds_b13 l1 I J Q) else (p12_isColour l1 I (fun r1 => (if r1 = 0 then (Q (-1) I J) else (p12_odds_b13 l1 I J Q)))))
set_option maxRecDepth 20000 in
theorem c12_odds {ad : Nat → Nat} {n : Nat} {I J : mI} {R : mR} {Q : Int → mI → mI → Prop}  (hRF : RF R) {l1 : Int}   (hw : p12_odds l1 I J Q) : wMet yX12_odds cX12_odds 5 (some .int) 8 188 false ad n I J R [vr 159, vi l1] (fun r I' J' R' => (R' = R) ∧ Q r I' J') := by
  refine wMet_of (by decide) (Nat.le_of_ble_eq_true rfl) (fun C hC hRm hE hS => ?_)
  refine (show WM C ad n I J R 0 0 0 [(0, vr 159), (1, vi l1)] [] from ?_)
  unfold p12_odds at hw
  refine wm_iload_n hC 1 dX12_odds_0 rfl ?_
  refine wm_iconst hC dX12_odds_1 (k := ?_)
  refine wm_icmp_eq (tgt := 13) hC dX12_odds_2 (by decide) hw (fun hw => ?_) (fun hw => ?_)
  · exact w12_odds_b13 hC hRm hE hRF  hw
  · refine wm_aload_n hC 0 dX12_odds_5 rfl (k_ne0 kk_159 (by decide)) ?_
    refine wm_iload_n hC 1 dX12_odds_6 rfl ?_
    refine y_callV_z_n hC hRm noS ml_X12_510 kk_159 (c12_isColour hRF  hw) (Nat.le_of_ble_eq_true rfl) (Nat.le_of_ble_eq_true rfl) ⟨Nat.zero_le _, Nat.zero_le _⟩ rfl (st := []) rfl (Nat.le_of_ble_eq_true rfl) dX12_odds_7 (fun r1 hw => ?_)
    refine wm_if_eq (tgt := 47) hC dX12_odds_10 (by decide) hw (fun hw => ?_) (fun hw => ?_)
    · refine wm_iconst hC dX12_odds_47 (k := ?_)
      exact wm_ireturn hC hE dX12_odds_48 ⟨rfl, hw⟩
    · exact w12_odds_b13 hC hRm hE hRF  hw
def p12_on (I : mI) (Q : Int → mI → Prop) : Prop := (wLet (up I 159 1 0) (fun I1 => (p12_comesOn (I 159 1) I1 (fun r1 I2 => (if r1 = 0 then (p12_refuses 5 I2 (fun r2 I5 => (if r2 < 0 then (Q 0 I5) else (Q 1 I5)))) else (p12_copies 0 1 I2 (fun I3 => (wLet (up I3 159 53 0) (fun I4 => (Q 1 I4))))))))))
set_option maxRecDepth 20000 in
theorem c12_on {ad : Nat → Nat} {n : Nat} {I J : mI} {R : mR} {Q : Int → mI → Prop}  (hRF : RF R)   (hw : p12_on I Q) : wMet yX12_on cX12_on 2 (some .boolean) 3 62 false ad n I J R [vr 159] (fun r I' J' R' => (J' = J ∧ R' = R) ∧ Q r I') := by
  refine wMet_of (by decide) (Nat.le_of_ble_eq_true rfl) (fun C hC hRm hE hS => ?_)
  refine (show WM C ad n I J R 0 0 0 [(0, vr 159)] [] from ?_)
  unfold p12_on at hw
  refine wm_aload_n hC 0 dX12_on_0 rfl (k_ne0 kk_159 (by decide)) ?_
  refine x_getI hC 1 fl_X12_13 rfl kk_159 dX12_on_1 ?_
  refine wm_istore_n hC dX12_on_4 (by decide) (L2 := [(1, vi (I 159 1)), (0, vr 159)]) rfl ?_
  refine wm_aload_n hC 1 dX12_on_5 rfl (k_ne0 kk_159 (by decide)) ?_
  refine wm_iconst hC dX12_on_6 (k := ?_)
  refine x_putI hC 1 fl_X12_13 rfl kk_159 dX12_on_7 hw (fun I1 hw => ?_)
  refine wm_aload_n hC 1 dX12_on_10 rfl (k_ne0 kk_159 (by decide)) ?_
  refine wm_iload_n hC 0 dX12_on_11 rfl ?_
  refine y_callV_z_I hC hRm noS ml_X12_571 kk_159 (c12_comesOn hRF  hw) (Nat.le_of_ble_eq_true rfl) (Nat.le_of_ble_eq_true rfl) ⟨Nat.zero_le _, Nat.zero_le _⟩ rfl (st := []) rfl (Nat.le_of_ble_eq_true rfl) dX12_on_12 (fun r1 I2 hw => ?_)
  refine wm_if_ne (tgt := 32) hC dX12_on_15 (by decide) hw (fun hw => ?_) (fun hw => ?_)
  · refine wm_aload_n hC 1 dX12_on_18 rfl (k_ne0 kk_159 (by decide)) ?_
    refine wm_iconst hC dX12_on_19 (k := ?_)
    refine y_callV_i_I hC hRm noS ml_X12_222 kk_159 (c12_refuses hRF  hw) (Nat.le_of_ble_eq_true rfl) (Nat.le_of_ble_eq_true rfl) ⟨Nat.zero_le _, Nat.zero_le _⟩ rfl (st := []) rfl (Nat.le_of_ble_eq_true rfl) dX12_on_20 (fun r2 I5 hw => ?_)
    refine wm_if_lt (tgt := 30) hC dX12_on_23 (by decide) hw (fun hw => ?_) (fun hw => ?_)
    · refine wm_iconst hC dX12_on_30 (k := ?_)
      exact wm_zreturn hC hE (Or.inl rfl) dX12_on_31 ⟨⟨rfl, rfl⟩, hw⟩
    · refine wm_iconst hC dX12_on_26 (k := ?_)
      refine wm_goto (tgt := 31) hC dX12_on_27 (by decide) ?_
      exact wm_zreturn hC hE (Or.inr rfl) dX12_on_31 ⟨⟨rfl, rfl⟩, hw⟩
  · refine wm_aload_n hC 1 dX12_on_32 rfl (k_ne0 kk_159 (by decide)) ?_
    refine wm_iconst hC dX12_on_33 (k := ?_)
    refine wm_iconst hC dX12_on_34 (k := ?_)
    refine y_callV_v_I hC hRm noS ml_X12_424 kk_159 (c12_copies hRF  hw) (Nat.le_of_ble_eq_true rfl) (Nat.le_of_ble_eq_true rfl) ⟨Nat.zero_le _, Nat.zero_le _⟩ rfl (st := []) rfl (Nat.le_of_ble_eq_true rfl) dX12_on_35 (fun I3 hw => ?_)
    refine wm_aload_n hC 1 dX12_on_38 rfl (k_ne0 kk_159 (by decide)) ?_
    refine wm_iconst hC dX12_on_39 (k := ?_)
    refine x_putI hC 53 fl_X12_174 rfl kk_159 dX12_on_40 hw (fun I4 hw => ?_)
    refine wm_iconst hC dX12_on_43 (k := ?_)
    exact wm_zreturn hC hE (Or.inr rfl) dX12_on_44 ⟨⟨rfl, rfl⟩, hw⟩
def p12_order_b40_body (l1 : Int) (l2 : Int) (l3 : Int) (Q : Int → mI → mI → Prop) (k40 : Int → mI → mI → Prop) (l4 : Int) (I : mI) (J : mI) : Prop := (p12_rowsOf I (fun r4 => (if r4 ≤ l4 then (Q (-1) I J) else (p12_laysOrder l4 I (fun I1 => (p12_everybody I1 (fun r5 => (p12_chosen 0 l1 r5 I1 J (fun r6 I2 J1 => (if r6 = l2 then (((0 : Int) ≤ l3 ∧ l3 < (6 : Int)) ∧ (Q (I2 197 l3) I2 J1)) else (rg (l4 + 1) ∧ (k40 (l4 + 1) I2 J1))))))))))))
def p12_order_b40 (l1 : Int) (l2 : Int) (l3 : Int) (Q : Int → mI → mI → Prop) : Nat → Int → mI → mI → Prop
  | 0 => fun _ _ _ => False
  | f + 1 => fun l4 I J => p12_order_b40_body l1 l2 l3 Q (p12_order_b40 l1 l2 l3 Q f) l4 I J
set_option maxRecDepth 20000 in
theorem w12_order_b40_body {C : wX} {ad : Nat → Nat} {n : Nat} {I J : mI} {R : mR} {Q : Int → mI → mI → Prop} (hC : wOK C cX12_order 5 RX12) (hRm : wRm C 7 165 0 0) (hE : wEnd C (some .int) ad n (fun r I' J' R' => (R' = R) ∧ Q r I' J')) (hRF : RF R) {l1 : Int} {l2 : Int} {l3 : Int} {l4 : Int}     {k40 : Int → mI → mI → Prop} (kk40 : ∀ (y4 : Int) (I' : mI) (J' : mI), k40 y4 I' J' → WM C ad n I' J' R 0 0 40 [(0, vr 159), (1, vi l1), (2, vi l2), (3, vi l3), (4, vi y4)] []) (hw : p12_order_b40_body l1 l2 l3 Q k40 l4 I J) : WM C ad n I J R 0 0 40 [(0, vr 159), (1, vi l1), (2, vi l2), (3, vi l3), (4, vi l4)] [] := by
  unfold p12_order_b40_body at hw
  refine wm_iload hC 4 dX12_order_40 rfl ?_
  refine wm_aload_n hC 0 dX12_order_42 rfl (k_ne0 kk_159 (by decide)) ?_
  refine y_callV_i_n hC hRm noS ml_X12_535 kk_159 (c12_rowsOf hRF  hw) (Nat.le_of_ble_eq_true rfl) (Nat.le_of_ble_eq_true rfl) ⟨Nat.zero_le _, Nat.zero_le _⟩ rfl (st := [vi l4]) rfl (Nat.le_of_ble_eq_true rfl) dX12_order_43 (fun r4 hw => ?_)
  refine wm_icmp_ge (tgt := 82) hC dX12_order_46 (by decide) hw (fun hw => ?_) (fun hw => ?_)
  · refine wm_iconst hC dX12_order_82 (k := ?_)
    exact wm_ireturn hC hE dX12_order_83 ⟨rfl, hw⟩
  · refine wm_aload_n hC 0 dX12_order_49 rfl (k_ne0 kk_159 (by decide)) ?_
    refine wm_iload hC 4 dX12_order_50 rfl ?_
    refine y_callV_v_I hC hRm noS ml_X12_538 kk_159 (c12_laysOrder hRF  hw) (Nat.le_of_ble_eq_true rfl) (Nat.le_of_ble_eq_true rfl) ⟨Nat.zero_le _, Nat.zero_le _⟩ rfl (st := []) rfl (Nat.le_of_ble_eq_true rfl) dX12_order_52 (fun I1 hw => ?_)
    refine wm_aload_n hC 0 dX12_order_55 rfl (k_ne0 kk_159 (by decide)) ?_
    refine wm_iconst hC dX12_order_56 (k := ?_)
    refine wm_iload_n hC 1 dX12_order_57 rfl ?_
    refine wm_aload_n hC 0 dX12_order_58 rfl (k_ne0 kk_159 (by decide)) ?_
    refine y_callV_i_n hC hRm noS ml_X12_487 kk_159 (c12_everybody hRF  hw) (Nat.le_of_ble_eq_true rfl) (Nat.le_of_ble_eq_true rfl) ⟨Nat.zero_le _, Nat.zero_le _⟩ rfl (st := [vi l1, vi 0, vr 159]) rfl (Nat.le_of_ble_eq_true rfl) dX12_order_59 (fun r5 hw => ?_)
    refine y_callV_i_IJ hC hRm noS ml_X12_479 kk_159 (c12_chosen hRF  hw) (Nat.le_of_ble_eq_true rfl) (Nat.le_of_ble_eq_true rfl) ⟨Nat.zero_le _, Nat.zero_le _⟩ rfl (st := []) rfl (Nat.le_of_ble_eq_true rfl) dX12_order_62 (fun r6 I2 J1 hw => ?_)
    refine wm_iload_n hC 2 dX12_order_65 rfl ?_
    refine wm_icmp_ne (tgt := 76) hC dX12_order_66 (by decide) hw (fun hw => ?_) (fun hw => ?_)
    · refine wm_aload_n hC 0 dX12_order_69 rfl (k_ne0 kk_159 (by decide)) ?_
      refine x_getR3 hC 60 fl_X12_195 rfl kk_159 (rf_159_60 hRF) dX12_order_70 ?_
      refine wm_iload_n hC 3 dX12_order_73 rfl ?_
      refine x_iald2 hC kk_197 kn_197 dX12_order_74 hw (fun hw => ?_)
      exact wm_ireturn hC hE dX12_order_75 ⟨rfl, hw⟩
    · refine x_iinc hC 4 dX12_order_76 rfl (by decide) (L2 := [(4, vi (l4 + 1)), (0, vr 159), (1, vi l1), (2, vi l2), (3, vi l3)]) rfl hw (fun hw => ?_)
      refine wm_goto (tgt := 40) hC dX12_order_79 (by decide) ?_
      refine wm_sub [1, 2, 3, 4, 0] (L2 := [(0, vr 159), (1, vi l1), (2, vi l2), (3, vi l3), (4, vi (l4 + 1))]) rfl ?_
      exact kk40 _ _ _ hw
set_option maxRecDepth 20000 in
theorem w12_order_b40 {C : wX} {ad : Nat → Nat} {n : Nat} {R : mR} {Q : Int → mI → mI → Prop} (hC : wOK C cX12_order 5 RX12) (hRm : wRm C 7 165 0 0) (hE : wEnd C (some .int) ad n (fun r I' J' R' => (R' = R) ∧ Q r I' J')) (hRF : RF R) {l1 : Int} {l2 : Int} {l3 : Int}     : ∀ (f : Nat) (l4 : Int) (I : mI) (J : mI), p12_order_b40 l1 l2 l3 Q f l4 I J → WM C ad n I J R 0 0 40 [(0, vr 159), (1, vi l1), (2, vi l2), (3, vi l3), (4, vi l4)] [] := by
  intro f
  induction f with
  | zero => intro l4 I J hw; exact hw.elim
  | succ f ih => intro l4 I J hw; exact w12_order_b40_body hC hRm hE hRF  (fun a0 a1 a2 aw => ih a0 a1 a2 aw) hw
def p12_order (l1 : Int) (l2 : Int) (l3 : Int) (I : mI) (J : mI) (Q : Int → mI → mI → Prop) : Prop := (p12_isThing l1 I (fun r1 => (if r1 = 0 then (Q (-1) I J) else (p12_isColour l2 I (fun r2 => (if r2 = 0 then (Q (-1) I J) else (((0 : Int) ≤ (I 159 13) ∧ (I 159 13) < (2 : Int)) ∧ (rg ((I 161 (I 159 13)) - 1) ∧ (p12_is l3 0 ((I 161 (I 159 13)) - 1) (fun r3 => (if r3 = 0 then (Q (-1) I J) else (∃ f, p12_order_b40 l1 l2 l3 Q f 0 I J))))))))))))
set_option maxRecDepth 20000 in
theorem c12_order {ad : Nat → Nat} {n : Nat} {I J : mI} {R : mR} {Q : Int → mI → mI → Prop}  (hRF : RF R) {l1 : Int} {l2 : Int} {l3 : Int}     (hw : p12_order l1 l2 l3 I J Q) : wMet yX12_order cX12_order 5 (some .int) 7 165 false ad n I J R [vr 159, vi l1, vi l2, vi l3] (fun r I' J' R' => (R' = R) ∧ Q r I' J') := by
  refine wMet_of (by decide) (Nat.le_of_ble_eq_true rfl) (fun C hC hRm hE hS => ?_)
  refine (show WM C ad n I J R 0 0 0 [(0, vr 159), (1, vi l1), (2, vi l2), (3, vi l3)] [] from ?_)
  unfold p12_order at hw
  refine wm_aload_n hC 0 dX12_order_0 rfl (k_ne0 kk_159 (by decide)) ?_
  refine wm_iload_n hC 1 dX12_order_1 rfl ?_
  refine y_callV_z_n hC hRm noS ml_X12_513 kk_159 (c12_isThing hRF  hw) (Nat.le_of_ble_eq_true rfl) (Nat.le_of_ble_eq_true rfl) ⟨Nat.zero_le _, Nat.zero_le _⟩ rfl (st := []) rfl (Nat.le_of_ble_eq_true rfl) dX12_order_2 (fun r1 hw => ?_)
  refine wm_if_eq (tgt := 35) hC dX12_order_5 (by decide) hw (fun hw => ?_) (fun hw => ?_)
  · refine wm_iconst hC dX12_order_35 (k := ?_)
    exact wm_ireturn hC hE dX12_order_36 ⟨rfl, hw⟩
  · refine wm_aload_n hC 0 dX12_order_8 rfl (k_ne0 kk_159 (by decide)) ?_
    refine wm_iload_n hC 2 dX12_order_9 rfl ?_
    refine y_callV_z_n hC hRm noS ml_X12_510 kk_159 (c12_isColour hRF  hw) (Nat.le_of_ble_eq_true rfl) (Nat.le_of_ble_eq_true rfl) ⟨Nat.zero_le _, Nat.zero_le _⟩ rfl (st := []) rfl (Nat.le_of_ble_eq_true rfl) dX12_order_10 (fun r2 hw => ?_)
    refine wm_if_eq (tgt := 35) hC dX12_order_13 (by decide) hw (fun hw => ?_) (fun hw => ?_)
    · refine wm_iconst hC dX12_order_35 (k := ?_)
      exact wm_ireturn hC hE dX12_order_36 ⟨rfl, hw⟩
    · refine wm_iload_n hC 3 dX12_order_16 rfl ?_
      refine wm_iconst hC dX12_order_17 (k := ?_)
      refine wm_aload_n hC 0 dX12_order_18 rfl (k_ne0 kk_159 (by decide)) ?_
      refine x_getR3 hC 14 fl_X12_54 rfl kk_159 (rf_159_14 hRF) dX12_order_19 ?_
      refine wm_aload_n hC 0 dX12_order_22 rfl (k_ne0 kk_159 (by decide)) ?_
      refine x_getI hC 13 fl_X12_51 rfl kk_159 dX12_order_23 ?_
      refine x_iald2 hC kk_161 kn_161 dX12_order_26 hw (fun hw => ?_)
      refine wm_iconst hC dX12_order_27 (k := ?_)
      refine x_isub hC dX12_order_28 hw (fun hw => ?_)
      refine y_callS_z_n hC hRm noS ml_X12_309 (c12_is hRF  hw) (Nat.le_of_ble_eq_true rfl) (Nat.le_of_ble_eq_true rfl) ⟨Nat.zero_le _, Nat.zero_le _⟩ rfl (st := []) rfl (Nat.le_of_ble_eq_true rfl) dX12_order_29 (fun r3 hw => ?_)
      refine wm_if_ne (tgt := 37) hC dX12_order_32 (by decide) hw (fun hw => ?_) (fun hw => ?_)
      · refine wm_iconst hC dX12_order_35 (k := ?_)
        exact wm_ireturn hC hE dX12_order_36 ⟨rfl, hw⟩
      · refine wm_iconst hC dX12_order_37 (k := ?_)
        refine wm_istore hC dX12_order_38 (by decide) (L2 := [(4, vi 0), (0, vr 159), (1, vi l1), (2, vi l2), (3, vi l3)]) rfl ?_
        obtain ⟨f, hw⟩ := hw
        refine wm_sub [1, 2, 3, 4, 0] (L2 := [(0, vr 159), (1, vi l1), (2, vi l2), (3, vi l3), (4, vi 0)]) rfl ?_
        exact w12_order_b40 hC hRm hE hRF  f _ _ _ hw
def p12_orders_b23_body (l1 : Int) (l2 : Int) (Q : Int → mI → mI → Prop) (k23 : Int → Int → mI → mI → Prop) (l3 : Int) (l4 : Int) (I : mI) (J : mI) : Prop := (p12_rowsOf I (fun r3 => (if r3 ≤ l4 then (Q l3 I J) else (p12_laysOrder l4 I (fun I1 => (p12_everybody I1 (fun r4 => (p12_chosen 0 l1 r4 I1 J (fun r5 I2 J1 => (if r5 = l2 then (rg (l3 + 1) ∧ (rg (l4 + 1) ∧ (k23 (l3 + 1) (l4 + 1) I2 J1))) else (rg (l3 + 0) ∧ (rg (l4 + 1) ∧ (k23 (l3 + 0) (l4 + 1) I2 J1)))))))))))))
def p12_orders_b23 (l1 : Int) (l2 : Int) (Q : Int → mI → mI → Prop) : Nat → Int → Int → mI → mI → Prop
  | 0 => fun _ _ _ _ => False
  | f + 1 => fun l3 l4 I J => p12_orders_b23_body l1 l2 Q (p12_orders_b23 l1 l2 Q f) l3 l4 I J
set_option maxRecDepth 20000 in
theorem w12_orders_b23_body {C : wX} {ad : Nat → Nat} {n : Nat} {I J : mI} {R : mR} {Q : Int → mI → mI → Prop} (hC : wOK C cX12_orders 5 RX12) (hRm : wRm C 7 165 0 0) (hE : wEnd C (some .int) ad n (fun r I' J' R' => (R' = R) ∧ Q r I' J')) (hRF : RF R) {l1 : Int} {l2 : Int} {l3 : Int} {l4 : Int}     {k23 : Int → Int → mI → mI → Prop} (kk23 : ∀ (y3 : Int) (y4 : Int) (I' : mI) (J' : mI), k23 y3 y4 I' J' → WM C ad n I' J' R 0 0 23 [(0, vr 159), (1, vi l1), (2, vi l2), (3, vi y3), (4, vi y4)] []) (hw : p12_orders_b23_body l1 l2 Q k23 l3 l4 I J) : WM C ad n I J R 0 0 23 [(0, vr 159), (1, vi l1), (2, vi l2), (3, vi l3), (4, vi l4)] [] := by
  unfold p12_orders_b23_body at hw
  refine wm_iload hC 4 dX12_orders_23 rfl ?_
  refine wm_aload_n hC 0 dX12_orders_25 rfl (k_ne0 kk_159 (by decide)) ?_
  refine y_callV_i_n hC hRm noS ml_X12_535 kk_159 (c12_rowsOf hRF  hw) (Nat.le_of_ble_eq_true rfl) (Nat.le_of_ble_eq_true rfl) ⟨Nat.zero_le _, Nat.zero_le _⟩ rfl (st := [vi l4]) rfl (Nat.le_of_ble_eq_true rfl) dX12_orders_26 (fun r3 hw => ?_)
  refine wm_icmp_ge (tgt := 66) hC dX12_orders_29 (by decide) hw (fun hw => ?_) (fun hw => ?_)
  · refine wm_iload_n hC 3 dX12_orders_66 rfl ?_
    exact wm_ireturn hC hE dX12_orders_67 ⟨rfl, hw⟩
  · refine wm_aload_n hC 0 dX12_orders_32 rfl (k_ne0 kk_159 (by decide)) ?_
    refine wm_iload hC 4 dX12_orders_33 rfl ?_
    refine y_callV_v_I hC hRm noS ml_X12_538 kk_159 (c12_laysOrder hRF  hw) (Nat.le_of_ble_eq_true rfl) (Nat.le_of_ble_eq_true rfl) ⟨Nat.zero_le _, Nat.zero_le _⟩ rfl (st := []) rfl (Nat.le_of_ble_eq_true rfl) dX12_orders_35 (fun I1 hw => ?_)
    refine wm_iload_n hC 3 dX12_orders_38 rfl ?_
    refine wm_aload_n hC 0 dX12_orders_39 rfl (k_ne0 kk_159 (by decide)) ?_
    refine wm_iconst hC dX12_orders_40 (k := ?_)
    refine wm_iload_n hC 1 dX12_orders_41 rfl ?_
    refine wm_aload_n hC 0 dX12_orders_42 rfl (k_ne0 kk_159 (by decide)) ?_
    refine y_callV_i_n hC hRm noS ml_X12_487 kk_159 (c12_everybody hRF  hw) (Nat.le_of_ble_eq_true rfl) (Nat.le_of_ble_eq_true rfl) ⟨Nat.zero_le _, Nat.zero_le _⟩ rfl (st := [vi l1, vi 0, vr 159, vi l3]) rfl (Nat.le_of_ble_eq_true rfl) dX12_orders_43 (fun r4 hw => ?_)
    refine y_callV_i_IJ hC hRm noS ml_X12_479 kk_159 (c12_chosen hRF  hw) (Nat.le_of_ble_eq_true rfl) (Nat.le_of_ble_eq_true rfl) ⟨Nat.zero_le _, Nat.zero_le _⟩ rfl (st := [vi l3]) rfl (Nat.le_of_ble_eq_true rfl) dX12_orders_46 (fun r5 I2 J1 hw => ?_)
    refine wm_iload_n hC 2 dX12_orders_49 rfl ?_
    refine wm_icmp_ne (tgt := 57) hC dX12_orders_50 (by decide) hw (fun hw => ?_) (fun hw => ?_)
    · refine wm_iconst hC dX12_orders_53 (k := ?_)
      refine wm_goto (tgt := 58) hC dX12_orders_54 (by decide) ?_
      refine x_iadd hC dX12_orders_58 hw (fun hw => ?_)
      refine wm_istore_n hC dX12_orders_59 (by decide) (L2 := [(3, vi (l3 + 1)), (0, vr 159), (1, vi l1), (2, vi l2), (4, vi l4)]) rfl ?_
      refine x_iinc hC 4 dX12_orders_60 rfl (by decide) (L2 := [(4, vi (l4 + 1)), (3, vi (l3 + 1)), (0, vr 159), (1, vi l1), (2, vi l2)]) rfl hw (fun hw => ?_)
      refine wm_goto (tgt := 23) hC dX12_orders_63 (by decide) ?_
      refine wm_sub [2, 3, 4, 1, 0] (L2 := [(0, vr 159), (1, vi l1), (2, vi l2), (3, vi (l3 + 1)), (4, vi (l4 + 1))]) rfl ?_
      exact kk23 _ _ _ _ hw
    · refine wm_iconst hC dX12_orders_57 (k := ?_)
      refine x_iadd hC dX12_orders_58 hw (fun hw => ?_)
      refine wm_istore_n hC dX12_orders_59 (by decide) (L2 := [(3, vi (l3 + 0)), (0, vr 159), (1, vi l1), (2, vi l2), (4, vi l4)]) rfl ?_
      refine x_iinc hC 4 dX12_orders_60 rfl (by decide) (L2 := [(4, vi (l4 + 1)), (3, vi (l3 + 0)), (0, vr 159), (1, vi l1), (2, vi l2)]) rfl hw (fun hw => ?_)
      refine wm_goto (tgt := 23) hC dX12_orders_63 (by decide) ?_
      refine wm_sub [2, 3, 4, 1, 0] (L2 := [(0, vr 159), (1, vi l1), (2, vi l2), (3, vi (l3 + 0)), (4, vi (l4 + 1))]) rfl ?_
      exact kk23 _ _ _ _ hw
set_option maxRecDepth 20000 in
theorem w12_orders_b23 {C : wX} {ad : Nat → Nat} {n : Nat} {R : mR} {Q : Int → mI → mI → Prop} (hC : wOK C cX12_orders 5 RX12) (hRm : wRm C 7 165 0 0) (hE : wEnd C (some .int) ad n (fun r I' J' R' => (R' = R) ∧ Q r I' J')) (hRF : RF R) {l1 : Int} {l2 : Int}     : ∀ (f : Nat) (l3 : Int) (l4 : Int) (I : mI) (J : mI), p12_orders_b23 l1 l2 Q f l3 l4 I J → WM C ad n I J R 0 0 23 [(0, vr 159), (1, vi l1), (2, vi l2), (3, vi l3), (4, vi l4)] [] := by
  intro f
  induction f with
  | zero => intro l3 l4 I J hw; exact hw.elim
  | succ f ih => intro l3 l4 I J hw; exact w12_orders_b23_body hC hRm hE hRF  (fun a0 a1 a2 a3 aw => ih a0 a1 a2 a3 aw) hw
def p12_orders (l1 : Int) (l2 : Int) (I : mI) (J : mI) (Q : Int → mI → mI → Prop) : Prop := (p12_isThing l1 I (fun r1 => (if r1 = 0 then (Q (-1) I J) else (p12_isColour l2 I (fun r2 => (if r2 = 0 then (Q (-1) I J) else (∃ f, p12_orders_b23 l1 l2 Q f 0 0 I J)))))))
set_option maxRecDepth 20000 in
theorem c12_orders {ad : Nat → Nat} {n : Nat} {I J : mI} {R : mR} {Q : Int → mI → mI → Prop}  (hRF : RF R) {l1 : Int} {l2 : Int}    (hw : p12_orders l1 l2 I J Q) : wMet yX12_orders cX12_orders 5 (some .int) 7 165 false ad n I J R [vr 159, vi l1, vi l2] (fun r I' J' R' => (R' = R) ∧ Q r I' J') := by
  refine wMet_of (by decide) (Nat.le_of_ble_eq_true rfl) (fun C hC hRm hE hS => ?_)
  refine (show WM C ad n I J R 0 0 0 [(0, vr 159), (1, vi l1), (2, vi l2)] [] from ?_)
  unfold p12_orders at hw
  refine wm_aload_n hC 0 dX12_orders_0 rfl (k_ne0 kk_159 (by decide)) ?_
  refine wm_iload_n hC 1 dX12_orders_1 rfl ?_
  refine y_callV_z_n hC hRm noS ml_X12_513 kk_159 (c12_isThing hRF  hw) (Nat.le_of_ble_eq_true rfl) (Nat.le_of_ble_eq_true rfl) ⟨Nat.zero_le _, Nat.zero_le _⟩ rfl (st := []) rfl (Nat.le_of_ble_eq_true rfl) dX12_orders_2 (fun r1 hw => ?_)
  refine wm_if_eq (tgt := 16) hC dX12_orders_5 (by decide) hw (fun hw => ?_) (fun hw => ?_)
  · refine wm_iconst hC dX12_orders_16 (k := ?_)
    exact wm_ireturn hC hE dX12_orders_17 ⟨rfl, hw⟩
  · refine wm_aload_n hC 0 dX12_orders_8 rfl (k_ne0 kk_159 (by decide)) ?_
    refine wm_iload_n hC 2 dX12_orders_9 rfl ?_
    refine y_callV_z_n hC hRm noS ml_X12_510 kk_159 (c12_isColour hRF  hw) (Nat.le_of_ble_eq_true rfl) (Nat.le_of_ble_eq_true rfl) ⟨Nat.zero_le _, Nat.zero_le _⟩ rfl (st := []) rfl (Nat.le_of_ble_eq_true rfl) dX12_orders_10 (fun r2 hw => ?_)
    refine wm_if_ne (tgt := 18) hC dX12_orders_13 (by decide) hw (fun hw => ?_) (fun hw => ?_)
    · refine wm_iconst hC dX12_orders_16 (k := ?_)
      exact wm_ireturn hC hE dX12_orders_17 ⟨rfl, hw⟩
    · refine wm_iconst hC dX12_orders_18 (k := ?_)
      refine wm_istore_n hC dX12_orders_19 (by decide) (L2 := [(3, vi 0), (0, vr 159), (1, vi l1), (2, vi l2)]) rfl ?_
      refine wm_iconst hC dX12_orders_20 (k := ?_)
      refine wm_istore hC dX12_orders_21 (by decide) (L2 := [(4, vi 0), (3, vi 0), (0, vr 159), (1, vi l1), (2, vi l2)]) rfl ?_
      obtain ⟨f, hw⟩ := hw
      refine wm_sub [2, 3, 4, 1, 0] (L2 := [(0, vr 159), (1, vi l1), (2, vi l2), (3, vi 0), (4, vi 0)]) rfl ?_
      exact w12_orders_b23 hC hRm hE hRF  f _ _ _ _ hw
def p12_paint_b31 (I : mI) (Q : Int → mI → Prop) : Prop := (p12_refuses 3 I (fun r3 I3 => (if r3 < 0 then (Q 0 I3) else (Q 1 I3))))
set_option maxRecDepth 20000 in
theorem w12_paint_b31 {C : wX} {ad : Nat → Nat} {n : Nat} {I J : mI} {R : mR} {Q : Int → mI → Prop} (hC : wOK C cX12_paint 3 RX12) (hRm : wRm C 3 55 0 0) (hE : wEnd C (some .boolean) ad n (fun r I' J' R' => (J' = J ∧ R' = R) ∧ Q r I')) (hRF : RF R)      (hw : p12_paint_b31 I Q) : WM C ad n I J R 0 0 31 [(0, vr 159)] [] := by
  unfold p12_paint_b31 at hw
  refine wm_aload_n hC 0 dX12_paint_31 rfl (k_ne0 kk_159 (by decide)) ?_
  refine wm_iconst hC dX12_paint_32 (k := ?_)
  refine y_callV_i_I hC hRm noS ml_X12_222 kk_159 (c12_refuses hRF  hw) (Nat.le_of_ble_eq_true rfl) (Nat.le_of_ble_eq_true rfl) ⟨Nat.zero_le _, Nat.zero_le _⟩ rfl (st := []) rfl (Nat.le_of_ble_eq_true rfl) dX12_paint_33 (fun r3 I3 hw => ?_)
  refine wm_if_lt (tgt := 43) hC dX12_paint_36 (by decide) hw (fun hw => ?_) (fun hw => ?_)
  · refine wm_iconst hC dX12_paint_43 (k := ?_)
    exact wm_zreturn hC hE (Or.inl rfl) dX12_paint_44 ⟨⟨rfl, rfl⟩, hw⟩
  · refine wm_iconst hC dX12_paint_39 (k := ?_)
    refine wm_goto (tgt := 44) hC dX12_paint_40 (by decide) ?_
    exact wm_zreturn hC hE (Or.inr rfl) dX12_paint_44 ⟨⟨rfl, rfl⟩, hw⟩
def p12_paint_b21 (l1 : Int) (l2 : Int) (I : mI) (Q : Int → mI → Prop) : Prop := (((0 : Int) ≤ l1 ∧ l1 < (132 : Int)) ∧ (if (I 189 l1) = l2 then (p12_paint_b31 I Q) else (p12_keeps I (fun I1 => (((0 : Int) ≤ l1 ∧ l1 < (132 : Int)) ∧ wLet (up I1 189 l1 l2) (fun I2 => (Q 1 I2)))))))
set_option maxRecDepth 20000 in
theorem w12_paint_b21 {C : wX} {ad : Nat → Nat} {n : Nat} {I J : mI} {R : mR} {Q : Int → mI → Prop} (hC : wOK C cX12_paint 3 RX12) (hRm : wRm C 3 55 0 0) (hE : wEnd C (some .boolean) ad n (fun r I' J' R' => (J' = J ∧ R' = R) ∧ Q r I')) (hRF : RF R) {l1 : Int} {l2 : Int}     (hw : p12_paint_b21 l1 l2 I Q) : WM C ad n I J R 0 0 21 [(0, vr 159), (1, vi l1), (2, vi l2)] [] := by
  unfold p12_paint_b21 at hw
  refine wm_aload_n hC 0 dX12_paint_21 rfl (k_ne0 kk_159 (by decide)) ?_
  refine x_getR3 hC 49 fl_X12_162 rfl kk_159 (rf_159_49 hRF) dX12_paint_22 ?_
  refine wm_iload_n hC 1 dX12_paint_25 rfl ?_
  refine x_iald2 hC kk_189 kn_189 dX12_paint_26 hw (fun hw => ?_)
  refine wm_iload_n hC 2 dX12_paint_27 rfl ?_
  refine wm_icmp_ne (tgt := 45) hC dX12_paint_28 (by decide) hw (fun hw => ?_) (fun hw => ?_)
  · refine wm_sub [0] (L2 := [(0, vr 159)]) rfl ?_
    exact w12_paint_b31 hC hRm hE hRF  hw
  · refine wm_aload_n hC 0 dX12_paint_45 rfl (k_ne0 kk_159 (by decide)) ?_
    refine y_callV_v_I hC hRm noS ml_X12_554 kk_159 (c12_keeps hRF  hw) (Nat.le_of_ble_eq_true rfl) (Nat.le_of_ble_eq_true rfl) ⟨Nat.zero_le _, Nat.zero_le _⟩ rfl (st := []) rfl (Nat.le_of_ble_eq_true rfl) dX12_paint_46 (fun I1 hw => ?_)
    refine wm_aload_n hC 0 dX12_paint_49 rfl (k_ne0 kk_159 (by decide)) ?_
    refine x_getR3 hC 49 fl_X12_162 rfl kk_159 (rf_159_49 hRF) dX12_paint_50 ?_
    refine wm_iload_n hC 1 dX12_paint_53 rfl ?_
    refine wm_iload_n hC 2 dX12_paint_54 rfl ?_
    refine x_iast2 hC kk_189 kn_189 dX12_paint_55 hw (fun I2 hw => ?_)
    refine wm_iconst hC dX12_paint_56 (k := ?_)
    exact wm_zreturn hC hE (Or.inr rfl) dX12_paint_57 ⟨⟨rfl, rfl⟩, hw⟩
def p12_paint (l1 : Int) (l2 : Int) (I : mI) (Q : Int → mI → Prop) : Prop := (p12_isThing l1 I (fun r1 => (if r1 = 0 then (p12_paint_b31 I Q) else (if l2 = (-1) then (p12_paint_b21 l1 l2 I Q) else (p12_isColour l2 I (fun r2 => (if r2 = 0 then (p12_paint_b31 I Q) else (p12_paint_b21 l1 l2 I Q))))))))
set_option maxRecDepth 20000 in
theorem c12_paint {ad : Nat → Nat} {n : Nat} {I J : mI} {R : mR} {Q : Int → mI → Prop}  (hRF : RF R) {l1 : Int} {l2 : Int}    (hw : p12_paint l1 l2 I Q) : wMet yX12_paint cX12_paint 3 (some .boolean) 3 55 false ad n I J R [vr 159, vi l1, vi l2] (fun r I' J' R' => (J' = J ∧ R' = R) ∧ Q r I') := by
  refine wMet_of (by decide) (Nat.le_of_ble_eq_true rfl) (fun C hC hRm hE hS => ?_)
  refine (show WM C ad n I J R 0 0 0 [(0, vr 159), (1, vi l1), (2, vi l2)] [] from ?_)
  unfold p12_paint at hw
  refine wm_aload_n hC 0 dX12_paint_0 rfl (k_ne0 kk_159 (by decide)) ?_
  refine wm_iload_n hC 1 dX12_paint_1 rfl ?_
  refine y_callV_z_n hC hRm noS ml_X12_513 kk_159 (c12_isThing hRF  hw) (Nat.le_of_ble_eq_true rfl) (Nat.le_of_ble_eq_true rfl) ⟨Nat.zero_le _, Nat.zero_le _⟩ rfl (st := []) rfl (Nat.le_of_ble_eq_true rfl) dX12_paint_2 (fun r1 hw => ?_)
  refine wm_if_eq (tgt := 31) hC dX12_paint_5 (by decide) hw (fun hw => ?_) (fun hw => ?_)
  · refine wm_sub [0] (L2 := [(0, vr 159)]) rfl ?_
    exact w12_paint_b31 hC hRm hE hRF  hw
  · refine wm_iload_n hC 2 dX12_paint_8 rfl ?_
    refine wm_iconst hC dX12_paint_9 (k := ?_)
    refine wm_icmp_eq (tgt := 21) hC dX12_paint_10 (by decide) hw (fun hw => ?_) (fun hw => ?_)
    · exact w12_paint_b21 hC hRm hE hRF  hw
    · refine wm_aload_n hC 0 dX12_paint_13 rfl (k_ne0 kk_159 (by decide)) ?_
      refine wm_iload_n hC 2 dX12_paint_14 rfl ?_
      refine y_callV_z_n hC hRm noS ml_X12_510 kk_159 (c12_isColour hRF  hw) (Nat.le_of_ble_eq_true rfl) (Nat.le_of_ble_eq_true rfl) ⟨Nat.zero_le _, Nat.zero_le _⟩ rfl (st := []) rfl (Nat.le_of_ble_eq_true rfl) dX12_paint_15 (fun r2 hw => ?_)
      refine wm_if_eq (tgt := 31) hC dX12_paint_18 (by decide) hw (fun hw => ?_) (fun hw => ?_)
      · refine wm_sub [0] (L2 := [(0, vr 159)]) rfl ?_
        exact w12_paint_b31 hC hRm hE hRF  hw
      · exact w12_paint_b21 hC hRm hE hRF  hw
def p12_power_b28_body (l1 : Int) (l2 : Int) (Q : Int → mI → mI → Prop) (k28 : Int → Int → mI → mI → Prop) (l3 : Int) (l4 : Int) (I : mI) (J : mI) : Prop := (((0 : Int) ≤ (I 159 13) ∧ (I 159 13) < (2 : Int)) ∧ (if (bShl 1 (I 161 (I 159 13))) ≤ l4 then (Q l3 I J) else (p12_has2 l4 l1 (fun r3 => (if r3 = 0 then (p12_chosen 0 l2 l4 I J (fun r4 I2 J1 => (p12_chosen 0 l2 (bOr l4 (bShl 1 l1)) I2 J1 (fun r5 I3 J2 => (if r4 = r5 then (rg (l3 + 0) ∧ (rg (l4 + 1) ∧ (k28 (l3 + 0) (l4 + 1) I3 J2))) else (rg (l3 + 1) ∧ (rg (l4 + 1) ∧ (k28 (l3 + 1) (l4 + 1) I3 J2)))))))) else (rg (l4 + 1) ∧ (k28 l3 (l4 + 1) I J)))))))
def p12_power_b28 (l1 : Int) (l2 : Int) (Q : Int → mI → mI → Prop) : Nat → Int → Int → mI → mI → Prop
  | 0 => fun _ _ _ _ => False
  | f + 1 => fun l3 l4 I J => p12_power_b28_body l1 l2 Q (p12_power_b28 l1 l2 Q f) l3 l4 I J
set_option maxRecDepth 20000 in
theorem w12_power_b28_body {C : wX} {ad : Nat → Nat} {n : Nat} {I J : mI} {R : mR} {Q : Int → mI → mI → Prop} (hC : wOK C cX12_power 6 RX12) (hRm : wRm C 7 165 0 0) (hE : wEnd C (some .int) ad n (fun r I' J' R' => (R' = R) ∧ Q r I' J')) (hRF : RF R) {l1 : Int} {l2 : Int} {l3 : Int} {l4 : Int}     {k28 : Int → Int → mI → mI → Prop} (kk28 : ∀ (y3 : Int) (y4 : Int) (I' : mI) (J' : mI), k28 y3 y4 I' J' → WM C ad n I' J' R 0 0 28 [(0, vr 159), (1, vi l1), (2, vi l2), (3, vi y3), (4, vi y4)] []) (hw : p12_power_b28_body l1 l2 Q k28 l3 l4 I J) : WM C ad n I J R 0 0 28 [(0, vr 159), (1, vi l1), (2, vi l2), (3, vi l3), (4, vi l4)] [] := by
  unfold p12_power_b28_body at hw
  refine wm_iload hC 4 dX12_power_28 rfl ?_
  refine wm_iconst hC dX12_power_30 (k := ?_)
  refine wm_aload_n hC 0 dX12_power_31 rfl (k_ne0 kk_159 (by decide)) ?_
  refine x_getR3 hC 14 fl_X12_54 rfl kk_159 (rf_159_14 hRF) dX12_power_32 ?_
  refine wm_aload_n hC 0 dX12_power_35 rfl (k_ne0 kk_159 (by decide)) ?_
  refine x_getI hC 13 fl_X12_51 rfl kk_159 dX12_power_36 ?_
  refine x_iald2 hC kk_161 kn_161 dX12_power_39 hw (fun hw => ?_)
  refine wm_ishl hC dX12_power_40 ?_
  refine wm_icmp_ge (tgt := 97) hC dX12_power_41 (by decide) hw (fun hw => ?_) (fun hw => ?_)
  · refine wm_iload_n hC 3 dX12_power_97 rfl ?_
    exact wm_ireturn hC hE dX12_power_98 ⟨rfl, hw⟩
  · refine wm_iload hC 4 dX12_power_44 rfl ?_
    refine wm_iload_n hC 1 dX12_power_46 rfl ?_
    refine y_callS_z_n hC hRm noS ml_X12_351 (c12_has2 hRF  hw) (Nat.le_of_ble_eq_true rfl) (Nat.le_of_ble_eq_true rfl) ⟨Nat.zero_le _, Nat.zero_le _⟩ rfl (st := []) rfl (Nat.le_of_ble_eq_true rfl) dX12_power_47 (fun r3 hw => ?_)
    refine wm_if_eq (tgt := 56) hC dX12_power_50 (by decide) hw (fun hw => ?_) (fun hw => ?_)
    · refine wm_aload_n hC 0 dX12_power_56 rfl (k_ne0 kk_159 (by decide)) ?_
      refine wm_iconst hC dX12_power_57 (k := ?_)
      refine wm_iload_n hC 2 dX12_power_58 rfl ?_
      refine wm_iload hC 4 dX12_power_59 rfl ?_
      refine y_callV_i_IJ hC hRm noS ml_X12_479 kk_159 (c12_chosen hRF  hw) (Nat.le_of_ble_eq_true rfl) (Nat.le_of_ble_eq_true rfl) ⟨Nat.zero_le _, Nat.zero_le _⟩ rfl (st := []) rfl (Nat.le_of_ble_eq_true rfl) dX12_power_61 (fun r4 I2 J1 hw => ?_)
      refine wm_istore hC dX12_power_64 (by decide) (L2 := [(5, vi r4), (0, vr 159), (1, vi l1), (2, vi l2), (3, vi l3), (4, vi l4)]) rfl ?_
      refine wm_iload_n hC 4 dX12_power_66 rfl ?_
      refine wm_iload hC 0 dX12_power_67 rfl ?_
      refine wm_aload_n hC 1 dX12_power_69 rfl (k_ne0 kk_159 (by decide)) ?_
      refine wm_iconst hC dX12_power_70 (k := ?_)
      refine wm_iload_n hC 3 dX12_power_71 rfl ?_
      refine wm_iload hC 5 dX12_power_72 rfl ?_
      refine wm_iconst hC dX12_power_74 (k := ?_)
      refine wm_iload_n hC 2 dX12_power_75 rfl ?_
      refine wm_ishl hC dX12_power_76 ?_
      refine wm_ior hC dX12_power_77 ?_
      refine y_callV_i_IJ hC hRm noS ml_X12_479 kk_159 (c12_chosen hRF  hw) (Nat.le_of_ble_eq_true rfl) (Nat.le_of_ble_eq_true rfl) ⟨Nat.zero_le _, Nat.zero_le _⟩ rfl (st := [vi r4, vi l3]) rfl (Nat.le_of_ble_eq_true rfl) dX12_power_78 (fun r5 I3 J2 hw => ?_)
      refine wm_icmp_eq (tgt := 88) hC dX12_power_81 (by decide) hw (fun hw => ?_) (fun hw => ?_)
      · refine wm_iconst hC dX12_power_88 (k := ?_)
        refine x_iadd hC dX12_power_89 hw (fun hw => ?_)
        refine wm_istore_n hC dX12_power_90 (by decide) (L2 := [(3, vi (l3 + 0)), (5, vi r4), (0, vr 159), (1, vi l1), (2, vi l2), (4, vi l4)]) rfl ?_
        refine x_iinc hC 5 dX12_power_91 rfl (by decide) (L2 := [(4, vi (l4 + 1)), (3, vi (l3 + 0)), (5, vi r4), (0, vr 159), (1, vi l1), (2, vi l2)]) rfl hw (fun hw => ?_)
        refine wm_goto (tgt := 28) hC dX12_power_94 (by decide) ?_
        refine wm_sub [3, 4, 5, 1, 0] (L2 := [(0, vr 159), (1, vi l1), (2, vi l2), (3, vi (l3 + 0)), (4, vi (l4 + 1))]) rfl ?_
        exact kk28 _ _ _ _ hw
      · refine wm_iconst hC dX12_power_84 (k := ?_)
        refine wm_goto (tgt := 89) hC dX12_power_85 (by decide) ?_
        refine x_iadd hC dX12_power_89 hw (fun hw => ?_)
        refine wm_istore_n hC dX12_power_90 (by decide) (L2 := [(3, vi (l3 + 1)), (5, vi r4), (0, vr 159), (1, vi l1), (2, vi l2), (4, vi l4)]) rfl ?_
        refine x_iinc hC 5 dX12_power_91 rfl (by decide) (L2 := [(4, vi (l4 + 1)), (3, vi (l3 + 1)), (5, vi r4), (0, vr 159), (1, vi l1), (2, vi l2)]) rfl hw (fun hw => ?_)
        refine wm_goto (tgt := 28) hC dX12_power_94 (by decide) ?_
        refine wm_sub [3, 4, 5, 1, 0] (L2 := [(0, vr 159), (1, vi l1), (2, vi l2), (3, vi (l3 + 1)), (4, vi (l4 + 1))]) rfl ?_
        exact kk28 _ _ _ _ hw
    · refine wm_goto (tgt := 91) hC dX12_power_53 (by decide) ?_
      refine x_iinc hC 4 dX12_power_91 rfl (by decide) (L2 := [(4, vi (l4 + 1)), (0, vr 159), (1, vi l1), (2, vi l2), (3, vi l3)]) rfl hw (fun hw => ?_)
      refine wm_goto (tgt := 28) hC dX12_power_94 (by decide) ?_
      refine wm_sub [1, 2, 3, 4, 0] (L2 := [(0, vr 159), (1, vi l1), (2, vi l2), (3, vi l3), (4, vi (l4 + 1))]) rfl ?_
      exact kk28 _ _ _ _ hw
set_option maxRecDepth 20000 in
theorem w12_power_b28 {C : wX} {ad : Nat → Nat} {n : Nat} {R : mR} {Q : Int → mI → mI → Prop} (hC : wOK C cX12_power 6 RX12) (hRm : wRm C 7 165 0 0) (hE : wEnd C (some .int) ad n (fun r I' J' R' => (R' = R) ∧ Q r I' J')) (hRF : RF R) {l1 : Int} {l2 : Int}     : ∀ (f : Nat) (l3 : Int) (l4 : Int) (I : mI) (J : mI), p12_power_b28 l1 l2 Q f l3 l4 I J → WM C ad n I J R 0 0 28 [(0, vr 159), (1, vi l1), (2, vi l2), (3, vi l3), (4, vi l4)] [] := by
  intro f
  induction f with
  | zero => intro l3 l4 I J hw; exact hw.elim
  | succ f ih => intro l3 l4 I J hw; exact w12_power_b28_body hC hRm hE hRF  (fun a0 a1 a2 a3 aw => ih a0 a1 a2 a3 aw) hw
def p12_power (l1 : Int) (l2 : Int) (I : mI) (J : mI) (Q : Int → mI → mI → Prop) : Prop := (p12_isBlind l1 I (fun r1 => (if r1 = 0 then (Q (-1) I J) else (p12_isThing l2 I (fun r2 => (if r2 = 0 then (Q (-1) I J) else (p12_laysNow 0 I (fun I1 => (∃ f, p12_power_b28 l1 l2 Q f 0 0 I1 J)))))))))
set_option maxRecDepth 20000 in
theorem c12_power {ad : Nat → Nat} {n : Nat} {I J : mI} {R : mR} {Q : Int → mI → mI → Prop}  (hRF : RF R) {l1 : Int} {l2 : Int}    (hw : p12_power l1 l2 I J Q) : wMet yX12_power cX12_power 6 (some .int) 7 165 false ad n I J R [vr 159, vi l1, vi l2] (fun r I' J' R' => (R' = R) ∧ Q r I' J') := by
  refine wMet_of (by decide) (Nat.le_of_ble_eq_true rfl) (fun C hC hRm hE hS => ?_)
  refine (show WM C ad n I J R 0 0 0 [(0, vr 159), (1, vi l1), (2, vi l2)] [] from ?_)
  unfold p12_power at hw
  refine wm_aload_n hC 0 dX12_power_0 rfl (k_ne0 kk_159 (by decide)) ?_
  refine wm_iload_n hC 1 dX12_power_1 rfl ?_
  refine y_callV_z_n hC hRm noS ml_X12_507 kk_159 (c12_isBlind hRF  hw) (Nat.le_of_ble_eq_true rfl) (Nat.le_of_ble_eq_true rfl) ⟨Nat.zero_le _, Nat.zero_le _⟩ rfl (st := []) rfl (Nat.le_of_ble_eq_true rfl) dX12_power_2 (fun r1 hw => ?_)
  refine wm_if_eq (tgt := 16) hC dX12_power_5 (by decide) hw (fun hw => ?_) (fun hw => ?_)
  · refine wm_iconst hC dX12_power_16 (k := ?_)
    exact wm_ireturn hC hE dX12_power_17 ⟨rfl, hw⟩
  · refine wm_aload_n hC 0 dX12_power_8 rfl (k_ne0 kk_159 (by decide)) ?_
    refine wm_iload_n hC 2 dX12_power_9 rfl ?_
    refine y_callV_z_n hC hRm noS ml_X12_513 kk_159 (c12_isThing hRF  hw) (Nat.le_of_ble_eq_true rfl) (Nat.le_of_ble_eq_true rfl) ⟨Nat.zero_le _, Nat.zero_le _⟩ rfl (st := []) rfl (Nat.le_of_ble_eq_true rfl) dX12_power_10 (fun r2 hw => ?_)
    refine wm_if_ne (tgt := 18) hC dX12_power_13 (by decide) hw (fun hw => ?_) (fun hw => ?_)
    · refine wm_iconst hC dX12_power_16 (k := ?_)
      exact wm_ireturn hC hE dX12_power_17 ⟨rfl, hw⟩
    · refine wm_aload_n hC 0 dX12_power_18 rfl (k_ne0 kk_159 (by decide)) ?_
      refine wm_iconst hC dX12_power_19 (k := ?_)
      refine y_callV_v_I hC hRm noS ml_X12_476 kk_159 (c12_laysNow hRF  hw) (Nat.le_of_ble_eq_true rfl) (Nat.le_of_ble_eq_true rfl) ⟨Nat.zero_le _, Nat.zero_le _⟩ rfl (st := []) rfl (Nat.le_of_ble_eq_true rfl) dX12_power_20 (fun I1 hw => ?_)
      refine wm_iconst hC dX12_power_23 (k := ?_)
      refine wm_istore_n hC dX12_power_24 (by decide) (L2 := [(3, vi 0), (0, vr 159), (1, vi l1), (2, vi l2)]) rfl ?_
      refine wm_iconst hC dX12_power_25 (k := ?_)
      refine wm_istore hC dX12_power_26 (by decide) (L2 := [(4, vi 0), (3, vi 0), (0, vr 159), (1, vi l1), (2, vi l2)]) rfl ?_
      obtain ⟨f, hw⟩ := hw
      refine wm_sub [2, 3, 4, 1, 0] (L2 := [(0, vr 159), (1, vi l1), (2, vi l2), (3, vi 0), (4, vi 0)]) rfl ?_
      exact w12_power_b28 hC hRm hE hRF  f _ _ _ _ hw
def p12_purse (l1 : Int) (I : mI) (J : mI) (Q : Int → mI → mI → Prop) : Prop := (p12_isAhead l1 0 40 I (fun r1 => (if r1 = 0 then (Q (-1) I J) else (p12_copies 1 0 I (fun I1 => (p12_runsOn l1 I1 J (fun I2 J1 => (Q (I2 186 1) I2 J1))))))))
set_option maxRecDepth 20000 in
theorem c12_purse {ad : Nat → Nat} {n : Nat} {I J : mI} {R : mR} {Q : Int → mI → mI → Prop}  (hRF : RF R) {l1 : Int}   (hw : p12_purse l1 I J Q) : wMet yX12_purse cX12_purse 2 (some .int) 10 236 false ad n I J R [vr 159, vi l1] (fun r I' J' R' => (R' = R) ∧ Q r I' J') := by
  refine wMet_of (by decide) (Nat.le_of_ble_eq_true rfl) (fun C hC hRm hE hS => ?_)
  refine (show WM C ad n I J R 0 0 0 [(0, vr 159), (1, vi l1)] [] from ?_)
  unfold p12_purse at hw
  refine wm_aload_n hC 0 dX12_purse_0 rfl (k_ne0 kk_159 (by decide)) ?_
  refine wm_iload_n hC 1 dX12_purse_1 rfl ?_
  refine wm_iconst hC dX12_purse_2 (k := ?_)
  refine wm_bipush hC dX12_purse_3 (k := ?_)
  refine y_callV_z_n hC hRm noS ml_X12_529 kk_159 (c12_isAhead hRF  hw) (Nat.le_of_ble_eq_true rfl) (Nat.le_of_ble_eq_true rfl) ⟨Nat.zero_le _, Nat.zero_le _⟩ rfl (st := []) rfl (Nat.le_of_ble_eq_true rfl) dX12_purse_5 (fun r1 hw => ?_)
  refine wm_if_ne (tgt := 13) hC dX12_purse_8 (by decide) hw (fun hw => ?_) (fun hw => ?_)
  · refine wm_iconst hC dX12_purse_11 (k := ?_)
    exact wm_ireturn hC hE dX12_purse_12 ⟨rfl, hw⟩
  · refine wm_aload_n hC 0 dX12_purse_13 rfl (k_ne0 kk_159 (by decide)) ?_
    refine wm_iconst hC dX12_purse_14 (k := ?_)
    refine wm_iconst hC dX12_purse_15 (k := ?_)
    refine y_callV_v_I hC hRm noS ml_X12_424 kk_159 (c12_copies hRF  hw) (Nat.le_of_ble_eq_true rfl) (Nat.le_of_ble_eq_true rfl) ⟨Nat.zero_le _, Nat.zero_le _⟩ rfl (st := []) rfl (Nat.le_of_ble_eq_true rfl) dX12_purse_16 (fun I1 hw => ?_)
    refine wm_aload_n hC 0 dX12_purse_19 rfl (k_ne0 kk_159 (by decide)) ?_
    refine wm_iload_n hC 1 dX12_purse_20 rfl ?_
    refine y_callV_v_IJ hC hRm noS ml_X12_532 kk_159 (c12_runsOn hRF  hw) (Nat.le_of_ble_eq_true rfl) (Nat.le_of_ble_eq_true rfl) ⟨Nat.zero_le _, Nat.zero_le _⟩ rfl (st := []) rfl (Nat.le_of_ble_eq_true rfl) dX12_purse_21 (fun I2 J1 hw => ?_)
    refine wm_aload_n hC 0 dX12_purse_24 rfl (k_ne0 kk_159 (by decide)) ?_
    refine x_getR3 hC 46 fl_X12_153 rfl kk_159 (rf_159_46 hRF) dX12_purse_25 ?_
    refine wm_iconst hC dX12_purse_28 (k := ?_)
    refine x_ialdK hC kk_186 kn_186 (by decide) (by decide) dX12_purse_29 ?_
    exact wm_ireturn hC hE dX12_purse_30 ⟨rfl, hw⟩
def p12_score (l1 : Int) (l2 : Int) (l3 : Int) (I : mI) (J : mI) (Q : Int → mI → mI → Prop) : Prop := (p12_isBlind l1 I (fun r1 => (if r1 = 0 then (Q (-1000000000000000) I J) else (p12_isThing l2 I (fun r2 => (if r2 = 0 then (Q (-1000000000000000) I J) else (p12_isColour l3 I (fun r3 => (if r3 = 0 then (Q (-1000000000000000) I J) else (p12_scoreOf 0 l1 l2 l3 0 I J (fun r4 I1 J1 => (Q r4 I1 J1))))))))))))
set_option maxRecDepth 20000 in
theorem c12_score {ad : Nat → Nat} {n : Nat} {I J : mI} {R : mR} {Q : Int → mI → mI → Prop}  (hRF : RF R) {l1 : Int} {l2 : Int} {l3 : Int}     (hw : p12_score l1 l2 l3 I J Q) : wMet yX12_score cX12_score 4 (some .long) 5 111 false ad n I J R [vr 159, vi l1, vi l2, vi l3] (fun r I' J' R' => (R' = R) ∧ Q r I' J') := by
  refine wMet_of (by decide) (Nat.le_of_ble_eq_true rfl) (fun C hC hRm hE hS => ?_)
  refine (show WM C ad n I J R 0 0 0 [(0, vr 159), (1, vi l1), (2, vi l2), (3, vi l3)] [] from ?_)
  unfold p12_score at hw
  refine wm_aload_n hC 0 dX12_score_0 rfl (k_ne0 kk_159 (by decide)) ?_
  refine wm_iload_n hC 1 dX12_score_1 rfl ?_
  refine y_callV_z_n hC hRm noS ml_X12_507 kk_159 (c12_isBlind hRF  hw) (Nat.le_of_ble_eq_true rfl) (Nat.le_of_ble_eq_true rfl) ⟨Nat.zero_le _, Nat.zero_le _⟩ rfl (st := []) rfl (Nat.le_of_ble_eq_true rfl) dX12_score_2 (fun r1 hw => ?_)
  refine wm_if_eq (tgt := 36) hC dX12_score_5 (by decide) hw (fun hw => ?_) (fun hw => ?_)
  · refine wm_ldc2 hC (x := (-1000000000000000)) tc_X12_524 rfl dX12_score_36 (k := ?_)
    exact wm_lreturn hC hE dX12_score_39 ⟨rfl, hw⟩
  · refine wm_aload_n hC 0 dX12_score_8 rfl (k_ne0 kk_159 (by decide)) ?_
    refine wm_iload_n hC 2 dX12_score_9 rfl ?_
    refine y_callV_z_n hC hRm noS ml_X12_513 kk_159 (c12_isThing hRF  hw) (Nat.le_of_ble_eq_true rfl) (Nat.le_of_ble_eq_true rfl) ⟨Nat.zero_le _, Nat.zero_le _⟩ rfl (st := []) rfl (Nat.le_of_ble_eq_true rfl) dX12_score_10 (fun r2 hw => ?_)
    refine wm_if_eq (tgt := 36) hC dX12_score_13 (by decide) hw (fun hw => ?_) (fun hw => ?_)
    · refine wm_ldc2 hC (x := (-1000000000000000)) tc_X12_524 rfl dX12_score_36 (k := ?_)
      exact wm_lreturn hC hE dX12_score_39 ⟨rfl, hw⟩
    · refine wm_aload_n hC 0 dX12_score_16 rfl (k_ne0 kk_159 (by decide)) ?_
      refine wm_iload_n hC 3 dX12_score_17 rfl ?_
      refine y_callV_z_n hC hRm noS ml_X12_510 kk_159 (c12_isColour hRF  hw) (Nat.le_of_ble_eq_true rfl) (Nat.le_of_ble_eq_true rfl) ⟨Nat.zero_le _, Nat.zero_le _⟩ rfl (st := []) rfl (Nat.le_of_ble_eq_true rfl) dX12_score_18 (fun r3 hw => ?_)
      refine wm_if_eq (tgt := 36) hC dX12_score_21 (by decide) hw (fun hw => ?_) (fun hw => ?_)
      · refine wm_ldc2 hC (x := (-1000000000000000)) tc_X12_524 rfl dX12_score_36 (k := ?_)
        exact wm_lreturn hC hE dX12_score_39 ⟨rfl, hw⟩
      · refine wm_aload_n hC 0 dX12_score_24 rfl (k_ne0 kk_159 (by decide)) ?_
        refine wm_iconst hC dX12_score_25 (k := ?_)
        refine wm_iload_n hC 1 dX12_score_26 rfl ?_
        refine wm_iload_n hC 2 dX12_score_27 rfl ?_
        refine wm_iload_n hC 3 dX12_score_28 rfl ?_
        refine wm_iconst hC dX12_score_29 (k := ?_)
        refine y_callV_l_IJ hC hRm noS ml_X12_463 kk_159 (c12_scoreOf hRF  hw) (Nat.le_of_ble_eq_true rfl) (Nat.le_of_ble_eq_true rfl) ⟨Nat.zero_le _, Nat.zero_le _⟩ rfl (st := []) rfl (Nat.le_of_ble_eq_true rfl) dX12_score_30 (fun r4 I1 J1 hw => ?_)
        refine wm_goto (tgt := 39) hC dX12_score_33 (by decide) ?_
        exact wm_lreturn hC hE dX12_score_39 ⟨rfl, hw⟩
def p12_seed (l1 : Int) (I : mI) (J : mI) (Q : Int → mI → mI → Prop) : Prop := (if (0 : Int) ≤ l1 then (wLet (up J 159 54 l1) (fun J1 => (Q 1 I J1))) else (p12_refuses 5 I (fun r1 I1 => (if r1 < 0 then (Q 0 I1 J) else (Q 1 I1 J)))))
set_option maxRecDepth 20000 in
theorem c12_seed {ad : Nat → Nat} {n : Nat} {I J : mI} {R : mR} {Q : Int → mI → mI → Prop}  (hRF : RF R) {l1 : Int}   (hw : p12_seed l1 I J Q) : wMet yX12_seed cX12_seed 2 (some .boolean) 2 33 false ad n I J R [vr 159, vi l1] (fun r I' J' R' => (R' = R) ∧ Q r I' J') := by
  refine wMet_of (by decide) (Nat.le_of_ble_eq_true rfl) (fun C hC hRm hE hS => ?_)
  refine (show WM C ad n I J R 0 0 0 [(0, vr 159), (1, vi l1)] [] from ?_)
  unfold p12_seed at hw
  refine wm_iload_n hC 1 dX12_seed_0 rfl ?_
  refine wm_if_ge (tgt := 18) hC dX12_seed_1 (by decide) hw (fun hw => ?_) (fun hw => ?_)
  · refine wm_aload_n hC 0 dX12_seed_18 rfl (k_ne0 kk_159 (by decide)) ?_
    refine wm_iload_n hC 1 dX12_seed_19 rfl ?_
    refine wm_i2l hC dX12_seed_20 ?_
    refine x_putJ hC 54 fl_X12_177 rfl kk_159 dX12_seed_21 hw (fun J1 hw => ?_)
    refine wm_iconst hC dX12_seed_24 (k := ?_)
    exact wm_zreturn hC hE (Or.inr rfl) dX12_seed_25 ⟨rfl, hw⟩
  · refine wm_aload_n hC 0 dX12_seed_4 rfl (k_ne0 kk_159 (by decide)) ?_
    refine wm_iconst hC dX12_seed_5 (k := ?_)
    refine y_callV_i_I hC hRm noS ml_X12_222 kk_159 (c12_refuses hRF  hw) (Nat.le_of_ble_eq_true rfl) (Nat.le_of_ble_eq_true rfl) ⟨Nat.zero_le _, Nat.zero_le _⟩ rfl (st := []) rfl (Nat.le_of_ble_eq_true rfl) dX12_seed_6 (fun r1 I1 hw => ?_)
    refine wm_if_lt (tgt := 16) hC dX12_seed_9 (by decide) hw (fun hw => ?_) (fun hw => ?_)
    · refine wm_iconst hC dX12_seed_16 (k := ?_)
      exact wm_zreturn hC hE (Or.inl rfl) dX12_seed_17 ⟨rfl, hw⟩
    · refine wm_iconst hC dX12_seed_12 (k := ?_)
      refine wm_goto (tgt := 17) hC dX12_seed_13 (by decide) ?_
      exact wm_zreturn hC hE (Or.inr rfl) dX12_seed_17 ⟨rfl, hw⟩
def p12_status (l1 : Int) (I : mI) (Q : Int → Prop) : Prop := (p12_is l1 0 5 (fun r1 => (if r1 = 0 then (Q (-1)) else (((0 : Int) ≤ l1 ∧ l1 < (6 : Int)) ∧ (Q (I 184 l1))))))
set_option maxRecDepth 20000 in
theorem c12_status {ad : Nat → Nat} {n : Nat} {I J : mI} {R : mR} {Q : Int → Prop}  (hRF : RF R) {l1 : Int}   (hw : p12_status l1 I Q) : wMet yX12_status cX12_status 2 (some .int) 2 34 false ad n I J R [vr 159, vi l1] (fun r I' J' R' => (I' = I ∧ J' = J ∧ R' = R) ∧ Q r) := by
  refine wMet_of (by decide) (Nat.le_of_ble_eq_true rfl) (fun C hC hRm hE hS => ?_)
  refine (show WM C ad n I J R 0 0 0 [(0, vr 159), (1, vi l1)] [] from ?_)
  unfold p12_status at hw
  refine wm_iload_n hC 1 dX12_status_0 rfl ?_
  refine wm_iconst hC dX12_status_1 (k := ?_)
  refine wm_iconst hC dX12_status_2 (k := ?_)
  refine y_callS_z_n hC hRm noS ml_X12_309 (c12_is hRF  hw) (Nat.le_of_ble_eq_true rfl) (Nat.le_of_ble_eq_true rfl) ⟨Nat.zero_le _, Nat.zero_le _⟩ rfl (st := []) rfl (Nat.le_of_ble_eq_true rfl) dX12_status_3 (fun r1 hw => ?_)
  refine wm_if_eq (tgt := 18) hC dX12_status_6 (by decide) hw (fun hw => ?_) (fun hw => ?_)
  · refine wm_iconst hC dX12_status_18 (k := ?_)
    exact wm_ireturn hC hE dX12_status_19 ⟨⟨rfl, rfl, rfl⟩, hw⟩
  · refine wm_aload_n hC 0 dX12_status_9 rfl (k_ne0 kk_159 (by decide)) ?_
    refine x_getR3 hC 44 fl_X12_147 rfl kk_159 (rf_159_44 hRF) dX12_status_10 ?_
    refine wm_iload_n hC 1 dX12_status_13 rfl ?_
    refine x_iald2 hC kk_184 kn_184 dX12_status_14 hw (fun hw => ?_)
    refine wm_goto (tgt := 19) hC dX12_status_15 (by decide) ?_
    exact wm_ireturn hC hE dX12_status_19 ⟨⟨rfl, rfl, rfl⟩, hw⟩
def p12_swap_b21 (I : mI) (Q : Int → mI → Prop) : Prop := (p12_refuses 3 I (fun r3 I4 => (if r3 < 0 then (Q 0 I4) else (Q 1 I4))))
set_option maxRecDepth 20000 in
theorem w12_swap_b21 {C : wX} {ad : Nat → Nat} {n : Nat} {I J : mI} {R : mR} {Q : Int → mI → Prop} (hC : wOK C cX12_swap 4 RX12) (hRm : wRm C 3 55 0 0) (hE : wEnd C (some .boolean) ad n (fun r I' J' R' => (J' = J ∧ R' = R) ∧ Q r I')) (hRF : RF R)      (hw : p12_swap_b21 I Q) : WM C ad n I J R 0 0 21 [(0, vr 159)] [] := by
  unfold p12_swap_b21 at hw
  refine wm_aload_n hC 0 dX12_swap_21 rfl (k_ne0 kk_159 (by decide)) ?_
  refine wm_iconst hC dX12_swap_22 (k := ?_)
  refine y_callV_i_I hC hRm noS ml_X12_222 kk_159 (c12_refuses hRF  hw) (Nat.le_of_ble_eq_true rfl) (Nat.le_of_ble_eq_true rfl) ⟨Nat.zero_le _, Nat.zero_le _⟩ rfl (st := []) rfl (Nat.le_of_ble_eq_true rfl) dX12_swap_23 (fun r3 I4 hw => ?_)
  refine wm_if_lt (tgt := 33) hC dX12_swap_26 (by decide) hw (fun hw => ?_) (fun hw => ?_)
  · refine wm_iconst hC dX12_swap_33 (k := ?_)
    exact wm_zreturn hC hE (Or.inl rfl) dX12_swap_34 ⟨⟨rfl, rfl⟩, hw⟩
  · refine wm_iconst hC dX12_swap_29 (k := ?_)
    refine wm_goto (tgt := 34) hC dX12_swap_30 (by decide) ?_
    exact wm_zreturn hC hE (Or.inr rfl) dX12_swap_34 ⟨⟨rfl, rfl⟩, hw⟩
def p12_swap (l1 : Int) (l2 : Int) (I : mI) (Q : Int → mI → Prop) : Prop := (p12_isBlind l1 I (fun r1 => (if r1 = 0 then (p12_swap_b21 I Q) else (p12_isBlind l2 I (fun r2 => (if r2 = 0 then (p12_swap_b21 I Q) else (if l1 = l2 then (p12_swap_b21 I Q) else (p12_keeps I (fun I1 => (((0 : Int) ≤ l1 ∧ l1 < (132 : Int)) ∧ (((0 : Int) ≤ l2 ∧ l2 < (132 : Int)) ∧ (((0 : Int) ≤ l1 ∧ l1 < (132 : Int)) ∧ wLet (up I1 187 l1 (I1 187 l2)) (fun I2 => (((0 : Int) ≤ l2 ∧ l2 < (132 : Int)) ∧ wLet (up I2 187 l2 (I1 187 l1)) (fun I3 => (Q 1 I3))))))))))))))))
set_option maxRecDepth 20000 in
theorem c12_swap {ad : Nat → Nat} {n : Nat} {I J : mI} {R : mR} {Q : Int → mI → Prop}  (hRF : RF R) {l1 : Int} {l2 : Int}    (hw : p12_swap l1 l2 I Q) : wMet yX12_swap cX12_swap 4 (some .boolean) 3 55 false ad n I J R [vr 159, vi l1, vi l2] (fun r I' J' R' => (J' = J ∧ R' = R) ∧ Q r I') := by
  refine wMet_of (by decide) (Nat.le_of_ble_eq_true rfl) (fun C hC hRm hE hS => ?_)
  refine (show WM C ad n I J R 0 0 0 [(0, vr 159), (1, vi l1), (2, vi l2)] [] from ?_)
  unfold p12_swap at hw
  refine wm_aload_n hC 0 dX12_swap_0 rfl (k_ne0 kk_159 (by decide)) ?_
  refine wm_iload_n hC 1 dX12_swap_1 rfl ?_
  refine y_callV_z_n hC hRm noS ml_X12_507 kk_159 (c12_isBlind hRF  hw) (Nat.le_of_ble_eq_true rfl) (Nat.le_of_ble_eq_true rfl) ⟨Nat.zero_le _, Nat.zero_le _⟩ rfl (st := []) rfl (Nat.le_of_ble_eq_true rfl) dX12_swap_2 (fun r1 hw => ?_)
  refine wm_if_eq (tgt := 21) hC dX12_swap_5 (by decide) hw (fun hw => ?_) (fun hw => ?_)
  · refine wm_sub [0] (L2 := [(0, vr 159)]) rfl ?_
    exact w12_swap_b21 hC hRm hE hRF  hw
  · refine wm_aload_n hC 0 dX12_swap_8 rfl (k_ne0 kk_159 (by decide)) ?_
    refine wm_iload_n hC 2 dX12_swap_9 rfl ?_
    refine y_callV_z_n hC hRm noS ml_X12_507 kk_159 (c12_isBlind hRF  hw) (Nat.le_of_ble_eq_true rfl) (Nat.le_of_ble_eq_true rfl) ⟨Nat.zero_le _, Nat.zero_le _⟩ rfl (st := []) rfl (Nat.le_of_ble_eq_true rfl) dX12_swap_10 (fun r2 hw => ?_)
    refine wm_if_eq (tgt := 21) hC dX12_swap_13 (by decide) hw (fun hw => ?_) (fun hw => ?_)
    · refine wm_sub [0] (L2 := [(0, vr 159)]) rfl ?_
      exact w12_swap_b21 hC hRm hE hRF  hw
    · refine wm_iload_n hC 1 dX12_swap_16 rfl ?_
      refine wm_iload_n hC 2 dX12_swap_17 rfl ?_
      refine wm_icmp_ne (tgt := 35) hC dX12_swap_18 (by decide) hw (fun hw => ?_) (fun hw => ?_)
      · refine wm_sub [0] (L2 := [(0, vr 159)]) rfl ?_
        exact w12_swap_b21 hC hRm hE hRF  hw
      · refine wm_aload_n hC 0 dX12_swap_35 rfl (k_ne0 kk_159 (by decide)) ?_
        refine y_callV_v_I hC hRm noS ml_X12_554 kk_159 (c12_keeps hRF  hw) (Nat.le_of_ble_eq_true rfl) (Nat.le_of_ble_eq_true rfl) ⟨Nat.zero_le _, Nat.zero_le _⟩ rfl (st := []) rfl (Nat.le_of_ble_eq_true rfl) dX12_swap_36 (fun I1 hw => ?_)
        refine wm_aload_n hC 0 dX12_swap_39 rfl (k_ne0 kk_159 (by decide)) ?_
        refine x_getR3 hC 47 fl_X12_156 rfl kk_159 (rf_159_47 hRF) dX12_swap_40 ?_
        refine wm_iload_n hC 1 dX12_swap_43 rfl ?_
        refine x_iald2 hC kk_187 kn_187 dX12_swap_44 hw (fun hw => ?_)
        refine wm_istore_n hC dX12_swap_45 (by decide) (L2 := [(3, vi (I1 187 l1)), (0, vr 159), (1, vi l1), (2, vi l2)]) rfl ?_
        refine wm_aload_n hC 1 dX12_swap_46 rfl (k_ne0 kk_159 (by decide)) ?_
        refine x_getR3 hC 47 fl_X12_156 rfl kk_159 (rf_159_47 hRF) dX12_swap_47 ?_
        refine wm_iload_n hC 2 dX12_swap_50 rfl ?_
        refine wm_aload_n hC 1 dX12_swap_51 rfl (k_ne0 kk_159 (by decide)) ?_
        refine x_getR3 hC 47 fl_X12_156 rfl kk_159 (rf_159_47 hRF) dX12_swap_52 ?_
        refine wm_iload_n hC 3 dX12_swap_55 rfl ?_
        refine x_iald2 hC kk_187 kn_187 dX12_swap_56 hw (fun hw => ?_)
        refine x_iast2 hC kk_187 kn_187 dX12_swap_57 hw (fun I2 hw => ?_)
        refine wm_aload_n hC 1 dX12_swap_58 rfl (k_ne0 kk_159 (by decide)) ?_
        refine x_getR3 hC 47 fl_X12_156 rfl kk_159 (rf_159_47 hRF) dX12_swap_59 ?_
        refine wm_iload_n hC 3 dX12_swap_62 rfl ?_
        refine wm_iload_n hC 0 dX12_swap_63 rfl ?_
        refine x_iast2 hC kk_187 kn_187 dX12_swap_64 hw (fun I3 hw => ?_)
        refine wm_iconst hC dX12_swap_65 (k := ?_)
        exact wm_zreturn hC hE (Or.inr rfl) dX12_swap_66 ⟨⟨rfl, rfl⟩, hw⟩
def p12_tasteBits_b97_body (l1 : Int) (l2 : Int) (l3 : Int) (l5 : Int) (I : mI) (J : mI) (k4 : Int → Int → mI → mI → Prop) (k31 : Int → Int → mI → mI → Prop) (Q : Int → mI → mI → Prop) (k97 : Int → Int → Prop) (l4 : Int) (l6 : Int) : Prop := (if (I 159 62) ≤ l6 then (p12_ticks 1 (-1) I J (fun r2 I5 J1 => (rg (l5 + 1) ∧ (k31 l4 (l5 + 1) I5 J1)))) else (((0 : Int) ≤ l6 ∧ l6 < (16 : Int)) ∧ (if (I 199 l6) = l5 then (((0 : Int) ≤ l6 ∧ l6 < (16 : Int)) ∧ (rg (6 + (I 200 l6)) ∧ (((0 : Int) ≤ (6 + (I 200 l6)) ∧ (6 + (I 200 l6)) < (132 : Int)) ∧ (((0 : Int) ≤ l6 ∧ l6 < (16 : Int)) ∧ (if (I 189 (6 + (I 200 l6))) = (I 201 l6) then (rg (l4 + 1) ∧ (rg (l6 + 1) ∧ (k97 (l4 + 1) (l6 + 1)))) else (rg (l4 + 0) ∧ (rg (l6 + 1) ∧ (k97 (l4 + 0) (l6 + 1))))))))) else (rg (l4 + 0) ∧ (rg (l6 + 1) ∧ (k97 (l4 + 0) (l6 + 1)))))))
def p12_tasteBits_b97 (l1 : Int) (l2 : Int) (l3 : Int) (l5 : Int) (I : mI) (J : mI) (k4 : Int → Int → mI → mI → Prop) (k31 : Int → Int → mI → mI → Prop) (Q : Int → mI → mI → Prop) : Nat → Int → Int → Prop
  | 0 => fun _ _ => False
  | f + 1 => fun l4 l6 => p12_tasteBits_b97_body l1 l2 l3 l5 I J k4 k31 Q (p12_tasteBits_b97 l1 l2 l3 l5 I J k4 k31 Q f) l4 l6
set_option maxRecDepth 20000 in
theorem w12_tasteBits_b97_body {C : wX} {ad : Nat → Nat} {n : Nat} {I J : mI} {R : mR} {Q : Int → mI → mI → Prop} (hC : wOK C cX12_tasteBits 7 RX12) (hRm : wRm C 9 214 0 0) (hE : wEnd C (some .int) ad n (fun r I' J' R' => (R' = R) ∧ Q r I' J')) (hRF : RF R) {l1 : Int} {l2 : Int} {l3 : Int} {l5 : Int} {l4 : Int} {l6 : Int}  {k4 : Int → Int → mI → mI → Prop} {k31 : Int → Int → mI → mI → Prop}  (kk4 : ∀ (y2 : Int) (y3 : Int) (I' : mI) (J' : mI), k4 y2 y3 I' J' → WM C ad n I' J' R 0 0 4 [(0, vr 159), (1, vi l1), (2, vi y2), (3, vi y3)] []) (kk31 : ∀ (y4 : Int) (y5 : Int) (I' : mI) (J' : mI), k31 y4 y5 I' J' → WM C ad n I' J' R 0 0 31 [(0, vr 159), (1, vi l1), (2, vi l2), (3, vi l3), (4, vi y4), (5, vi y5)] []) {k97 : Int → Int → Prop} (kk97 : ∀ (y4 : Int) (y6 : Int), k97 y4 y6 → WM C ad n I J R 0 0 97 [(0, vr 159), (1, vi l1), (2, vi l2), (3, vi l3), (4, vi y4), (5, vi l5), (6, vi y6)] []) (hw : p12_tasteBits_b97_body l1 l2 l3 l5 I J k4 k31 Q k97 l4 l6) : WM C ad n I J R 0 0 97 [(0, vr 159), (1, vi l1), (2, vi l2), (3, vi l3), (4, vi l4), (5, vi l5), (6, vi l6)] [] := by
  unfold p12_tasteBits_b97_body at hw
  refine wm_iload hC 6 dX12_tasteBits_97 rfl ?_
  refine wm_aload_n hC 0 dX12_tasteBits_99 rfl (k_ne0 kk_159 (by decide)) ?_
  refine x_getI hC 62 fl_X12_201 rfl kk_159 dX12_tasteBits_100 ?_
  refine wm_icmp_ge (tgt := 159) hC dX12_tasteBits_103 (by decide) hw (fun hw => ?_) (fun hw => ?_)
  · refine wm_aload_n hC 0 dX12_tasteBits_159 rfl (k_ne0 kk_159 (by decide)) ?_
    refine wm_iconst hC dX12_tasteBits_160 (k := ?_)
    refine wm_iconst hC dX12_tasteBits_161 (k := ?_)
    refine y_callV_z_IJ hC hRm noS ml_X12_526 kk_159 (c12_ticks hRF  hw) (Nat.le_of_ble_eq_true rfl) (Nat.le_of_ble_eq_true rfl) ⟨Nat.zero_le _, Nat.zero_le _⟩ rfl (st := []) rfl (Nat.le_of_ble_eq_true rfl) dX12_tasteBits_162 (fun r2 I5 J1 hw => ?_)
    refine wm_pop hC dX12_tasteBits_165 (k := ?_)
    refine x_iinc hC 5 dX12_tasteBits_166 rfl (by decide) (L2 := [(5, vi (l5 + 1)), (0, vr 159), (1, vi l1), (2, vi l2), (3, vi l3), (4, vi l4), (6, vi l6)]) rfl hw (fun hw => ?_)
    refine wm_goto (tgt := 31) hC dX12_tasteBits_169 (by decide) ?_
    refine wm_sub [1, 2, 3, 4, 5, 0] (L2 := [(0, vr 159), (1, vi l1), (2, vi l2), (3, vi l3), (4, vi l4), (5, vi (l5 + 1))]) rfl ?_
    exact kk31 _ _ _ _ hw
  · refine wm_iload hC 4 dX12_tasteBits_106 rfl ?_
    refine wm_aload_n hC 0 dX12_tasteBits_108 rfl (k_ne0 kk_159 (by decide)) ?_
    refine x_getR3 hC 63 fl_X12_204 rfl kk_159 (rf_159_63 hRF) dX12_tasteBits_109 ?_
    refine wm_iload hC 6 dX12_tasteBits_112 rfl ?_
    refine x_iald2 hC kk_199 kn_199 dX12_tasteBits_114 hw (fun hw => ?_)
    refine wm_iload hC 5 dX12_tasteBits_115 rfl ?_
    refine wm_icmp_ne (tgt := 149) hC dX12_tasteBits_117 (by decide) hw (fun hw => ?_) (fun hw => ?_)
    · refine wm_aload_n hC 0 dX12_tasteBits_120 rfl (k_ne0 kk_159 (by decide)) ?_
      refine x_getR3 hC 49 fl_X12_162 rfl kk_159 (rf_159_49 hRF) dX12_tasteBits_121 ?_
      refine wm_bipush hC dX12_tasteBits_124 (k := ?_)
      refine wm_aload_n hC 0 dX12_tasteBits_126 rfl (k_ne0 kk_159 (by decide)) ?_
      refine x_getR3 hC 64 fl_X12_207 rfl kk_159 (rf_159_64 hRF) dX12_tasteBits_127 ?_
      refine wm_iload hC 6 dX12_tasteBits_130 rfl ?_
      refine x_iald2 hC kk_200 kn_200 dX12_tasteBits_132 hw (fun hw => ?_)
      refine x_iadd hC dX12_tasteBits_133 hw (fun hw => ?_)
      refine x_iald2 hC kk_189 kn_189 dX12_tasteBits_134 hw (fun hw => ?_)
      refine wm_aload_n hC 0 dX12_tasteBits_135 rfl (k_ne0 kk_159 (by decide)) ?_
      refine x_getR3 hC 65 fl_X12_210 rfl kk_159 (rf_159_65 hRF) dX12_tasteBits_136 ?_
      refine wm_iload hC 6 dX12_tasteBits_139 rfl ?_
      refine x_iald2 hC kk_201 kn_201 dX12_tasteBits_141 hw (fun hw => ?_)
      refine wm_icmp_ne (tgt := 149) hC dX12_tasteBits_142 (by decide) hw (fun hw => ?_) (fun hw => ?_)
      · refine wm_iconst hC dX12_tasteBits_145 (k := ?_)
        refine wm_goto (tgt := 150) hC dX12_tasteBits_146 (by decide) ?_
        refine x_iadd hC dX12_tasteBits_150 hw (fun hw => ?_)
        refine wm_istore hC dX12_tasteBits_151 (by decide) (L2 := [(4, vi (l4 + 1)), (0, vr 159), (1, vi l1), (2, vi l2), (3, vi l3), (5, vi l5), (6, vi l6)]) rfl ?_
        refine x_iinc hC 6 dX12_tasteBits_153 rfl (by decide) (L2 := [(6, vi (l6 + 1)), (4, vi (l4 + 1)), (0, vr 159), (1, vi l1), (2, vi l2), (3, vi l3), (5, vi l5)]) rfl hw (fun hw => ?_)
        refine wm_goto (tgt := 97) hC dX12_tasteBits_156 (by decide) ?_
        refine wm_sub [2, 3, 4, 5, 1, 6, 0] (L2 := [(0, vr 159), (1, vi l1), (2, vi l2), (3, vi l3), (4, vi (l4 + 1)), (5, vi l5), (6, vi (l6 + 1))]) rfl ?_
        exact kk97 _ _ hw
      · refine wm_iconst hC dX12_tasteBits_149 (k := ?_)
        refine x_iadd hC dX12_tasteBits_150 hw (fun hw => ?_)
        refine wm_istore hC dX12_tasteBits_151 (by decide) (L2 := [(4, vi (l4 + 0)), (0, vr 159), (1, vi l1), (2, vi l2), (3, vi l3), (5, vi l5), (6, vi l6)]) rfl ?_
        refine x_iinc hC 6 dX12_tasteBits_153 rfl (by decide) (L2 := [(6, vi (l6 + 1)), (4, vi (l4 + 0)), (0, vr 159), (1, vi l1), (2, vi l2), (3, vi l3), (5, vi l5)]) rfl hw (fun hw => ?_)
        refine wm_goto (tgt := 97) hC dX12_tasteBits_156 (by decide) ?_
        refine wm_sub [2, 3, 4, 5, 1, 6, 0] (L2 := [(0, vr 159), (1, vi l1), (2, vi l2), (3, vi l3), (4, vi (l4 + 0)), (5, vi l5), (6, vi (l6 + 1))]) rfl ?_
        exact kk97 _ _ hw
    · refine wm_iconst hC dX12_tasteBits_149 (k := ?_)
      refine x_iadd hC dX12_tasteBits_150 hw (fun hw => ?_)
      refine wm_istore hC dX12_tasteBits_151 (by decide) (L2 := [(4, vi (l4 + 0)), (0, vr 159), (1, vi l1), (2, vi l2), (3, vi l3), (5, vi l5), (6, vi l6)]) rfl ?_
      refine x_iinc hC 6 dX12_tasteBits_153 rfl (by decide) (L2 := [(6, vi (l6 + 1)), (4, vi (l4 + 0)), (0, vr 159), (1, vi l1), (2, vi l2), (3, vi l3), (5, vi l5)]) rfl hw (fun hw => ?_)
      refine wm_goto (tgt := 97) hC dX12_tasteBits_156 (by decide) ?_
      refine wm_sub [2, 3, 4, 5, 1, 6, 0] (L2 := [(0, vr 159), (1, vi l1), (2, vi l2), (3, vi l3), (4, vi (l4 + 0)), (5, vi l5), (6, vi (l6 + 1))]) rfl ?_
      exact kk97 _ _ hw
set_option maxRecDepth 20000 in
theorem w12_tasteBits_b97 {C : wX} {ad : Nat → Nat} {n : Nat} {I : mI} {J : mI} {R : mR} {Q : Int → mI → mI → Prop} (hC : wOK C cX12_tasteBits 7 RX12) (hRm : wRm C 9 214 0 0) (hE : wEnd C (some .int) ad n (fun r I' J' R' => (R' = R) ∧ Q r I' J')) (hRF : RF R) {l1 : Int} {l2 : Int} {l3 : Int} {l5 : Int}  {k4 : Int → Int → mI → mI → Prop} {k31 : Int → Int → mI → mI → Prop}  (kk4 : ∀ (y2 : Int) (y3 : Int) (I' : mI) (J' : mI), k4 y2 y3 I' J' → WM C ad n I' J' R 0 0 4 [(0, vr 159), (1, vi l1), (2, vi y2), (3, vi y3)] []) (kk31 : ∀ (y4 : Int) (y5 : Int) (I' : mI) (J' : mI), k31 y4 y5 I' J' → WM C ad n I' J' R 0 0 31 [(0, vr 159), (1, vi l1), (2, vi l2), (3, vi l3), (4, vi y4), (5, vi y5)] []) : ∀ (f : Nat) (l4 : Int) (l6 : Int), p12_tasteBits_b97 l1 l2 l3 l5 I J k4 k31 Q f l4 l6 → WM C ad n I J R 0 0 97 [(0, vr 159), (1, vi l1), (2, vi l2), (3, vi l3), (4, vi l4), (5, vi l5), (6, vi l6)] [] := by
  intro f
  induction f with
  | zero => intro l4 l6 hw; exact hw.elim
  | succ f ih => intro l4 l6 hw; exact w12_tasteBits_b97_body hC hRm hE hRF kk4 kk31 (fun a0 a1 aw => ih a0 a1 aw) hw
def p12_tasteBits_b46_body (l1 : Int) (l2 : Int) (l3 : Int) (l4 : Int) (l5 : Int) (J : mI) (k4 : Int → Int → mI → mI → Prop) (k31 : Int → Int → mI → mI → Prop) (Q : Int → mI → mI → Prop) (k46 : Int → mI → Prop) (l6 : Int) (I : mI) : Prop := (((0 : Int) ≤ (I 159 13) ∧ (I 159 13) < (2 : Int)) ∧ (if (I 167 (I 159 13)) ≤ l6 then (∃ f, p12_tasteBits_b97 l1 l2 l3 l5 I J k4 k31 Q f l4 0) else (rg (31 * l3) ∧ (rg ((31 * l3) + l5) ∧ (rg (6 * ((31 * l3) + l5)) ∧ (rg ((6 * ((31 * l3) + l5)) + l6) ∧ (rg (6 + l6) ∧ (((0 : Int) ≤ (6 + l6) ∧ (6 + l6) < (132 : Int)) ∧ (((0 : Int) ≤ ((6 * ((31 * l3) + l5)) + l6) ∧ ((6 * ((31 * l3) + l5)) + l6) < (1860 : Int)) ∧ wLet (up I 202 ((6 * ((31 * l3) + l5)) + l6) (I 189 (6 + l6))) (fun I4 => (rg (l6 + 1) ∧ (k46 (l6 + 1) I4))))))))))))
def p12_tasteBits_b46 (l1 : Int) (l2 : Int) (l3 : Int) (l4 : Int) (l5 : Int) (J : mI) (k4 : Int → Int → mI → mI → Prop) (k31 : Int → Int → mI → mI → Prop) (Q : Int → mI → mI → Prop) : Nat → Int → mI → Prop
  | 0 => fun _ _ => False
  | f + 1 => fun l6 I => p12_tasteBits_b46_body l1 l2 l3 l4 l5 J k4 k31 Q (p12_tasteBits_b46 l1 l2 l3 l4 l5 J k4 k31 Q f) l6 I
set_option maxRecDepth 20000 in
theorem w12_tasteBits_b46_body {C : wX} {ad : Nat → Nat} {n : Nat} {I J : mI} {R : mR} {Q : Int → mI → mI → Prop} (hC : wOK C cX12_tasteBits 7 RX12) (hRm : wRm C 9 214 0 0) (hE : wEnd C (some .int) ad n (fun r I' J' R' => (R' = R) ∧ Q r I' J')) (hRF : RF R) {l1 : Int} {l2 : Int} {l3 : Int} {l4 : Int} {l5 : Int} {l6 : Int}  {k4 : Int → Int → mI → mI → Prop} {k31 : Int → Int → mI → mI → Prop}  (kk4 : ∀ (y2 : Int) (y3 : Int) (I' : mI) (J' : mI), k4 y2 y3 I' J' → WM C ad n I' J' R 0 0 4 [(0, vr 159), (1, vi l1), (2, vi y2), (3, vi y3)] []) (kk31 : ∀ (y4 : Int) (y5 : Int) (I' : mI) (J' : mI), k31 y4 y5 I' J' → WM C ad n I' J' R 0 0 31 [(0, vr 159), (1, vi l1), (2, vi l2), (3, vi l3), (4, vi y4), (5, vi y5)] []) {k46 : Int → mI → Prop} (kk46 : ∀ (y6 : Int) (I' : mI), k46 y6 I' → WM C ad n I' J R 0 0 46 [(0, vr 159), (1, vi l1), (2, vi l2), (3, vi l3), (4, vi l4), (5, vi l5), (6, vi y6)] []) (hw : p12_tasteBits_b46_body l1 l2 l3 l4 l5 J k4 k31 Q k46 l6 I) : WM C ad n I J R 0 0 46 [(0, vr 159), (1, vi l1), (2, vi l2), (3, vi l3), (4, vi l4), (5, vi l5), (6, vi l6)] [] := by
  unfold p12_tasteBits_b46_body at hw
  refine wm_iload hC 6 dX12_tasteBits_46 rfl ?_
  refine wm_aload_n hC 0 dX12_tasteBits_48 rfl (k_ne0 kk_159 (by decide)) ?_
  refine x_getR3 hC 20 fl_X12_72 rfl kk_159 (rf_159_20 hRF) dX12_tasteBits_49 ?_
  refine wm_aload_n hC 0 dX12_tasteBits_52 rfl (k_ne0 kk_159 (by decide)) ?_
  refine x_getI hC 13 fl_X12_51 rfl kk_159 dX12_tasteBits_53 ?_
  refine x_iald2 hC kk_167 kn_167 dX12_tasteBits_56 hw (fun hw => ?_)
  refine wm_icmp_ge (tgt := 94) hC dX12_tasteBits_57 (by decide) hw (fun hw => ?_) (fun hw => ?_)
  · refine wm_iconst hC dX12_tasteBits_94 (k := ?_)
    refine wm_istore hC dX12_tasteBits_95 (by decide) (L2 := [(6, vi 0), (0, vr 159), (1, vi l1), (2, vi l2), (3, vi l3), (4, vi l4), (5, vi l5)]) rfl ?_
    obtain ⟨f, hw⟩ := hw
    refine wm_sub [1, 2, 3, 4, 5, 6, 0] (L2 := [(0, vr 159), (1, vi l1), (2, vi l2), (3, vi l3), (4, vi l4), (5, vi l5), (6, vi 0)]) rfl ?_
    exact w12_tasteBits_b97 hC hRm hE hRF kk4 kk31 f _ _ hw
  · refine wm_aload_n hC 0 dX12_tasteBits_60 rfl (k_ne0 kk_159 (by decide)) ?_
    refine x_getR3 hC 66 fl_X12_213 rfl kk_159 (rf_159_66 hRF) dX12_tasteBits_61 ?_
    refine wm_bipush hC dX12_tasteBits_64 (k := ?_)
    refine wm_bipush hC dX12_tasteBits_66 (k := ?_)
    refine wm_iload_n hC 3 dX12_tasteBits_68 rfl ?_
    refine x_imul hC dX12_tasteBits_69 hw (fun hw => ?_)
    refine wm_iload hC 5 dX12_tasteBits_70 rfl ?_
    refine x_iadd hC dX12_tasteBits_72 hw (fun hw => ?_)
    refine x_imul hC dX12_tasteBits_73 hw (fun hw => ?_)
    refine wm_iload hC 6 dX12_tasteBits_74 rfl ?_
    refine x_iadd hC dX12_tasteBits_76 hw (fun hw => ?_)
    refine wm_aload_n hC 0 dX12_tasteBits_77 rfl (k_ne0 kk_159 (by decide)) ?_
    refine x_getR3 hC 49 fl_X12_162 rfl kk_159 (rf_159_49 hRF) dX12_tasteBits_78 ?_
    refine wm_bipush hC dX12_tasteBits_81 (k := ?_)
    refine wm_iload hC 6 dX12_tasteBits_83 rfl ?_
    refine x_iadd hC dX12_tasteBits_85 hw (fun hw => ?_)
    refine x_iald2 hC kk_189 kn_189 dX12_tasteBits_86 hw (fun hw => ?_)
    refine x_iast2 hC kk_202 kn_202 dX12_tasteBits_87 hw (fun I4 hw => ?_)
    refine x_iinc hC 6 dX12_tasteBits_88 rfl (by decide) (L2 := [(6, vi (l6 + 1)), (0, vr 159), (1, vi l1), (2, vi l2), (3, vi l3), (4, vi l4), (5, vi l5)]) rfl hw (fun hw => ?_)
    refine wm_goto (tgt := 46) hC dX12_tasteBits_91 (by decide) ?_
    refine wm_sub [1, 2, 3, 4, 5, 6, 0] (L2 := [(0, vr 159), (1, vi l1), (2, vi l2), (3, vi l3), (4, vi l4), (5, vi l5), (6, vi (l6 + 1))]) rfl ?_
    exact kk46 _ _ hw
set_option maxRecDepth 20000 in
theorem w12_tasteBits_b46 {C : wX} {ad : Nat → Nat} {n : Nat} {J : mI} {R : mR} {Q : Int → mI → mI → Prop} (hC : wOK C cX12_tasteBits 7 RX12) (hRm : wRm C 9 214 0 0) (hE : wEnd C (some .int) ad n (fun r I' J' R' => (R' = R) ∧ Q r I' J')) (hRF : RF R) {l1 : Int} {l2 : Int} {l3 : Int} {l4 : Int} {l5 : Int}  {k4 : Int → Int → mI → mI → Prop} {k31 : Int → Int → mI → mI → Prop}  (kk4 : ∀ (y2 : Int) (y3 : Int) (I' : mI) (J' : mI), k4 y2 y3 I' J' → WM C ad n I' J' R 0 0 4 [(0, vr 159), (1, vi l1), (2, vi y2), (3, vi y3)] []) (kk31 : ∀ (y4 : Int) (y5 : Int) (I' : mI) (J' : mI), k31 y4 y5 I' J' → WM C ad n I' J' R 0 0 31 [(0, vr 159), (1, vi l1), (2, vi l2), (3, vi l3), (4, vi y4), (5, vi y5)] []) : ∀ (f : Nat) (l6 : Int) (I : mI), p12_tasteBits_b46 l1 l2 l3 l4 l5 J k4 k31 Q f l6 I → WM C ad n I J R 0 0 46 [(0, vr 159), (1, vi l1), (2, vi l2), (3, vi l3), (4, vi l4), (5, vi l5), (6, vi l6)] [] := by
  intro f
  induction f with
  | zero => intro l6 I hw; exact hw.elim
  | succ f ih => intro l6 I hw; exact w12_tasteBits_b46_body hC hRm hE hRF kk4 kk31 (fun a0 a1 aw => ih a0 a1 aw) hw
def p12_tasteBits_b31_body (l1 : Int) (l2 : Int) (l3 : Int) (k4 : Int → Int → mI → mI → Prop) (Q : Int → mI → mI → Prop) (k31 : Int → Int → mI → mI → Prop) (l4 : Int) (l5 : Int) (I : mI) (J : mI) : Prop := (p12_isAhead l5 0 30 I (fun r1 => (if r1 = 0 then (if l4 = (I 159 62) then (rg (l3 + 1) ∧ (k4 (bOr l2 (bShl 1 l3)) (l3 + 1) I J)) else (rg (l3 + 1) ∧ (k4 (bOr l2 0) (l3 + 1) I J))) else (∃ f, p12_tasteBits_b46 l1 l2 l3 l4 l5 J k4 k31 Q f 0 I))))
def p12_tasteBits_b31 (l1 : Int) (l2 : Int) (l3 : Int) (k4 : Int → Int → mI → mI → Prop) (Q : Int → mI → mI → Prop) : Nat → Int → Int → mI → mI → Prop
  | 0 => fun _ _ _ _ => False
  | f + 1 => fun l4 l5 I J => p12_tasteBits_b31_body l1 l2 l3 k4 Q (p12_tasteBits_b31 l1 l2 l3 k4 Q f) l4 l5 I J
set_option maxRecDepth 20000 in
theorem w12_tasteBits_b31_body {C : wX} {ad : Nat → Nat} {n : Nat} {I J : mI} {R : mR} {Q : Int → mI → mI → Prop} (hC : wOK C cX12_tasteBits 7 RX12) (hRm : wRm C 9 214 0 0) (hE : wEnd C (some .int) ad n (fun r I' J' R' => (R' = R) ∧ Q r I' J')) (hRF : RF R) {l1 : Int} {l2 : Int} {l3 : Int} {l4 : Int} {l5 : Int}  {k4 : Int → Int → mI → mI → Prop}  (kk4 : ∀ (y2 : Int) (y3 : Int) (I' : mI) (J' : mI), k4 y2 y3 I' J' → WM C ad n I' J' R 0 0 4 [(0, vr 159), (1, vi l1), (2, vi y2), (3, vi y3)] []) {k31 : Int → Int → mI → mI → Prop} (kk31 : ∀ (y4 : Int) (y5 : Int) (I' : mI) (J' : mI), k31 y4 y5 I' J' → WM C ad n I' J' R 0 0 31 [(0, vr 159), (1, vi l1), (2, vi l2), (3, vi l3), (4, vi y4), (5, vi y5)] []) (hw : p12_tasteBits_b31_body l1 l2 l3 k4 Q k31 l4 l5 I J) : WM C ad n I J R 0 0 31 [(0, vr 159), (1, vi l1), (2, vi l2), (3, vi l3), (4, vi l4), (5, vi l5)] [] := by
  unfold p12_tasteBits_b31_body at hw
  refine wm_aload_n hC 0 dX12_tasteBits_31 rfl (k_ne0 kk_159 (by decide)) ?_
  refine wm_iload hC 5 dX12_tasteBits_32 rfl ?_
  refine wm_iconst hC dX12_tasteBits_34 (k := ?_)
  refine wm_bipush hC dX12_tasteBits_35 (k := ?_)
  refine y_callV_z_n hC hRm noS ml_X12_529 kk_159 (c12_isAhead hRF  hw) (Nat.le_of_ble_eq_true rfl) (Nat.le_of_ble_eq_true rfl) ⟨Nat.zero_le _, Nat.zero_le _⟩ rfl (st := []) rfl (Nat.le_of_ble_eq_true rfl) dX12_tasteBits_37 (fun r1 hw => ?_)
  refine wm_if_eq (tgt := 172) hC dX12_tasteBits_40 (by decide) hw (fun hw => ?_) (fun hw => ?_)
  · refine wm_iload_n hC 2 dX12_tasteBits_172 rfl ?_
    refine wm_iload hC 4 dX12_tasteBits_173 rfl ?_
    refine wm_aload_n hC 0 dX12_tasteBits_175 rfl (k_ne0 kk_159 (by decide)) ?_
    refine x_getI hC 62 fl_X12_201 rfl kk_159 dX12_tasteBits_176 ?_
    refine wm_icmp_ne (tgt := 188) hC dX12_tasteBits_179 (by decide) hw (fun hw => ?_) (fun hw => ?_)
    · refine wm_iconst hC dX12_tasteBits_182 (k := ?_)
      refine wm_iload_n hC 3 dX12_tasteBits_183 rfl ?_
      refine wm_ishl hC dX12_tasteBits_184 ?_
      refine wm_goto (tgt := 189) hC dX12_tasteBits_185 (by decide) ?_
      refine wm_ior hC dX12_tasteBits_189 ?_
      refine wm_istore_n hC dX12_tasteBits_190 (by decide) (L2 := [(2, vi (bOr l2 (bShl 1 l3))), (0, vr 159), (1, vi l1), (3, vi l3), (4, vi l4), (5, vi l5)]) rfl ?_
      refine x_iinc hC 3 dX12_tasteBits_191 rfl (by decide) (L2 := [(3, vi (l3 + 1)), (2, vi (bOr l2 (bShl 1 l3))), (0, vr 159), (1, vi l1), (4, vi l4), (5, vi l5)]) rfl hw (fun hw => ?_)
      refine wm_goto (tgt := 4) hC dX12_tasteBits_194 (by decide) ?_
      refine wm_sub [2, 3, 1, 0] (L2 := [(0, vr 159), (1, vi l1), (2, vi (bOr l2 (bShl 1 l3))), (3, vi (l3 + 1))]) rfl ?_
      exact kk4 _ _ _ _ hw
    · refine wm_iconst hC dX12_tasteBits_188 (k := ?_)
      refine wm_ior hC dX12_tasteBits_189 ?_
      refine wm_istore_n hC dX12_tasteBits_190 (by decide) (L2 := [(2, vi (bOr l2 0)), (0, vr 159), (1, vi l1), (3, vi l3), (4, vi l4), (5, vi l5)]) rfl ?_
      refine x_iinc hC 3 dX12_tasteBits_191 rfl (by decide) (L2 := [(3, vi (l3 + 1)), (2, vi (bOr l2 0)), (0, vr 159), (1, vi l1), (4, vi l4), (5, vi l5)]) rfl hw (fun hw => ?_)
      refine wm_goto (tgt := 4) hC dX12_tasteBits_194 (by decide) ?_
      refine wm_sub [2, 3, 1, 0] (L2 := [(0, vr 159), (1, vi l1), (2, vi (bOr l2 0)), (3, vi (l3 + 1))]) rfl ?_
      exact kk4 _ _ _ _ hw
  · refine wm_iconst hC dX12_tasteBits_43 (k := ?_)
    refine wm_istore hC dX12_tasteBits_44 (by decide) (L2 := [(6, vi 0), (0, vr 159), (1, vi l1), (2, vi l2), (3, vi l3), (4, vi l4), (5, vi l5)]) rfl ?_
    obtain ⟨f, hw⟩ := hw
    refine wm_sub [1, 2, 3, 4, 5, 6, 0] (L2 := [(0, vr 159), (1, vi l1), (2, vi l2), (3, vi l3), (4, vi l4), (5, vi l5), (6, vi 0)]) rfl ?_
    exact w12_tasteBits_b46 hC hRm hE hRF kk4 kk31 f _ _ hw
set_option maxRecDepth 20000 in
theorem w12_tasteBits_b31 {C : wX} {ad : Nat → Nat} {n : Nat} {R : mR} {Q : Int → mI → mI → Prop} (hC : wOK C cX12_tasteBits 7 RX12) (hRm : wRm C 9 214 0 0) (hE : wEnd C (some .int) ad n (fun r I' J' R' => (R' = R) ∧ Q r I' J')) (hRF : RF R) {l1 : Int} {l2 : Int} {l3 : Int}  {k4 : Int → Int → mI → mI → Prop}  (kk4 : ∀ (y2 : Int) (y3 : Int) (I' : mI) (J' : mI), k4 y2 y3 I' J' → WM C ad n I' J' R 0 0 4 [(0, vr 159), (1, vi l1), (2, vi y2), (3, vi y3)] []) : ∀ (f : Nat) (l4 : Int) (l5 : Int) (I : mI) (J : mI), p12_tasteBits_b31 l1 l2 l3 k4 Q f l4 l5 I J → WM C ad n I J R 0 0 31 [(0, vr 159), (1, vi l1), (2, vi l2), (3, vi l3), (4, vi l4), (5, vi l5)] [] := by
  intro f
  induction f with
  | zero => intro l4 l5 I J hw; exact hw.elim
  | succ f ih => intro l4 l5 I J hw; exact w12_tasteBits_b31_body hC hRm hE hRF kk4 (fun a0 a1 a2 a3 aw => ih a0 a1 a2 a3 aw) hw
def p12_tasteBits_b4_body (l1 : Int) (Q : Int → mI → mI → Prop) (k4 : Int → Int → mI → mI → Prop) (l2 : Int) (l3 : Int) (I : mI) (J : mI) : Prop := (if (9 : Int) < l3 then (rg (3 * l1) ∧ (rg (18 * (I 159 13)) ∧ (rg (3 * l1) ∧ (rg ((18 * (I 159 13)) + (3 * l1)) ∧ (((0 : Int) ≤ ((18 * (I 159 13)) + (3 * l1)) ∧ ((18 * (I 159 13)) + (3 * l1)) < (36 : Int)) ∧ (((0 : Int) ≤ (3 * l1) ∧ (3 * l1) < (18 : Int)) ∧ wLet (up I 192 (3 * l1) (I 162 ((18 * (I 159 13)) + (3 * l1)))) (fun I1 => (Q l2 I1 J)))))))) else (p12_copies 1 0 I (fun I2 => (rg (3 * l1) ∧ (((0 : Int) ≤ (3 * l1) ∧ (3 * l1) < (18 : Int)) ∧ wLet (up I2 192 (3 * l1) l3) (fun I3 => (∃ f, p12_tasteBits_b31 l1 l2 l3 k4 Q f 0 0 I3 J)))))))
def p12_tasteBits_b4 (l1 : Int) (Q : Int → mI → mI → Prop) : Nat → Int → Int → mI → mI → Prop
  | 0 => fun _ _ _ _ => False
  | f + 1 => fun l2 l3 I J => p12_tasteBits_b4_body l1 Q (p12_tasteBits_b4 l1 Q f) l2 l3 I J
set_option maxRecDepth 20000 in
theorem w12_tasteBits_b4_body {C : wX} {ad : Nat → Nat} {n : Nat} {I J : mI} {R : mR} {Q : Int → mI → mI → Prop} (hC : wOK C cX12_tasteBits 7 RX12) (hRm : wRm C 9 214 0 0) (hE : wEnd C (some .int) ad n (fun r I' J' R' => (R' = R) ∧ Q r I' J')) (hRF : RF R) {l1 : Int} {l2 : Int} {l3 : Int}     {k4 : Int → Int → mI → mI → Prop} (kk4 : ∀ (y2 : Int) (y3 : Int) (I' : mI) (J' : mI), k4 y2 y3 I' J' → WM C ad n I' J' R 0 0 4 [(0, vr 159), (1, vi l1), (2, vi y2), (3, vi y3)] []) (hw : p12_tasteBits_b4_body l1 Q k4 l2 l3 I J) : WM C ad n I J R 0 0 4 [(0, vr 159), (1, vi l1), (2, vi l2), (3, vi l3)] [] := by
  unfold p12_tasteBits_b4_body at hw
  refine wm_iload_n hC 3 dX12_tasteBits_4 rfl ?_
  refine wm_bipush hC dX12_tasteBits_5 (k := ?_)
  refine wm_icmp_gt (tgt := 197) hC dX12_tasteBits_7 (by decide) hw (fun hw => ?_) (fun hw => ?_)
  · refine wm_aload_n hC 0 dX12_tasteBits_197 rfl (k_ne0 kk_159 (by decide)) ?_
    refine x_getR3 hC 55 fl_X12_180 rfl kk_159 (rf_159_55 hRF) dX12_tasteBits_198 ?_
    refine wm_iconst hC dX12_tasteBits_201 (k := ?_)
    refine wm_iload_n hC 1 dX12_tasteBits_202 rfl ?_
    refine x_imul hC dX12_tasteBits_203 hw (fun hw => ?_)
    refine wm_aload_n hC 0 dX12_tasteBits_204 rfl (k_ne0 kk_159 (by decide)) ?_
    refine x_getR3 hC 15 fl_X12_57 rfl kk_159 (rf_159_15 hRF) dX12_tasteBits_205 ?_
    refine wm_bipush hC dX12_tasteBits_208 (k := ?_)
    refine wm_aload_n hC 0 dX12_tasteBits_210 rfl (k_ne0 kk_159 (by decide)) ?_
    refine x_getI hC 13 fl_X12_51 rfl kk_159 dX12_tasteBits_211 ?_
    refine x_imul hC dX12_tasteBits_214 hw (fun hw => ?_)
    refine wm_iconst hC dX12_tasteBits_215 (k := ?_)
    refine wm_iload_n hC 1 dX12_tasteBits_216 rfl ?_
    refine x_imul hC dX12_tasteBits_217 hw (fun hw => ?_)
    refine x_iadd hC dX12_tasteBits_218 hw (fun hw => ?_)
    refine x_iald2 hC kk_162 kn_162 dX12_tasteBits_219 hw (fun hw => ?_)
    refine x_iast2 hC kk_192 kn_192 dX12_tasteBits_220 hw (fun I1 hw => ?_)
    refine wm_iload_n hC 2 dX12_tasteBits_221 rfl ?_
    exact wm_ireturn hC hE dX12_tasteBits_222 ⟨rfl, hw⟩
  · refine wm_aload_n hC 0 dX12_tasteBits_10 rfl (k_ne0 kk_159 (by decide)) ?_
    refine wm_iconst hC dX12_tasteBits_11 (k := ?_)
    refine wm_iconst hC dX12_tasteBits_12 (k := ?_)
    refine y_callV_v_I hC hRm noS ml_X12_424 kk_159 (c12_copies hRF  hw) (Nat.le_of_ble_eq_true rfl) (Nat.le_of_ble_eq_true rfl) ⟨Nat.zero_le _, Nat.zero_le _⟩ rfl (st := []) rfl (Nat.le_of_ble_eq_true rfl) dX12_tasteBits_13 (fun I2 hw => ?_)
    refine wm_aload_n hC 0 dX12_tasteBits_16 rfl (k_ne0 kk_159 (by decide)) ?_
    refine x_getR3 hC 55 fl_X12_180 rfl kk_159 (rf_159_55 hRF) dX12_tasteBits_17 ?_
    refine wm_iconst hC dX12_tasteBits_20 (k := ?_)
    refine wm_iload_n hC 1 dX12_tasteBits_21 rfl ?_
    refine x_imul hC dX12_tasteBits_22 hw (fun hw => ?_)
    refine wm_iload_n hC 3 dX12_tasteBits_23 rfl ?_
    refine x_iast2 hC kk_192 kn_192 dX12_tasteBits_24 hw (fun I3 hw => ?_)
    refine wm_iconst hC dX12_tasteBits_25 (k := ?_)
    refine wm_istore hC dX12_tasteBits_26 (by decide) (L2 := [(4, vi 0), (0, vr 159), (1, vi l1), (2, vi l2), (3, vi l3)]) rfl ?_
    refine wm_iconst hC dX12_tasteBits_28 (k := ?_)
    refine wm_istore hC dX12_tasteBits_29 (by decide) (L2 := [(5, vi 0), (4, vi 0), (0, vr 159), (1, vi l1), (2, vi l2), (3, vi l3)]) rfl ?_
    obtain ⟨f, hw⟩ := hw
    refine wm_sub [2, 3, 4, 5, 1, 0] (L2 := [(0, vr 159), (1, vi l1), (2, vi l2), (3, vi l3), (4, vi 0), (5, vi 0)]) rfl ?_
    exact w12_tasteBits_b31 hC hRm hE hRF kk4 f _ _ _ _ hw
set_option maxRecDepth 20000 in
theorem w12_tasteBits_b4 {C : wX} {ad : Nat → Nat} {n : Nat} {R : mR} {Q : Int → mI → mI → Prop} (hC : wOK C cX12_tasteBits 7 RX12) (hRm : wRm C 9 214 0 0) (hE : wEnd C (some .int) ad n (fun r I' J' R' => (R' = R) ∧ Q r I' J')) (hRF : RF R) {l1 : Int}     : ∀ (f : Nat) (l2 : Int) (l3 : Int) (I : mI) (J : mI), p12_tasteBits_b4 l1 Q f l2 l3 I J → WM C ad n I J R 0 0 4 [(0, vr 159), (1, vi l1), (2, vi l2), (3, vi l3)] [] := by
  intro f
  induction f with
  | zero => intro l2 l3 I J hw; exact hw.elim
  | succ f ih => intro l2 l3 I J hw; exact w12_tasteBits_b4_body hC hRm hE hRF  (fun a0 a1 a2 a3 aw => ih a0 a1 a2 a3 aw) hw
def p12_tasteBits (l1 : Int) (I : mI) (J : mI) (Q : Int → mI → mI → Prop) : Prop := (∃ f, p12_tasteBits_b4 l1 Q f 0 0 I J)
set_option maxRecDepth 20000 in
theorem c12_tasteBits {ad : Nat → Nat} {n : Nat} {I J : mI} {R : mR} {Q : Int → mI → mI → Prop}  (hRF : RF R) {l1 : Int}   (hw : p12_tasteBits l1 I J Q) : wMet yX12_tasteBits cX12_tasteBits 7 (some .int) 9 214 false ad n I J R [vr 159, vi l1] (fun r I' J' R' => (R' = R) ∧ Q r I' J') := by
  refine wMet_of (by decide) (Nat.le_of_ble_eq_true rfl) (fun C hC hRm hE hS => ?_)
  refine (show WM C ad n I J R 0 0 0 [(0, vr 159), (1, vi l1)] [] from ?_)
  unfold p12_tasteBits at hw
  refine wm_iconst hC dX12_tasteBits_0 (k := ?_)
  refine wm_istore_n hC dX12_tasteBits_1 (by decide) (L2 := [(2, vi 0), (0, vr 159), (1, vi l1)]) rfl ?_
  refine wm_iconst hC dX12_tasteBits_2 (k := ?_)
  refine wm_istore_n hC dX12_tasteBits_3 (by decide) (L2 := [(3, vi 0), (2, vi 0), (0, vr 159), (1, vi l1)]) rfl ?_
  obtain ⟨f, hw⟩ := hw
  refine wm_sub [2, 3, 1, 0] (L2 := [(0, vr 159), (1, vi l1), (2, vi 0), (3, vi 0)]) rfl ?_
  exact w12_tasteBits_b4 hC hRm hE hRF  f _ _ _ _ hw
