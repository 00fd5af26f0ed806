def P1_suppose (l0 : Nat) (l1 : Int) (l2 : Int) (I : mI) (Q : mI → Prop) : Prop := (wLet (up I l0 8 l1) (fun I1 => (wLet (up I1 l0 9 l2) (fun I2 => (Q I2)))))
set_option maxRecDepth 20000 in
theorem C1_suppose {ad : Nat → Nat} {n : Nat} {I J : mI} {R : mR} {Q : mI → Prop}  {l0 : Nat} {l1 : Int} {l2 : Int} (hk0 : kK l0 = 1) (hw : P1_suppose l0 l1 l2 I Q) : wMet yX1_suppose cX1_suppose 3 none 1 12 false ad n I J R [vr l0, vi l1, vi l2] (fun _ I' J' R' => (J' = J ∧ R' = R) ∧ Q I') := by
  refine wMet_of (by decide) (Nat.le_of_ble_eq_true rfl) (fun C hC hRm hE hS => ?_)
  refine (show WM C ad n I J R 0 0 0 [(0, vr l0), (1, vi l1), (2, vi l2)] [] from ?_)
  unfold P1_suppose at hw
  refine wm_aload_n hC 0 dX1_suppose_0 rfl (k_ne0 hk0 (by decide)) ?_
  refine wm_iload_n hC 1 dX1_suppose_1 rfl ?_
  refine x_putI hC 8 fl_X1_28 rfl hk0 dX1_suppose_2 hw (fun I1 hw => ?_)
  refine wm_aload_n hC 0 dX1_suppose_5 rfl (k_ne0 hk0 (by decide)) ?_
  refine wm_iload_n hC 2 dX1_suppose_6 rfl ?_
  refine x_putI hC 9 fl_X1_31 rfl hk0 dX1_suppose_7 hw (fun I2 hw => ?_)
  exact wm_return hC hE dX1_suppose_10 ⟨⟨rfl, rfl⟩, hw⟩
def P1_votesFor (l0 : Nat) (l1 : Int) (I : mI) (R : mR) (Q : Int → Prop) : Prop := (if l1 < 0 then (Q (-1)) else (kK (R l0 2) = 21 ∧ (if (kN (R l0 2) : Int) ≤ l1 then (Q (-1)) else (kK (R l0 2) = 21 ∧ (((0 : Int) ≤ l1 ∧ l1 < (kN (R l0 2) : Int)) ∧ (Q (I (R l0 2) l1)))))))
set_option maxRecDepth 20000 in
theorem C1_votesFor {ad : Nat → Nat} {n : Nat} {I J : mI} {R : mR} {Q : Int → Prop}  {l0 : Nat} {l1 : Int} (hk0 : kK l0 = 1) (hw : P1_votesFor l0 l1 I R Q) : wMet yX1_votesFor cX1_votesFor 2 (some .int) 1 12 false ad n I J R [vr l0, vi l1] (fun r I' J' R' => (I' = I ∧ J' = J ∧ R' = R) ∧ Q r) := by
  refine wMet_of (by decide) (Nat.le_of_ble_eq_true rfl) (fun C hC hRm hE hS => ?_)
  refine (show WM C ad n I J R 0 0 0 [(0, vr l0), (1, vi l1)] [] from ?_)
  unfold P1_votesFor at hw
  refine wm_iload_n hC 1 dX1_votesFor_0 rfl ?_
  refine wm_if_lt (tgt := 22) hC dX1_votesFor_1 (by decide) hw (fun hw => ?_) (fun hw => ?_)
  · refine wm_iconst hC dX1_votesFor_22 (k := ?_)
    exact wm_ireturn hC hE dX1_votesFor_23 ⟨⟨rfl, rfl, rfl⟩, hw⟩
  · refine wm_iload_n hC 1 dX1_votesFor_4 rfl ?_
    refine wm_aload_n hC 0 dX1_votesFor_5 rfl (k_ne0 hk0 (by decide)) ?_
    refine x_getR2 hC 2 fl_X1_15 rfl hk0 dX1_votesFor_6 hw (fun g1 hw => ?_)
    refine x_alen hC g1 (by decide) dX1_votesFor_9 ?_
    refine wm_icmp_ge (tgt := 22) hC dX1_votesFor_10 (by decide) hw (fun hw => ?_) (fun hw => ?_)
    · refine wm_iconst hC dX1_votesFor_22 (k := ?_)
      exact wm_ireturn hC hE dX1_votesFor_23 ⟨⟨rfl, rfl, rfl⟩, hw⟩
    · refine wm_aload_n hC 0 dX1_votesFor_13 rfl (k_ne0 hk0 (by decide)) ?_
      refine x_getR2 hC 2 fl_X1_15 rfl hk0 dX1_votesFor_14 hw (fun g2 hw => ?_)
      refine wm_iload_n hC 1 dX1_votesFor_17 rfl ?_
      refine x_iald hC g2 dX1_votesFor_18 hw (fun hw => ?_)
      refine wm_goto (tgt := 23) hC dX1_votesFor_19 (by decide) ?_
      exact wm_ireturn hC hE dX1_votesFor_23 ⟨⟨rfl, rfl, rfl⟩, hw⟩
def P1_beginOrders_b4_body (l0 : Nat) (l1 : Nat) (R : mR) (Q : Int → mI → Prop) (k4 : Int → Int → mI → Prop) (l2 : Int) (l3 : Int) (I : mI) : Prop := (if (kN l1 : Int) ≤ l3 then (Q l2 I) else (((0 : Int) ≤ l3 ∧ l3 < (kN l1 : Int)) ∧ wLet (up I l1 l3 l3) (fun I1 => (kK (R l0 4) = 3 ∧ (kK (R (R l0 4) 0) = 21 ∧ (((0 : Int) ≤ (0 : Int) ∧ (0 : Int) < (kN (R (R l0 4) 0) : Int)) ∧ (if (I1 (R (R l0 4) 0) (0 : Int)) ≤ l3 then (rg (l2 * 1) ∧ (rg (l3 + 1) ∧ (k4 (l2 * 1) (l3 + 1) I1))) else (rg (l3 + 1) ∧ (rg (l2 * (l3 + 1)) ∧ (rg (l3 + 1) ∧ (k4 (l2 * (l3 + 1)) (l3 + 1) I1)))))))))))
def P1_beginOrders_b4 (l0 : Nat) (l1 : Nat) (R : mR) (Q : Int → mI → Prop) : Nat → Int → Int → mI → Prop
  | 0 => fun _ _ _ => False
  | f + 1 => fun l2 l3 I => P1_beginOrders_b4_body l0 l1 R Q (P1_beginOrders_b4 l0 l1 R Q f) l2 l3 I
set_option maxRecDepth 20000 in
theorem W1_beginOrders_b4_body {C : wX} {ad : Nat → Nat} {n : Nat} {I J : mI} {R : mR} {Q : Int → mI → Prop} (hC : wOK C cX1_beginOrders 4 RX1) (hRm : wRm C 1 12 0 0) (hE : wEnd C (some .int) ad n (fun r I' J' R' => (J' = J ∧ R' = R) ∧ Q r I')) {l0 : Nat} {l1 : Nat} {l2 : Int} {l3 : Int}   (hk0 : kK l0 = 1) (hk1 : kK l1 = 21)  {k4 : Int → Int → mI → Prop} (kk4 : ∀ (y2 : Int) (y3 : Int) (I' : mI), k4 y2 y3 I' → WM C ad n I' J R 0 0 4 [(0, vr l0), (1, vr l1), (2, vi y2), (3, vi y3)] []) (hw : P1_beginOrders_b4_body l0 l1 R Q k4 l2 l3 I) : WM C ad n I J R 0 0 4 [(0, vr l0), (1, vr l1), (2, vi l2), (3, vi l3)] [] := by
  unfold P1_beginOrders_b4_body at hw
  refine wm_iload_n hC 3 dX1_beginOrders_4 rfl ?_
  refine wm_aload_n hC 1 dX1_beginOrders_5 rfl (k_ne0 hk1 (by decide)) ?_
  refine x_alen hC hk1 (by decide) dX1_beginOrders_6 ?_
  refine wm_icmp_ge (tgt := 43) hC dX1_beginOrders_7 (by decide) hw (fun hw => ?_) (fun hw => ?_)
  · refine wm_iload_n hC 2 dX1_beginOrders_43 rfl ?_
    exact wm_ireturn hC hE dX1_beginOrders_44 ⟨⟨rfl, rfl⟩, hw⟩
  · refine wm_aload_n hC 1 dX1_beginOrders_10 rfl (k_ne0 hk1 (by decide)) ?_
    refine wm_iload_n hC 3 dX1_beginOrders_11 rfl ?_
    refine wm_iload_n hC 3 dX1_beginOrders_12 rfl ?_
    refine x_iast hC hk1 dX1_beginOrders_13 hw (fun I1 hw => ?_)
    refine wm_iload_n hC 2 dX1_beginOrders_14 rfl ?_
    refine wm_iload_n hC 3 dX1_beginOrders_15 rfl ?_
    refine wm_aload_n hC 0 dX1_beginOrders_16 rfl (k_ne0 hk0 (by decide)) ?_
    refine x_getR2 hC 4 fl_X1_38 rfl hk0 dX1_beginOrders_17 hw (fun g1 hw => ?_)
    refine x_getR2 hC 0 fl_X1_53 rfl g1 dX1_beginOrders_20 hw (fun g2 hw => ?_)
    refine wm_iconst hC dX1_beginOrders_23 (k := ?_)
    refine x_iald hC g2 dX1_beginOrders_24 hw (fun hw => ?_)
    refine wm_icmp_ge (tgt := 34) hC dX1_beginOrders_25 (by decide) hw (fun hw => ?_) (fun hw => ?_)
    · refine wm_iconst hC dX1_beginOrders_34 (k := ?_)
      refine x_imul hC dX1_beginOrders_35 hw (fun hw => ?_)
      refine wm_istore_n hC dX1_beginOrders_36 (by decide) (L2 := [(2, vi (l2 * 1)), (0, vr l0), (1, vr l1), (3, vi l3)]) rfl ?_
      refine x_iinc hC 3 dX1_beginOrders_37 rfl (by decide) (L2 := [(3, vi (l3 + 1)), (2, vi (l2 * 1)), (0, vr l0), (1, vr l1)]) rfl hw (fun hw => ?_)
      refine wm_goto (tgt := 4) hC dX1_beginOrders_40 (by decide) ?_
      refine wm_sub [2, 3, 1, 0] (L2 := [(0, vr l0), (1, vr l1), (2, vi (l2 * 1)), (3, vi (l3 + 1))]) rfl ?_
      exact kk4 _ _ _ hw
    · refine wm_iload_n hC 3 dX1_beginOrders_28 rfl ?_
      refine wm_iconst hC dX1_beginOrders_29 (k := ?_)
      refine x_iadd hC dX1_beginOrders_30 hw (fun hw => ?_)
      refine wm_goto (tgt := 35) hC dX1_beginOrders_31 (by decide) ?_
      refine x_imul hC dX1_beginOrders_35 hw (fun hw => ?_)
      refine wm_istore_n hC dX1_beginOrders_36 (by decide) (L2 := [(2, vi (l2 * (l3 + 1))), (0, vr l0), (1, vr l1), (3, vi l3)]) rfl ?_
      refine x_iinc hC 3 dX1_beginOrders_37 rfl (by decide) (L2 := [(3, vi (l3 + 1)), (2, vi (l2 * (l3 + 1))), (0, vr l0), (1, vr l1)]) rfl hw (fun hw => ?_)
      refine wm_goto (tgt := 4) hC dX1_beginOrders_40 (by decide) ?_
      refine wm_sub [2, 3, 1, 0] (L2 := [(0, vr l0), (1, vr l1), (2, vi (l2 * (l3 + 1))), (3, vi (l3 + 1))]) rfl ?_
      exact kk4 _ _ _ hw
set_option maxRecDepth 20000 in
theorem W1_beginOrders_b4 {C : wX} {ad : Nat → Nat} {n : Nat} {J : mI} {R : mR} {Q : Int → mI → Prop} (hC : wOK C cX1_beginOrders 4 RX1) (hRm : wRm C 1 12 0 0) (hE : wEnd C (some .int) ad n (fun r I' J' R' => (J' = J ∧ R' = R) ∧ Q r I')) {l0 : Nat} {l1 : Nat}   (hk0 : kK l0 = 1) (hk1 : kK l1 = 21)  : ∀ (f : Nat) (l2 : Int) (l3 : Int) (I : mI), P1_beginOrders_b4 l0 l1 R Q f l2 l3 I → WM C ad n I J R 0 0 4 [(0, vr l0), (1, vr l1), (2, vi l2), (3, vi l3)] [] := by
  intro f
  induction f with
  | zero => intro l2 l3 I hw; exact hw.elim
  | succ f ih => intro l2 l3 I hw; exact W1_beginOrders_b4_body hC hRm hE hk0 hk1 (fun a0 a1 a2 hw => ih a0 a1 a2 hw) hw
def P1_beginOrders (l0 : Nat) (l1 : Nat) (I : mI) (R : mR) (Q : Int → mI → Prop) : Prop := (∃ f, P1_beginOrders_b4 l0 l1 R Q f 1 0 I)
set_option maxRecDepth 20000 in
theorem C1_beginOrders {ad : Nat → Nat} {n : Nat} {I J : mI} {R : mR} {Q : Int → mI → Prop}  {l0 : Nat} {l1 : Nat} (hk0 : kK l0 = 1) (hk1 : kK l1 = 21) (hw : P1_beginOrders l0 l1 I R Q) : wMet yX1_beginOrders cX1_beginOrders 4 (some .int) 1 12 false ad n I J R [vr l0, vr l1] (fun r I' J' R' => (J' = J ∧ R' = R) ∧ Q r I') := by
  refine wMet_of (by decide) (Nat.le_of_ble_eq_true rfl) (fun C hC hRm hE hS => ?_)
  refine (show WM C ad n I J R 0 0 0 [(0, vr l0), (1, vr l1)] [] from ?_)
  unfold P1_beginOrders at hw
  refine wm_iconst hC dX1_beginOrders_0 (k := ?_)
  refine wm_istore_n hC dX1_beginOrders_1 (by decide) (L2 := [(2, vi 1), (0, vr l0), (1, vr l1)]) rfl ?_
  refine wm_iconst hC dX1_beginOrders_2 (k := ?_)
  refine wm_istore_n hC dX1_beginOrders_3 (by decide) (L2 := [(3, vi 0), (2, vi 1), (0, vr l0), (1, vr l1)]) rfl ?_
  obtain ⟨f, hw⟩ := hw
  refine wm_sub [2, 3, 1, 0] (L2 := [(0, vr l0), (1, vr l1), (2, vi 1), (3, vi 0)]) rfl ?_
  exact W1_beginOrders_b4 hC hRm hE hk0 hk1 f _ _ _ hw
def P1_exchange (l0 : Nat) (l1 : Int) (l2 : Int) (I : mI) (Q : mI → Prop) : Prop := (((0 : Int) ≤ l1 ∧ l1 < (kN l0 : Int)) ∧ (((0 : Int) ≤ l2 ∧ l2 < (kN l0 : Int)) ∧ (((0 : Int) ≤ l1 ∧ l1 < (kN l0 : Int)) ∧ wLet (up I l0 l1 (I l0 l2)) (fun I1 => (((0 : Int) ≤ l2 ∧ l2 < (kN l0 : Int)) ∧ wLet (up I1 l0 l2 (I l0 l1)) (fun I2 => (Q I2)))))))
set_option maxRecDepth 20000 in
theorem C1_exchange {ad : Nat → Nat} {n : Nat} {I J : mI} {R : mR} {Q : mI → Prop}  {l0 : Nat} {l1 : Int} {l2 : Int} (hk0 : kK l0 = 21) (hw : P1_exchange l0 l1 l2 I Q) : wMet yX1_exchange cX1_exchange 4 none 1 12 false ad n I J R [vr l0, vi l1, vi l2] (fun _ I' J' R' => (J' = J ∧ R' = R) ∧ Q I') := by
  refine wMet_of (by decide) (Nat.le_of_ble_eq_true rfl) (fun C hC hRm hE hS => ?_)
  refine (show WM C ad n I J R 0 0 0 [(0, vr l0), (1, vi l1), (2, vi l2)] [] from ?_)
  unfold P1_exchange at hw
  refine wm_aload_n hC 0 dX1_exchange_0 rfl (k_ne0 hk0 (by decide)) ?_
  refine wm_iload_n hC 1 dX1_exchange_1 rfl ?_
  refine x_iald hC hk0 dX1_exchange_2 hw (fun hw => ?_)
  refine wm_istore_n hC dX1_exchange_3 (by decide) (L2 := [(3, vi (I l0 l1)), (0, vr l0), (1, vi l1), (2, vi l2)]) rfl ?_
  refine wm_aload_n hC 1 dX1_exchange_4 rfl (k_ne0 hk0 (by decide)) ?_
  refine wm_iload_n hC 2 dX1_exchange_5 rfl ?_
  refine wm_aload_n hC 1 dX1_exchange_6 rfl (k_ne0 hk0 (by decide)) ?_
  refine wm_iload_n hC 3 dX1_exchange_7 rfl ?_
  refine x_iald hC hk0 dX1_exchange_8 hw (fun hw => ?_)
  refine x_iast hC hk0 dX1_exchange_9 hw (fun I1 hw => ?_)
  refine wm_aload_n hC 1 dX1_exchange_10 rfl (k_ne0 hk0 (by decide)) ?_
  refine wm_iload_n hC 3 dX1_exchange_11 rfl ?_
  refine wm_iload_n hC 0 dX1_exchange_12 rfl ?_
  refine x_iast hC hk0 dX1_exchange_13 hw (fun I2 hw => ?_)
  exact wm_return hC hE dX1_exchange_14 ⟨⟨rfl, rfl⟩, hw⟩
def P1_nextOrder_b84_body (l1 : Nat) (R : mR) (Q : mI → Prop) (k84 : Int → Int → mI → Prop) (l5 : Int) (l6 : Int) (I : mI) : Prop := (if l6 ≤ l5 then (Q I) else (P1_exchange l1 l5 l6 I (fun I2 => (rg (l5 + 1) ∧ (rg (l6 + (-1)) ∧ (k84 (l5 + 1) (l6 + (-1)) I2))))))
def P1_nextOrder_b84 (l1 : Nat) (R : mR) (Q : mI → Prop) : Nat → Int → Int → mI → Prop
  | 0 => fun _ _ _ => False
  | f + 1 => fun l5 l6 I => P1_nextOrder_b84_body l1 R Q (P1_nextOrder_b84 l1 R Q f) l5 l6 I
set_option maxRecDepth 20000 in
theorem W1_nextOrder_b84_body {C : wX} {ad : Nat → Nat} {n : Nat} {I J : mI} {R : mR} {Q : mI → Prop} (hC : wOK C cX1_nextOrder 7 RX1) (hRm : wRm C 2 35 0 0) (hE : wEnd C none ad n (fun _ I' J' R' => (J' = J ∧ R' = R) ∧ Q I')) {l1 : Nat} {l5 : Int} {l6 : Int}   (hk1 : kK l1 = 21)  {k84 : Int → Int → mI → Prop} (kk84 : ∀ (y5 : Int) (y6 : Int) (I' : mI), k84 y5 y6 I' → WM C ad n I' J R 0 0 84 [(1, vr l1), (5, vi y5), (6, vi y6)] []) (hw : P1_nextOrder_b84_body l1 R Q k84 l5 l6 I) : WM C ad n I J R 0 0 84 [(1, vr l1), (5, vi l5), (6, vi l6)] [] := by
  unfold P1_nextOrder_b84_body at hw
  refine wm_iload hC 1 dX1_nextOrder_84 rfl ?_
  refine wm_iload hC 2 dX1_nextOrder_86 rfl ?_
  refine wm_icmp_ge (tgt := 108) hC dX1_nextOrder_88 (by decide) hw (fun hw => ?_) (fun hw => ?_)
  · exact wm_return hC hE dX1_nextOrder_108 ⟨⟨rfl, rfl⟩, hw⟩
  · refine wm_aload_n hC 0 dX1_nextOrder_91 rfl (k_ne0 hk1 (by decide)) ?_
    refine wm_iload hC 1 dX1_nextOrder_92 rfl ?_
    refine wm_iload hC 2 dX1_nextOrder_94 rfl ?_
    refine y_callS_v_I hC hRm noS ml_X1_125 (C1_exchange hk1 hw) (Nat.le_of_ble_eq_true rfl) (Nat.le_of_ble_eq_true rfl) ⟨Nat.zero_le _, Nat.zero_le _⟩ rfl (st := []) rfl (Nat.le_of_ble_eq_true rfl) dX1_nextOrder_96 (fun I2 hw => ?_)
    refine x_iinc hC 1 dX1_nextOrder_99 rfl (by decide) (L2 := [(5, vi (l5 + 1)), (1, vr l1), (6, vi l6)]) rfl hw (fun hw => ?_)
    refine x_iinc hC 2 dX1_nextOrder_102 rfl (by decide) (L2 := [(6, vi (l6 + (-1))), (5, vi (l5 + 1)), (1, vr l1)]) rfl hw (fun hw => ?_)
    refine wm_goto (tgt := 84) hC dX1_nextOrder_105 (by decide) ?_
    refine wm_sub [2, 1, 0] (L2 := [(1, vr l1), (5, vi (l5 + 1)), (6, vi (l6 + (-1)))]) rfl ?_
    exact kk84 _ _ _ hw
set_option maxRecDepth 20000 in
theorem W1_nextOrder_b84 {C : wX} {ad : Nat → Nat} {n : Nat} {J : mI} {R : mR} {Q : mI → Prop} (hC : wOK C cX1_nextOrder 7 RX1) (hRm : wRm C 2 35 0 0) (hE : wEnd C none ad n (fun _ I' J' R' => (J' = J ∧ R' = R) ∧ Q I')) {l1 : Nat}   (hk1 : kK l1 = 21)  : ∀ (f : Nat) (l5 : Int) (l6 : Int) (I : mI), P1_nextOrder_b84 l1 R Q f l5 l6 I → WM C ad n I J R 0 0 84 [(1, vr l1), (5, vi l5), (6, vi l6)] [] := by
  intro f
  induction f with
  | zero => intro l5 l6 I hw; exact hw.elim
  | succ f ih => intro l5 l6 I hw; exact W1_nextOrder_b84_body hC hRm hE hk1 (fun a0 a1 a2 hw => ih a0 a1 a2 hw) hw
def P1_nextOrder_b67 (l1 : Nat) (l2 : Int) (l3 : Int) (l4 : Int) (I : mI) (R : mR) (Q : mI → Prop) : Prop := (P1_exchange l1 l3 l4 I (fun I1 => (rg (l3 + 1) ∧ (rg (l2 - 1) ∧ (∃ f, P1_nextOrder_b84 l1 R Q f (l3 + 1) (l2 - 1) I1)))))
set_option maxRecDepth 20000 in
theorem W1_nextOrder_b67 {C : wX} {ad : Nat → Nat} {n : Nat} {I J : mI} {R : mR} {Q : mI → Prop} (hC : wOK C cX1_nextOrder 7 RX1) (hRm : wRm C 2 35 0 0) (hE : wEnd C none ad n (fun _ I' J' R' => (J' = J ∧ R' = R) ∧ Q I')) {l1 : Nat} {l2 : Int} {l3 : Int} {l4 : Int}   (hk1 : kK l1 = 21)  (hw : P1_nextOrder_b67 l1 l2 l3 l4 I R Q) : WM C ad n I J R 0 0 67 [(1, vr l1), (2, vi l2), (3, vi l3), (4, vi l4)] [] := by
  unfold P1_nextOrder_b67 at hw
  refine wm_aload_n hC 0 dX1_nextOrder_67 rfl (k_ne0 hk1 (by decide)) ?_
  refine wm_iload_n hC 2 dX1_nextOrder_68 rfl ?_
  refine wm_iload hC 3 dX1_nextOrder_69 rfl ?_
  refine y_callS_v_I hC hRm noS ml_X1_125 (C1_exchange hk1 hw) (Nat.le_of_ble_eq_true rfl) (Nat.le_of_ble_eq_true rfl) ⟨Nat.zero_le _, Nat.zero_le _⟩ rfl (st := []) rfl (Nat.le_of_ble_eq_true rfl) dX1_nextOrder_71 (fun I1 hw => ?_)
  refine wm_iload_n hC 2 dX1_nextOrder_74 rfl ?_
  refine wm_iconst hC dX1_nextOrder_75 (k := ?_)
  refine x_iadd hC dX1_nextOrder_76 hw (fun hw => ?_)
  refine wm_istore hC dX1_nextOrder_77 (by decide) (L2 := [(5, vi (l3 + 1)), (1, vr l1), (2, vi l2), (3, vi l3), (4, vi l4)]) rfl ?_
  refine wm_iload_n hC 2 dX1_nextOrder_79 rfl ?_
  refine wm_iconst hC dX1_nextOrder_80 (k := ?_)
  refine x_isub hC dX1_nextOrder_81 hw (fun hw => ?_)
  refine wm_istore hC dX1_nextOrder_82 (by decide) (L2 := [(6, vi (l2 - 1)), (5, vi (l3 + 1)), (1, vr l1), (2, vi l2), (3, vi l3), (4, vi l4)]) rfl ?_
  obtain ⟨f, hw⟩ := hw
  refine wm_sub [2, 1, 0] (L2 := [(1, vr l1), (5, vi (l3 + 1)), (6, vi (l2 - 1))]) rfl ?_
  exact W1_nextOrder_b84 hC hRm hE hk1 f _ _ _ hw
def P1_nextOrder_b45_body (l1 : Nat) (l2 : Int) (l3 : Int) (I : mI) (R : mR) (Q : mI → Prop) (k45 : Int → Prop) (l4 : Int) : Prop := (if l4 ≤ l3 then (P1_nextOrder_b67 l1 l2 l3 l4 I R Q) else (((0 : Int) ≤ l4 ∧ l4 < (kN l1 : Int)) ∧ (((0 : Int) ≤ l3 ∧ l3 < (kN l1 : Int)) ∧ (if (I l1 l3) ≤ (I l1 l4) then (P1_nextOrder_b67 l1 l2 l3 l4 I R Q) else (rg (l4 + (-1)) ∧ (k45 (l4 + (-1))))))))
def P1_nextOrder_b45 (l1 : Nat) (l2 : Int) (l3 : Int) (I : mI) (R : mR) (Q : mI → Prop) : Nat → Int → Prop
  | 0 => fun _ => False
  | f + 1 => fun l4 => P1_nextOrder_b45_body l1 l2 l3 I R Q (P1_nextOrder_b45 l1 l2 l3 I R Q f) l4
set_option maxRecDepth 20000 in
theorem W1_nextOrder_b45_body {C : wX} {ad : Nat → Nat} {n : Nat} {I J : mI} {R : mR} {Q : mI → Prop} (hC : wOK C cX1_nextOrder 7 RX1) (hRm : wRm C 2 35 0 0) (hE : wEnd C none ad n (fun _ I' J' R' => (J' = J ∧ R' = R) ∧ Q I')) {l1 : Nat} {l2 : Int} {l3 : Int} {l4 : Int}   (hk1 : kK l1 = 21)  {k45 : Int → Prop} (kk45 : ∀ (y4 : Int), k45 y4 → WM C ad n I J R 0 0 45 [(1, vr l1), (2, vi l2), (3, vi l3), (4, vi y4)] []) (hw : P1_nextOrder_b45_body l1 l2 l3 I R Q k45 l4) : WM C ad n I J R 0 0 45 [(1, vr l1), (2, vi l2), (3, vi l3), (4, vi l4)] [] := by
  unfold P1_nextOrder_b45_body at hw
  refine wm_iload hC 3 dX1_nextOrder_45 rfl ?_
  refine wm_iload_n hC 2 dX1_nextOrder_47 rfl ?_
  refine wm_icmp_le (tgt := 67) hC dX1_nextOrder_48 (by decide) hw (fun hw => ?_) (fun hw => ?_)
  · exact W1_nextOrder_b67 hC hRm hE hk1 hw
  · refine wm_aload_n hC 0 dX1_nextOrder_51 rfl (k_ne0 hk1 (by decide)) ?_
    refine wm_iload hC 3 dX1_nextOrder_52 rfl ?_
    refine x_iald hC hk1 dX1_nextOrder_54 hw (fun hw => ?_)
    refine wm_aload_n hC 0 dX1_nextOrder_55 rfl (k_ne0 hk1 (by decide)) ?_
    refine wm_iload_n hC 2 dX1_nextOrder_56 rfl ?_
    refine x_iald hC hk1 dX1_nextOrder_57 hw (fun hw => ?_)
    refine wm_icmp_ge (tgt := 67) hC dX1_nextOrder_58 (by decide) hw (fun hw => ?_) (fun hw => ?_)
    · exact W1_nextOrder_b67 hC hRm hE hk1 hw
    · refine x_iinc hC 3 dX1_nextOrder_61 rfl (by decide) (L2 := [(4, vi (l4 + (-1))), (1, vr l1), (2, vi l2), (3, vi l3)]) rfl hw (fun hw => ?_)
      refine wm_goto (tgt := 45) hC dX1_nextOrder_64 (by decide) ?_
      refine wm_sub [1, 2, 3, 0] (L2 := [(1, vr l1), (2, vi l2), (3, vi l3), (4, vi (l4 + (-1)))]) rfl ?_
      exact kk45 _ hw
set_option maxRecDepth 20000 in
theorem W1_nextOrder_b45 {C : wX} {ad : Nat → Nat} {n : Nat} {I J : mI} {R : mR} {Q : mI → Prop} (hC : wOK C cX1_nextOrder 7 RX1) (hRm : wRm C 2 35 0 0) (hE : wEnd C none ad n (fun _ I' J' R' => (J' = J ∧ R' = R) ∧ Q I')) {l1 : Nat} {l2 : Int} {l3 : Int}   (hk1 : kK l1 = 21)  : ∀ (f : Nat) (l4 : Int), P1_nextOrder_b45 l1 l2 l3 I R Q f l4 → WM C ad n I J R 0 0 45 [(1, vr l1), (2, vi l2), (3, vi l3), (4, vi l4)] [] := by
  intro f
  induction f with
  | zero => intro l4 hw; exact hw.elim
  | succ f ih => intro l4 hw; exact W1_nextOrder_b45_body hC hRm hE hk1 (fun a0 hw => ih a0 hw) hw
def P1_nextOrder_b35 (l1 : Nat) (l2 : Int) (l3 : Int) (I : mI) (R : mR) (Q : mI → Prop) : Prop := (if (0 : Int) ≤ l3 then (rg (l2 - 1) ∧ (∃ f, P1_nextOrder_b45 l1 l2 l3 I R Q f (l2 - 1))) else (Q I))
set_option maxRecDepth 20000 in
theorem W1_nextOrder_b35 {C : wX} {ad : Nat → Nat} {n : Nat} {I J : mI} {R : mR} {Q : mI → Prop} (hC : wOK C cX1_nextOrder 7 RX1) (hRm : wRm C 2 35 0 0) (hE : wEnd C none ad n (fun _ I' J' R' => (J' = J ∧ R' = R) ∧ Q I')) {l1 : Nat} {l2 : Int} {l3 : Int}   (hk1 : kK l1 = 21)  (hw : P1_nextOrder_b35 l1 l2 l3 I R Q) : WM C ad n I J R 0 0 35 [(1, vr l1), (2, vi l2), (3, vi l3)] [] := by
  unfold P1_nextOrder_b35 at hw
  refine wm_iload_n hC 2 dX1_nextOrder_35 rfl ?_
  refine wm_if_ge (tgt := 40) hC dX1_nextOrder_36 (by decide) hw (fun hw => ?_) (fun hw => ?_)
  · refine wm_iload_n hC 1 dX1_nextOrder_40 rfl ?_
    refine wm_iconst hC dX1_nextOrder_41 (k := ?_)
    refine x_isub hC dX1_nextOrder_42 hw (fun hw => ?_)
    refine wm_istore hC dX1_nextOrder_43 (by decide) (L2 := [(4, vi (l2 - 1)), (1, vr l1), (2, vi l2), (3, vi l3)]) rfl ?_
    obtain ⟨f, hw⟩ := hw
    refine wm_sub [1, 2, 3, 0] (L2 := [(1, vr l1), (2, vi l2), (3, vi l3), (4, vi (l2 - 1))]) rfl ?_
    exact W1_nextOrder_b45 hC hRm hE hk1 f _ hw
  · exact wm_return hC hE dX1_nextOrder_39 ⟨⟨rfl, rfl⟩, hw⟩
def P1_nextOrder_b14_body (l1 : Nat) (l2 : Int) (I : mI) (R : mR) (Q : mI → Prop) (k14 : Int → Prop) (l3 : Int) : Prop := (if l3 < 0 then (P1_nextOrder_b35 l1 l2 l3 I R Q) else (((0 : Int) ≤ l3 ∧ l3 < (kN l1 : Int)) ∧ (rg (l3 + 1) ∧ (((0 : Int) ≤ (l3 + 1) ∧ (l3 + 1) < (kN l1 : Int)) ∧ (if (I l1 l3) ≤ (I l1 (l3 + 1)) then (P1_nextOrder_b35 l1 l2 l3 I R Q) else (rg (l3 + (-1)) ∧ (k14 (l3 + (-1)))))))))
def P1_nextOrder_b14 (l1 : Nat) (l2 : Int) (I : mI) (R : mR) (Q : mI → Prop) : Nat → Int → Prop
  | 0 => fun _ => False
  | f + 1 => fun l3 => P1_nextOrder_b14_body l1 l2 I R Q (P1_nextOrder_b14 l1 l2 I R Q f) l3
set_option maxRecDepth 20000 in
theorem W1_nextOrder_b14_body {C : wX} {ad : Nat → Nat} {n : Nat} {I J : mI} {R : mR} {Q : mI → Prop} (hC : wOK C cX1_nextOrder 7 RX1) (hRm : wRm C 2 35 0 0) (hE : wEnd C none ad n (fun _ I' J' R' => (J' = J ∧ R' = R) ∧ Q I')) {l1 : Nat} {l2 : Int} {l3 : Int}   (hk1 : kK l1 = 21)  {k14 : Int → Prop} (kk14 : ∀ (y3 : Int), k14 y3 → WM C ad n I J R 0 0 14 [(1, vr l1), (2, vi l2), (3, vi y3)] []) (hw : P1_nextOrder_b14_body l1 l2 I R Q k14 l3) : WM C ad n I J R 0 0 14 [(1, vr l1), (2, vi l2), (3, vi l3)] [] := by
  unfold P1_nextOrder_b14_body at hw
  refine wm_iload_n hC 2 dX1_nextOrder_14 rfl ?_
  refine wm_if_lt (tgt := 35) hC dX1_nextOrder_15 (by decide) hw (fun hw => ?_) (fun hw => ?_)
  · exact W1_nextOrder_b35 hC hRm hE hk1 hw
  · refine wm_aload_n hC 0 dX1_nextOrder_18 rfl (k_ne0 hk1 (by decide)) ?_
    refine wm_iload_n hC 2 dX1_nextOrder_19 rfl ?_
    refine x_iald hC hk1 dX1_nextOrder_20 hw (fun hw => ?_)
    refine wm_aload_n hC 0 dX1_nextOrder_21 rfl (k_ne0 hk1 (by decide)) ?_
    refine wm_iload_n hC 2 dX1_nextOrder_22 rfl ?_
    refine wm_iconst hC dX1_nextOrder_23 (k := ?_)
    refine x_iadd hC dX1_nextOrder_24 hw (fun hw => ?_)
    refine x_iald hC hk1 dX1_nextOrder_25 hw (fun hw => ?_)
    refine wm_icmp_le (tgt := 35) hC dX1_nextOrder_26 (by decide) hw (fun hw => ?_) (fun hw => ?_)
    · exact W1_nextOrder_b35 hC hRm hE hk1 hw
    · refine x_iinc hC 2 dX1_nextOrder_29 rfl (by decide) (L2 := [(3, vi (l3 + (-1))), (1, vr l1), (2, vi l2)]) rfl hw (fun hw => ?_)
      refine wm_goto (tgt := 14) hC dX1_nextOrder_32 (by decide) ?_
      refine wm_sub [1, 2, 0] (L2 := [(1, vr l1), (2, vi l2), (3, vi (l3 + (-1)))]) rfl ?_
      exact kk14 _ hw
set_option maxRecDepth 20000 in
theorem W1_nextOrder_b14 {C : wX} {ad : Nat → Nat} {n : Nat} {I J : mI} {R : mR} {Q : mI → Prop} (hC : wOK C cX1_nextOrder 7 RX1) (hRm : wRm C 2 35 0 0) (hE : wEnd C none ad n (fun _ I' J' R' => (J' = J ∧ R' = R) ∧ Q I')) {l1 : Nat} {l2 : Int}   (hk1 : kK l1 = 21)  : ∀ (f : Nat) (l3 : Int), P1_nextOrder_b14 l1 l2 I R Q f l3 → WM C ad n I J R 0 0 14 [(1, vr l1), (2, vi l2), (3, vi l3)] [] := by
  intro f
  induction f with
  | zero => intro l3 hw; exact hw.elim
  | succ f ih => intro l3 hw; exact W1_nextOrder_b14_body hC hRm hE hk1 (fun a0 hw => ih a0 hw) hw
def P1_nextOrder (l0 : Nat) (l1 : Nat) (I : mI) (R : mR) (Q : mI → Prop) : Prop := (kK (R l0 4) = 3 ∧ (kK (R (R l0 4) 0) = 21 ∧ (((0 : Int) ≤ (0 : Int) ∧ (0 : Int) < (kN (R (R l0 4) 0) : Int)) ∧ (wLet (I (R (R l0 4) 0) (0 : Int)) (fun x1 => (rg (x1 - 2) ∧ (∃ f, P1_nextOrder_b14 l1 x1 I R Q f (x1 - 2))))))))
set_option maxRecDepth 20000 in
theorem C1_nextOrder {ad : Nat → Nat} {n : Nat} {I J : mI} {R : mR} {Q : mI → Prop}  {l0 : Nat} {l1 : Nat} (hk0 : kK l0 = 1) (hk1 : kK l1 = 21) (hw : P1_nextOrder l0 l1 I R Q) : wMet yX1_nextOrder cX1_nextOrder 7 none 2 35 false ad n I J R [vr l0, vr l1] (fun _ I' J' R' => (J' = J ∧ R' = R) ∧ Q I') := by
  refine wMet_of (by decide) (Nat.le_of_ble_eq_true rfl) (fun C hC hRm hE hS => ?_)
  refine (show WM C ad n I J R 0 0 0 [(0, vr l0), (1, vr l1)] [] from ?_)
  unfold P1_nextOrder at hw
  refine wm_aload_n hC 0 dX1_nextOrder_0 rfl (k_ne0 hk0 (by decide)) ?_
  refine x_getR2 hC 4 fl_X1_38 rfl hk0 dX1_nextOrder_1 hw (fun g1 hw => ?_)
  refine x_getR2 hC 0 fl_X1_53 rfl g1 dX1_nextOrder_4 hw (fun g2 hw => ?_)
  refine wm_iconst hC dX1_nextOrder_7 (k := ?_)
  refine x_iald hC g2 dX1_nextOrder_8 hw (fun hw => ?_)
  refine x_nameI hw (fun x1 hw => ?_)
  refine wm_istore_n hC dX1_nextOrder_9 (by decide) (L2 := [(2, vi x1), (0, vr l0), (1, vr l1)]) rfl ?_
  refine wm_iload_n hC 0 dX1_nextOrder_10 rfl ?_
  refine wm_iconst hC dX1_nextOrder_11 (k := ?_)
  refine x_isub hC dX1_nextOrder_12 hw (fun hw => ?_)
  refine wm_istore_n hC dX1_nextOrder_13 (by decide) (L2 := [(3, vi (x1 - 2)), (2, vi x1), (0, vr l0), (1, vr l1)]) rfl ?_
  obtain ⟨f, hw⟩ := hw
  refine wm_sub [3, 1, 0] (L2 := [(1, vr l1), (2, vi x1), (3, vi (x1 - 2))]) rfl ?_
  exact W1_nextOrder_b14 hC hRm hE hk1 f _ hw
def P1_firstOrder_b9_body (l0 : Nat) (l1 : Nat) (l2 : Int) (l3 : Int) (R : mR) (Q : Int → mI → mI → Prop) (k9 : Int → mI → mI → Prop) (l4 : Int) (I : mI) (J : mI) : Prop := (if l3 ≤ l4 then (Q 0 I J) else (kK (R l0 4) = 3 ∧ (P3_everybody (R l0 4) I R (fun r2 => (P1_ask l0 l1 r2 I J R (fun r3 I2 J1 => (if r3 = l2 then (Q 1 I2 J1) else (P1_nextOrder l0 l1 I2 R (fun I3 => (rg (l4 + 1) ∧ (k9 (l4 + 1) I3 J1)))))))))))
def P1_firstOrder_b9 (l0 : Nat) (l1 : Nat) (l2 : Int) (l3 : Int) (R : mR) (Q : Int → mI → mI → Prop) : Nat → Int → mI → mI → Prop
  | 0 => fun _ _ _ => False
  | f + 1 => fun l4 I J => P1_firstOrder_b9_body l0 l1 l2 l3 R Q (P1_firstOrder_b9 l0 l1 l2 l3 R Q f) l4 I J
set_option maxRecDepth 20000 in
theorem W1_firstOrder_b9_body {C : wX} {ad : Nat → Nat} {n : Nat} {I J : mI} {R : mR} {Q : Int → mI → mI → Prop} (hC : wOK C cX1_firstOrder 5 RX1) (hRm : wRm C 6 139 0 0) (hE : wEnd C (some .boolean) ad n (fun r I' J' R' => (R' = R) ∧ Q r I' J')) {l0 : Nat} {l1 : Nat} {l2 : Int} {l3 : Int} {l4 : Int}   (hk0 : kK l0 = 1) (hk1 : kK l1 = 21)  {k9 : Int → mI → mI → Prop} (kk9 : ∀ (y4 : Int) (I' : mI) (J' : mI), k9 y4 I' J' → WM C ad n I' J' R 0 0 9 [(0, vr l0), (1, vr l1), (2, vi l2), (3, vi l3), (4, vi y4)] []) (hw : P1_firstOrder_b9_body l0 l1 l2 l3 R Q k9 l4 I J) : WM C ad n I J R 0 0 9 [(0, vr l0), (1, vr l1), (2, vi l2), (3, vi l3), (4, vi l4)] [] := by
  unfold P1_firstOrder_b9_body at hw
  refine wm_iload hC 4 dX1_firstOrder_9 rfl ?_
  refine wm_iload_n hC 3 dX1_firstOrder_11 rfl ?_
  refine wm_icmp_ge (tgt := 44) hC dX1_firstOrder_12 (by decide) hw (fun hw => ?_) (fun hw => ?_)
  · refine wm_iconst hC dX1_firstOrder_44 (k := ?_)
    exact wm_zreturn hC hE (Or.inl rfl) dX1_firstOrder_45 ⟨rfl, hw⟩
  · refine wm_aload_n hC 0 dX1_firstOrder_15 rfl (k_ne0 hk0 (by decide)) ?_
    refine wm_aload_n hC 1 dX1_firstOrder_16 rfl (k_ne0 hk1 (by decide)) ?_
    refine wm_aload_n hC 0 dX1_firstOrder_17 rfl (k_ne0 hk0 (by decide)) ?_
    refine x_getR2 hC 4 fl_X1_38 rfl hk0 dX1_firstOrder_18 hw (fun g1 hw => ?_)
    refine y_callV_i_n hC hRm noS ml_X1_113 g1 (C3_everybody g1 hw) (Nat.le_of_ble_eq_true rfl) (Nat.le_of_ble_eq_true rfl) ⟨Nat.zero_le _, Nat.zero_le _⟩ rfl (st := [vr l1, vr l0]) rfl (Nat.le_of_ble_eq_true rfl) dX1_firstOrder_21 (fun r2 hw => ?_)
    refine y_callV_i_IJ hC hRm noS ml_X1_117 hk0 (C1_ask hk0 hk1 hw) (Nat.le_of_ble_eq_true rfl) (Nat.le_of_ble_eq_true rfl) ⟨Nat.zero_le _, Nat.zero_le _⟩ rfl (st := []) rfl (Nat.le_of_ble_eq_true rfl) dX1_firstOrder_24 (fun r3 I2 J1 hw => ?_)
    refine wm_iload_n hC 2 dX1_firstOrder_27 rfl ?_
    refine wm_icmp_ne (tgt := 33) hC dX1_firstOrder_28 (by decide) hw (fun hw => ?_) (fun hw => ?_)
    · refine wm_iconst hC dX1_firstOrder_31 (k := ?_)
      exact wm_zreturn hC hE (Or.inr rfl) dX1_firstOrder_32 ⟨rfl, hw⟩
    · refine wm_aload_n hC 0 dX1_firstOrder_33 rfl (k_ne0 hk0 (by decide)) ?_
      refine wm_aload_n hC 1 dX1_firstOrder_34 rfl (k_ne0 hk1 (by decide)) ?_
      refine y_callV_v_I hC hRm noS ml_X1_121 hk0 (C1_nextOrder hk0 hk1 hw) (Nat.le_of_ble_eq_true rfl) (Nat.le_of_ble_eq_true rfl) ⟨Nat.zero_le _, Nat.zero_le _⟩ rfl (st := []) rfl (Nat.le_of_ble_eq_true rfl) dX1_firstOrder_35 (fun I3 hw => ?_)
      refine x_iinc hC 4 dX1_firstOrder_38 rfl (by decide) (L2 := [(4, vi (l4 + 1)), (0, vr l0), (1, vr l1), (2, vi l2), (3, vi l3)]) rfl hw (fun hw => ?_)
      refine wm_goto (tgt := 9) hC dX1_firstOrder_41 (by decide) ?_
      refine wm_sub [1, 2, 3, 4, 0] (L2 := [(0, vr l0), (1, vr l1), (2, vi l2), (3, vi l3), (4, vi (l4 + 1))]) rfl ?_
      exact kk9 _ _ _ hw
set_option maxRecDepth 20000 in
theorem W1_firstOrder_b9 {C : wX} {ad : Nat → Nat} {n : Nat} {R : mR} {Q : Int → mI → mI → Prop} (hC : wOK C cX1_firstOrder 5 RX1) (hRm : wRm C 6 139 0 0) (hE : wEnd C (some .boolean) ad n (fun r I' J' R' => (R' = R) ∧ Q r I' J')) {l0 : Nat} {l1 : Nat} {l2 : Int} {l3 : Int}   (hk0 : kK l0 = 1) (hk1 : kK l1 = 21)  : ∀ (f : Nat) (l4 : Int) (I : mI) (J : mI), P1_firstOrder_b9 l0 l1 l2 l3 R Q f l4 I J → WM C ad n I J R 0 0 9 [(0, vr l0), (1, vr l1), (2, vi l2), (3, vi l3), (4, vi l4)] [] := by
  intro f
  induction f with
  | zero => intro l4 I J hw; exact hw.elim
  | succ f ih => intro l4 I J hw; exact W1_firstOrder_b9_body hC hRm hE hk0 hk1 (fun a0 a1 a2 hw => ih a0 a1 a2 hw) hw
def P1_firstOrder (l0 : Nat) (l1 : Nat) (l2 : Int) (I : mI) (J : mI) (R : mR) (Q : Int → mI → mI → Prop) : Prop := (P1_beginOrders l0 l1 I R (fun r1 I1 => (∃ f, P1_firstOrder_b9 l0 l1 l2 r1 R Q f 0 I1 J)))
set_option maxRecDepth 20000 in
theorem C1_firstOrder {ad : Nat → Nat} {n : Nat} {I J : mI} {R : mR} {Q : Int → mI → mI → Prop}  {l0 : Nat} {l1 : Nat} {l2 : Int} (hk0 : kK l0 = 1) (hk1 : kK l1 = 21) (hw : P1_firstOrder l0 l1 l2 I J R Q) : wMet yX1_firstOrder cX1_firstOrder 5 (some .boolean) 6 139 false ad n I J R [vr l0, vr l1, vi l2] (fun r I' J' R' => (R' = R) ∧ Q r I' J') := by
  refine wMet_of (by decide) (Nat.le_of_ble_eq_true rfl) (fun C hC hRm hE hS => ?_)
  refine (show WM C ad n I J R 0 0 0 [(0, vr l0), (1, vr l1), (2, vi l2)] [] from ?_)
  unfold P1_firstOrder at hw
  refine wm_aload_n hC 0 dX1_firstOrder_0 rfl (k_ne0 hk0 (by decide)) ?_
  refine wm_aload_n hC 1 dX1_firstOrder_1 rfl (k_ne0 hk1 (by decide)) ?_
  refine y_callV_i_I hC hRm noS ml_X1_109 hk0 (C1_beginOrders hk0 hk1 hw) (Nat.le_of_ble_eq_true rfl) (Nat.le_of_ble_eq_true rfl) ⟨Nat.zero_le _, Nat.zero_le _⟩ rfl (st := []) rfl (Nat.le_of_ble_eq_true rfl) dX1_firstOrder_2 (fun r1 I1 hw => ?_)
  refine wm_istore_n hC dX1_firstOrder_5 (by decide) (L2 := [(3, vi r1), (0, vr l0), (1, vr l1), (2, vi l2)]) rfl ?_
  refine wm_iconst hC dX1_firstOrder_6 (k := ?_)
  refine wm_istore hC dX1_firstOrder_7 (by decide) (L2 := [(4, vi 0), (3, vi r1), (0, vr l0), (1, vr l1), (2, vi l2)]) rfl ?_
  obtain ⟨f, hw⟩ := hw
  refine wm_sub [2, 3, 4, 1, 0] (L2 := [(0, vr l0), (1, vr l1), (2, vi l2), (3, vi r1), (4, vi 0)]) rfl ?_
  exact W1_firstOrder_b9 hC hRm hE hk0 hk1 f _ _ _ hw
def P1_countOrders_b41 (l0 : Nat) (l1 : Nat) (l2 : Int) (l3 : Int) (l5 : Int) (s0 : Int) (s1 : Int) (I : mI) (J : mI) (R : mR) (k12 : Int → Int → mI → mI → Prop) (Q : Int → mI → mI → Prop) : Prop := (rg (s0 + s1) ∧ (P1_nextOrder l0 l1 I R (fun I3 => (rg (l5 + 1) ∧ (k12 (s0 + s1) (l5 + 1) I3 J)))))
set_option maxRecDepth 20000 in
theorem W1_countOrders_b41 {C : wX} {ad : Nat → Nat} {n : Nat} {I J : mI} {R : mR} {Q : Int → mI → mI → Prop} (hC : wOK C cX1_countOrders 6 RX1) (hRm : wRm C 6 139 0 0) (hE : wEnd C (some .int) ad n (fun r I' J' R' => (R' = R) ∧ Q r I' J')) {l0 : Nat} {l1 : Nat} {l2 : Int} {l3 : Int} {l5 : Int} {s0 : Int} {s1 : Int}  {k12 : Int → Int → mI → mI → Prop} (hk0 : kK l0 = 1) (hk1 : kK l1 = 21) (kk12 : ∀ (y4 : Int) (y5 : Int) (I' : mI) (J' : mI), k12 y4 y5 I' J' → WM C ad n I' J' R 0 0 12 [(0, vr l0), (1, vr l1), (2, vi l2), (3, vi l3), (4, vi y4), (5, vi y5)] []) (hw : P1_countOrders_b41 l0 l1 l2 l3 l5 s0 s1 I J R k12 Q) : WM C ad n I J R 0 0 41 [(0, vr l0), (1, vr l1), (2, vi l2), (3, vi l3), (5, vi l5)] [vi s1, vi s0] := by
  unfold P1_countOrders_b41 at hw
  refine x_iadd hC dX1_countOrders_41 hw (fun hw => ?_)
  refine wm_istore hC dX1_countOrders_42 (by decide) (L2 := [(4, vi (s0 + s1)), (0, vr l0), (1, vr l1), (2, vi l2), (3, vi l3), (5, vi l5)]) rfl ?_
  refine wm_aload_n hC 1 dX1_countOrders_44 rfl (k_ne0 hk0 (by decide)) ?_
  refine wm_aload_n hC 2 dX1_countOrders_45 rfl (k_ne0 hk1 (by decide)) ?_
  refine y_callV_v_I hC hRm noS ml_X1_121 hk0 (C1_nextOrder hk0 hk1 hw) (Nat.le_of_ble_eq_true rfl) (Nat.le_of_ble_eq_true rfl) ⟨Nat.zero_le _, Nat.zero_le _⟩ rfl (st := []) rfl (Nat.le_of_ble_eq_true rfl) dX1_countOrders_46 (fun I3 hw => ?_)
  refine x_iinc hC 5 dX1_countOrders_49 rfl (by decide) (L2 := [(5, vi (l5 + 1)), (4, vi (s0 + s1)), (0, vr l0), (1, vr l1), (2, vi l2), (3, vi l3)]) rfl hw (fun hw => ?_)
  refine wm_goto (tgt := 12) hC dX1_countOrders_52 (by decide) ?_
  refine wm_sub [2, 3, 4, 5, 1, 0] (L2 := [(0, vr l0), (1, vr l1), (2, vi l2), (3, vi l3), (4, vi (s0 + s1)), (5, vi (l5 + 1))]) rfl ?_
  exact kk12 _ _ _ _ hw
def P1_countOrders_b12_body (l0 : Nat) (l1 : Nat) (l2 : Int) (l3 : Int) (R : mR) (Q : Int → mI → mI → Prop) (k12 : Int → Int → mI → mI → Prop) (l4 : Int) (l5 : Int) (I : mI) (J : mI) : Prop := (if l3 ≤ l5 then (Q l4 I J) else (kK (R l0 4) = 3 ∧ (P3_everybody (R l0 4) I R (fun r2 => (P1_ask l0 l1 r2 I J R (fun r3 I2 J1 => (if r3 = l2 then (P1_countOrders_b41 l0 l1 l2 l3 l5 l4 1 I2 J1 R k12 Q) else (P1_countOrders_b41 l0 l1 l2 l3 l5 l4 0 I2 J1 R k12 Q))))))))
def P1_countOrders_b12 (l0 : Nat) (l1 : Nat) (l2 : Int) (l3 : Int) (R : mR) (Q : Int → mI → mI → Prop) : Nat → Int → Int → mI → mI → Prop
  | 0 => fun _ _ _ _ => False
  | f + 1 => fun l4 l5 I J => P1_countOrders_b12_body l0 l1 l2 l3 R Q (P1_countOrders_b12 l0 l1 l2 l3 R Q f) l4 l5 I J
set_option maxRecDepth 20000 in
theorem W1_countOrders_b12_body {C : wX} {ad : Nat → Nat} {n : Nat} {I J : mI} {R : mR} {Q : Int → mI → mI → Prop} (hC : wOK C cX1_countOrders 6 RX1) (hRm : wRm C 6 139 0 0) (hE : wEnd C (some .int) ad n (fun r I' J' R' => (R' = R) ∧ Q r I' J')) {l0 : Nat} {l1 : Nat} {l2 : Int} {l3 : Int} {l4 : Int} {l5 : Int}   (hk0 : kK l0 = 1) (hk1 : kK l1 = 21)  {k12 : Int → Int → mI → mI → Prop} (kk12 : ∀ (y4 : Int) (y5 : Int) (I' : mI) (J' : mI), k12 y4 y5 I' J' → WM C ad n I' J' R 0 0 12 [(0, vr l0), (1, vr l1), (2, vi l2), (3, vi l3), (4, vi y4), (5, vi y5)] []) (hw : P1_countOrders_b12_body l0 l1 l2 l3 R Q k12 l4 l5 I J) : WM C ad n I J R 0 0 12 [(0, vr l0), (1, vr l1), (2, vi l2), (3, vi l3), (4, vi l4), (5, vi l5)] [] := by
  unfold P1_countOrders_b12_body at hw
  refine wm_iload hC 5 dX1_countOrders_12 rfl ?_
  refine wm_iload_n hC 3 dX1_countOrders_14 rfl ?_
  refine wm_icmp_ge (tgt := 55) hC dX1_countOrders_15 (by decide) hw (fun hw => ?_) (fun hw => ?_)
  · refine wm_iload hC 4 dX1_countOrders_55 rfl ?_
    exact wm_ireturn hC hE dX1_countOrders_57 ⟨rfl, hw⟩
  · refine wm_iload hC 4 dX1_countOrders_18 rfl ?_
    refine wm_aload_n hC 0 dX1_countOrders_20 rfl (k_ne0 hk0 (by decide)) ?_
    refine wm_aload_n hC 1 dX1_countOrders_21 rfl (k_ne0 hk1 (by decide)) ?_
    refine wm_aload_n hC 0 dX1_countOrders_22 rfl (k_ne0 hk0 (by decide)) ?_
    refine x_getR2 hC 4 fl_X1_38 rfl hk0 dX1_countOrders_23 hw (fun g1 hw => ?_)
    refine y_callV_i_n hC hRm noS ml_X1_113 g1 (C3_everybody g1 hw) (Nat.le_of_ble_eq_true rfl) (Nat.le_of_ble_eq_true rfl) ⟨Nat.zero_le _, Nat.zero_le _⟩ rfl (st := [vr l1, vr l0, vi l4]) rfl (Nat.le_of_ble_eq_true rfl) dX1_countOrders_26 (fun r2 hw => ?_)
    refine y_callV_i_IJ hC hRm noS ml_X1_117 hk0 (C1_ask hk0 hk1 hw) (Nat.le_of_ble_eq_true rfl) (Nat.le_of_ble_eq_true rfl) ⟨Nat.zero_le _, Nat.zero_le _⟩ rfl (st := [vi l4]) rfl (Nat.le_of_ble_eq_true rfl) dX1_countOrders_29 (fun r3 I2 J1 hw => ?_)
    refine wm_iload_n hC 2 dX1_countOrders_32 rfl ?_
    refine wm_icmp_ne (tgt := 40) hC dX1_countOrders_33 (by decide) hw (fun hw => ?_) (fun hw => ?_)
    · refine wm_iconst hC dX1_countOrders_36 (k := ?_)
      refine wm_goto (tgt := 41) hC dX1_countOrders_37 (by decide) ?_
      refine wm_sub [0, 1, 2, 3, 5] (L2 := [(0, vr l0), (1, vr l1), (2, vi l2), (3, vi l3), (5, vi l5)]) rfl ?_
      exact W1_countOrders_b41 hC hRm hE hk0 hk1 kk12 hw
    · refine wm_iconst hC dX1_countOrders_40 (k := ?_)
      refine wm_sub [0, 1, 2, 3, 5] (L2 := [(0, vr l0), (1, vr l1), (2, vi l2), (3, vi l3), (5, vi l5)]) rfl ?_
      exact W1_countOrders_b41 hC hRm hE hk0 hk1 kk12 hw
set_option maxRecDepth 20000 in
theorem W1_countOrders_b12 {C : wX} {ad : Nat → Nat} {n : Nat} {R : mR} {Q : Int → mI → mI → Prop} (hC : wOK C cX1_countOrders 6 RX1) (hRm : wRm C 6 139 0 0) (hE : wEnd C (some .int) ad n (fun r I' J' R' => (R' = R) ∧ Q r I' J')) {l0 : Nat} {l1 : Nat} {l2 : Int} {l3 : Int}   (hk0 : kK l0 = 1) (hk1 : kK l1 = 21)  : ∀ (f : Nat) (l4 : Int) (l5 : Int) (I : mI) (J : mI), P1_countOrders_b12 l0 l1 l2 l3 R Q f l4 l5 I J → WM C ad n I J R 0 0 12 [(0, vr l0), (1, vr l1), (2, vi l2), (3, vi l3), (4, vi l4), (5, vi l5)] [] := by
  intro f
  induction f with
  | zero => intro l4 l5 I J hw; exact hw.elim
  | succ f ih => intro l4 l5 I J hw; exact W1_countOrders_b12_body hC hRm hE hk0 hk1 (fun a0 a1 a2 a3 hw => ih a0 a1 a2 a3 hw) hw
def P1_countOrders (l0 : Nat) (l1 : Nat) (l2 : Int) (I : mI) (J : mI) (R : mR) (Q : Int → mI → mI → Prop) : Prop := (P1_beginOrders l0 l1 I R (fun r1 I1 => (∃ f, P1_countOrders_b12 l0 l1 l2 r1 R Q f 0 0 I1 J)))
set_option maxRecDepth 20000 in
theorem C1_countOrders {ad : Nat → Nat} {n : Nat} {I J : mI} {R : mR} {Q : Int → mI → mI → Prop}  {l0 : Nat} {l1 : Nat} {l2 : Int} (hk0 : kK l0 = 1) (hk1 : kK l1 = 21) (hw : P1_countOrders l0 l1 l2 I J R Q) : wMet yX1_countOrders cX1_countOrders 6 (some .int) 6 139 false ad n I J R [vr l0, vr l1, vi l2] (fun r I' J' R' => (R' = R) ∧ Q r I' J') := by
  refine wMet_of (by decide) (Nat.le_of_ble_eq_true rfl) (fun C hC hRm hE hS => ?_)
  refine (show WM C ad n I J R 0 0 0 [(0, vr l0), (1, vr l1), (2, vi l2)] [] from ?_)
  unfold P1_countOrders at hw
  refine wm_aload_n hC 0 dX1_countOrders_0 rfl (k_ne0 hk0 (by decide)) ?_
  refine wm_aload_n hC 1 dX1_countOrders_1 rfl (k_ne0 hk1 (by decide)) ?_
  refine y_callV_i_I hC hRm noS ml_X1_109 hk0 (C1_beginOrders hk0 hk1 hw) (Nat.le_of_ble_eq_true rfl) (Nat.le_of_ble_eq_true rfl) ⟨Nat.zero_le _, Nat.zero_le _⟩ rfl (st := []) rfl (Nat.le_of_ble_eq_true rfl) dX1_countOrders_2 (fun r1 I1 hw => ?_)
  refine wm_istore_n hC dX1_countOrders_5 (by decide) (L2 := [(3, vi r1), (0, vr l0), (1, vr l1), (2, vi l2)]) rfl ?_
  refine wm_iconst hC dX1_countOrders_6 (k := ?_)
  refine wm_istore hC dX1_countOrders_7 (by decide) (L2 := [(4, vi 0), (3, vi r1), (0, vr l0), (1, vr l1), (2, vi l2)]) rfl ?_
  refine wm_iconst hC dX1_countOrders_9 (k := ?_)
  refine wm_istore hC dX1_countOrders_10 (by decide) (L2 := [(5, vi 0), (4, vi 0), (3, vi r1), (0, vr l0), (1, vr l1), (2, vi l2)]) rfl ?_
  obtain ⟨f, hw⟩ := hw
  refine wm_sub [3, 4, 5, 2, 1, 0] (L2 := [(0, vr l0), (1, vr l1), (2, vi l2), (3, vi r1), (4, vi 0), (5, vi 0)]) rfl ?_
  exact W1_countOrders_b12 hC hRm hE hk0 hk1 f _ _ _ _ hw
def P1_powerOf_b4_body (l0 : Nat) (l1 : Int) (R : mR) (Q : Int → mI → mI → Prop) (k4 : Int → Int → mI → mI → Prop) (l2 : Int) (l3 : Int) (I : mI) (J : mI) : Prop := (kK (R l0 4) = 3 ∧ (P3_everybody (R l0 4) I R (fun r1 => (if r1 < l3 then (Q l2 I J) else (if (bAnd (bShr l3 l1) 1) = 0 then (kK (R l0 5) = 7 ∧ (kK (R (R l0 5) 3) = 21 ∧ (P1_ask l0 (R (R l0 5) 3) l3 I J R (fun r2 I1 J1 => (kK (R l0 5) = 7 ∧ (kK (R (R l0 5) 3) = 21 ∧ (P1_ask l0 (R (R l0 5) 3) (bOr l3 (bShl 1 l1)) I1 J1 R (fun r3 I2 J2 => (if r2 = r3 then (rg (l2 + 0) ∧ (rg (l3 + 1) ∧ (k4 (l2 + 0) (l3 + 1) I2 J2))) else (rg (l2 + 1) ∧ (rg (l3 + 1) ∧ (k4 (l2 + 1) (l3 + 1) I2 J2)))))))))))) else (rg (l3 + 1) ∧ (k4 l2 (l3 + 1) I J)))))))
def P1_powerOf_b4 (l0 : Nat) (l1 : Int) (R : mR) (Q : Int → mI → mI → Prop) : Nat → Int → Int → mI → mI → Prop
  | 0 => fun _ _ _ _ => False
  | f + 1 => fun l2 l3 I J => P1_powerOf_b4_body l0 l1 R Q (P1_powerOf_b4 l0 l1 R Q f) l2 l3 I J
set_option maxRecDepth 20000 in
theorem W1_powerOf_b4_body {C : wX} {ad : Nat → Nat} {n : Nat} {I J : mI} {R : mR} {Q : Int → mI → mI → Prop} (hC : wOK C cX1_powerOf 4 RX1) (hRm : wRm C 6 139 0 0) (hE : wEnd C (some .int) ad n (fun r I' J' R' => (R' = R) ∧ Q r I' J')) {l0 : Nat} {l1 : Int} {l2 : Int} {l3 : Int}   (hk0 : kK l0 = 1)  {k4 : Int → Int → mI → mI → Prop} (kk4 : ∀ (y2 : Int) (y3 : Int) (I' : mI) (J' : mI), k4 y2 y3 I' J' → WM C ad n I' J' R 0 0 4 [(0, vr l0), (1, vi l1), (2, vi y2), (3, vi y3)] []) (hw : P1_powerOf_b4_body l0 l1 R Q k4 l2 l3 I J) : WM C ad n I J R 0 0 4 [(0, vr l0), (1, vi l1), (2, vi l2), (3, vi l3)] [] := by
  unfold P1_powerOf_b4_body at hw
  refine wm_iload_n hC 3 dX1_powerOf_4 rfl ?_
  refine wm_aload_n hC 0 dX1_powerOf_5 rfl (k_ne0 hk0 (by decide)) ?_
  refine x_getR2 hC 4 fl_X1_38 rfl hk0 dX1_powerOf_6 hw (fun g1 hw => ?_)
  refine y_callV_i_n hC hRm noS ml_X1_113 g1 (C3_everybody g1 hw) (Nat.le_of_ble_eq_true rfl) (Nat.le_of_ble_eq_true rfl) ⟨Nat.zero_le _, Nat.zero_le _⟩ rfl (st := [vi l3]) rfl (Nat.le_of_ble_eq_true rfl) dX1_powerOf_9 (fun r1 hw => ?_)
  refine wm_icmp_gt (tgt := 68) hC dX1_powerOf_12 (by decide) hw (fun hw => ?_) (fun hw => ?_)
  · refine wm_iload_n hC 2 dX1_powerOf_68 rfl ?_
    exact wm_ireturn hC hE dX1_powerOf_69 ⟨rfl, hw⟩
  · refine wm_iload_n hC 3 dX1_powerOf_15 rfl ?_
    refine wm_iload_n hC 1 dX1_powerOf_16 rfl ?_
    refine wm_ishr hC dX1_powerOf_17 ?_
    refine wm_iconst hC dX1_powerOf_18 (k := ?_)
    refine wm_iand hC dX1_powerOf_19 ?_
    refine wm_if_ne (tgt := 62) hC dX1_powerOf_20 (by decide) hw (fun hw => ?_) (fun hw => ?_)
    · refine wm_iload_n hC 2 dX1_powerOf_23 rfl ?_
      refine wm_aload_n hC 0 dX1_powerOf_24 rfl (k_ne0 hk0 (by decide)) ?_
      refine wm_aload_n hC 0 dX1_powerOf_25 rfl (k_ne0 hk0 (by decide)) ?_
      refine x_getR2 hC 5 fl_X1_42 rfl hk0 dX1_powerOf_26 hw (fun g2 hw => ?_)
      refine x_getR2 hC 3 fl_X1_129 rfl g2 dX1_powerOf_29 hw (fun g3 hw => ?_)
      refine wm_iload_n hC 3 dX1_powerOf_32 rfl ?_
      refine y_callV_i_IJ hC hRm noS ml_X1_117 hk0 (C1_ask hk0 g3 hw) (Nat.le_of_ble_eq_true rfl) (Nat.le_of_ble_eq_true rfl) ⟨Nat.zero_le _, Nat.zero_le _⟩ rfl (st := [vi l2]) rfl (Nat.le_of_ble_eq_true rfl) dX1_powerOf_33 (fun r2 I1 J1 hw => ?_)
      refine wm_aload_n hC 0 dX1_powerOf_36 rfl (k_ne0 hk0 (by decide)) ?_
      refine wm_aload_n hC 0 dX1_powerOf_37 rfl (k_ne0 hk0 (by decide)) ?_
      refine x_getR2 hC 5 fl_X1_42 rfl hk0 dX1_powerOf_38 hw (fun g4 hw => ?_)
      refine x_getR2 hC 3 fl_X1_129 rfl g4 dX1_powerOf_41 hw (fun g5 hw => ?_)
      refine wm_iload_n hC 3 dX1_powerOf_44 rfl ?_
      refine wm_iconst hC dX1_powerOf_45 (k := ?_)
      refine wm_iload_n hC 1 dX1_powerOf_46 rfl ?_
      refine wm_ishl hC dX1_powerOf_47 ?_
      refine wm_ior hC dX1_powerOf_48 ?_
      refine y_callV_i_IJ hC hRm noS ml_X1_117 hk0 (C1_ask hk0 g5 hw) (Nat.le_of_ble_eq_true rfl) (Nat.le_of_ble_eq_true rfl) ⟨Nat.zero_le _, Nat.zero_le _⟩ rfl (st := [vi r2, vi l2]) rfl (Nat.le_of_ble_eq_true rfl) dX1_powerOf_49 (fun r3 I2 J2 hw => ?_)
      refine wm_icmp_eq (tgt := 59) hC dX1_powerOf_52 (by decide) hw (fun hw => ?_) (fun hw => ?_)
      · refine wm_iconst hC dX1_powerOf_59 (k := ?_)
        refine x_iadd hC dX1_powerOf_60 hw (fun hw => ?_)
        refine wm_istore_n hC dX1_powerOf_61 (by decide) (L2 := [(2, vi (l2 + 0)), (0, vr l0), (1, vi l1), (3, vi l3)]) rfl ?_
        refine x_iinc hC 3 dX1_powerOf_62 rfl (by decide) (L2 := [(3, vi (l3 + 1)), (2, vi (l2 + 0)), (0, vr l0), (1, vi l1)]) rfl hw (fun hw => ?_)
        refine wm_goto (tgt := 4) hC dX1_powerOf_65 (by decide) ?_
        refine wm_sub [2, 3, 1, 0] (L2 := [(0, vr l0), (1, vi l1), (2, vi (l2 + 0)), (3, vi (l3 + 1))]) rfl ?_
        exact kk4 _ _ _ _ hw
      · refine wm_iconst hC dX1_powerOf_55 (k := ?_)
        refine wm_goto (tgt := 60) hC dX1_powerOf_56 (by decide) ?_
        refine x_iadd hC dX1_powerOf_60 hw (fun hw => ?_)
        refine wm_istore_n hC dX1_powerOf_61 (by decide) (L2 := [(2, vi (l2 + 1)), (0, vr l0), (1, vi l1), (3, vi l3)]) rfl ?_
        refine x_iinc hC 3 dX1_powerOf_62 rfl (by decide) (L2 := [(3, vi (l3 + 1)), (2, vi (l2 + 1)), (0, vr l0), (1, vi l1)]) rfl hw (fun hw => ?_)
        refine wm_goto (tgt := 4) hC dX1_powerOf_65 (by decide) ?_
        refine wm_sub [2, 3, 1, 0] (L2 := [(0, vr l0), (1, vi l1), (2, vi (l2 + 1)), (3, vi (l3 + 1))]) rfl ?_
        exact kk4 _ _ _ _ hw
    · refine x_iinc hC 3 dX1_powerOf_62 rfl (by decide) (L2 := [(3, vi (l3 + 1)), (0, vr l0), (1, vi l1), (2, vi l2)]) rfl hw (fun hw => ?_)
      refine wm_goto (tgt := 4) hC dX1_powerOf_65 (by decide) ?_
      refine wm_sub [1, 2, 3, 0] (L2 := [(0, vr l0), (1, vi l1), (2, vi l2), (3, vi (l3 + 1))]) rfl ?_
      exact kk4 _ _ _ _ hw
set_option maxRecDepth 20000 in
theorem W1_powerOf_b4 {C : wX} {ad : Nat → Nat} {n : Nat} {R : mR} {Q : Int → mI → mI → Prop} (hC : wOK C cX1_powerOf 4 RX1) (hRm : wRm C 6 139 0 0) (hE : wEnd C (some .int) ad n (fun r I' J' R' => (R' = R) ∧ Q r I' J')) {l0 : Nat} {l1 : Int}   (hk0 : kK l0 = 1)  : ∀ (f : Nat) (l2 : Int) (l3 : Int) (I : mI) (J : mI), P1_powerOf_b4 l0 l1 R Q f l2 l3 I J → WM C ad n I J R 0 0 4 [(0, vr l0), (1, vi l1), (2, vi l2), (3, vi l3)] [] := by
  intro f
  induction f with
  | zero => intro l2 l3 I J hw; exact hw.elim
  | succ f ih => intro l2 l3 I J hw; exact W1_powerOf_b4_body hC hRm hE hk0 (fun a0 a1 a2 a3 hw => ih a0 a1 a2 a3 hw) hw
def P1_powerOf (l0 : Nat) (l1 : Int) (I : mI) (J : mI) (R : mR) (Q : Int → mI → mI → Prop) : Prop := (∃ f, P1_powerOf_b4 l0 l1 R Q f 0 0 I J)
set_option maxRecDepth 20000 in
theorem C1_powerOf {ad : Nat → Nat} {n : Nat} {I J : mI} {R : mR} {Q : Int → mI → mI → Prop}  {l0 : Nat} {l1 : Int} (hk0 : kK l0 = 1) (hw : P1_powerOf l0 l1 I J R Q) : wMet yX1_powerOf cX1_powerOf 4 (some .int) 6 139 false ad n I J R [vr l0, vi l1] (fun r I' J' R' => (R' = R) ∧ Q r I' J') := by
  refine wMet_of (by decide) (Nat.le_of_ble_eq_true rfl) (fun C hC hRm hE hS => ?_)
  refine (show WM C ad n I J R 0 0 0 [(0, vr l0), (1, vi l1)] [] from ?_)
  unfold P1_powerOf at hw
  refine wm_iconst hC dX1_powerOf_0 (k := ?_)
  refine wm_istore_n hC dX1_powerOf_1 (by decide) (L2 := [(2, vi 0), (0, vr l0), (1, vi l1)]) rfl ?_
  refine wm_iconst hC dX1_powerOf_2 (k := ?_)
  refine wm_istore_n hC dX1_powerOf_3 (by decide) (L2 := [(3, vi 0), (2, vi 0), (0, vr l0), (1, vi l1)]) rfl ?_
  obtain ⟨f, hw⟩ := hw
  refine wm_sub [2, 3, 1, 0] (L2 := [(0, vr l0), (1, vi l1), (2, vi 0), (3, vi 0)]) rfl ?_
  exact W1_powerOf_b4 hC hRm hE hk0 f _ _ _ _ hw
def P1_oddsOf_b55_body (l0 : Nat) (l1 : Int) (l2 : Int) (l3 : Int) (R : mR) (Q : Int → mI → mI → Prop) (k55 : Int → Int → mI → mI → Prop) (l4 : Int) (l5 : Int) (I : mI) (J : mI) : Prop := (if l2 ≤ l5 then (Q l4 I J) else (kK (R l0 5) = 7 ∧ (kK (R (R l0 5) 3) = 21 ∧ (P1_ask l0 (R (R l0 5) 3) (bAnd l3 (bXor (bShl 1 l5) (-1))) I J R (fun r3 I2 J2 => (if r3 = l1 then (kK (R l0 4) = 3 ∧ (rg (l4 + (I2 (R l0 4) 11)) ∧ (wLet (l4 + (I2 (R l0 4) 11)) (fun x3 => (rg (l5 + 1) ∧ (k55 x3 (l5 + 1) I2 J2)))))) else (rg (l4 + 0) ∧ (rg (l5 + 1) ∧ (k55 (l4 + 0) (l5 + 1) I2 J2)))))))))
def P1_oddsOf_b55 (l0 : Nat) (l1 : Int) (l2 : Int) (l3 : Int) (R : mR) (Q : Int → mI → mI → Prop) : Nat → Int → Int → mI → mI → Prop
  | 0 => fun _ _ _ _ => False
  | f + 1 => fun l4 l5 I J => P1_oddsOf_b55_body l0 l1 l2 l3 R Q (P1_oddsOf_b55 l0 l1 l2 l3 R Q f) l4 l5 I J
set_option maxRecDepth 20000 in
theorem W1_oddsOf_b55_body {C : wX} {ad : Nat → Nat} {n : Nat} {I J : mI} {R : mR} {Q : Int → mI → mI → Prop} (hC : wOK C cX1_oddsOf 6 RX1) (hRm : wRm C 6 139 0 0) (hE : wEnd C (some .int) ad n (fun r I' J' R' => (R' = R) ∧ Q r I' J')) {l0 : Nat} {l1 : Int} {l2 : Int} {l3 : Int} {l4 : Int} {l5 : Int}   (hk0 : kK l0 = 1)  {k55 : Int → Int → mI → mI → Prop} (kk55 : ∀ (y4 : Int) (y5 : Int) (I' : mI) (J' : mI), k55 y4 y5 I' J' → WM C ad n I' J' R 0 0 55 [(0, vr l0), (1, vi l1), (2, vi l2), (3, vi l3), (4, vi y4), (5, vi y5)] []) (hw : P1_oddsOf_b55_body l0 l1 l2 l3 R Q k55 l4 l5 I J) : WM C ad n I J R 0 0 55 [(0, vr l0), (1, vi l1), (2, vi l2), (3, vi l3), (4, vi l4), (5, vi l5)] [] := by
  unfold P1_oddsOf_b55_body at hw
  refine wm_iload hC 5 dX1_oddsOf_55 rfl ?_
  refine wm_iload_n hC 2 dX1_oddsOf_57 rfl ?_
  refine wm_icmp_ge (tgt := 106) hC dX1_oddsOf_58 (by decide) hw (fun hw => ?_) (fun hw => ?_)
  · refine wm_iload hC 4 dX1_oddsOf_106 rfl ?_
    exact wm_ireturn hC hE dX1_oddsOf_108 ⟨rfl, hw⟩
  · refine wm_iload hC 4 dX1_oddsOf_61 rfl ?_
    refine wm_aload_n hC 0 dX1_oddsOf_63 rfl (k_ne0 hk0 (by decide)) ?_
    refine wm_aload_n hC 0 dX1_oddsOf_64 rfl (k_ne0 hk0 (by decide)) ?_
    refine x_getR2 hC 5 fl_X1_42 rfl hk0 dX1_oddsOf_65 hw (fun g7 hw => ?_)
    refine x_getR2 hC 3 fl_X1_129 rfl g7 dX1_oddsOf_68 hw (fun g8 hw => ?_)
    refine wm_iload_n hC 3 dX1_oddsOf_71 rfl ?_
    refine wm_iconst hC dX1_oddsOf_72 (k := ?_)
    refine wm_iload hC 5 dX1_oddsOf_73 rfl ?_
    refine wm_ishl hC dX1_oddsOf_75 ?_
    refine wm_iconst hC dX1_oddsOf_76 (k := ?_)
    refine wm_ixor hC dX1_oddsOf_77 ?_
    refine wm_iand hC dX1_oddsOf_78 ?_
    refine y_callV_i_IJ hC hRm noS ml_X1_117 hk0 (C1_ask hk0 g8 hw) (Nat.le_of_ble_eq_true rfl) (Nat.le_of_ble_eq_true rfl) ⟨Nat.zero_le _, Nat.zero_le _⟩ rfl (st := [vi l4]) rfl (Nat.le_of_ble_eq_true rfl) dX1_oddsOf_79 (fun r3 I2 J2 hw => ?_)
    refine wm_iload_n hC 1 dX1_oddsOf_82 rfl ?_
    refine wm_icmp_ne (tgt := 96) hC dX1_oddsOf_83 (by decide) hw (fun hw => ?_) (fun hw => ?_)
    · refine wm_aload_n hC 0 dX1_oddsOf_86 rfl (k_ne0 hk0 (by decide)) ?_
      refine x_getR2 hC 4 fl_X1_38 rfl hk0 dX1_oddsOf_87 hw (fun g9 hw => ?_)
      refine x_getI hC 11 fl_X1_132 rfl g9 dX1_oddsOf_90 ?_
      refine wm_goto (tgt := 97) hC dX1_oddsOf_93 (by decide) ?_
      refine x_iadd hC dX1_oddsOf_97 hw (fun hw => ?_)
      refine x_nameI hw (fun x3 hw => ?_)
      refine wm_istore hC dX1_oddsOf_98 (by decide) (L2 := [(4, vi x3), (0, vr l0), (1, vi l1), (2, vi l2), (3, vi l3), (5, vi l5)]) rfl ?_
      refine x_iinc hC 5 dX1_oddsOf_100 rfl (by decide) (L2 := [(5, vi (l5 + 1)), (4, vi x3), (0, vr l0), (1, vi l1), (2, vi l2), (3, vi l3)]) rfl hw (fun hw => ?_)
      refine wm_goto (tgt := 55) hC dX1_oddsOf_103 (by decide) ?_
      refine wm_sub [2, 3, 4, 5, 1, 0] (L2 := [(0, vr l0), (1, vi l1), (2, vi l2), (3, vi l3), (4, vi x3), (5, vi (l5 + 1))]) rfl ?_
      exact kk55 _ _ _ _ hw
    · refine wm_iconst hC dX1_oddsOf_96 (k := ?_)
      refine x_iadd hC dX1_oddsOf_97 hw (fun hw => ?_)
      refine wm_istore hC dX1_oddsOf_98 (by decide) (L2 := [(4, vi (l4 + 0)), (0, vr l0), (1, vi l1), (2, vi l2), (3, vi l3), (5, vi l5)]) rfl ?_
      refine x_iinc hC 5 dX1_oddsOf_100 rfl (by decide) (L2 := [(5, vi (l5 + 1)), (4, vi (l4 + 0)), (0, vr l0), (1, vi l1), (2, vi l2), (3, vi l3)]) rfl hw (fun hw => ?_)
      refine wm_goto (tgt := 55) hC dX1_oddsOf_103 (by decide) ?_
      refine wm_sub [2, 3, 4, 5, 1, 0] (L2 := [(0, vr l0), (1, vi l1), (2, vi l2), (3, vi l3), (4, vi (l4 + 0)), (5, vi (l5 + 1))]) rfl ?_
      exact kk55 _ _ _ _ hw
set_option maxRecDepth 20000 in
theorem W1_oddsOf_b55 {C : wX} {ad : Nat → Nat} {n : Nat} {R : mR} {Q : Int → mI → mI → Prop} (hC : wOK C cX1_oddsOf 6 RX1) (hRm : wRm C 6 139 0 0) (hE : wEnd C (some .int) ad n (fun r I' J' R' => (R' = R) ∧ Q r I' J')) {l0 : Nat} {l1 : Int} {l2 : Int} {l3 : Int}   (hk0 : kK l0 = 1)  : ∀ (f : Nat) (l4 : Int) (l5 : Int) (I : mI) (J : mI), P1_oddsOf_b55 l0 l1 l2 l3 R Q f l4 l5 I J → WM C ad n I J R 0 0 55 [(0, vr l0), (1, vi l1), (2, vi l2), (3, vi l3), (4, vi l4), (5, vi l5)] [] := by
  intro f
  induction f with
  | zero => intro l4 l5 I J hw; exact hw.elim
  | succ f ih => intro l4 l5 I J hw; exact W1_oddsOf_b55_body hC hRm hE hk0 (fun a0 a1 a2 a3 hw => ih a0 a1 a2 a3 hw) hw
def P1_oddsOf (l0 : Nat) (l1 : Int) (I : mI) (J : mI) (R : mR) (Q : Int → mI → mI → Prop) : Prop := (kK (R l0 4) = 3 ∧ (kK (R (R l0 4) 0) = 21 ∧ (((0 : Int) ≤ (0 : Int) ∧ (0 : Int) < (kN (R (R l0 4) 0) : Int)) ∧ (wLet (I (R (R l0 4) 0) (0 : Int)) (fun x1 => (kK (R l0 4) = 3 ∧ (P3_everybody (R l0 4) I R (fun r1 => (kK (R l0 5) = 7 ∧ (kK (R (R l0 5) 3) = 21 ∧ (P1_ask l0 (R (R l0 5) 3) r1 I J R (fun r2 I1 J1 => (if r2 = l1 then (kK (R l0 4) = 3 ∧ (rg (100 - (I1 (R l0 4) 11)) ∧ (rg ((100 - (I1 (R l0 4) 11)) * x1) ∧ (wLet ((100 - (I1 (R l0 4) 11)) * x1) (fun x2 => (∃ f, P1_oddsOf_b55 l0 l1 x1 r1 R Q f x2 0 I1 J1)))))) else (∃ f, P1_oddsOf_b55 l0 l1 x1 r1 R Q f 0 0 I1 J1))))))))))))))
set_option maxRecDepth 20000 in
theorem C1_oddsOf {ad : Nat → Nat} {n : Nat} {I J : mI} {R : mR} {Q : Int → mI → mI → Prop}  {l0 : Nat} {l1 : Int} (hk0 : kK l0 = 1) (hw : P1_oddsOf l0 l1 I J R Q) : wMet yX1_oddsOf cX1_oddsOf 6 (some .int) 6 139 false ad n I J R [vr l0, vi l1] (fun r I' J' R' => (R' = R) ∧ Q r I' J') := by
  refine wMet_of (by decide) (Nat.le_of_ble_eq_true rfl) (fun C hC hRm hE hS => ?_)
  refine (show WM C ad n I J R 0 0 0 [(0, vr l0), (1, vi l1)] [] from ?_)
  unfold P1_oddsOf at hw
  refine wm_aload_n hC 0 dX1_oddsOf_0 rfl (k_ne0 hk0 (by decide)) ?_
  refine x_getR2 hC 4 fl_X1_38 rfl hk0 dX1_oddsOf_1 hw (fun g1 hw => ?_)
  refine x_getR2 hC 0 fl_X1_53 rfl g1 dX1_oddsOf_4 hw (fun g2 hw => ?_)
  refine wm_iconst hC dX1_oddsOf_7 (k := ?_)
  refine x_iald hC g2 dX1_oddsOf_8 hw (fun hw => ?_)
  refine x_nameI hw (fun x1 hw => ?_)
  refine wm_istore_n hC dX1_oddsOf_9 (by decide) (L2 := [(2, vi x1), (0, vr l0), (1, vi l1)]) rfl ?_
  refine wm_aload_n hC 1 dX1_oddsOf_10 rfl (k_ne0 hk0 (by decide)) ?_
  refine x_getR2 hC 4 fl_X1_38 rfl hk0 dX1_oddsOf_11 hw (fun g3 hw => ?_)
  refine y_callV_i_n hC hRm noS ml_X1_113 g3 (C3_everybody g3 hw) (Nat.le_of_ble_eq_true rfl) (Nat.le_of_ble_eq_true rfl) ⟨Nat.zero_le _, Nat.zero_le _⟩ rfl (st := []) rfl (Nat.le_of_ble_eq_true rfl) dX1_oddsOf_14 (fun r1 hw => ?_)
  refine wm_istore_n hC dX1_oddsOf_17 (by decide) (L2 := [(3, vi r1), (2, vi x1), (0, vr l0), (1, vi l1)]) rfl ?_
  refine wm_aload_n hC 2 dX1_oddsOf_18 rfl (k_ne0 hk0 (by decide)) ?_
  refine wm_aload_n hC 2 dX1_oddsOf_19 rfl (k_ne0 hk0 (by decide)) ?_
  refine x_getR2 hC 5 fl_X1_42 rfl hk0 dX1_oddsOf_20 hw (fun g4 hw => ?_)
  refine x_getR2 hC 3 fl_X1_129 rfl g4 dX1_oddsOf_23 hw (fun g5 hw => ?_)
  refine wm_iload_n hC 0 dX1_oddsOf_26 rfl ?_
  refine y_callV_i_IJ hC hRm noS ml_X1_117 hk0 (C1_ask hk0 g5 hw) (Nat.le_of_ble_eq_true rfl) (Nat.le_of_ble_eq_true rfl) ⟨Nat.zero_le _, Nat.zero_le _⟩ rfl (st := []) rfl (Nat.le_of_ble_eq_true rfl) dX1_oddsOf_27 (fun r2 I1 J1 hw => ?_)
  refine wm_iload_n hC 3 dX1_oddsOf_30 rfl ?_
  refine wm_icmp_ne (tgt := 49) hC dX1_oddsOf_31 (by decide) hw (fun hw => ?_) (fun hw => ?_)
  · refine wm_bipush hC dX1_oddsOf_34 (k := ?_)
    refine wm_aload_n hC 2 dX1_oddsOf_36 rfl (k_ne0 hk0 (by decide)) ?_
    refine x_getR2 hC 4 fl_X1_38 rfl hk0 dX1_oddsOf_37 hw (fun g6 hw => ?_)
    refine x_getI hC 11 fl_X1_132 rfl g6 dX1_oddsOf_40 ?_
    refine x_isub hC dX1_oddsOf_43 hw (fun hw => ?_)
    refine wm_iload_n hC 1 dX1_oddsOf_44 rfl ?_
    refine x_imul hC dX1_oddsOf_45 hw (fun hw => ?_)
    refine wm_goto (tgt := 50) hC dX1_oddsOf_46 (by decide) ?_
    refine x_nameI hw (fun x2 hw => ?_)
    refine wm_istore hC dX1_oddsOf_50 (by decide) (L2 := [(4, vi x2), (3, vi r1), (2, vi x1), (0, vr l0), (1, vi l1)]) rfl ?_
    refine wm_iconst hC dX1_oddsOf_52 (k := ?_)
    refine wm_istore hC dX1_oddsOf_53 (by decide) (L2 := [(5, vi 0), (4, vi x2), (3, vi r1), (2, vi x1), (0, vr l0), (1, vi l1)]) rfl ?_
    obtain ⟨f, hw⟩ := hw
    refine wm_sub [4, 5, 3, 2, 1, 0] (L2 := [(0, vr l0), (1, vi l1), (2, vi x1), (3, vi r1), (4, vi x2), (5, vi 0)]) rfl ?_
    exact W1_oddsOf_b55 hC hRm hE hk0 f _ _ _ _ hw
  · refine wm_iconst hC dX1_oddsOf_49 (k := ?_)
    refine wm_istore hC dX1_oddsOf_50 (by decide) (L2 := [(4, vi 0), (3, vi r1), (2, vi x1), (0, vr l0), (1, vi l1)]) rfl ?_
    refine wm_iconst hC dX1_oddsOf_52 (k := ?_)
    refine wm_istore hC dX1_oddsOf_53 (by decide) (L2 := [(5, vi 0), (4, vi 0), (3, vi r1), (2, vi x1), (0, vr l0), (1, vi l1)]) rfl ?_
    obtain ⟨f, hw⟩ := hw
    refine wm_sub [4, 5, 3, 2, 1, 0] (L2 := [(0, vr l0), (1, vi l1), (2, vi x1), (3, vi r1), (4, vi 0), (5, vi 0)]) rfl ?_
    exact W1_oddsOf_b55 hC hRm hE hk0 f _ _ _ _ hw
def P3_isThere (l0 : Nat) (l1 : Int) (l2 : Int) (I : mI) (R : mR) (Q : Int → Prop) : Prop := (if l1 < 0 then (Q 0) else (kK (R l0 0) = 21 ∧ (if (kN (R l0 0) : Int) ≤ l1 then (Q 0) else (if l2 < 0 then (Q 0) else (kK (R l0 0) = 21 ∧ (((0 : Int) ≤ l1 ∧ l1 < (kN (R l0 0) : Int)) ∧ (if (I (R l0 0) l1) ≤ l2 then (Q 0) else (Q 1))))))))
set_option maxRecDepth 20000 in
theorem C3_isThere {ad : Nat → Nat} {n : Nat} {I J : mI} {R : mR} {Q : Int → Prop}  {l0 : Nat} {l1 : Int} {l2 : Int} (hk0 : kK l0 = 3) (hw : P3_isThere l0 l1 l2 I R Q) : wMet yX3_isThere cX3_isThere 3 (some .boolean) 1 12 false ad n I J R [vr l0, vi l1, vi l2] (fun r I' J' R' => (I' = I ∧ J' = J ∧ R' = R) ∧ Q r) := by
  refine wMet_of (by decide) (Nat.le_of_ble_eq_true rfl) (fun C hC hRm hE hS => ?_)
  refine (show WM C ad n I J R 0 0 0 [(0, vr l0), (1, vi l1), (2, vi l2)] [] from ?_)
  unfold P3_isThere at hw
  refine wm_iload_n hC 1 dX3_isThere_0 rfl ?_
  refine wm_if_lt (tgt := 31) hC dX3_isThere_1 (by decide) hw (fun hw => ?_) (fun hw => ?_)
  · refine wm_iconst hC dX3_isThere_31 (k := ?_)
    exact wm_zreturn hC hE (Or.inl rfl) dX3_isThere_32 ⟨⟨rfl, rfl, rfl⟩, hw⟩
  · refine wm_iload_n hC 1 dX3_isThere_4 rfl ?_
    refine wm_aload_n hC 0 dX3_isThere_5 rfl (k_ne0 hk0 (by decide)) ?_
    refine x_getR2 hC 0 fl_X3_9 rfl hk0 dX3_isThere_6 hw (fun g1 hw => ?_)
    refine x_alen hC g1 (by decide) dX3_isThere_9 ?_
    refine wm_icmp_ge (tgt := 31) hC dX3_isThere_10 (by decide) hw (fun hw => ?_) (fun hw => ?_)
    · refine wm_iconst hC dX3_isThere_31 (k := ?_)
      exact wm_zreturn hC hE (Or.inl rfl) dX3_isThere_32 ⟨⟨rfl, rfl, rfl⟩, hw⟩
    · refine wm_iload_n hC 2 dX3_isThere_13 rfl ?_
      refine wm_if_lt (tgt := 31) hC dX3_isThere_14 (by decide) hw (fun hw => ?_) (fun hw => ?_)
      · refine wm_iconst hC dX3_isThere_31 (k := ?_)
        exact wm_zreturn hC hE (Or.inl rfl) dX3_isThere_32 ⟨⟨rfl, rfl, rfl⟩, hw⟩
      · refine wm_iload_n hC 2 dX3_isThere_17 rfl ?_
        refine wm_aload_n hC 0 dX3_isThere_18 rfl (k_ne0 hk0 (by decide)) ?_
        refine x_getR2 hC 0 fl_X3_9 rfl hk0 dX3_isThere_19 hw (fun g2 hw => ?_)
        refine wm_iload_n hC 1 dX3_isThere_22 rfl ?_
        refine x_iald hC g2 dX3_isThere_23 hw (fun hw => ?_)
        refine wm_icmp_ge (tgt := 31) hC dX3_isThere_24 (by decide) hw (fun hw => ?_) (fun hw => ?_)
        · refine wm_iconst hC dX3_isThere_31 (k := ?_)
          exact wm_zreturn hC hE (Or.inl rfl) dX3_isThere_32 ⟨⟨rfl, rfl, rfl⟩, hw⟩
        · refine wm_iconst hC dX3_isThere_27 (k := ?_)
          refine wm_goto (tgt := 32) hC dX3_isThere_28 (by decide) ?_
          exact wm_zreturn hC hE (Or.inr rfl) dX3_isThere_32 ⟨⟨rfl, rfl, rfl⟩, hw⟩
def P9_byteAt (l0 : Nat) (l1 : Int) (I : mI) (R : mR) (Q : Int → Prop) : Prop := (if l1 < 0 then (Q (-1)) else (if (I l0 1) ≤ l1 then (Q (-1)) else (kK (R l0 0) = 20 ∧ (if (kN (R l0 0) : Int) ≤ l1 then (Q (-1)) else (kK (R l0 0) = 20 ∧ (((0 : Int) ≤ l1 ∧ l1 < (kN (R l0 0) : Int)) ∧ (Q (bAnd (I (R l0 0) l1) 255))))))))
set_option maxRecDepth 20000 in
theorem C9_byteAt {ad : Nat → Nat} {n : Nat} {I J : mI} {R : mR} {Q : Int → Prop}  {l0 : Nat} {l1 : Int} (hk0 : kK l0 = 9) (hw : P9_byteAt l0 l1 I R Q) : wMet yX9_byteAt cX9_byteAt 2 (some .int) 1 12 false ad n I J R [vr l0, vi l1] (fun r I' J' R' => (I' = I ∧ J' = J ∧ R' = R) ∧ Q r) := by
  refine wMet_of (by decide) (Nat.le_of_ble_eq_true rfl) (fun C hC hRm hE hS => ?_)
  refine (show WM C ad n I J R 0 0 0 [(0, vr l0), (1, vi l1)] [] from ?_)
  unfold P9_byteAt at hw
  refine wm_iload_n hC 1 dX9_byteAt_0 rfl ?_
  refine wm_if_lt (tgt := 34) hC dX9_byteAt_1 (by decide) hw (fun hw => ?_) (fun hw => ?_)
  · refine wm_iconst hC dX9_byteAt_34 (k := ?_)
    exact wm_ireturn hC hE dX9_byteAt_35 ⟨⟨rfl, rfl, rfl⟩, hw⟩
  · refine wm_iload_n hC 1 dX9_byteAt_4 rfl ?_
    refine wm_aload_n hC 0 dX9_byteAt_5 rfl (k_ne0 hk0 (by decide)) ?_
    refine x_getI hC 1 fl_X9_15 rfl hk0 dX9_byteAt_6 ?_
    refine wm_icmp_ge (tgt := 34) hC dX9_byteAt_9 (by decide) hw (fun hw => ?_) (fun hw => ?_)
    · refine wm_iconst hC dX9_byteAt_34 (k := ?_)
      exact wm_ireturn hC hE dX9_byteAt_35 ⟨⟨rfl, rfl, rfl⟩, hw⟩
    · refine wm_iload_n hC 1 dX9_byteAt_12 rfl ?_
      refine wm_aload_n hC 0 dX9_byteAt_13 rfl (k_ne0 hk0 (by decide)) ?_
      refine x_getR2 hC 0 fl_X9_9 rfl hk0 dX9_byteAt_14 hw (fun g1 hw => ?_)
      refine x_alen hC g1 (by decide) dX9_byteAt_17 ?_
      refine wm_icmp_ge (tgt := 34) hC dX9_byteAt_18 (by decide) hw (fun hw => ?_) (fun hw => ?_)
      · refine wm_iconst hC dX9_byteAt_34 (k := ?_)
        exact wm_ireturn hC hE dX9_byteAt_35 ⟨⟨rfl, rfl, rfl⟩, hw⟩
      · refine wm_aload_n hC 0 dX9_byteAt_21 rfl (k_ne0 hk0 (by decide)) ?_
        refine x_getR2 hC 0 fl_X9_9 rfl hk0 dX9_byteAt_22 hw (fun g2 hw => ?_)
        refine wm_iload_n hC 1 dX9_byteAt_25 rfl ?_
        refine x_bald hC g2 dX9_byteAt_26 hw (fun hw => ?_)
        refine wm_sipush hC dX9_byteAt_27 (k := ?_)
        refine wm_iand hC dX9_byteAt_30 ?_
        refine wm_goto (tgt := 35) hC dX9_byteAt_31 (by decide) ?_
        exact wm_ireturn hC hE dX9_byteAt_35 ⟨⟨rfl, rfl, rfl⟩, hw⟩
def P2_take_b110_body (l0 : Nat) (l1 : Nat) (l3 : Int) (R : mR) (Q : Int → mI → Prop) (k110 : Int → mI → Prop) (l4 : Int) (I : mI) : Prop := (rg (3 * l3) ∧ (if (3 * l3) ≤ l4 then (wLet (up I l0 5 l3) (fun I1 => (Q 1 I1))) else (kK (R l0 3) = 21 ∧ (P9_byteAt l1 l4 I R (fun r6 => (((0 : Int) ≤ l4 ∧ l4 < (kN (R l0 3) : Int)) ∧ wLet (up I (R l0 3) l4 r6) (fun I2 => (rg (l4 + 1) ∧ (k110 (l4 + 1) I2)))))))))
def P2_take_b110 (l0 : Nat) (l1 : Nat) (l3 : Int) (R : mR) (Q : Int → mI → Prop) : Nat → Int → mI → Prop
  | 0 => fun _ _ => False
  | f + 1 => fun l4 I => P2_take_b110_body l0 l1 l3 R Q (P2_take_b110 l0 l1 l3 R Q f) l4 I
set_option maxRecDepth 20000 in
theorem W2_take_b110_body {C : wX} {ad : Nat → Nat} {n : Nat} {I J : mI} {R : mR} {Q : Int → mI → Prop} (hC : wOK C cX2_take 6 RX2) (hRm : wRm C 2 34 0 0) (hE : wEnd C (some .boolean) ad n (fun r I' J' R' => (J' = J ∧ R' = R) ∧ Q r I')) {l0 : Nat} {l1 : Nat} {l3 : Int} {l4 : Int}   (hk0 : kK l0 = 2) (hk1 : kK l1 = 9)  {k110 : Int → mI → Prop} (kk110 : ∀ (y4 : Int) (I' : mI), k110 y4 I' → WM C ad n I' J R 0 0 110 [(0, vr l0), (1, vr l1), (3, vi l3), (4, vi y4)] []) (hw : P2_take_b110_body l0 l1 l3 R Q k110 l4 I) : WM C ad n I J R 0 0 110 [(0, vr l0), (1, vr l1), (3, vi l3), (4, vi l4)] [] := by
  unfold P2_take_b110_body at hw
  refine wm_iload hC 3 dX2_take_110 rfl ?_
  refine wm_iconst hC dX2_take_112 (k := ?_)
  refine wm_iload_n hC 2 dX2_take_113 rfl ?_
  refine x_imul hC dX2_take_114 hw (fun hw => ?_)
  refine wm_icmp_ge (tgt := 137) hC dX2_take_115 (by decide) hw (fun hw => ?_) (fun hw => ?_)
  · refine wm_aload_n hC 0 dX2_take_137 rfl (k_ne0 hk0 (by decide)) ?_
    refine wm_iload_n hC 2 dX2_take_138 rfl ?_
    refine x_putI hC 5 fl_X2_25 rfl hk0 dX2_take_139 hw (fun I1 hw => ?_)
    refine wm_iconst hC dX2_take_142 (k := ?_)
    exact wm_zreturn hC hE (Or.inr rfl) dX2_take_143 ⟨⟨rfl, rfl⟩, hw⟩
  · refine wm_aload_n hC 0 dX2_take_118 rfl (k_ne0 hk0 (by decide)) ?_
    refine x_getR2 hC 3 fl_X2_18 rfl hk0 dX2_take_119 hw (fun g1 hw => ?_)
    refine wm_iload hC 3 dX2_take_122 rfl ?_
    refine wm_aload_n hC 1 dX2_take_124 rfl (k_ne0 hk1 (by decide)) ?_
    refine wm_iload hC 3 dX2_take_125 rfl ?_
    refine y_callV_i_n hC hRm noS ml_X2_51 hk1 (C9_byteAt hk1 hw) (Nat.le_of_ble_eq_true rfl) (Nat.le_of_ble_eq_true rfl) ⟨Nat.zero_le _, Nat.zero_le _⟩ rfl (st := [vi l4, vr (R l0 3)]) rfl (Nat.le_of_ble_eq_true rfl) dX2_take_127 (fun r6 hw => ?_)
    refine x_iast hC g1 dX2_take_130 hw (fun I2 hw => ?_)
    refine x_iinc hC 3 dX2_take_131 rfl (by decide) (L2 := [(4, vi (l4 + 1)), (0, vr l0), (1, vr l1), (3, vi l3)]) rfl hw (fun hw => ?_)
    refine wm_goto (tgt := 110) hC dX2_take_134 (by decide) ?_
    refine wm_sub [1, 2, 3, 0] (L2 := [(0, vr l0), (1, vr l1), (3, vi l3), (4, vi (l4 + 1))]) rfl ?_
    exact kk110 _ _ hw
set_option maxRecDepth 20000 in
theorem W2_take_b110 {C : wX} {ad : Nat → Nat} {n : Nat} {J : mI} {R : mR} {Q : Int → mI → Prop} (hC : wOK C cX2_take 6 RX2) (hRm : wRm C 2 34 0 0) (hE : wEnd C (some .boolean) ad n (fun r I' J' R' => (J' = J ∧ R' = R) ∧ Q r I')) {l0 : Nat} {l1 : Nat} {l3 : Int}   (hk0 : kK l0 = 2) (hk1 : kK l1 = 9)  : ∀ (f : Nat) (l4 : Int) (I : mI), P2_take_b110 l0 l1 l3 R Q f l4 I → WM C ad n I J R 0 0 110 [(0, vr l0), (1, vr l1), (3, vi l3), (4, vi l4)] [] := by
  intro f
  induction f with
  | zero => intro l4 I hw; exact hw.elim
  | succ f ih => intro l4 I hw; exact W2_take_b110_body hC hRm hE hk0 hk1 (fun a0 a1 hw => ih a0 a1 hw) hw
def P2_take_b32_body (l0 : Nat) (l1 : Nat) (l2 : Nat) (l3 : Int) (I : mI) (R : mR) (Q : Int → mI → Prop) (k32 : Int → Prop) (l4 : Int) : Prop := (if l3 ≤ l4 then (∃ f, P2_take_b110 l0 l1 l3 R Q f 0 I) else (rg (3 * l4) ∧ (rg ((3 * l4) + 2) ∧ (P9_byteAt l1 ((3 * l4) + 2) I R (fun r1 => (rg (3 * l4) ∧ (P9_byteAt l1 (3 * l4) I R (fun r2 => (if (30 : Int) < r2 then (Q 0 I) else (rg (3 * l4) ∧ (rg ((3 * l4) + 1) ∧ (P9_byteAt l1 ((3 * l4) + 1) I R (fun r3 => (P3_isThere l2 2 r3 I R (fun r4 => (if r4 = 0 then (Q 0 I) else (if r1 = 255 then (rg (l4 + 1) ∧ (k32 (l4 + 1))) else (P3_isThere l2 1 r1 I R (fun r5 => (if r5 = 0 then (Q 0 I) else (rg (l4 + 1) ∧ (k32 (l4 + 1)))))))))))))))))))))))
def P2_take_b32 (l0 : Nat) (l1 : Nat) (l2 : Nat) (l3 : Int) (I : mI) (R : mR) (Q : Int → mI → Prop) : Nat → Int → Prop
  | 0 => fun _ => False
  | f + 1 => fun l4 => P2_take_b32_body l0 l1 l2 l3 I R Q (P2_take_b32 l0 l1 l2 l3 I R Q f) l4
set_option maxRecDepth 20000 in
theorem W2_take_b32_body {C : wX} {ad : Nat → Nat} {n : Nat} {I J : mI} {R : mR} {Q : Int → mI → Prop} (hC : wOK C cX2_take 6 RX2) (hRm : wRm C 2 34 0 0) (hE : wEnd C (some .boolean) ad n (fun r I' J' R' => (J' = J ∧ R' = R) ∧ Q r I')) {l0 : Nat} {l1 : Nat} {l2 : Nat} {l3 : Int} {l4 : Int}   (hk0 : kK l0 = 2) (hk1 : kK l1 = 9) (hk2 : kK l2 = 3)  {k32 : Int → Prop} (kk32 : ∀ (y4 : Int), k32 y4 → WM C ad n I J R 0 0 32 [(0, vr l0), (1, vr l1), (2, vr l2), (3, vi l3), (4, vi y4)] []) (hw : P2_take_b32_body l0 l1 l2 l3 I R Q k32 l4) : WM C ad n I J R 0 0 32 [(0, vr l0), (1, vr l1), (2, vr l2), (3, vi l3), (4, vi l4)] [] := by
  unfold P2_take_b32_body at hw
  refine wm_iload hC 4 dX2_take_32 rfl ?_
  refine wm_iload_n hC 3 dX2_take_34 rfl ?_
  refine wm_icmp_ge (tgt := 107) hC dX2_take_35 (by decide) hw (fun hw => ?_) (fun hw => ?_)
  · refine wm_iconst hC dX2_take_107 (k := ?_)
    refine wm_istore hC dX2_take_108 (by decide) (L2 := [(4, vi 0), (0, vr l0), (1, vr l1), (2, vr l2), (3, vi l3)]) rfl ?_
    obtain ⟨f, hw⟩ := hw
    refine wm_sub [1, 2, 4, 0] (L2 := [(0, vr l0), (1, vr l1), (3, vi l3), (4, vi 0)]) rfl ?_
    exact W2_take_b110 hC hRm hE hk0 hk1 f _ _ hw
  · refine wm_aload_n hC 1 dX2_take_38 rfl (k_ne0 hk1 (by decide)) ?_
    refine wm_iconst hC dX2_take_39 (k := ?_)
    refine wm_iload hC 4 dX2_take_40 rfl ?_
    refine x_imul hC dX2_take_42 hw (fun hw => ?_)
    refine wm_iconst hC dX2_take_43 (k := ?_)
    refine x_iadd hC dX2_take_44 hw (fun hw => ?_)
    refine y_callV_i_n hC hRm noS ml_X2_51 hk1 (C9_byteAt hk1 hw) (Nat.le_of_ble_eq_true rfl) (Nat.le_of_ble_eq_true rfl) ⟨Nat.zero_le _, Nat.zero_le _⟩ rfl (st := []) rfl (Nat.le_of_ble_eq_true rfl) dX2_take_45 (fun r1 hw => ?_)
    refine wm_istore hC dX2_take_48 (by decide) (L2 := [(5, vi r1), (0, vr l0), (1, vr l1), (2, vr l2), (3, vi l3), (4, vi l4)]) rfl ?_
    refine wm_aload_n hC 2 dX2_take_50 rfl (k_ne0 hk1 (by decide)) ?_
    refine wm_iconst hC dX2_take_51 (k := ?_)
    refine wm_iload hC 5 dX2_take_52 rfl ?_
    refine x_imul hC dX2_take_54 hw (fun hw => ?_)
    refine y_callV_i_n hC hRm noS ml_X2_51 hk1 (C9_byteAt hk1 hw) (Nat.le_of_ble_eq_true rfl) (Nat.le_of_ble_eq_true rfl) ⟨Nat.zero_le _, Nat.zero_le _⟩ rfl (st := []) rfl (Nat.le_of_ble_eq_true rfl) dX2_take_55 (fun r2 hw => ?_)
    refine wm_bipush hC dX2_take_58 (k := ?_)
    refine wm_icmp_gt (tgt := 99) hC dX2_take_60 (by decide) hw (fun hw => ?_) (fun hw => ?_)
    · refine wm_iconst hC dX2_take_99 (k := ?_)
      exact wm_zreturn hC hE (Or.inl rfl) dX2_take_100 ⟨⟨rfl, rfl⟩, hw⟩
    · refine wm_aload_n hC 3 dX2_take_63 rfl (k_ne0 hk2 (by decide)) ?_
      refine wm_iconst hC dX2_take_64 (k := ?_)
      refine wm_aload_n hC 2 dX2_take_65 rfl (k_ne0 hk1 (by decide)) ?_
      refine wm_iconst hC dX2_take_66 (k := ?_)
      refine wm_iload hC 5 dX2_take_67 rfl ?_
      refine x_imul hC dX2_take_69 hw (fun hw => ?_)
      refine wm_iconst hC dX2_take_70 (k := ?_)
      refine x_iadd hC dX2_take_71 hw (fun hw => ?_)
      refine y_callV_i_n hC hRm noS ml_X2_51 hk1 (C9_byteAt hk1 hw) (Nat.le_of_ble_eq_true rfl) (Nat.le_of_ble_eq_true rfl) ⟨Nat.zero_le _, Nat.zero_le _⟩ rfl (st := [vi 2, vr l2]) rfl (Nat.le_of_ble_eq_true rfl) dX2_take_72 (fun r3 hw => ?_)
      refine y_callV_z_n hC hRm noS ml_X2_57 hk2 (C3_isThere hk2 hw) (Nat.le_of_ble_eq_true rfl) (Nat.le_of_ble_eq_true rfl) ⟨Nat.zero_le _, Nat.zero_le _⟩ rfl (st := []) rfl (Nat.le_of_ble_eq_true rfl) dX2_take_75 (fun r4 hw => ?_)
      refine wm_if_eq (tgt := 99) hC dX2_take_78 (by decide) hw (fun hw => ?_) (fun hw => ?_)
      · refine wm_iconst hC dX2_take_99 (k := ?_)
        exact wm_zreturn hC hE (Or.inl rfl) dX2_take_100 ⟨⟨rfl, rfl⟩, hw⟩
      · refine wm_iload hC 0 dX2_take_81 rfl ?_
        refine wm_sipush hC dX2_take_83 (k := ?_)
        refine wm_icmp_eq (tgt := 101) hC dX2_take_86 (by decide) hw (fun hw => ?_) (fun hw => ?_)
        · refine x_iinc hC 5 dX2_take_101 rfl (by decide) (L2 := [(4, vi (l4 + 1)), (5, vi r1), (0, vr l0), (1, vr l1), (2, vr l2), (3, vi l3)]) rfl hw (fun hw => ?_)
          refine wm_goto (tgt := 32) hC dX2_take_104 (by decide) ?_
          refine wm_sub [2, 3, 4, 5, 0] (L2 := [(0, vr l0), (1, vr l1), (2, vr l2), (3, vi l3), (4, vi (l4 + 1))]) rfl ?_
          exact kk32 _ hw
        · refine wm_aload_n hC 3 dX2_take_89 rfl (k_ne0 hk2 (by decide)) ?_
          refine wm_iconst hC dX2_take_90 (k := ?_)
          refine wm_iload hC 0 dX2_take_91 rfl ?_
          refine y_callV_z_n hC hRm noS ml_X2_57 hk2 (C3_isThere hk2 hw) (Nat.le_of_ble_eq_true rfl) (Nat.le_of_ble_eq_true rfl) ⟨Nat.zero_le _, Nat.zero_le _⟩ rfl (st := []) rfl (Nat.le_of_ble_eq_true rfl) dX2_take_93 (fun r5 hw => ?_)
          refine wm_if_ne (tgt := 101) hC dX2_take_96 (by decide) hw (fun hw => ?_) (fun hw => ?_)
          · refine wm_iconst hC dX2_take_99 (k := ?_)
            exact wm_zreturn hC hE (Or.inl rfl) dX2_take_100 ⟨⟨rfl, rfl⟩, hw⟩
          · refine x_iinc hC 5 dX2_take_101 rfl (by decide) (L2 := [(4, vi (l4 + 1)), (5, vi r1), (0, vr l0), (1, vr l1), (2, vr l2), (3, vi l3)]) rfl hw (fun hw => ?_)
            refine wm_goto (tgt := 32) hC dX2_take_104 (by decide) ?_
            refine wm_sub [2, 3, 4, 5, 0] (L2 := [(0, vr l0), (1, vr l1), (2, vr l2), (3, vi l3), (4, vi (l4 + 1))]) rfl ?_
            exact kk32 _ hw
set_option maxRecDepth 20000 in
theorem W2_take_b32 {C : wX} {ad : Nat → Nat} {n : Nat} {I J : mI} {R : mR} {Q : Int → mI → Prop} (hC : wOK C cX2_take 6 RX2) (hRm : wRm C 2 34 0 0) (hE : wEnd C (some .boolean) ad n (fun r I' J' R' => (J' = J ∧ R' = R) ∧ Q r I')) {l0 : Nat} {l1 : Nat} {l2 : Nat} {l3 : Int}   (hk0 : kK l0 = 2) (hk1 : kK l1 = 9) (hk2 : kK l2 = 3)  : ∀ (f : Nat) (l4 : Int), P2_take_b32 l0 l1 l2 l3 I R Q f l4 → WM C ad n I J R 0 0 32 [(0, vr l0), (1, vr l1), (2, vr l2), (3, vi l3), (4, vi l4)] [] := by
  intro f
  induction f with
  | zero => intro l4 hw; exact hw.elim
  | succ f ih => intro l4 hw; exact W2_take_b32_body hC hRm hE hk0 hk1 hk2 (fun a0 hw => ih a0 hw) hw
def P2_take (l0 : Nat) (l1 : Nat) (l2 : Nat) (I : mI) (R : mR) (Q : Int → mI → Prop) : Prop := (wLet (Int.tdiv (I l1 1) 3) (fun x1 => (if x1 < 1 then (Q 0 I) else (if (16 : Int) < x1 then (Q 0 I) else (if (Int.tmod (I l1 1) 3) = 0 then (∃ f, P2_take_b32 l0 l1 l2 x1 I R Q f 0) else (Q 0 I))))))
set_option maxRecDepth 20000 in
theorem C2_take {ad : Nat → Nat} {n : Nat} {I J : mI} {R : mR} {Q : Int → mI → Prop}  {l0 : Nat} {l1 : Nat} {l2 : Nat} (hk0 : kK l0 = 2) (hk1 : kK l1 = 9) (hk2 : kK l2 = 3) (hw : P2_take l0 l1 l2 I R Q) : wMet yX2_take cX2_take 6 (some .boolean) 2 34 false ad n I J R [vr l0, vr l1, vr l2] (fun r I' J' R' => (J' = J ∧ R' = R) ∧ Q r I') := by
  refine wMet_of (by decide) (Nat.le_of_ble_eq_true rfl) (fun C hC hRm hE hS => ?_)
  refine (show WM C ad n I J R 0 0 0 [(0, vr l0), (1, vr l1), (2, vr l2)] [] from ?_)
  unfold P2_take at hw
  refine wm_aload_n hC 1 dX2_take_0 rfl (k_ne0 hk1 (by decide)) ?_
  refine x_getI hC 1 fl_X2_46 rfl hk1 dX2_take_1 ?_
  refine wm_iconst hC dX2_take_4 (k := ?_)
  refine x_idivP hC (by decide) dX2_take_5 ?_
  refine x_nameI hw (fun x1 hw => ?_)
  refine wm_istore_n hC dX2_take_6 (by decide) (L2 := [(3, vi x1), (0, vr l0), (1, vr l1), (2, vr l2)]) rfl ?_
  refine wm_iload_n hC 0 dX2_take_7 rfl ?_
  refine wm_iconst hC dX2_take_8 (k := ?_)
  refine wm_icmp_lt (tgt := 27) hC dX2_take_9 (by decide) hw (fun hw => ?_) (fun hw => ?_)
  · refine wm_iconst hC dX2_take_27 (k := ?_)
    exact wm_zreturn hC hE (Or.inl rfl) dX2_take_28 ⟨⟨rfl, rfl⟩, hw⟩
  · refine wm_iload_n hC 0 dX2_take_12 rfl ?_
    refine wm_bipush hC dX2_take_13 (k := ?_)
    refine wm_icmp_gt (tgt := 27) hC dX2_take_15 (by decide) hw (fun hw => ?_) (fun hw => ?_)
    · refine wm_iconst hC dX2_take_27 (k := ?_)
      exact wm_zreturn hC hE (Or.inl rfl) dX2_take_28 ⟨⟨rfl, rfl⟩, hw⟩
    · refine wm_aload_n hC 2 dX2_take_18 rfl (k_ne0 hk1 (by decide)) ?_
      refine x_getI hC 1 fl_X2_46 rfl hk1 dX2_take_19 ?_
      refine wm_iconst hC dX2_take_22 (k := ?_)
      refine x_iremP hC (by decide) dX2_take_23 ?_
      refine wm_if_eq (tgt := 29) hC dX2_take_24 (by decide) hw (fun hw => ?_) (fun hw => ?_)
      · refine wm_iconst hC dX2_take_29 (k := ?_)
        refine wm_istore hC dX2_take_30 (by decide) (L2 := [(4, vi 0), (3, vi x1), (0, vr l0), (1, vr l1), (2, vr l2)]) rfl ?_
        obtain ⟨f, hw⟩ := hw
        refine wm_sub [2, 3, 4, 1, 0] (L2 := [(0, vr l0), (1, vr l1), (2, vr l2), (3, vi x1), (4, vi 0)]) rfl ?_
        exact W2_take_b32 hC hRm hE hk0 hk1 hk2 f _ hw
      · refine wm_iconst hC dX2_take_27 (k := ?_)
        exact wm_zreturn hC hE (Or.inl rfl) dX2_take_28 ⟨⟨rfl, rfl⟩, hw⟩
def P2_agrees_b40 (l0 : Nat) (l1 : Int) (l2 : Int) (s0 : Int) (I : mI) (R : mR) (k2 : Int → Prop) (Q : Int → Prop) : Prop := (kK (R l0 3) = 21 ∧ (rg (3 * l2) ∧ (((0 : Int) ≤ (3 * l2) ∧ (3 * l2) < (kN (R l0 3) : Int)) ∧ (if (I (R l0 3) (3 * l2)) = l1 then (kK (R l0 2) = 7 ∧ (kK (R (R l0 2) 5) = 21 ∧ (kK (R l0 3) = 21 ∧ (rg (3 * l2) ∧ (rg ((3 * l2) + 1) ∧ (((0 : Int) ≤ ((3 * l2) + 1) ∧ ((3 * l2) + 1) < (kN (R l0 3) : Int)) ∧ (((0 : Int) ≤ (I (R l0 3) ((3 * l2) + 1)) ∧ (I (R l0 3) ((3 * l2) + 1)) < (kN (R (R l0 2) 5) : Int)) ∧ (if (I (R (R l0 2) 5) (I (R l0 3) ((3 * l2) + 1))) = s0 then (rg (l2 + 1) ∧ (k2 (l2 + 1))) else (Q 0))))))))) else (rg (l2 + 1) ∧ (k2 (l2 + 1)))))))
set_option maxRecDepth 20000 in
theorem W2_agrees_b40 {C : wX} {ad : Nat → Nat} {n : Nat} {I J : mI} {R : mR} {Q : Int → Prop} (hC : wOK C cX2_agrees 4 RX2) (hRm : wRm C 1 12 0 0) (hE : wEnd C (some .boolean) ad n (fun r I' J' R' => (I' = I ∧ J' = J ∧ R' = R) ∧ Q r)) {l0 : Nat} {l1 : Int} {l2 : Int} {s0 : Int}  {k2 : Int → Prop} (hk0 : kK l0 = 2) (kk2 : ∀ (y2 : Int), k2 y2 → WM C ad n I J R 0 0 2 [(0, vr l0), (1, vi l1), (2, vi y2)] []) (hw : P2_agrees_b40 l0 l1 l2 s0 I R k2 Q) : WM C ad n I J R 0 0 40 [(0, vr l0), (1, vi l1), (2, vi l2)] [vi s0] := by
  unfold P2_agrees_b40 at hw
  refine wm_istore_n hC dX2_agrees_40 (by decide) (L2 := [(3, vi s0), (0, vr l0), (1, vi l1), (2, vi l2)]) rfl ?_
  refine wm_aload_n hC 1 dX2_agrees_41 rfl (k_ne0 hk0 (by decide)) ?_
  refine x_getR2 hC 3 fl_X2_18 rfl hk0 dX2_agrees_42 hw (fun g3 hw => ?_)
  refine wm_iconst hC dX2_agrees_45 (k := ?_)
  refine wm_iload_n hC 3 dX2_agrees_46 rfl ?_
  refine x_imul hC dX2_agrees_47 hw (fun hw => ?_)
  refine x_iald hC g3 dX2_agrees_48 hw (fun hw => ?_)
  refine wm_iload_n hC 2 dX2_agrees_49 rfl ?_
  refine wm_icmp_ne (tgt := 77) hC dX2_agrees_50 (by decide) hw (fun hw => ?_) (fun hw => ?_)
  · refine wm_aload_n hC 1 dX2_agrees_53 rfl (k_ne0 hk0 (by decide)) ?_
    refine x_getR2 hC 2 fl_X2_12 rfl hk0 dX2_agrees_54 hw (fun g4 hw => ?_)
    refine x_getR2 hC 5 fl_X2_84 rfl g4 dX2_agrees_57 hw (fun g5 hw => ?_)
    refine wm_aload_n hC 1 dX2_agrees_60 rfl (k_ne0 hk0 (by decide)) ?_
    refine x_getR2 hC 3 fl_X2_18 rfl hk0 dX2_agrees_61 hw (fun g6 hw => ?_)
    refine wm_iconst hC dX2_agrees_64 (k := ?_)
    refine wm_iload_n hC 3 dX2_agrees_65 rfl ?_
    refine x_imul hC dX2_agrees_66 hw (fun hw => ?_)
    refine wm_iconst hC dX2_agrees_67 (k := ?_)
    refine x_iadd hC dX2_agrees_68 hw (fun hw => ?_)
    refine x_iald hC g6 dX2_agrees_69 hw (fun hw => ?_)
    refine x_iald hC g5 dX2_agrees_70 hw (fun hw => ?_)
    refine wm_iload_n hC 0 dX2_agrees_71 rfl ?_
    refine wm_icmp_eq (tgt := 77) hC dX2_agrees_72 (by decide) hw (fun hw => ?_) (fun hw => ?_)
    · refine x_iinc hC 3 dX2_agrees_77 rfl (by decide) (L2 := [(2, vi (l2 + 1)), (3, vi s0), (0, vr l0), (1, vi l1)]) rfl hw (fun hw => ?_)
      refine wm_goto (tgt := 2) hC dX2_agrees_80 (by decide) ?_
      refine wm_sub [2, 3, 0] (L2 := [(0, vr l0), (1, vi l1), (2, vi (l2 + 1))]) rfl ?_
      exact kk2 _ hw
    · refine wm_iconst hC dX2_agrees_75 (k := ?_)
      exact wm_zreturn hC hE (Or.inl rfl) dX2_agrees_76 ⟨⟨rfl, rfl, rfl⟩, hw⟩
  · refine x_iinc hC 3 dX2_agrees_77 rfl (by decide) (L2 := [(2, vi (l2 + 1)), (3, vi s0), (0, vr l0), (1, vi l1)]) rfl hw (fun hw => ?_)
    refine wm_goto (tgt := 2) hC dX2_agrees_80 (by decide) ?_
    refine wm_sub [2, 3, 0] (L2 := [(0, vr l0), (1, vi l1), (2, vi (l2 + 1))]) rfl ?_
    exact kk2 _ hw
def P2_agrees_b2_body (l0 : Nat) (l1 : Int) (I : mI) (R : mR) (Q : Int → Prop) (k2 : Int → Prop) (l2 : Int) : Prop := (if (I l0 5) ≤ l2 then (Q 1) else (kK (R l0 3) = 21 ∧ (rg (3 * l2) ∧ (rg ((3 * l2) + 2) ∧ (((0 : Int) ≤ ((3 * l2) + 2) ∧ ((3 * l2) + 2) < (kN (R l0 3) : Int)) ∧ (if (I (R l0 3) ((3 * l2) + 2)) = 255 then (P2_agrees_b40 l0 l1 l2 (-1) I R k2 Q) else (kK (R l0 3) = 21 ∧ (rg (3 * l2) ∧ (rg ((3 * l2) + 2) ∧ (((0 : Int) ≤ ((3 * l2) + 2) ∧ ((3 * l2) + 2) < (kN (R l0 3) : Int)) ∧ (P2_agrees_b40 l0 l1 l2 (I (R l0 3) ((3 * l2) + 2)) I R k2 Q)))))))))))
def P2_agrees_b2 (l0 : Nat) (l1 : Int) (I : mI) (R : mR) (Q : Int → Prop) : Nat → Int → Prop
  | 0 => fun _ => False
  | f + 1 => fun l2 => P2_agrees_b2_body l0 l1 I R Q (P2_agrees_b2 l0 l1 I R Q f) l2
set_option maxRecDepth 20000 in
theorem W2_agrees_b2_body {C : wX} {ad : Nat → Nat} {n : Nat} {I J : mI} {R : mR} {Q : Int → Prop} (hC : wOK C cX2_agrees 4 RX2) (hRm : wRm C 1 12 0 0) (hE : wEnd C (some .boolean) ad n (fun r I' J' R' => (I' = I ∧ J' = J ∧ R' = R) ∧ Q r)) {l0 : Nat} {l1 : Int} {l2 : Int}   (hk0 : kK l0 = 2)  {k2 : Int → Prop} (kk2 : ∀ (y2 : Int), k2 y2 → WM C ad n I J R 0 0 2 [(0, vr l0), (1, vi l1), (2, vi y2)] []) (hw : P2_agrees_b2_body l0 l1 I R Q k2 l2) : WM C ad n I J R 0 0 2 [(0, vr l0), (1, vi l1), (2, vi l2)] [] := by
  unfold P2_agrees_b2_body at hw
  refine wm_iload_n hC 2 dX2_agrees_2 rfl ?_
  refine wm_aload_n hC 0 dX2_agrees_3 rfl (k_ne0 hk0 (by decide)) ?_
  refine x_getI hC 5 fl_X2_25 rfl hk0 dX2_agrees_4 ?_
  refine wm_icmp_ge (tgt := 83) hC dX2_agrees_7 (by decide) hw (fun hw => ?_) (fun hw => ?_)
  · refine wm_iconst hC dX2_agrees_83 (k := ?_)
    exact wm_zreturn hC hE (Or.inr rfl) dX2_agrees_84 ⟨⟨rfl, rfl, rfl⟩, hw⟩
  · refine wm_aload_n hC 0 dX2_agrees_10 rfl (k_ne0 hk0 (by decide)) ?_
    refine x_getR2 hC 3 fl_X2_18 rfl hk0 dX2_agrees_11 hw (fun g1 hw => ?_)
    refine wm_iconst hC dX2_agrees_14 (k := ?_)
    refine wm_iload_n hC 2 dX2_agrees_15 rfl ?_
    refine x_imul hC dX2_agrees_16 hw (fun hw => ?_)
    refine wm_iconst hC dX2_agrees_17 (k := ?_)
    refine x_iadd hC dX2_agrees_18 hw (fun hw => ?_)
    refine x_iald hC g1 dX2_agrees_19 hw (fun hw => ?_)
    refine wm_sipush hC dX2_agrees_20 (k := ?_)
    refine wm_icmp_ne (tgt := 30) hC dX2_agrees_23 (by decide) hw (fun hw => ?_) (fun hw => ?_)
    · refine wm_iconst hC dX2_agrees_26 (k := ?_)
      refine wm_goto (tgt := 40) hC dX2_agrees_27 (by decide) ?_
      exact W2_agrees_b40 hC hRm hE hk0 kk2 hw
    · refine wm_aload_n hC 0 dX2_agrees_30 rfl (k_ne0 hk0 (by decide)) ?_
      refine x_getR2 hC 3 fl_X2_18 rfl hk0 dX2_agrees_31 hw (fun g2 hw => ?_)
      refine wm_iconst hC dX2_agrees_34 (k := ?_)
      refine wm_iload_n hC 2 dX2_agrees_35 rfl ?_
      refine x_imul hC dX2_agrees_36 hw (fun hw => ?_)
      refine wm_iconst hC dX2_agrees_37 (k := ?_)
      refine x_iadd hC dX2_agrees_38 hw (fun hw => ?_)
      refine x_iald hC g2 dX2_agrees_39 hw (fun hw => ?_)
      exact W2_agrees_b40 hC hRm hE hk0 kk2 hw
set_option maxRecDepth 20000 in
theorem W2_agrees_b2 {C : wX} {ad : Nat → Nat} {n : Nat} {I J : mI} {R : mR} {Q : Int → Prop} (hC : wOK C cX2_agrees 4 RX2) (hRm : wRm C 1 12 0 0) (hE : wEnd C (some .boolean) ad n (fun r I' J' R' => (I' = I ∧ J' = J ∧ R' = R) ∧ Q r)) {l0 : Nat} {l1 : Int}   (hk0 : kK l0 = 2)  : ∀ (f : Nat) (l2 : Int), P2_agrees_b2 l0 l1 I R Q f l2 → WM C ad n I J R 0 0 2 [(0, vr l0), (1, vi l1), (2, vi l2)] [] := by
  intro f
  induction f with
  | zero => intro l2 hw; exact hw.elim
  | succ f ih => intro l2 hw; exact W2_agrees_b2_body hC hRm hE hk0 (fun a0 hw => ih a0 hw) hw
def P2_agrees (l0 : Nat) (l1 : Int) (I : mI) (R : mR) (Q : Int → Prop) : Prop := (∃ f, P2_agrees_b2 l0 l1 I R Q f 0)
set_option maxRecDepth 20000 in
theorem C2_agrees {ad : Nat → Nat} {n : Nat} {I J : mI} {R : mR} {Q : Int → Prop}  {l0 : Nat} {l1 : Int} (hk0 : kK l0 = 2) (hw : P2_agrees l0 l1 I R Q) : wMet yX2_agrees cX2_agrees 4 (some .boolean) 1 12 false ad n I J R [vr l0, vi l1] (fun r I' J' R' => (I' = I ∧ J' = J ∧ R' = R) ∧ Q r) := by
  refine wMet_of (by decide) (Nat.le_of_ble_eq_true rfl) (fun C hC hRm hE hS => ?_)
  refine (show WM C ad n I J R 0 0 0 [(0, vr l0), (1, vi l1)] [] from ?_)
  unfold P2_agrees at hw
  refine wm_iconst hC dX2_agrees_0 (k := ?_)
  refine wm_istore_n hC dX2_agrees_1 (by decide) (L2 := [(2, vi 0), (0, vr l0), (1, vi l1)]) rfl ?_
  obtain ⟨f, hw⟩ := hw
  refine wm_sub [1, 2, 0] (L2 := [(0, vr l0), (1, vi l1), (2, vi 0)]) rfl ?_
  exact W2_agrees_b2 hC hRm hE hk0 f _ hw
def P7_take (l0 : Nat) (l1 : Nat) (I : mI) (R : mR) (Q : mI → Prop) : Prop := (wLet (up I l0 0 (I l1 0)) (fun I1 => (wLet (up I1 l0 1 (I1 l1 1)) (fun I2 => (wLet (up I2 l0 2 (I2 l1 2)) (fun I3 => (kK (R l1 3) = 21 ∧ (kK (R l0 3) = 21 ∧ (kK (R l0 3) = 21 ∧ (((0 : Int) ≤ 0 ∧ (0 : Int) ≤ 0 ∧ (0 : Int) ≤ (kN (R l0 3) : Int) ∧ (0 : Int) + (kN (R l0 3) : Int) ≤ (kN (R l1 3) : Int) ∧ (0 : Int) + (kN (R l0 3) : Int) ≤ (kN (R l0 3) : Int)) ∧ wLet (cpy I3 (R l1 3) 0 (R l0 3) 0 (kN (R l0 3) : Int)) (fun I4 => (kK (R l1 4) = 21 ∧ (kK (R l0 4) = 21 ∧ (kK (R l0 4) = 21 ∧ (((0 : Int) ≤ 0 ∧ (0 : Int) ≤ 0 ∧ (0 : Int) ≤ (kN (R l0 4) : Int) ∧ (0 : Int) + (kN (R l0 4) : Int) ≤ (kN (R l1 4) : Int) ∧ (0 : Int) + (kN (R l0 4) : Int) ≤ (kN (R l0 4) : Int)) ∧ wLet (cpy I4 (R l1 4) 0 (R l0 4) 0 (kN (R l0 4) : Int)) (fun I5 => (kK (R l1 5) = 21 ∧ (kK (R l0 5) = 21 ∧ (kK (R l0 5) = 21 ∧ (((0 : Int) ≤ 0 ∧ (0 : Int) ≤ 0 ∧ (0 : Int) ≤ (kN (R l0 5) : Int) ∧ (0 : Int) + (kN (R l0 5) : Int) ≤ (kN (R l1 5) : Int) ∧ (0 : Int) + (kN (R l0 5) : Int) ≤ (kN (R l0 5) : Int)) ∧ wLet (cpy I5 (R l1 5) 0 (R l0 5) 0 (kN (R l0 5) : Int)) (fun I6 => (kK (R l1 6) = 21 ∧ (kK (R l0 6) = 21 ∧ (kK (R l0 6) = 21 ∧ (((0 : Int) ≤ 0 ∧ (0 : Int) ≤ 0 ∧ (0 : Int) ≤ (kN (R l0 6) : Int) ∧ (0 : Int) + (kN (R l0 6) : Int) ≤ (kN (R l1 6) : Int) ∧ (0 : Int) + (kN (R l0 6) : Int) ≤ (kN (R l0 6) : Int)) ∧ wLet (cpy I6 (R l1 6) 0 (R l0 6) 0 (kN (R l0 6) : Int)) (fun I7 => (Q I7)))))))))))))))))))))))))))
set_option maxRecDepth 20000 in
theorem C7_take {ad : Nat → Nat} {n : Nat} {I J : mI} {R : mR} {Q : mI → Prop}  {l0 : Nat} {l1 : Nat} (hk0 : kK l0 = 7) (hk1 : kK l1 = 7) (hw : P7_take l0 l1 I R Q) : wMet yX7_take cX7_take 2 none 1 60 false ad n I J R [vr l0, vr l1] (fun _ I' J' R' => (J' = J ∧ R' = R) ∧ Q I') := by
  refine wMet_of (by decide) (Nat.le_of_ble_eq_true rfl) (fun C hC hRm hE hS => ?_)
  refine (show WM C ad n I J R 0 0 0 [(0, vr l0), (1, vr l1)] [] from ?_)
  unfold P7_take at hw
  refine wm_aload_n hC 0 dX7_take_0 rfl (k_ne0 hk0 (by decide)) ?_
  refine wm_aload_n hC 1 dX7_take_1 rfl (k_ne0 hk1 (by decide)) ?_
  refine x_getI hC 0 fl_X7_9 rfl hk1 dX7_take_2 ?_
  refine x_putI hC 0 fl_X7_9 rfl hk0 dX7_take_5 hw (fun I1 hw => ?_)
  refine wm_aload_n hC 0 dX7_take_8 rfl (k_ne0 hk0 (by decide)) ?_
  refine wm_aload_n hC 1 dX7_take_9 rfl (k_ne0 hk1 (by decide)) ?_
  refine x_getI hC 1 fl_X7_15 rfl hk1 dX7_take_10 ?_
  refine x_putI hC 1 fl_X7_15 rfl hk0 dX7_take_13 hw (fun I2 hw => ?_)
  refine wm_aload_n hC 0 dX7_take_16 rfl (k_ne0 hk0 (by decide)) ?_
  refine wm_aload_n hC 1 dX7_take_17 rfl (k_ne0 hk1 (by decide)) ?_
  refine x_getI hC 2 fl_X7_18 rfl hk1 dX7_take_18 ?_
  refine x_putI hC 2 fl_X7_18 rfl hk0 dX7_take_21 hw (fun I3 hw => ?_)
  refine wm_aload_n hC 1 dX7_take_24 rfl (k_ne0 hk1 (by decide)) ?_
  refine x_getR2 hC 3 fl_X7_21 rfl hk1 dX7_take_25 hw (fun g1 hw => ?_)
  refine wm_iconst hC dX7_take_28 (k := ?_)
  refine wm_aload_n hC 0 dX7_take_29 rfl (k_ne0 hk0 (by decide)) ?_
  refine x_getR2 hC 3 fl_X7_21 rfl hk0 dX7_take_30 hw (fun g2 hw => ?_)
  refine wm_iconst hC dX7_take_33 (k := ?_)
  refine wm_aload_n hC 0 dX7_take_34 rfl (k_ne0 hk0 (by decide)) ?_
  refine x_getR2 hC 3 fl_X7_21 rfl hk0 dX7_take_35 hw (fun g3 hw => ?_)
  refine x_alen hC g3 (by decide) dX7_take_38 ?_
  refine x_copyi hC hRm (st := []) g1 g2 cw_X7_42 (Nat.le_of_ble_eq_true rfl) (by decide) dX7_take_39 hw (fun I4 hw => ?_)
  refine wm_aload_n hC 1 dX7_take_42 rfl (k_ne0 hk1 (by decide)) ?_
  refine x_getR2 hC 4 fl_X7_25 rfl hk1 dX7_take_43 hw (fun g4 hw => ?_)
  refine wm_iconst hC dX7_take_46 (k := ?_)
  refine wm_aload_n hC 0 dX7_take_47 rfl (k_ne0 hk0 (by decide)) ?_
  refine x_getR2 hC 4 fl_X7_25 rfl hk0 dX7_take_48 hw (fun g5 hw => ?_)
  refine wm_iconst hC dX7_take_51 (k := ?_)
  refine wm_aload_n hC 0 dX7_take_52 rfl (k_ne0 hk0 (by decide)) ?_
  refine x_getR2 hC 4 fl_X7_25 rfl hk0 dX7_take_53 hw (fun g6 hw => ?_)
  refine x_alen hC g6 (by decide) dX7_take_56 ?_
  refine x_copyi hC hRm (st := []) g4 g5 cw_X7_42 (Nat.le_of_ble_eq_true rfl) (by decide) dX7_take_57 hw (fun I5 hw => ?_)
  refine wm_aload_n hC 1 dX7_take_60 rfl (k_ne0 hk1 (by decide)) ?_
  refine x_getR2 hC 5 fl_X7_28 rfl hk1 dX7_take_61 hw (fun g7 hw => ?_)
  refine wm_iconst hC dX7_take_64 (k := ?_)
  refine wm_aload_n hC 0 dX7_take_65 rfl (k_ne0 hk0 (by decide)) ?_
  refine x_getR2 hC 5 fl_X7_28 rfl hk0 dX7_take_66 hw (fun g8 hw => ?_)
  refine wm_iconst hC dX7_take_69 (k := ?_)
  refine wm_aload_n hC 0 dX7_take_70 rfl (k_ne0 hk0 (by decide)) ?_
  refine x_getR2 hC 5 fl_X7_28 rfl hk0 dX7_take_71 hw (fun g9 hw => ?_)
  refine x_alen hC g9 (by decide) dX7_take_74 ?_
  refine x_copyi hC hRm (st := []) g7 g8 cw_X7_42 (Nat.le_of_ble_eq_true rfl) (by decide) dX7_take_75 hw (fun I6 hw => ?_)
  refine wm_aload_n hC 1 dX7_take_78 rfl (k_ne0 hk1 (by decide)) ?_
  refine x_getR2 hC 6 fl_X7_31 rfl hk1 dX7_take_79 hw (fun g10 hw => ?_)
  refine wm_iconst hC dX7_take_82 (k := ?_)
  refine wm_aload_n hC 0 dX7_take_83 rfl (k_ne0 hk0 (by decide)) ?_
  refine x_getR2 hC 6 fl_X7_31 rfl hk0 dX7_take_84 hw (fun g11 hw => ?_)
  refine wm_iconst hC dX7_take_87 (k := ?_)
  refine wm_aload_n hC 0 dX7_take_88 rfl (k_ne0 hk0 (by decide)) ?_
  refine x_getR2 hC 6 fl_X7_31 rfl hk0 dX7_take_89 hw (fun g12 hw => ?_)
  refine x_alen hC g12 (by decide) dX7_take_92 ?_
  refine x_copyi hC hRm (st := []) g10 g11 cw_X7_42 (Nat.le_of_ble_eq_true rfl) (by decide) dX7_take_93 hw (fun I7 hw => ?_)
  exact wm_return hC hE dX7_take_96 ⟨⟨rfl, rfl⟩, hw⟩
def P2_left_b158 (l0 : Nat) (l1 : Nat) (l2 : Nat) (l3 : Int) (l4 : Int) (l5 : Int) (l6 : Int) (l7 : Int) (I : mI) (J : mI) (R : mR) (k83 : Int → Int → mI → mI → mR → Prop) (Q : Int → mI → mI → mR → Prop) : Prop := (if l7 = 0 then (rg (l6 + 1) ∧ (k83 (bOr l5 0) (l6 + 1) I J R)) else (rg (l6 + 1) ∧ (k83 (bOr l5 (bShl 1 l6)) (l6 + 1) I J R)))
set_option maxRecDepth 20000 in
theorem W2_left_b158 {C : wX} {ad : Nat → Nat} {n : Nat} {I J : mI} {R : mR} {Q : Int → mI → mI → mR → Prop} (hC : wOK C cX2_left 9 RX2) (hRm : wRm C 7 168 0 0) (hE : wEnd C (some .int) ad n (fun r I' J' R' => (True) ∧ Q r I' J' R')) {l0 : Nat} {l1 : Nat} {l2 : Nat} {l3 : Int} {l4 : Int} {l5 : Int} {l6 : Int} {l7 : Int}  {k83 : Int → Int → mI → mI → mR → Prop} (hk0 : kK l0 = 2) (hk1 : kK l1 = 3) (hk2 : kK l2 = 7) (kk83 : ∀ (y5 : Int) (y6 : Int) (I' : mI) (J' : mI) (R' : mR), k83 y5 y6 I' J' R' → WM C ad n I' J' R' 0 0 83 [(0, vr l0), (1, vr l1), (2, vr l2), (3, vi l3), (4, vi l4), (5, vi y5), (6, vi y6)] []) (hw : P2_left_b158 l0 l1 l2 l3 l4 l5 l6 l7 I J R k83 Q) : WM C ad n I J R 0 0 158 [(0, vr l0), (1, vr l1), (2, vr l2), (3, vi l3), (4, vi l4), (5, vi l5), (6, vi l6), (7, vi l7)] [] := by
  unfold P2_left_b158 at hw
  refine wm_iload hC 5 dX2_left_158 rfl ?_
  refine wm_iload hC 7 dX2_left_160 rfl ?_
  refine wm_if_eq (tgt := 172) hC dX2_left_162 (by decide) hw (fun hw => ?_) (fun hw => ?_)
  · refine wm_iconst hC dX2_left_172 (k := ?_)
    refine wm_ior hC dX2_left_173 ?_
    refine wm_istore hC dX2_left_174 (by decide) (L2 := [(5, vi (bOr l5 0)), (0, vr l0), (1, vr l1), (2, vr l2), (3, vi l3), (4, vi l4), (6, vi l6), (7, vi l7)]) rfl ?_
    refine x_iinc hC 6 dX2_left_176 rfl (by decide) (L2 := [(6, vi (l6 + 1)), (5, vi (bOr l5 0)), (0, vr l0), (1, vr l1), (2, vr l2), (3, vi l3), (4, vi l4), (7, vi l7)]) rfl hw (fun hw => ?_)
    refine wm_goto (tgt := 83) hC dX2_left_179 (by decide) ?_
    refine wm_sub [2, 3, 4, 5, 6, 1, 0] (L2 := [(0, vr l0), (1, vr l1), (2, vr l2), (3, vi l3), (4, vi l4), (5, vi (bOr l5 0)), (6, vi (l6 + 1))]) rfl ?_
    exact kk83 _ _ _ _ _ hw
  · refine wm_iconst hC dX2_left_165 (k := ?_)
    refine wm_iload hC 6 dX2_left_166 rfl ?_
    refine wm_ishl hC dX2_left_168 ?_
    refine wm_goto (tgt := 173) hC dX2_left_169 (by decide) ?_
    refine wm_ior hC dX2_left_173 ?_
    refine wm_istore hC dX2_left_174 (by decide) (L2 := [(5, vi (bOr l5 (bShl 1 l6))), (0, vr l0), (1, vr l1), (2, vr l2), (3, vi l3), (4, vi l4), (6, vi l6), (7, vi l7)]) rfl ?_
    refine x_iinc hC 6 dX2_left_176 rfl (by decide) (L2 := [(6, vi (l6 + 1)), (5, vi (bOr l5 (bShl 1 l6))), (0, vr l0), (1, vr l1), (2, vr l2), (3, vi l3), (4, vi l4), (7, vi l7)]) rfl hw (fun hw => ?_)
    refine wm_goto (tgt := 83) hC dX2_left_179 (by decide) ?_
    refine wm_sub [2, 3, 4, 5, 6, 1, 0] (L2 := [(0, vr l0), (1, vr l1), (2, vr l2), (3, vi l3), (4, vi l4), (5, vi (bOr l5 (bShl 1 l6))), (6, vi (l6 + 1))]) rfl ?_
    exact kk83 _ _ _ _ _ hw
def P2_left_b118_body (l0 : Nat) (l1 : Nat) (l2 : Nat) (l3 : Int) (l4 : Int) (l5 : Int) (l6 : Int) (k83 : Int → Int → mI → mI → mR → Prop) (Q : Int → mI → mI → mR → Prop) (k118 : Int → Int → mI → mI → mR → Prop) (l7 : Int) (l8 : Int) (I : mI) (J : mI) (R : mR) : Prop := (if l4 < l8 then (P2_left_b158 l0 l1 l2 l3 l4 l5 l6 l7 I J R k83 Q) else (if l7 = 0 then (P2_left_b158 l0 l1 l2 l3 l4 l5 l6 l7 I J R k83 Q) else (kK (R l0 1) = 0 ∧ (kK (R l0 2) = 7 ∧ (P0_pass (R l0 1) l1 (R l0 2) (-1) I J R (fun r2 I4 J1 R1 => (P2_agrees l0 l8 I4 R1 (fun r3 => (rg (l8 + 1) ∧ (k118 r3 (l8 + 1) I4 J1 R1))))))))))
def P2_left_b118 (l0 : Nat) (l1 : Nat) (l2 : Nat) (l3 : Int) (l4 : Int) (l5 : Int) (l6 : Int) (k83 : Int → Int → mI → mI → mR → Prop) (Q : Int → mI → mI → mR → Prop) : Nat → Int → Int → mI → mI → mR → Prop
  | 0 => fun _ _ _ _ _ => False
  | f + 1 => fun l7 l8 I J R => P2_left_b118_body l0 l1 l2 l3 l4 l5 l6 k83 Q (P2_left_b118 l0 l1 l2 l3 l4 l5 l6 k83 Q f) l7 l8 I J R
set_option maxRecDepth 20000 in
theorem W2_left_b118_body {C : wX} {ad : Nat → Nat} {n : Nat} {I J : mI} {R : mR} {Q : Int → mI → mI → mR → Prop} (hC : wOK C cX2_left 9 RX2) (hRm : wRm C 7 168 0 0) (hE : wEnd C (some .int) ad n (fun r I' J' R' => (True) ∧ Q r I' J' R')) {l0 : Nat} {l1 : Nat} {l2 : Nat} {l3 : Int} {l4 : Int} {l5 : Int} {l6 : Int} {l7 : Int} {l8 : Int}  {k83 : Int → Int → mI → mI → mR → Prop} (hk0 : kK l0 = 2) (hk1 : kK l1 = 3) (hk2 : kK l2 = 7) (kk83 : ∀ (y5 : Int) (y6 : Int) (I' : mI) (J' : mI) (R' : mR), k83 y5 y6 I' J' R' → WM C ad n I' J' R' 0 0 83 [(0, vr l0), (1, vr l1), (2, vr l2), (3, vi l3), (4, vi l4), (5, vi y5), (6, vi y6)] []) {k118 : Int → Int → mI → mI → mR → Prop} (kk118 : ∀ (y7 : Int) (y8 : Int) (I' : mI) (J' : mI) (R' : mR), k118 y7 y8 I' J' R' → WM C ad n I' J' R' 0 0 118 [(0, vr l0), (1, vr l1), (2, vr l2), (3, vi l3), (4, vi l4), (5, vi l5), (6, vi l6), (7, vi y7), (8, vi y8)] []) (hw : P2_left_b118_body l0 l1 l2 l3 l4 l5 l6 k83 Q k118 l7 l8 I J R) : WM C ad n I J R 0 0 118 [(0, vr l0), (1, vr l1), (2, vr l2), (3, vi l3), (4, vi l4), (5, vi l5), (6, vi l6), (7, vi l7), (8, vi l8)] [] := by
  unfold P2_left_b118_body at hw
  refine wm_iload hC 8 dX2_left_118 rfl ?_
  refine wm_iload hC 4 dX2_left_120 rfl ?_
  refine wm_icmp_gt (tgt := 158) hC dX2_left_122 (by decide) hw (fun hw => ?_) (fun hw => ?_)
  · refine wm_sub [0, 1, 2, 3, 4, 5, 6, 7] (L2 := [(0, vr l0), (1, vr l1), (2, vr l2), (3, vi l3), (4, vi l4), (5, vi l5), (6, vi l6), (7, vi l7)]) rfl ?_
    exact W2_left_b158 hC hRm hE hk0 hk1 hk2 kk83 hw
  · refine wm_iload hC 7 dX2_left_125 rfl ?_
    refine wm_if_eq (tgt := 158) hC dX2_left_127 (by decide) hw (fun hw => ?_) (fun hw => ?_)
    · refine wm_sub [0, 1, 2, 3, 4, 5, 6, 7] (L2 := [(0, vr l0), (1, vr l1), (2, vr l2), (3, vi l3), (4, vi l4), (5, vi l5), (6, vi l6), (7, vi l7)]) rfl ?_
      exact W2_left_b158 hC hRm hE hk0 hk1 hk2 kk83 hw
    · refine wm_aload_n hC 0 dX2_left_130 rfl (k_ne0 hk0 (by decide)) ?_
      refine x_getR2 hC 1 fl_X2_42 rfl hk0 dX2_left_131 hw (fun g6 hw => ?_)
      refine wm_aload_n hC 1 dX2_left_134 rfl (k_ne0 hk1 (by decide)) ?_
      refine wm_aload_n hC 0 dX2_left_135 rfl (k_ne0 hk0 (by decide)) ?_
      refine x_getR2 hC 2 fl_X2_12 rfl hk0 dX2_left_136 hw (fun g7 hw => ?_)
      refine wm_iconst hC dX2_left_139 (k := ?_)
      refine y_callV_z_IJR hC hRm noS ml_X2_78 g6 (C0_pass g6 hk1 g7 hw) (Nat.le_of_ble_eq_true rfl) (Nat.le_of_ble_eq_true rfl) ⟨Nat.zero_le _, Nat.zero_le _⟩ rfl (st := []) rfl (Nat.le_of_ble_eq_true rfl) dX2_left_140 (fun r2 I4 J1 R1 hw => ?_)
      refine wm_pop hC dX2_left_143 (k := ?_)
      refine wm_aload_n hC 0 dX2_left_144 rfl (k_ne0 hk0 (by decide)) ?_
      refine wm_iload hC 8 dX2_left_145 rfl ?_
      refine y_callV_z_n hC hRm noS ml_X2_74 hk0 (C2_agrees hk0 hw) (Nat.le_of_ble_eq_true rfl) (Nat.le_of_ble_eq_true rfl) ⟨Nat.zero_le _, Nat.zero_le _⟩ rfl (st := []) rfl (Nat.le_of_ble_eq_true rfl) dX2_left_147 (fun r3 hw => ?_)
      refine wm_istore hC dX2_left_150 (by decide) (L2 := [(7, vi r3), (0, vr l0), (1, vr l1), (2, vr l2), (3, vi l3), (4, vi l4), (5, vi l5), (6, vi l6), (8, vi l8)]) rfl ?_
      refine x_iinc hC 8 dX2_left_152 rfl (by decide) (L2 := [(8, vi (l8 + 1)), (7, vi r3), (0, vr l0), (1, vr l1), (2, vr l2), (3, vi l3), (4, vi l4), (5, vi l5), (6, vi l6)]) rfl hw (fun hw => ?_)
      refine wm_goto (tgt := 118) hC dX2_left_155 (by decide) ?_
      refine wm_sub [2, 3, 4, 5, 6, 7, 8, 1, 0] (L2 := [(0, vr l0), (1, vr l1), (2, vr l2), (3, vi l3), (4, vi l4), (5, vi l5), (6, vi l6), (7, vi r3), (8, vi (l8 + 1))]) rfl ?_
      exact kk118 _ _ _ _ _ hw
set_option maxRecDepth 20000 in
theorem W2_left_b118 {C : wX} {ad : Nat → Nat} {n : Nat}  {Q : Int → mI → mI → mR → Prop} (hC : wOK C cX2_left 9 RX2) (hRm : wRm C 7 168 0 0) (hE : wEnd C (some .int) ad n (fun r I' J' R' => (True) ∧ Q r I' J' R')) {l0 : Nat} {l1 : Nat} {l2 : Nat} {l3 : Int} {l4 : Int} {l5 : Int} {l6 : Int}  {k83 : Int → Int → mI → mI → mR → Prop} (hk0 : kK l0 = 2) (hk1 : kK l1 = 3) (hk2 : kK l2 = 7) (kk83 : ∀ (y5 : Int) (y6 : Int) (I' : mI) (J' : mI) (R' : mR), k83 y5 y6 I' J' R' → WM C ad n I' J' R' 0 0 83 [(0, vr l0), (1, vr l1), (2, vr l2), (3, vi l3), (4, vi l4), (5, vi y5), (6, vi y6)] []) : ∀ (f : Nat) (l7 : Int) (l8 : Int) (I : mI) (J : mI) (R : mR), P2_left_b118 l0 l1 l2 l3 l4 l5 l6 k83 Q f l7 l8 I J R → WM C ad n I J R 0 0 118 [(0, vr l0), (1, vr l1), (2, vr l2), (3, vi l3), (4, vi l4), (5, vi l5), (6, vi l6), (7, vi l7), (8, vi l8)] [] := by
  intro f
  induction f with
  | zero => intro l7 l8 I J R hw; exact hw.elim
  | succ f ih => intro l7 l8 I J R hw; exact W2_left_b118_body hC hRm hE hk0 hk1 hk2 kk83 (fun a0 a1 a2 a3 a4 hw => ih a0 a1 a2 a3 a4 hw) hw
def P2_left_b83_body (l0 : Nat) (l1 : Nat) (l2 : Nat) (l3 : Int) (l4 : Int) (Q : Int → mI → mI → mR → Prop) (k83 : Int → Int → mI → mI → mR → Prop) (l5 : Int) (l6 : Int) (I : mI) (J : mI) (R : mR) : Prop := (if (10 : Int) ≤ l6 then (kK (R l0 0) = 1 ∧ (P1_suppose (R l0 0) (-1) 0 I (fun I1 => (Q l5 I1 J R)))) else (kK (R l0 0) = 1 ∧ (P1_suppose (R l0 0) l3 l6 I (fun I2 => (kK (R l0 2) = 7 ∧ (P7_take (R l0 2) l2 I2 R (fun I3 => (P2_agrees l0 0 I3 R (fun r1 => (∃ f, P2_left_b118 l0 l1 l2 l3 l4 l5 l6 k83 Q f r1 1 I3 J R))))))))))
def P2_left_b83 (l0 : Nat) (l1 : Nat) (l2 : Nat) (l3 : Int) (l4 : Int) (Q : Int → mI → mI → mR → Prop) : Nat → Int → Int → mI → mI → mR → Prop
  | 0 => fun _ _ _ _ _ => False
  | f + 1 => fun l5 l6 I J R => P2_left_b83_body l0 l1 l2 l3 l4 Q (P2_left_b83 l0 l1 l2 l3 l4 Q f) l5 l6 I J R
set_option maxRecDepth 20000 in
theorem W2_left_b83_body {C : wX} {ad : Nat → Nat} {n : Nat} {I J : mI} {R : mR} {Q : Int → mI → mI → mR → Prop} (hC : wOK C cX2_left 9 RX2) (hRm : wRm C 7 168 0 0) (hE : wEnd C (some .int) ad n (fun r I' J' R' => (True) ∧ Q r I' J' R')) {l0 : Nat} {l1 : Nat} {l2 : Nat} {l3 : Int} {l4 : Int} {l5 : Int} {l6 : Int}   (hk0 : kK l0 = 2) (hk1 : kK l1 = 3) (hk2 : kK l2 = 7)  {k83 : Int → Int → mI → mI → mR → Prop} (kk83 : ∀ (y5 : Int) (y6 : Int) (I' : mI) (J' : mI) (R' : mR), k83 y5 y6 I' J' R' → WM C ad n I' J' R' 0 0 83 [(0, vr l0), (1, vr l1), (2, vr l2), (3, vi l3), (4, vi l4), (5, vi y5), (6, vi y6)] []) (hw : P2_left_b83_body l0 l1 l2 l3 l4 Q k83 l5 l6 I J R) : WM C ad n I J R 0 0 83 [(0, vr l0), (1, vr l1), (2, vr l2), (3, vi l3), (4, vi l4), (5, vi l5), (6, vi l6)] [] := by
  unfold P2_left_b83_body at hw
  refine wm_iload hC 6 dX2_left_83 rfl ?_
  refine wm_bipush hC dX2_left_85 (k := ?_)
  refine wm_icmp_ge (tgt := 182) hC dX2_left_87 (by decide) hw (fun hw => ?_) (fun hw => ?_)
  · refine wm_aload_n hC 0 dX2_left_182 rfl (k_ne0 hk0 (by decide)) ?_
    refine x_getR2 hC 0 fl_X2_38 rfl hk0 dX2_left_183 hw (fun g3 hw => ?_)
    refine wm_iconst hC dX2_left_186 (k := ?_)
    refine wm_iconst hC dX2_left_187 (k := ?_)
    refine y_callV_v_I hC hRm noS ml_X2_64 g3 (C1_suppose g3 hw) (Nat.le_of_ble_eq_true rfl) (Nat.le_of_ble_eq_true rfl) ⟨Nat.zero_le _, Nat.zero_le _⟩ rfl (st := []) rfl (Nat.le_of_ble_eq_true rfl) dX2_left_188 (fun I1 hw => ?_)
    refine wm_iload hC 5 dX2_left_191 rfl ?_
    exact wm_ireturn hC hE dX2_left_193 ⟨trivial, hw⟩
  · refine wm_aload_n hC 0 dX2_left_90 rfl (k_ne0 hk0 (by decide)) ?_
    refine x_getR2 hC 0 fl_X2_38 rfl hk0 dX2_left_91 hw (fun g4 hw => ?_)
    refine wm_iload_n hC 3 dX2_left_94 rfl ?_
    refine wm_iload hC 6 dX2_left_95 rfl ?_
    refine y_callV_v_I hC hRm noS ml_X2_64 g4 (C1_suppose g4 hw) (Nat.le_of_ble_eq_true rfl) (Nat.le_of_ble_eq_true rfl) ⟨Nat.zero_le _, Nat.zero_le _⟩ rfl (st := []) rfl (Nat.le_of_ble_eq_true rfl) dX2_left_97 (fun I2 hw => ?_)
    refine wm_aload_n hC 0 dX2_left_100 rfl (k_ne0 hk0 (by decide)) ?_
    refine x_getR2 hC 2 fl_X2_12 rfl hk0 dX2_left_101 hw (fun g5 hw => ?_)
    refine wm_aload_n hC 2 dX2_left_104 rfl (k_ne0 hk2 (by decide)) ?_
    refine y_callV_v_I hC hRm noS ml_X2_70 g5 (C7_take g5 hk2 hw) (Nat.le_of_ble_eq_true rfl) (Nat.le_of_ble_eq_true rfl) ⟨Nat.zero_le _, Nat.zero_le _⟩ rfl (st := []) rfl (Nat.le_of_ble_eq_true rfl) dX2_left_105 (fun I3 hw => ?_)
    refine wm_aload_n hC 0 dX2_left_108 rfl (k_ne0 hk0 (by decide)) ?_
    refine wm_iconst hC dX2_left_109 (k := ?_)
    refine y_callV_z_n hC hRm noS ml_X2_74 hk0 (C2_agrees hk0 hw) (Nat.le_of_ble_eq_true rfl) (Nat.le_of_ble_eq_true rfl) ⟨Nat.zero_le _, Nat.zero_le _⟩ rfl (st := []) rfl (Nat.le_of_ble_eq_true rfl) dX2_left_110 (fun r1 hw => ?_)
    refine wm_istore hC dX2_left_113 (by decide) (L2 := [(7, vi r1), (0, vr l0), (1, vr l1), (2, vr l2), (3, vi l3), (4, vi l4), (5, vi l5), (6, vi l6)]) rfl ?_
    refine wm_iconst hC dX2_left_115 (k := ?_)
    refine wm_istore hC dX2_left_116 (by decide) (L2 := [(8, vi 1), (7, vi r1), (0, vr l0), (1, vr l1), (2, vr l2), (3, vi l3), (4, vi l4), (5, vi l5), (6, vi l6)]) rfl ?_
    obtain ⟨f, hw⟩ := hw
    refine wm_sub [2, 3, 4, 5, 6, 7, 8, 1, 0] (L2 := [(0, vr l0), (1, vr l1), (2, vr l2), (3, vi l3), (4, vi l4), (5, vi l5), (6, vi l6), (7, vi r1), (8, vi 1)]) rfl ?_
    exact W2_left_b118 hC hRm hE hk0 hk1 hk2 kk83 f _ _ _ _ _ hw
set_option maxRecDepth 20000 in
theorem W2_left_b83 {C : wX} {ad : Nat → Nat} {n : Nat}  {Q : Int → mI → mI → mR → Prop} (hC : wOK C cX2_left 9 RX2) (hRm : wRm C 7 168 0 0) (hE : wEnd C (some .int) ad n (fun r I' J' R' => (True) ∧ Q r I' J' R')) {l0 : Nat} {l1 : Nat} {l2 : Nat} {l3 : Int} {l4 : Int}   (hk0 : kK l0 = 2) (hk1 : kK l1 = 3) (hk2 : kK l2 = 7)  : ∀ (f : Nat) (l5 : Int) (l6 : Int) (I : mI) (J : mI) (R : mR), P2_left_b83 l0 l1 l2 l3 l4 Q f l5 l6 I J R → WM C ad n I J R 0 0 83 [(0, vr l0), (1, vr l1), (2, vr l2), (3, vi l3), (4, vi l4), (5, vi l5), (6, vi l6)] [] := by
  intro f
  induction f with
  | zero => intro l5 l6 I J R hw; exact hw.elim
  | succ f ih => intro l5 l6 I J R hw; exact W2_left_b83_body hC hRm hE hk0 hk1 hk2 (fun a0 a1 a2 a3 a4 hw => ih a0 a1 a2 a3 a4 hw) hw
def P2_left_b6_body (l0 : Nat) (l1 : Nat) (l2 : Nat) (l3 : Int) (I : mI) (J : mI) (R : mR) (Q : Int → mI → mI → mR → Prop) (k6 : Int → Int → Prop) (l4 : Int) (l5 : Int) : Prop := (if (I l0 5) ≤ l5 then (if (I l0 5) = 0 then (Q 1023 I J R) else (rg ((I l2 0) + l4) ∧ (if ((I l2 0) + l4) ≤ 999 then (∃ f, P2_left_b83 l0 l1 l2 l3 l4 Q f 0 0 I J R) else (Q 0 I J R)))) else (kK (R l0 3) = 21 ∧ (rg (3 * l5) ∧ (((0 : Int) ≤ (3 * l5) ∧ (3 * l5) < (kN (R l0 3) : Int)) ∧ (if (I (R l0 3) (3 * l5)) ≤ l4 then (rg (l5 + 1) ∧ (k6 l4 (l5 + 1))) else (kK (R l0 3) = 21 ∧ (rg (3 * l5) ∧ (((0 : Int) ≤ (3 * l5) ∧ (3 * l5) < (kN (R l0 3) : Int)) ∧ (wLet (I (R l0 3) (3 * l5)) (fun x1 => (rg (l5 + 1) ∧ (k6 x1 (l5 + 1)))))))))))))
def P2_left_b6 (l0 : Nat) (l1 : Nat) (l2 : Nat) (l3 : Int) (I : mI) (J : mI) (R : mR) (Q : Int → mI → mI → mR → Prop) : Nat → Int → Int → Prop
  | 0 => fun _ _ => False
  | f + 1 => fun l4 l5 => P2_left_b6_body l0 l1 l2 l3 I J R Q (P2_left_b6 l0 l1 l2 l3 I J R Q f) l4 l5
set_option maxRecDepth 20000 in
theorem W2_left_b6_body {C : wX} {ad : Nat → Nat} {n : Nat} {I J : mI} {R : mR} {Q : Int → mI → mI → mR → Prop} (hC : wOK C cX2_left 9 RX2) (hRm : wRm C 7 168 0 0) (hE : wEnd C (some .int) ad n (fun r I' J' R' => (True) ∧ Q r I' J' R')) {l0 : Nat} {l1 : Nat} {l2 : Nat} {l3 : Int} {l4 : Int} {l5 : Int}   (hk0 : kK l0 = 2) (hk1 : kK l1 = 3) (hk2 : kK l2 = 7)  {k6 : Int → Int → Prop} (kk6 : ∀ (y4 : Int) (y5 : Int), k6 y4 y5 → WM C ad n I J R 0 0 6 [(0, vr l0), (1, vr l1), (2, vr l2), (3, vi l3), (4, vi y4), (5, vi y5)] []) (hw : P2_left_b6_body l0 l1 l2 l3 I J R Q k6 l4 l5) : WM C ad n I J R 0 0 6 [(0, vr l0), (1, vr l1), (2, vr l2), (3, vi l3), (4, vi l4), (5, vi l5)] [] := by
  unfold P2_left_b6_body at hw
  refine wm_iload hC 5 dX2_left_6 rfl ?_
  refine wm_aload_n hC 0 dX2_left_8 rfl (k_ne0 hk0 (by decide)) ?_
  refine x_getI hC 5 fl_X2_25 rfl hk0 dX2_left_9 ?_
  refine wm_icmp_ge (tgt := 51) hC dX2_left_12 (by decide) hw (fun hw => ?_) (fun hw => ?_)
  · refine wm_aload_n hC 0 dX2_left_51 rfl (k_ne0 hk0 (by decide)) ?_
    refine x_getI hC 5 fl_X2_25 rfl hk0 dX2_left_52 ?_
    refine wm_if_ne (tgt := 62) hC dX2_left_55 (by decide) hw (fun hw => ?_) (fun hw => ?_)
    · refine wm_sipush hC dX2_left_58 (k := ?_)
      exact wm_ireturn hC hE dX2_left_61 ⟨trivial, hw⟩
    · refine wm_aload_n hC 2 dX2_left_62 rfl (k_ne0 hk2 (by decide)) ?_
      refine x_getI hC 0 fl_X2_61 rfl hk2 dX2_left_63 ?_
      refine wm_iload hC 4 dX2_left_66 rfl ?_
      refine x_iadd hC dX2_left_68 hw (fun hw => ?_)
      refine wm_sipush hC dX2_left_69 (k := ?_)
      refine wm_icmp_le (tgt := 77) hC dX2_left_72 (by decide) hw (fun hw => ?_) (fun hw => ?_)
      · refine wm_iconst hC dX2_left_77 (k := ?_)
        refine wm_istore hC dX2_left_78 (by decide) (L2 := [(5, vi 0), (0, vr l0), (1, vr l1), (2, vr l2), (3, vi l3), (4, vi l4)]) rfl ?_
        refine wm_iconst hC dX2_left_80 (k := ?_)
        refine wm_istore hC dX2_left_81 (by decide) (L2 := [(6, vi 0), (5, vi 0), (0, vr l0), (1, vr l1), (2, vr l2), (3, vi l3), (4, vi l4)]) rfl ?_
        obtain ⟨f, hw⟩ := hw
        refine wm_sub [2, 3, 4, 5, 6, 1, 0] (L2 := [(0, vr l0), (1, vr l1), (2, vr l2), (3, vi l3), (4, vi l4), (5, vi 0), (6, vi 0)]) rfl ?_
        exact W2_left_b83 hC hRm hE hk0 hk1 hk2 f _ _ _ _ _ hw
      · refine wm_iconst hC dX2_left_75 (k := ?_)
        exact wm_ireturn hC hE dX2_left_76 ⟨trivial, hw⟩
  · refine wm_aload_n hC 0 dX2_left_15 rfl (k_ne0 hk0 (by decide)) ?_
    refine x_getR2 hC 3 fl_X2_18 rfl hk0 dX2_left_16 hw (fun g1 hw => ?_)
    refine wm_iconst hC dX2_left_19 (k := ?_)
    refine wm_iload hC 5 dX2_left_20 rfl ?_
    refine x_imul hC dX2_left_22 hw (fun hw => ?_)
    refine x_iald hC g1 dX2_left_23 hw (fun hw => ?_)
    refine wm_iload hC 4 dX2_left_24 rfl ?_
    refine wm_icmp_le (tgt := 41) hC dX2_left_26 (by decide) hw (fun hw => ?_) (fun hw => ?_)
    · refine wm_iload hC 4 dX2_left_41 rfl ?_
      refine wm_istore hC dX2_left_43 (by decide) (L2 := [(4, vi l4), (0, vr l0), (1, vr l1), (2, vr l2), (3, vi l3), (5, vi l5)]) rfl ?_
      refine x_iinc hC 5 dX2_left_45 rfl (by decide) (L2 := [(5, vi (l5 + 1)), (4, vi l4), (0, vr l0), (1, vr l1), (2, vr l2), (3, vi l3)]) rfl hw (fun hw => ?_)
      refine wm_goto (tgt := 6) hC dX2_left_48 (by decide) ?_
      refine wm_sub [2, 3, 4, 5, 1, 0] (L2 := [(0, vr l0), (1, vr l1), (2, vr l2), (3, vi l3), (4, vi l4), (5, vi (l5 + 1))]) rfl ?_
      exact kk6 _ _ hw
    · refine wm_aload_n hC 0 dX2_left_29 rfl (k_ne0 hk0 (by decide)) ?_
      refine x_getR2 hC 3 fl_X2_18 rfl hk0 dX2_left_30 hw (fun g2 hw => ?_)
      refine wm_iconst hC dX2_left_33 (k := ?_)
      refine wm_iload hC 5 dX2_left_34 rfl ?_
      refine x_imul hC dX2_left_36 hw (fun hw => ?_)
      refine x_iald hC g2 dX2_left_37 hw (fun hw => ?_)
      refine wm_goto (tgt := 43) hC dX2_left_38 (by decide) ?_
      refine x_nameI hw (fun x1 hw => ?_)
      refine wm_istore hC dX2_left_43 (by decide) (L2 := [(4, vi x1), (0, vr l0), (1, vr l1), (2, vr l2), (3, vi l3), (5, vi l5)]) rfl ?_
      refine x_iinc hC 5 dX2_left_45 rfl (by decide) (L2 := [(5, vi (l5 + 1)), (4, vi x1), (0, vr l0), (1, vr l1), (2, vr l2), (3, vi l3)]) rfl hw (fun hw => ?_)
      refine wm_goto (tgt := 6) hC dX2_left_48 (by decide) ?_
      refine wm_sub [2, 3, 4, 5, 1, 0] (L2 := [(0, vr l0), (1, vr l1), (2, vr l2), (3, vi l3), (4, vi x1), (5, vi (l5 + 1))]) rfl ?_
      exact kk6 _ _ hw
set_option maxRecDepth 20000 in
theorem W2_left_b6 {C : wX} {ad : Nat → Nat} {n : Nat} {I J : mI} {R : mR} {Q : Int → mI → mI → mR → Prop} (hC : wOK C cX2_left 9 RX2) (hRm : wRm C 7 168 0 0) (hE : wEnd C (some .int) ad n (fun r I' J' R' => (True) ∧ Q r I' J' R')) {l0 : Nat} {l1 : Nat} {l2 : Nat} {l3 : Int}   (hk0 : kK l0 = 2) (hk1 : kK l1 = 3) (hk2 : kK l2 = 7)  : ∀ (f : Nat) (l4 : Int) (l5 : Int), P2_left_b6 l0 l1 l2 l3 I J R Q f l4 l5 → WM C ad n I J R 0 0 6 [(0, vr l0), (1, vr l1), (2, vr l2), (3, vi l3), (4, vi l4), (5, vi l5)] [] := by
  intro f
  induction f with
  | zero => intro l4 l5 hw; exact hw.elim
  | succ f ih => intro l4 l5 hw; exact W2_left_b6_body hC hRm hE hk0 hk1 hk2 (fun a0 a1 hw => ih a0 a1 hw) hw
def P2_left (l0 : Nat) (l1 : Nat) (l2 : Nat) (l3 : Int) (I : mI) (J : mI) (R : mR) (Q : Int → mI → mI → mR → Prop) : Prop := (∃ f, P2_left_b6 l0 l1 l2 l3 I J R Q f 0 0)
set_option maxRecDepth 20000 in
theorem C2_left {ad : Nat → Nat} {n : Nat} {I J : mI} {R : mR} {Q : Int → mI → mI → mR → Prop}  {l0 : Nat} {l1 : Nat} {l2 : Nat} {l3 : Int} (hk0 : kK l0 = 2) (hk1 : kK l1 = 3) (hk2 : kK l2 = 7) (hw : P2_left l0 l1 l2 l3 I J R Q) : wMet yX2_left cX2_left 9 (some .int) 7 168 false ad n I J R [vr l0, vr l1, vr l2, vi l3] (fun r I' J' R' => (True) ∧ Q r I' J' R') := by
  refine wMet_of (by decide) (Nat.le_of_ble_eq_true rfl) (fun C hC hRm hE hS => ?_)
  refine (show WM C ad n I J R 0 0 0 [(0, vr l0), (1, vr l1), (2, vr l2), (3, vi l3)] [] from ?_)
  unfold P2_left at hw
  refine wm_iconst hC dX2_left_0 (k := ?_)
  refine wm_istore hC dX2_left_1 (by decide) (L2 := [(4, vi 0), (0, vr l0), (1, vr l1), (2, vr l2), (3, vi l3)]) rfl ?_
  refine wm_iconst hC dX2_left_3 (k := ?_)
  refine wm_istore hC dX2_left_4 (by decide) (L2 := [(5, vi 0), (4, vi 0), (0, vr l0), (1, vr l1), (2, vr l2), (3, vi l3)]) rfl ?_
  obtain ⟨f, hw⟩ := hw
  refine wm_sub [2, 3, 4, 5, 1, 0] (L2 := [(0, vr l0), (1, vr l1), (2, vr l2), (3, vi l3), (4, vi 0), (5, vi 0)]) rfl ?_
  exact W2_left_b6 hC hRm hE hk0 hk1 hk2 f _ _ hw
def P2_slotOf (l0 : Int) (l1 : Int)  (Q : Int → Prop) : Prop := (rg (l0 - 1) ∧ (rg ((l0 - 1) * 6) ∧ (rg (((l0 - 1) * 6) + l1) ∧ (rg ((((l0 - 1) * 6) + l1) * 7) ∧ (Q ((((l0 - 1) * 6) + l1) * 7))))))
set_option maxRecDepth 20000 in
theorem C2_slotOf {ad : Nat → Nat} {n : Nat} {I J : mI} {R : mR} {Q : Int → Prop}  {l0 : Int} {l1 : Int}  (hw : P2_slotOf l0 l1 Q) : wMet yX2_slotOf cX2_slotOf 2 (some .int) 1 12 false ad n I J R [vi l0, vi l1] (fun r I' J' R' => (I' = I ∧ J' = J ∧ R' = R) ∧ Q r) := by
  refine wMet_of (by decide) (Nat.le_of_ble_eq_true rfl) (fun C hC hRm hE hS => ?_)
  refine (show WM C ad n I J R 0 0 0 [(0, vi l0), (1, vi l1)] [] from ?_)
  unfold P2_slotOf at hw
  refine wm_iload_n hC 0 dX2_slotOf_0 rfl ?_
  refine wm_iconst hC dX2_slotOf_1 (k := ?_)
  refine x_isub hC dX2_slotOf_2 hw (fun hw => ?_)
  refine wm_bipush hC dX2_slotOf_3 (k := ?_)
  refine x_imul hC dX2_slotOf_5 hw (fun hw => ?_)
  refine wm_iload_n hC 1 dX2_slotOf_6 rfl ?_
  refine x_iadd hC dX2_slotOf_7 hw (fun hw => ?_)
  refine wm_bipush hC dX2_slotOf_8 (k := ?_)
  refine x_imul hC dX2_slotOf_10 hw (fun hw => ?_)
  exact wm_ireturn hC hE dX2_slotOf_11 ⟨⟨rfl, rfl, rfl⟩, hw⟩
def P2_count_b89_body (l0 : Nat) (l1 : Nat) (l2 : Nat) (l3 : Int) (l4 : Int) (l5 : Int) (l6 : Int) (J : mI) (R : mR) (k11 : Int → mI → mI → mR → Prop) (k52 : Int → mI → mI → mR → Prop) (Q : mI → mI → mR → Prop) (k89 : Int → mI → Prop) (l7 : Int) (I : mI) : Prop := (kK (R l1 0) = 21 ∧ (((0 : Int) ≤ (2 : Int) ∧ (2 : Int) < (kN (R l1 0) : Int)) ∧ (if (I (R l1 0) (2 : Int)) ≤ l7 then (rg (l6 + 1) ∧ (k52 (l6 + 1) I J R)) else (kK (R l0 4) = 21 ∧ (P2_slotOf l6 l7 (fun r2 => (kK (R l0 2) = 7 ∧ (kK (R (R l0 2) 5) = 21 ∧ (((0 : Int) ≤ l7 ∧ l7 < (kN (R (R l0 2) 5) : Int)) ∧ (rg (r2 + (I (R (R l0 2) 5) l7)) ∧ (rg ((r2 + (I (R (R l0 2) 5) l7)) + 1) ∧ (((0 : Int) ≤ ((r2 + (I (R (R l0 2) 5) l7)) + 1) ∧ ((r2 + (I (R (R l0 2) 5) l7)) + 1) < (kN (R l0 4) : Int)) ∧ (rg ((I (R l0 4) ((r2 + (I (R (R l0 2) 5) l7)) + 1)) + 1) ∧ (((0 : Int) ≤ ((r2 + (I (R (R l0 2) 5) l7)) + 1) ∧ ((r2 + (I (R (R l0 2) 5) l7)) + 1) < (kN (R l0 4) : Int)) ∧ wLet (up I (R l0 4) ((r2 + (I (R (R l0 2) 5) l7)) + 1) ((I (R l0 4) ((r2 + (I (R (R l0 2) 5) l7)) + 1)) + 1)) (fun I6 => (rg (l7 + 1) ∧ (k89 (l7 + 1) I6)))))))))))))))))
def P2_count_b89 (l0 : Nat) (l1 : Nat) (l2 : Nat) (l3 : Int) (l4 : Int) (l5 : Int) (l6 : Int) (J : mI) (R : mR) (k11 : Int → mI → mI → mR → Prop) (k52 : Int → mI → mI → mR → Prop) (Q : mI → mI → mR → Prop) : Nat → Int → mI → Prop
  | 0 => fun _ _ => False
  | f + 1 => fun l7 I => P2_count_b89_body l0 l1 l2 l3 l4 l5 l6 J R k11 k52 Q (P2_count_b89 l0 l1 l2 l3 l4 l5 l6 J R k11 k52 Q f) l7 I
set_option maxRecDepth 20000 in
theorem W2_count_b89_body {C : wX} {ad : Nat → Nat} {n : Nat} {I J : mI} {R : mR} {Q : mI → mI → mR → Prop} (hC : wOK C cX2_count 8 RX2) (hRm : wRm C 7 168 0 0) (hE : wEnd C none ad n (fun _ I' J' R' => (True) ∧ Q I' J' R')) {l0 : Nat} {l1 : Nat} {l2 : Nat} {l3 : Int} {l4 : Int} {l5 : Int} {l6 : Int} {l7 : Int}  {k11 : Int → mI → mI → mR → Prop} {k52 : Int → mI → mI → mR → Prop} (hk0 : kK l0 = 2) (hk1 : kK l1 = 3) (hk2 : kK l2 = 7) (kk11 : ∀ (y5 : Int) (I' : mI) (J' : mI) (R' : mR), k11 y5 I' J' R' → WM C ad n I' J' R' 0 0 11 [(0, vr l0), (1, vr l1), (2, vr l2), (3, vi l3), (4, vi l4), (5, vi y5)] []) (kk52 : ∀ (y6 : Int) (I' : mI) (J' : mI) (R' : mR), k52 y6 I' J' R' → WM C ad n I' J' R' 0 0 52 [(0, vr l0), (1, vr l1), (2, vr l2), (3, vi l3), (4, vi l4), (5, vi l5), (6, vi y6)] []) {k89 : Int → mI → Prop} (kk89 : ∀ (y7 : Int) (I' : mI), k89 y7 I' → WM C ad n I' J R 0 0 89 [(0, vr l0), (1, vr l1), (2, vr l2), (3, vi l3), (4, vi l4), (5, vi l5), (6, vi l6), (7, vi y7)] []) (hw : P2_count_b89_body l0 l1 l2 l3 l4 l5 l6 J R k11 k52 Q k89 l7 I) : WM C ad n I J R 0 0 89 [(0, vr l0), (1, vr l1), (2, vr l2), (3, vi l3), (4, vi l4), (5, vi l5), (6, vi l6), (7, vi l7)] [] := by
  unfold P2_count_b89_body at hw
  refine wm_iload hC 7 dX2_count_89 rfl ?_
  refine wm_aload_n hC 1 dX2_count_91 rfl (k_ne0 hk1 (by decide)) ?_
  refine x_getR2 hC 0 fl_X2_93 rfl hk1 dX2_count_92 hw (fun g7 hw => ?_)
  refine wm_iconst hC dX2_count_95 (k := ?_)
  refine x_iald hC g7 dX2_count_96 hw (fun hw => ?_)
  refine wm_icmp_ge (tgt := 135) hC dX2_count_97 (by decide) hw (fun hw => ?_) (fun hw => ?_)
  · refine x_iinc hC 6 dX2_count_135 rfl (by decide) (L2 := [(6, vi (l6 + 1)), (0, vr l0), (1, vr l1), (2, vr l2), (3, vi l3), (4, vi l4), (5, vi l5), (7, vi l7)]) rfl hw (fun hw => ?_)
    refine wm_goto (tgt := 52) hC dX2_count_138 (by decide) ?_
    refine wm_sub [1, 2, 3, 4, 5, 6, 0] (L2 := [(0, vr l0), (1, vr l1), (2, vr l2), (3, vi l3), (4, vi l4), (5, vi l5), (6, vi (l6 + 1))]) rfl ?_
    exact kk52 _ _ _ _ hw
  · refine wm_aload_n hC 0 dX2_count_100 rfl (k_ne0 hk0 (by decide)) ?_
    refine x_getR2 hC 4 fl_X2_22 rfl hk0 dX2_count_101 hw (fun g8 hw => ?_)
    refine wm_iload hC 6 dX2_count_104 rfl ?_
    refine wm_iload hC 7 dX2_count_106 rfl ?_
    refine y_callS_i_n hC hRm noS ml_X2_96 (C2_slotOf  hw) (Nat.le_of_ble_eq_true rfl) (Nat.le_of_ble_eq_true rfl) ⟨Nat.zero_le _, Nat.zero_le _⟩ rfl (st := [vr (R l0 4)]) rfl (Nat.le_of_ble_eq_true rfl) dX2_count_108 (fun r2 hw => ?_)
    refine wm_aload_n hC 0 dX2_count_111 rfl (k_ne0 hk0 (by decide)) ?_
    refine x_getR2 hC 2 fl_X2_12 rfl hk0 dX2_count_112 hw (fun g9 hw => ?_)
    refine x_getR2 hC 5 fl_X2_84 rfl g9 dX2_count_115 hw (fun g10 hw => ?_)
    refine wm_iload hC 7 dX2_count_118 rfl ?_
    refine x_iald hC g10 dX2_count_120 hw (fun hw => ?_)
    refine x_iadd hC dX2_count_121 hw (fun hw => ?_)
    refine wm_iconst hC dX2_count_122 (k := ?_)
    refine x_iadd hC dX2_count_123 hw (fun hw => ?_)
    refine wm_dup2_11 hC dX2_count_124 (k := ?_)
    refine x_iald hC g8 dX2_count_125 hw (fun hw => ?_)
    refine wm_iconst hC dX2_count_126 (k := ?_)
    refine x_iadd hC dX2_count_127 hw (fun hw => ?_)
    refine x_iast hC g8 dX2_count_128 hw (fun I6 hw => ?_)
    refine x_iinc hC 7 dX2_count_129 rfl (by decide) (L2 := [(7, vi (l7 + 1)), (0, vr l0), (1, vr l1), (2, vr l2), (3, vi l3), (4, vi l4), (5, vi l5), (6, vi l6)]) rfl hw (fun hw => ?_)
    refine wm_goto (tgt := 89) hC dX2_count_132 (by decide) ?_
    refine wm_sub [1, 2, 3, 4, 5, 6, 7, 0] (L2 := [(0, vr l0), (1, vr l1), (2, vr l2), (3, vi l3), (4, vi l4), (5, vi l5), (6, vi l6), (7, vi (l7 + 1))]) rfl ?_
    exact kk89 _ _ hw
set_option maxRecDepth 20000 in
theorem W2_count_b89 {C : wX} {ad : Nat → Nat} {n : Nat} {J : mI} {R : mR} {Q : mI → mI → mR → Prop} (hC : wOK C cX2_count 8 RX2) (hRm : wRm C 7 168 0 0) (hE : wEnd C none ad n (fun _ I' J' R' => (True) ∧ Q I' J' R')) {l0 : Nat} {l1 : Nat} {l2 : Nat} {l3 : Int} {l4 : Int} {l5 : Int} {l6 : Int}  {k11 : Int → mI → mI → mR → Prop} {k52 : Int → mI → mI → mR → Prop} (hk0 : kK l0 = 2) (hk1 : kK l1 = 3) (hk2 : kK l2 = 7) (kk11 : ∀ (y5 : Int) (I' : mI) (J' : mI) (R' : mR), k11 y5 I' J' R' → WM C ad n I' J' R' 0 0 11 [(0, vr l0), (1, vr l1), (2, vr l2), (3, vi l3), (4, vi l4), (5, vi y5)] []) (kk52 : ∀ (y6 : Int) (I' : mI) (J' : mI) (R' : mR), k52 y6 I' J' R' → WM C ad n I' J' R' 0 0 52 [(0, vr l0), (1, vr l1), (2, vr l2), (3, vi l3), (4, vi l4), (5, vi l5), (6, vi y6)] []) : ∀ (f : Nat) (l7 : Int) (I : mI), P2_count_b89 l0 l1 l2 l3 l4 l5 l6 J R k11 k52 Q f l7 I → WM C ad n I J R 0 0 89 [(0, vr l0), (1, vr l1), (2, vr l2), (3, vi l3), (4, vi l4), (5, vi l5), (6, vi l6), (7, vi l7)] [] := by
  intro f
  induction f with
  | zero => intro l7 I hw; exact hw.elim
  | succ f ih => intro l7 I hw; exact W2_count_b89_body hC hRm hE hk0 hk1 hk2 kk11 kk52 (fun a0 a1 hw => ih a0 a1 hw) hw
def P2_count_b52_body (l0 : Nat) (l1 : Nat) (l2 : Nat) (l3 : Int) (l4 : Int) (l5 : Int) (k11 : Int → mI → mI → mR → Prop) (Q : mI → mI → mR → Prop) (k52 : Int → mI → mI → mR → Prop) (l6 : Int) (I : mI) (J : mI) (R : mR) : Prop := (if (30 : Int) < l6 then (rg (l5 + 1) ∧ (k11 (l5 + 1) I J R)) else (rg ((I l2 0) + l6) ∧ (if (999 : Int) < ((I l2 0) + l6) then (rg (l5 + 1) ∧ (k11 (l5 + 1) I J R)) else (kK (R l0 1) = 0 ∧ (kK (R l0 2) = 7 ∧ (P0_pass (R l0 1) l1 (R l0 2) (-1) I J R (fun r1 I5 J1 R1 => (∃ f, P2_count_b89 l0 l1 l2 l3 l4 l5 l6 J1 R1 k11 k52 Q f 0 I5))))))))
def P2_count_b52 (l0 : Nat) (l1 : Nat) (l2 : Nat) (l3 : Int) (l4 : Int) (l5 : Int) (k11 : Int → mI → mI → mR → Prop) (Q : mI → mI → mR → Prop) : Nat → Int → mI → mI → mR → Prop
  | 0 => fun _ _ _ _ => False
  | f + 1 => fun l6 I J R => P2_count_b52_body l0 l1 l2 l3 l4 l5 k11 Q (P2_count_b52 l0 l1 l2 l3 l4 l5 k11 Q f) l6 I J R
set_option maxRecDepth 20000 in
theorem W2_count_b52_body {C : wX} {ad : Nat → Nat} {n : Nat} {I J : mI} {R : mR} {Q : mI → mI → mR → Prop} (hC : wOK C cX2_count 8 RX2) (hRm : wRm C 7 168 0 0) (hE : wEnd C none ad n (fun _ I' J' R' => (True) ∧ Q I' J' R')) {l0 : Nat} {l1 : Nat} {l2 : Nat} {l3 : Int} {l4 : Int} {l5 : Int} {l6 : Int}  {k11 : Int → mI → mI → mR → Prop} (hk0 : kK l0 = 2) (hk1 : kK l1 = 3) (hk2 : kK l2 = 7) (kk11 : ∀ (y5 : Int) (I' : mI) (J' : mI) (R' : mR), k11 y5 I' J' R' → WM C ad n I' J' R' 0 0 11 [(0, vr l0), (1, vr l1), (2, vr l2), (3, vi l3), (4, vi l4), (5, vi y5)] []) {k52 : Int → mI → mI → mR → Prop} (kk52 : ∀ (y6 : Int) (I' : mI) (J' : mI) (R' : mR), k52 y6 I' J' R' → WM C ad n I' J' R' 0 0 52 [(0, vr l0), (1, vr l1), (2, vr l2), (3, vi l3), (4, vi l4), (5, vi l5), (6, vi y6)] []) (hw : P2_count_b52_body l0 l1 l2 l3 l4 l5 k11 Q k52 l6 I J R) : WM C ad n I J R 0 0 52 [(0, vr l0), (1, vr l1), (2, vr l2), (3, vi l3), (4, vi l4), (5, vi l5), (6, vi l6)] [] := by
  unfold P2_count_b52_body at hw
  refine wm_iload hC 6 dX2_count_52 rfl ?_
  refine wm_bipush hC dX2_count_54 (k := ?_)
  refine wm_icmp_gt (tgt := 141) hC dX2_count_56 (by decide) hw (fun hw => ?_) (fun hw => ?_)
  · refine x_iinc hC 5 dX2_count_141 rfl (by decide) (L2 := [(5, vi (l5 + 1)), (0, vr l0), (1, vr l1), (2, vr l2), (3, vi l3), (4, vi l4), (6, vi l6)]) rfl hw (fun hw => ?_)
    refine wm_goto (tgt := 11) hC dX2_count_144 (by decide) ?_
    refine wm_sub [1, 2, 3, 4, 5, 0] (L2 := [(0, vr l0), (1, vr l1), (2, vr l2), (3, vi l3), (4, vi l4), (5, vi (l5 + 1))]) rfl ?_
    exact kk11 _ _ _ _ hw
  · refine wm_aload_n hC 2 dX2_count_59 rfl (k_ne0 hk2 (by decide)) ?_
    refine x_getI hC 0 fl_X2_61 rfl hk2 dX2_count_60 ?_
    refine wm_iload hC 6 dX2_count_63 rfl ?_
    refine x_iadd hC dX2_count_65 hw (fun hw => ?_)
    refine wm_sipush hC dX2_count_66 (k := ?_)
    refine wm_icmp_gt (tgt := 141) hC dX2_count_69 (by decide) hw (fun hw => ?_) (fun hw => ?_)
    · refine x_iinc hC 5 dX2_count_141 rfl (by decide) (L2 := [(5, vi (l5 + 1)), (0, vr l0), (1, vr l1), (2, vr l2), (3, vi l3), (4, vi l4), (6, vi l6)]) rfl hw (fun hw => ?_)
      refine wm_goto (tgt := 11) hC dX2_count_144 (by decide) ?_
      refine wm_sub [1, 2, 3, 4, 5, 0] (L2 := [(0, vr l0), (1, vr l1), (2, vr l2), (3, vi l3), (4, vi l4), (5, vi (l5 + 1))]) rfl ?_
      exact kk11 _ _ _ _ hw
    · refine wm_aload_n hC 0 dX2_count_72 rfl (k_ne0 hk0 (by decide)) ?_
      refine x_getR2 hC 1 fl_X2_42 rfl hk0 dX2_count_73 hw (fun g5 hw => ?_)
      refine wm_aload_n hC 1 dX2_count_76 rfl (k_ne0 hk1 (by decide)) ?_
      refine wm_aload_n hC 0 dX2_count_77 rfl (k_ne0 hk0 (by decide)) ?_
      refine x_getR2 hC 2 fl_X2_12 rfl hk0 dX2_count_78 hw (fun g6 hw => ?_)
      refine wm_iconst hC dX2_count_81 (k := ?_)
      refine y_callV_z_IJR hC hRm noS ml_X2_78 g5 (C0_pass g5 hk1 g6 hw) (Nat.le_of_ble_eq_true rfl) (Nat.le_of_ble_eq_true rfl) ⟨Nat.zero_le _, Nat.zero_le _⟩ rfl (st := []) rfl (Nat.le_of_ble_eq_true rfl) dX2_count_82 (fun r1 I5 J1 R1 hw => ?_)
      refine wm_pop hC dX2_count_85 (k := ?_)
      refine wm_iconst hC dX2_count_86 (k := ?_)
      refine wm_istore hC dX2_count_87 (by decide) (L2 := [(7, vi 0), (0, vr l0), (1, vr l1), (2, vr l2), (3, vi l3), (4, vi l4), (5, vi l5), (6, vi l6)]) rfl ?_
      obtain ⟨f, hw⟩ := hw
      refine wm_sub [1, 2, 3, 4, 5, 6, 7, 0] (L2 := [(0, vr l0), (1, vr l1), (2, vr l2), (3, vi l3), (4, vi l4), (5, vi l5), (6, vi l6), (7, vi 0)]) rfl ?_
      exact W2_count_b89 hC hRm hE hk0 hk1 hk2 kk11 kk52 f _ _ hw
set_option maxRecDepth 20000 in
theorem W2_count_b52 {C : wX} {ad : Nat → Nat} {n : Nat}  {Q : mI → mI → mR → Prop} (hC : wOK C cX2_count 8 RX2) (hRm : wRm C 7 168 0 0) (hE : wEnd C none ad n (fun _ I' J' R' => (True) ∧ Q I' J' R')) {l0 : Nat} {l1 : Nat} {l2 : Nat} {l3 : Int} {l4 : Int} {l5 : Int}  {k11 : Int → mI → mI → mR → Prop} (hk0 : kK l0 = 2) (hk1 : kK l1 = 3) (hk2 : kK l2 = 7) (kk11 : ∀ (y5 : Int) (I' : mI) (J' : mI) (R' : mR), k11 y5 I' J' R' → WM C ad n I' J' R' 0 0 11 [(0, vr l0), (1, vr l1), (2, vr l2), (3, vi l3), (4, vi l4), (5, vi y5)] []) : ∀ (f : Nat) (l6 : Int) (I : mI) (J : mI) (R : mR), P2_count_b52 l0 l1 l2 l3 l4 l5 k11 Q f l6 I J R → WM C ad n I J R 0 0 52 [(0, vr l0), (1, vr l1), (2, vr l2), (3, vi l3), (4, vi l4), (5, vi l5), (6, vi l6)] [] := by
  intro f
  induction f with
  | zero => intro l6 I J R hw; exact hw.elim
  | succ f ih => intro l6 I J R hw; exact W2_count_b52_body hC hRm hE hk0 hk1 hk2 kk11 (fun a0 a1 a2 a3 hw => ih a0 a1 a2 a3 hw) hw
def P2_count_b11_body (l0 : Nat) (l1 : Nat) (l2 : Nat) (l3 : Int) (l4 : Int) (Q : mI → mI → mR → Prop) (k11 : Int → mI → mI → mR → Prop) (l5 : Int) (I : mI) (J : mI) (R : mR) : Prop := (if (10 : Int) ≤ l5 then (kK (R l0 0) = 1 ∧ (P1_suppose (R l0 0) (-1) 0 I (fun I2 => (Q I2 J R)))) else (if (bAnd (bShr l4 l5) 1) = 0 then (rg (l5 + 1) ∧ (k11 (l5 + 1) I J R)) else (kK (R l0 0) = 1 ∧ (P1_suppose (R l0 0) l3 l5 I (fun I3 => (kK (R l0 2) = 7 ∧ (P7_take (R l0 2) l2 I3 R (fun I4 => (∃ f, P2_count_b52 l0 l1 l2 l3 l4 l5 k11 Q f 1 I4 J R)))))))))
def P2_count_b11 (l0 : Nat) (l1 : Nat) (l2 : Nat) (l3 : Int) (l4 : Int) (Q : mI → mI → mR → Prop) : Nat → Int → mI → mI → mR → Prop
  | 0 => fun _ _ _ _ => False
  | f + 1 => fun l5 I J R => P2_count_b11_body l0 l1 l2 l3 l4 Q (P2_count_b11 l0 l1 l2 l3 l4 Q f) l5 I J R
set_option maxRecDepth 20000 in
theorem W2_count_b11_body {C : wX} {ad : Nat → Nat} {n : Nat} {I J : mI} {R : mR} {Q : mI → mI → mR → Prop} (hC : wOK C cX2_count 8 RX2) (hRm : wRm C 7 168 0 0) (hE : wEnd C none ad n (fun _ I' J' R' => (True) ∧ Q I' J' R')) {l0 : Nat} {l1 : Nat} {l2 : Nat} {l3 : Int} {l4 : Int} {l5 : Int}   (hk0 : kK l0 = 2) (hk1 : kK l1 = 3) (hk2 : kK l2 = 7)  {k11 : Int → mI → mI → mR → Prop} (kk11 : ∀ (y5 : Int) (I' : mI) (J' : mI) (R' : mR), k11 y5 I' J' R' → WM C ad n I' J' R' 0 0 11 [(0, vr l0), (1, vr l1), (2, vr l2), (3, vi l3), (4, vi l4), (5, vi y5)] []) (hw : P2_count_b11_body l0 l1 l2 l3 l4 Q k11 l5 I J R) : WM C ad n I J R 0 0 11 [(0, vr l0), (1, vr l1), (2, vr l2), (3, vi l3), (4, vi l4), (5, vi l5)] [] := by
  unfold P2_count_b11_body at hw
  refine wm_iload hC 5 dX2_count_11 rfl ?_
  refine wm_bipush hC dX2_count_13 (k := ?_)
  refine wm_icmp_ge (tgt := 147) hC dX2_count_15 (by decide) hw (fun hw => ?_) (fun hw => ?_)
  · refine wm_aload_n hC 0 dX2_count_147 rfl (k_ne0 hk0 (by decide)) ?_
    refine x_getR2 hC 0 fl_X2_38 rfl hk0 dX2_count_148 hw (fun g2 hw => ?_)
    refine wm_iconst hC dX2_count_151 (k := ?_)
    refine wm_iconst hC dX2_count_152 (k := ?_)
    refine y_callV_v_I hC hRm noS ml_X2_64 g2 (C1_suppose g2 hw) (Nat.le_of_ble_eq_true rfl) (Nat.le_of_ble_eq_true rfl) ⟨Nat.zero_le _, Nat.zero_le _⟩ rfl (st := []) rfl (Nat.le_of_ble_eq_true rfl) dX2_count_153 (fun I2 hw => ?_)
    exact wm_return hC hE dX2_count_156 ⟨trivial, hw⟩
  · refine wm_iload hC 4 dX2_count_18 rfl ?_
    refine wm_iload hC 5 dX2_count_20 rfl ?_
    refine wm_ishr hC dX2_count_22 ?_
    refine wm_iconst hC dX2_count_23 (k := ?_)
    refine wm_iand hC dX2_count_24 ?_
    refine wm_if_ne (tgt := 31) hC dX2_count_25 (by decide) hw (fun hw => ?_) (fun hw => ?_)
    · refine wm_goto (tgt := 141) hC dX2_count_28 (by decide) ?_
      refine x_iinc hC 5 dX2_count_141 rfl (by decide) (L2 := [(5, vi (l5 + 1)), (0, vr l0), (1, vr l1), (2, vr l2), (3, vi l3), (4, vi l4)]) rfl hw (fun hw => ?_)
      refine wm_goto (tgt := 11) hC dX2_count_144 (by decide) ?_
      refine wm_sub [1, 2, 3, 4, 5, 0] (L2 := [(0, vr l0), (1, vr l1), (2, vr l2), (3, vi l3), (4, vi l4), (5, vi (l5 + 1))]) rfl ?_
      exact kk11 _ _ _ _ hw
    · refine wm_aload_n hC 0 dX2_count_31 rfl (k_ne0 hk0 (by decide)) ?_
      refine x_getR2 hC 0 fl_X2_38 rfl hk0 dX2_count_32 hw (fun g3 hw => ?_)
      refine wm_iload_n hC 3 dX2_count_35 rfl ?_
      refine wm_iload hC 5 dX2_count_36 rfl ?_
      refine y_callV_v_I hC hRm noS ml_X2_64 g3 (C1_suppose g3 hw) (Nat.le_of_ble_eq_true rfl) (Nat.le_of_ble_eq_true rfl) ⟨Nat.zero_le _, Nat.zero_le _⟩ rfl (st := []) rfl (Nat.le_of_ble_eq_true rfl) dX2_count_38 (fun I3 hw => ?_)
      refine wm_aload_n hC 0 dX2_count_41 rfl (k_ne0 hk0 (by decide)) ?_
      refine x_getR2 hC 2 fl_X2_12 rfl hk0 dX2_count_42 hw (fun g4 hw => ?_)
      refine wm_aload_n hC 2 dX2_count_45 rfl (k_ne0 hk2 (by decide)) ?_
      refine y_callV_v_I hC hRm noS ml_X2_70 g4 (C7_take g4 hk2 hw) (Nat.le_of_ble_eq_true rfl) (Nat.le_of_ble_eq_true rfl) ⟨Nat.zero_le _, Nat.zero_le _⟩ rfl (st := []) rfl (Nat.le_of_ble_eq_true rfl) dX2_count_46 (fun I4 hw => ?_)
      refine wm_iconst hC dX2_count_49 (k := ?_)
      refine wm_istore hC dX2_count_50 (by decide) (L2 := [(6, vi 1), (0, vr l0), (1, vr l1), (2, vr l2), (3, vi l3), (4, vi l4), (5, vi l5)]) rfl ?_
      obtain ⟨f, hw⟩ := hw
      refine wm_sub [1, 2, 3, 4, 5, 6, 0] (L2 := [(0, vr l0), (1, vr l1), (2, vr l2), (3, vi l3), (4, vi l4), (5, vi l5), (6, vi 1)]) rfl ?_
      exact W2_count_b52 hC hRm hE hk0 hk1 hk2 kk11 f _ _ _ _ hw
set_option maxRecDepth 20000 in
theorem W2_count_b11 {C : wX} {ad : Nat → Nat} {n : Nat}  {Q : mI → mI → mR → Prop} (hC : wOK C cX2_count 8 RX2) (hRm : wRm C 7 168 0 0) (hE : wEnd C none ad n (fun _ I' J' R' => (True) ∧ Q I' J' R')) {l0 : Nat} {l1 : Nat} {l2 : Nat} {l3 : Int} {l4 : Int}   (hk0 : kK l0 = 2) (hk1 : kK l1 = 3) (hk2 : kK l2 = 7)  : ∀ (f : Nat) (l5 : Int) (I : mI) (J : mI) (R : mR), P2_count_b11 l0 l1 l2 l3 l4 Q f l5 I J R → WM C ad n I J R 0 0 11 [(0, vr l0), (1, vr l1), (2, vr l2), (3, vi l3), (4, vi l4), (5, vi l5)] [] := by
  intro f
  induction f with
  | zero => intro l5 I J R hw; exact hw.elim
  | succ f ih => intro l5 I J R hw; exact W2_count_b11_body hC hRm hE hk0 hk1 hk2 (fun a0 a1 a2 a3 hw => ih a0 a1 a2 a3 hw) hw
def P2_count (l0 : Nat) (l1 : Nat) (l2 : Nat) (l3 : Int) (l4 : Int) (I : mI) (J : mI) (R : mR) (Q : mI → mI → mR → Prop) : Prop := (kK (R l0 4) = 21 ∧ (PJ7_fill_53178 (R l0 4) 0 I (fun I1 => (∃ f, P2_count_b11 l0 l1 l2 l3 l4 Q f 0 I1 J R))))
set_option maxRecDepth 20000 in
theorem C2_count {ad : Nat → Nat} {n : Nat} {I J : mI} {R : mR} {Q : mI → mI → mR → Prop}  {l0 : Nat} {l1 : Nat} {l2 : Nat} {l3 : Int} {l4 : Int} (hk0 : kK l0 = 2) (hk1 : kK l1 = 3) (hk2 : kK l2 = 7) (hw : P2_count l0 l1 l2 l3 l4 I J R Q) : wMet yX2_count cX2_count 8 none 7 168 false ad n I J R [vr l0, vr l1, vr l2, vi l3, vi l4] (fun _ I' J' R' => (True) ∧ Q I' J' R') := by
  refine wMet_of (by decide) (Nat.le_of_ble_eq_true rfl) (fun C hC hRm hE hS => ?_)
  refine (show WM C ad n I J R 0 0 0 [(0, vr l0), (1, vr l1), (2, vr l2), (3, vi l3), (4, vi l4)] [] from ?_)
  unfold P2_count at hw
  refine wm_aload_n hC 0 dX2_count_0 rfl (k_ne0 hk0 (by decide)) ?_
  refine x_getR2 hC 4 fl_X2_22 rfl hk0 dX2_count_1 hw (fun g1 hw => ?_)
  refine wm_iconst hC dX2_count_4 (k := ?_)
  refine y_callS_v_I hC hRm noS ml_X2_87 (CJ7_fill_53178 g1 hw) (Nat.le_of_ble_eq_true rfl) (Nat.le_of_ble_eq_true rfl) ⟨Nat.zero_le _, Nat.zero_le _⟩ rfl (st := []) rfl (Nat.le_of_ble_eq_true rfl) dX2_count_5 (fun I1 hw => ?_)
  refine wm_iconst hC dX2_count_8 (k := ?_)
  refine wm_istore hC dX2_count_9 (by decide) (L2 := [(5, vi 0), (0, vr l0), (1, vr l1), (2, vr l2), (3, vi l3), (4, vi l4)]) rfl ?_
  obtain ⟨f, hw⟩ := hw
  refine wm_sub [1, 2, 3, 4, 5, 0] (L2 := [(0, vr l0), (1, vr l1), (2, vr l2), (3, vi l3), (4, vi l4), (5, vi 0)]) rfl ?_
  exact W2_count_b11 hC hRm hE hk0 hk1 hk2 f _ _ _ _ hw
def P2_findTelling_b95 (l0 : Nat) (l1 : Int) (l2 : Int) (l3 : Int) (l4 : Int) (l5 : Int) (I : mI) (R : mR) (k7 : Int → mI → Prop) (k21 : Int → mI → Prop) (Q : mI → Prop) : Prop := (wLet (up I l0 6 l3) (fun I2 => (wLet (up I2 l0 7 l4) (fun I3 => (wLet (up I3 l0 8 l5) (fun I4 => (rg (l4 + 1) ∧ (k21 (l4 + 1) I4))))))))
set_option maxRecDepth 20000 in
theorem W2_findTelling_b95 {C : wX} {ad : Nat → Nat} {n : Nat} {I J : mI} {R : mR} {Q : mI → Prop} (hC : wOK C cX2_findTelling 8 RX2) (hRm : wRm C 2 33 0 0) (hE : wEnd C none ad n (fun _ I' J' R' => (J' = J ∧ R' = R) ∧ Q I')) {l0 : Nat} {l1 : Int} {l2 : Int} {l3 : Int} {l4 : Int} {l5 : Int}  {k7 : Int → mI → Prop} {k21 : Int → mI → Prop} (hk0 : kK l0 = 2) (kk7 : ∀ (y3 : Int) (I' : mI), k7 y3 I' → WM C ad n I' J R 0 0 7 [(0, vr l0), (1, vi l1), (2, vi l2), (3, vi y3)] []) (kk21 : ∀ (y4 : Int) (I' : mI), k21 y4 I' → WM C ad n I' J R 0 0 21 [(0, vr l0), (1, vi l1), (2, vi l2), (3, vi l3), (4, vi y4)] []) (hw : P2_findTelling_b95 l0 l1 l2 l3 l4 l5 I R k7 k21 Q) : WM C ad n I J R 0 0 95 [(0, vr l0), (1, vi l1), (2, vi l2), (3, vi l3), (4, vi l4), (5, vi l5)] [] := by
  unfold P2_findTelling_b95 at hw
  refine wm_aload_n hC 0 dX2_findTelling_95 rfl (k_ne0 hk0 (by decide)) ?_
  refine wm_iload_n hC 3 dX2_findTelling_96 rfl ?_
  refine x_putI hC 6 fl_X2_29 rfl hk0 dX2_findTelling_97 hw (fun I2 hw => ?_)
  refine wm_aload_n hC 0 dX2_findTelling_100 rfl (k_ne0 hk0 (by decide)) ?_
  refine wm_iload hC 4 dX2_findTelling_101 rfl ?_
  refine x_putI hC 7 fl_X2_32 rfl hk0 dX2_findTelling_103 hw (fun I3 hw => ?_)
  refine wm_aload_n hC 0 dX2_findTelling_106 rfl (k_ne0 hk0 (by decide)) ?_
  refine wm_iload hC 5 dX2_findTelling_107 rfl ?_
  refine x_putI hC 8 fl_X2_35 rfl hk0 dX2_findTelling_109 hw (fun I4 hw => ?_)
  refine x_iinc hC 4 dX2_findTelling_112 rfl (by decide) (L2 := [(4, vi (l4 + 1)), (0, vr l0), (1, vi l1), (2, vi l2), (3, vi l3), (5, vi l5)]) rfl hw (fun hw => ?_)
  refine wm_goto (tgt := 21) hC dX2_findTelling_115 (by decide) ?_
  refine wm_sub [1, 2, 3, 4, 0] (L2 := [(0, vr l0), (1, vi l1), (2, vi l2), (3, vi l3), (4, vi (l4 + 1))]) rfl ?_
  exact kk21 _ _ hw
def P2_findTelling_b33_body (l0 : Nat) (l1 : Int) (l2 : Int) (l3 : Int) (l4 : Int) (I : mI) (R : mR) (k7 : Int → mI → Prop) (k21 : Int → mI → Prop) (Q : mI → Prop) (k33 : Int → Int → Prop) (l5 : Int) (l6 : Int) : Prop := (if (7 : Int) ≤ l6 then (if (I l0 8) = (-1) then (P2_findTelling_b95 l0 l1 l2 l3 l4 l5 I R k7 k21 Q) else (if (I l0 8) ≤ l5 then (rg (l4 + 1) ∧ (k21 (l4 + 1) I)) else (P2_findTelling_b95 l0 l1 l2 l3 l4 l5 I R k7 k21 Q))) else (kK (R l0 4) = 21 ∧ (P2_slotOf l3 l4 (fun r1 => (rg (r1 + l6) ∧ (((0 : Int) ≤ (r1 + l6) ∧ (r1 + l6) < (kN (R l0 4) : Int)) ∧ (wLet (I (R l0 4) (r1 + l6)) (fun x1 => (if x1 ≤ l5 then (rg (l6 + 1) ∧ (k33 l5 (l6 + 1))) else (rg (l6 + 1) ∧ (k33 x1 (l6 + 1))))))))))))
def P2_findTelling_b33 (l0 : Nat) (l1 : Int) (l2 : Int) (l3 : Int) (l4 : Int) (I : mI) (R : mR) (k7 : Int → mI → Prop) (k21 : Int → mI → Prop) (Q : mI → Prop) : Nat → Int → Int → Prop
  | 0 => fun _ _ => False
  | f + 1 => fun l5 l6 => P2_findTelling_b33_body l0 l1 l2 l3 l4 I R k7 k21 Q (P2_findTelling_b33 l0 l1 l2 l3 l4 I R k7 k21 Q f) l5 l6
set_option maxRecDepth 20000 in
theorem W2_findTelling_b33_body {C : wX} {ad : Nat → Nat} {n : Nat} {I J : mI} {R : mR} {Q : mI → Prop} (hC : wOK C cX2_findTelling 8 RX2) (hRm : wRm C 2 33 0 0) (hE : wEnd C none ad n (fun _ I' J' R' => (J' = J ∧ R' = R) ∧ Q I')) {l0 : Nat} {l1 : Int} {l2 : Int} {l3 : Int} {l4 : Int} {l5 : Int} {l6 : Int}  {k7 : Int → mI → Prop} {k21 : Int → mI → Prop} (hk0 : kK l0 = 2) (kk7 : ∀ (y3 : Int) (I' : mI), k7 y3 I' → WM C ad n I' J R 0 0 7 [(0, vr l0), (1, vi l1), (2, vi l2), (3, vi y3)] []) (kk21 : ∀ (y4 : Int) (I' : mI), k21 y4 I' → WM C ad n I' J R 0 0 21 [(0, vr l0), (1, vi l1), (2, vi l2), (3, vi l3), (4, vi y4)] []) {k33 : Int → Int → Prop} (kk33 : ∀ (y5 : Int) (y6 : Int), k33 y5 y6 → WM C ad n I J R 0 0 33 [(0, vr l0), (1, vi l1), (2, vi l2), (3, vi l3), (4, vi l4), (5, vi y5), (6, vi y6)] []) (hw : P2_findTelling_b33_body l0 l1 l2 l3 l4 I R k7 k21 Q k33 l5 l6) : WM C ad n I J R 0 0 33 [(0, vr l0), (1, vi l1), (2, vi l2), (3, vi l3), (4, vi l4), (5, vi l5), (6, vi l6)] [] := by
  unfold P2_findTelling_b33_body at hw
  refine wm_iload hC 6 dX2_findTelling_33 rfl ?_
  refine wm_bipush hC dX2_findTelling_35 (k := ?_)
  refine wm_icmp_ge (tgt := 78) hC dX2_findTelling_37 (by decide) hw (fun hw => ?_) (fun hw => ?_)
  · refine wm_aload_n hC 0 dX2_findTelling_78 rfl (k_ne0 hk0 (by decide)) ?_
    refine x_getI hC 8 fl_X2_35 rfl hk0 dX2_findTelling_79 ?_
    refine wm_iconst hC dX2_findTelling_82 (k := ?_)
    refine wm_icmp_eq (tgt := 95) hC dX2_findTelling_83 (by decide) hw (fun hw => ?_) (fun hw => ?_)
    · refine wm_sub [0, 1, 2, 3, 4, 5] (L2 := [(0, vr l0), (1, vi l1), (2, vi l2), (3, vi l3), (4, vi l4), (5, vi l5)]) rfl ?_
      exact W2_findTelling_b95 hC hRm hE hk0 kk7 kk21 hw
    · refine wm_iload hC 5 dX2_findTelling_86 rfl ?_
      refine wm_aload_n hC 0 dX2_findTelling_88 rfl (k_ne0 hk0 (by decide)) ?_
      refine x_getI hC 8 fl_X2_35 rfl hk0 dX2_findTelling_89 ?_
      refine wm_icmp_ge (tgt := 112) hC dX2_findTelling_92 (by decide) hw (fun hw => ?_) (fun hw => ?_)
      · refine x_iinc hC 4 dX2_findTelling_112 rfl (by decide) (L2 := [(4, vi (l4 + 1)), (0, vr l0), (1, vi l1), (2, vi l2), (3, vi l3), (5, vi l5), (6, vi l6)]) rfl hw (fun hw => ?_)
        refine wm_goto (tgt := 21) hC dX2_findTelling_115 (by decide) ?_
        refine wm_sub [1, 2, 3, 4, 0] (L2 := [(0, vr l0), (1, vi l1), (2, vi l2), (3, vi l3), (4, vi (l4 + 1))]) rfl ?_
        exact kk21 _ _ hw
      · refine wm_sub [0, 1, 2, 3, 4, 5] (L2 := [(0, vr l0), (1, vi l1), (2, vi l2), (3, vi l3), (4, vi l4), (5, vi l5)]) rfl ?_
        exact W2_findTelling_b95 hC hRm hE hk0 kk7 kk21 hw
  · refine wm_aload_n hC 0 dX2_findTelling_40 rfl (k_ne0 hk0 (by decide)) ?_
    refine x_getR2 hC 4 fl_X2_22 rfl hk0 dX2_findTelling_41 hw (fun g1 hw => ?_)
    refine wm_iload_n hC 3 dX2_findTelling_44 rfl ?_
    refine wm_iload hC 4 dX2_findTelling_45 rfl ?_
    refine y_callS_i_n hC hRm noS ml_X2_96 (C2_slotOf  hw) (Nat.le_of_ble_eq_true rfl) (Nat.le_of_ble_eq_true rfl) ⟨Nat.zero_le _, Nat.zero_le _⟩ rfl (st := [vr (R l0 4)]) rfl (Nat.le_of_ble_eq_true rfl) dX2_findTelling_47 (fun r1 hw => ?_)
    refine wm_iload hC 6 dX2_findTelling_50 rfl ?_
    refine x_iadd hC dX2_findTelling_52 hw (fun hw => ?_)
    refine x_iald hC g1 dX2_findTelling_53 hw (fun hw => ?_)
    refine x_nameI hw (fun x1 hw => ?_)
    refine wm_istore hC dX2_findTelling_54 (by decide) (L2 := [(7, vi x1), (0, vr l0), (1, vi l1), (2, vi l2), (3, vi l3), (4, vi l4), (5, vi l5), (6, vi l6)]) rfl ?_
    refine wm_iload hC 0 dX2_findTelling_56 rfl ?_
    refine wm_iload hC 6 dX2_findTelling_58 rfl ?_
    refine wm_icmp_le (tgt := 68) hC dX2_findTelling_60 (by decide) hw (fun hw => ?_) (fun hw => ?_)
    · refine wm_iload hC 6 dX2_findTelling_68 rfl ?_
      refine wm_istore hC dX2_findTelling_70 (by decide) (L2 := [(5, vi l5), (7, vi x1), (0, vr l0), (1, vi l1), (2, vi l2), (3, vi l3), (4, vi l4), (6, vi l6)]) rfl ?_
      refine x_iinc hC 7 dX2_findTelling_72 rfl (by decide) (L2 := [(6, vi (l6 + 1)), (5, vi l5), (7, vi x1), (0, vr l0), (1, vi l1), (2, vi l2), (3, vi l3), (4, vi l4)]) rfl hw (fun hw => ?_)
      refine wm_goto (tgt := 33) hC dX2_findTelling_75 (by decide) ?_
      refine wm_sub [3, 4, 5, 6, 7, 1, 0] (L2 := [(0, vr l0), (1, vi l1), (2, vi l2), (3, vi l3), (4, vi l4), (5, vi l5), (6, vi (l6 + 1))]) rfl ?_
      exact kk33 _ _ hw
    · refine wm_iload hC 0 dX2_findTelling_63 rfl ?_
      refine wm_goto (tgt := 70) hC dX2_findTelling_65 (by decide) ?_
      refine wm_istore hC dX2_findTelling_70 (by decide) (L2 := [(5, vi x1), (7, vi x1), (0, vr l0), (1, vi l1), (2, vi l2), (3, vi l3), (4, vi l4), (6, vi l6)]) rfl ?_
      refine x_iinc hC 7 dX2_findTelling_72 rfl (by decide) (L2 := [(6, vi (l6 + 1)), (5, vi x1), (7, vi x1), (0, vr l0), (1, vi l1), (2, vi l2), (3, vi l3), (4, vi l4)]) rfl hw (fun hw => ?_)
      refine wm_goto (tgt := 33) hC dX2_findTelling_75 (by decide) ?_
      refine wm_sub [3, 4, 5, 6, 7, 1, 0] (L2 := [(0, vr l0), (1, vi l1), (2, vi l2), (3, vi l3), (4, vi l4), (5, vi x1), (6, vi (l6 + 1))]) rfl ?_
      exact kk33 _ _ hw
set_option maxRecDepth 20000 in
theorem W2_findTelling_b33 {C : wX} {ad : Nat → Nat} {n : Nat} {I J : mI} {R : mR} {Q : mI → Prop} (hC : wOK C cX2_findTelling 8 RX2) (hRm : wRm C 2 33 0 0) (hE : wEnd C none ad n (fun _ I' J' R' => (J' = J ∧ R' = R) ∧ Q I')) {l0 : Nat} {l1 : Int} {l2 : Int} {l3 : Int} {l4 : Int}  {k7 : Int → mI → Prop} {k21 : Int → mI → Prop} (hk0 : kK l0 = 2) (kk7 : ∀ (y3 : Int) (I' : mI), k7 y3 I' → WM C ad n I' J R 0 0 7 [(0, vr l0), (1, vi l1), (2, vi l2), (3, vi y3)] []) (kk21 : ∀ (y4 : Int) (I' : mI), k21 y4 I' → WM C ad n I' J R 0 0 21 [(0, vr l0), (1, vi l1), (2, vi l2), (3, vi l3), (4, vi y4)] []) : ∀ (f : Nat) (l5 : Int) (l6 : Int), P2_findTelling_b33 l0 l1 l2 l3 l4 I R k7 k21 Q f l5 l6 → WM C ad n I J R 0 0 33 [(0, vr l0), (1, vi l1), (2, vi l2), (3, vi l3), (4, vi l4), (5, vi l5), (6, vi l6)] [] := by
  intro f
  induction f with
  | zero => intro l5 l6 hw; exact hw.elim
  | succ f ih => intro l5 l6 hw; exact W2_findTelling_b33_body hC hRm hE hk0 kk7 kk21 (fun a0 a1 hw => ih a0 a1 hw) hw
def P2_findTelling_b21_body (l0 : Nat) (l1 : Int) (l2 : Int) (l3 : Int) (R : mR) (k7 : Int → mI → Prop) (Q : mI → Prop) (k21 : Int → mI → Prop) (l4 : Int) (I : mI) : Prop := (if l1 ≤ l4 then (rg (l3 + 1) ∧ (k7 (l3 + 1) I)) else (∃ f, P2_findTelling_b33 l0 l1 l2 l3 l4 I R k7 k21 Q f 0 0))
def P2_findTelling_b21 (l0 : Nat) (l1 : Int) (l2 : Int) (l3 : Int) (R : mR) (k7 : Int → mI → Prop) (Q : mI → Prop) : Nat → Int → mI → Prop
  | 0 => fun _ _ => False
  | f + 1 => fun l4 I => P2_findTelling_b21_body l0 l1 l2 l3 R k7 Q (P2_findTelling_b21 l0 l1 l2 l3 R k7 Q f) l4 I
set_option maxRecDepth 20000 in
theorem W2_findTelling_b21_body {C : wX} {ad : Nat → Nat} {n : Nat} {I J : mI} {R : mR} {Q : mI → Prop} (hC : wOK C cX2_findTelling 8 RX2) (hRm : wRm C 2 33 0 0) (hE : wEnd C none ad n (fun _ I' J' R' => (J' = J ∧ R' = R) ∧ Q I')) {l0 : Nat} {l1 : Int} {l2 : Int} {l3 : Int} {l4 : Int}  {k7 : Int → mI → Prop} (hk0 : kK l0 = 2) (kk7 : ∀ (y3 : Int) (I' : mI), k7 y3 I' → WM C ad n I' J R 0 0 7 [(0, vr l0), (1, vi l1), (2, vi l2), (3, vi y3)] []) {k21 : Int → mI → Prop} (kk21 : ∀ (y4 : Int) (I' : mI), k21 y4 I' → WM C ad n I' J R 0 0 21 [(0, vr l0), (1, vi l1), (2, vi l2), (3, vi l3), (4, vi y4)] []) (hw : P2_findTelling_b21_body l0 l1 l2 l3 R k7 Q k21 l4 I) : WM C ad n I J R 0 0 21 [(0, vr l0), (1, vi l1), (2, vi l2), (3, vi l3), (4, vi l4)] [] := by
  unfold P2_findTelling_b21_body at hw
  refine wm_iload hC 4 dX2_findTelling_21 rfl ?_
  refine wm_iload_n hC 1 dX2_findTelling_23 rfl ?_
  refine wm_icmp_ge (tgt := 118) hC dX2_findTelling_24 (by decide) hw (fun hw => ?_) (fun hw => ?_)
  · refine x_iinc hC 3 dX2_findTelling_118 rfl (by decide) (L2 := [(3, vi (l3 + 1)), (0, vr l0), (1, vi l1), (2, vi l2), (4, vi l4)]) rfl hw (fun hw => ?_)
    refine wm_goto (tgt := 7) hC dX2_findTelling_121 (by decide) ?_
    refine wm_sub [1, 2, 3, 0] (L2 := [(0, vr l0), (1, vi l1), (2, vi l2), (3, vi (l3 + 1))]) rfl ?_
    exact kk7 _ _ hw
  · refine wm_iconst hC dX2_findTelling_27 (k := ?_)
    refine wm_istore hC dX2_findTelling_28 (by decide) (L2 := [(5, vi 0), (0, vr l0), (1, vi l1), (2, vi l2), (3, vi l3), (4, vi l4)]) rfl ?_
    refine wm_iconst hC dX2_findTelling_30 (k := ?_)
    refine wm_istore hC dX2_findTelling_31 (by decide) (L2 := [(6, vi 0), (5, vi 0), (0, vr l0), (1, vi l1), (2, vi l2), (3, vi l3), (4, vi l4)]) rfl ?_
    obtain ⟨f, hw⟩ := hw
    refine wm_sub [2, 3, 4, 5, 6, 1, 0] (L2 := [(0, vr l0), (1, vi l1), (2, vi l2), (3, vi l3), (4, vi l4), (5, vi 0), (6, vi 0)]) rfl ?_
    exact W2_findTelling_b33 hC hRm hE hk0 kk7 kk21 f _ _ hw
set_option maxRecDepth 20000 in
theorem W2_findTelling_b21 {C : wX} {ad : Nat → Nat} {n : Nat} {J : mI} {R : mR} {Q : mI → Prop} (hC : wOK C cX2_findTelling 8 RX2) (hRm : wRm C 2 33 0 0) (hE : wEnd C none ad n (fun _ I' J' R' => (J' = J ∧ R' = R) ∧ Q I')) {l0 : Nat} {l1 : Int} {l2 : Int} {l3 : Int}  {k7 : Int → mI → Prop} (hk0 : kK l0 = 2) (kk7 : ∀ (y3 : Int) (I' : mI), k7 y3 I' → WM C ad n I' J R 0 0 7 [(0, vr l0), (1, vi l1), (2, vi l2), (3, vi y3)] []) : ∀ (f : Nat) (l4 : Int) (I : mI), P2_findTelling_b21 l0 l1 l2 l3 R k7 Q f l4 I → WM C ad n I J R 0 0 21 [(0, vr l0), (1, vi l1), (2, vi l2), (3, vi l3), (4, vi l4)] [] := by
  intro f
  induction f with
  | zero => intro l4 I hw; exact hw.elim
  | succ f ih => intro l4 I hw; exact W2_findTelling_b21_body hC hRm hE hk0 kk7 (fun a0 a1 hw => ih a0 a1 hw) hw
def P2_findTelling_b7_body (l0 : Nat) (l1 : Int) (l2 : Int) (R : mR) (Q : mI → Prop) (k7 : Int → mI → Prop) (l3 : Int) (I : mI) : Prop := (if (30 : Int) < l3 then (Q I) else (if l2 < l3 then (Q I) else (∃ f, P2_findTelling_b21 l0 l1 l2 l3 R k7 Q f 0 I)))
def P2_findTelling_b7 (l0 : Nat) (l1 : Int) (l2 : Int) (R : mR) (Q : mI → Prop) : Nat → Int → mI → Prop
  | 0 => fun _ _ => False
  | f + 1 => fun l3 I => P2_findTelling_b7_body l0 l1 l2 R Q (P2_findTelling_b7 l0 l1 l2 R Q f) l3 I
set_option maxRecDepth 20000 in
theorem W2_findTelling_b7_body {C : wX} {ad : Nat → Nat} {n : Nat} {I J : mI} {R : mR} {Q : mI → Prop} (hC : wOK C cX2_findTelling 8 RX2) (hRm : wRm C 2 33 0 0) (hE : wEnd C none ad n (fun _ I' J' R' => (J' = J ∧ R' = R) ∧ Q I')) {l0 : Nat} {l1 : Int} {l2 : Int} {l3 : Int}   (hk0 : kK l0 = 2)  {k7 : Int → mI → Prop} (kk7 : ∀ (y3 : Int) (I' : mI), k7 y3 I' → WM C ad n I' J R 0 0 7 [(0, vr l0), (1, vi l1), (2, vi l2), (3, vi y3)] []) (hw : P2_findTelling_b7_body l0 l1 l2 R Q k7 l3 I) : WM C ad n I J R 0 0 7 [(0, vr l0), (1, vi l1), (2, vi l2), (3, vi l3)] [] := by
  unfold P2_findTelling_b7_body at hw
  refine wm_iload_n hC 3 dX2_findTelling_7 rfl ?_
  refine wm_bipush hC dX2_findTelling_8 (k := ?_)
  refine wm_icmp_gt (tgt := 124) hC dX2_findTelling_10 (by decide) hw (fun hw => ?_) (fun hw => ?_)
  · exact wm_return hC hE dX2_findTelling_124 ⟨⟨rfl, rfl⟩, hw⟩
  · refine wm_iload_n hC 3 dX2_findTelling_13 rfl ?_
    refine wm_iload_n hC 2 dX2_findTelling_14 rfl ?_
    refine wm_icmp_gt (tgt := 124) hC dX2_findTelling_15 (by decide) hw (fun hw => ?_) (fun hw => ?_)
    · exact wm_return hC hE dX2_findTelling_124 ⟨⟨rfl, rfl⟩, hw⟩
    · refine wm_iconst hC dX2_findTelling_18 (k := ?_)
      refine wm_istore hC dX2_findTelling_19 (by decide) (L2 := [(4, vi 0), (0, vr l0), (1, vi l1), (2, vi l2), (3, vi l3)]) rfl ?_
      obtain ⟨f, hw⟩ := hw
      refine wm_sub [1, 2, 3, 4, 0] (L2 := [(0, vr l0), (1, vi l1), (2, vi l2), (3, vi l3), (4, vi 0)]) rfl ?_
      exact W2_findTelling_b21 hC hRm hE hk0 kk7 f _ _ hw
set_option maxRecDepth 20000 in
theorem W2_findTelling_b7 {C : wX} {ad : Nat → Nat} {n : Nat} {J : mI} {R : mR} {Q : mI → Prop} (hC : wOK C cX2_findTelling 8 RX2) (hRm : wRm C 2 33 0 0) (hE : wEnd C none ad n (fun _ I' J' R' => (J' = J ∧ R' = R) ∧ Q I')) {l0 : Nat} {l1 : Int} {l2 : Int}   (hk0 : kK l0 = 2)  : ∀ (f : Nat) (l3 : Int) (I : mI), P2_findTelling_b7 l0 l1 l2 R Q f l3 I → WM C ad n I J R 0 0 7 [(0, vr l0), (1, vi l1), (2, vi l2), (3, vi l3)] [] := by
  intro f
  induction f with
  | zero => intro l3 I hw; exact hw.elim
  | succ f ih => intro l3 I hw; exact W2_findTelling_b7_body hC hRm hE hk0 (fun a0 a1 hw => ih a0 a1 hw) hw
def P2_findTelling (l0 : Nat) (l1 : Int) (l2 : Int) (I : mI) (R : mR) (Q : mI → Prop) : Prop := (wLet (up I l0 8 (-1)) (fun I1 => (∃ f, P2_findTelling_b7 l0 l1 l2 R Q f 1 I1)))
set_option maxRecDepth 20000 in
theorem C2_findTelling {ad : Nat → Nat} {n : Nat} {I J : mI} {R : mR} {Q : mI → Prop}  {l0 : Nat} {l1 : Int} {l2 : Int} (hk0 : kK l0 = 2) (hw : P2_findTelling l0 l1 l2 I R Q) : wMet yX2_findTelling cX2_findTelling 8 none 2 33 false ad n I J R [vr l0, vi l1, vi l2] (fun _ I' J' R' => (J' = J ∧ R' = R) ∧ Q I') := by
  refine wMet_of (by decide) (Nat.le_of_ble_eq_true rfl) (fun C hC hRm hE hS => ?_)
  refine (show WM C ad n I J R 0 0 0 [(0, vr l0), (1, vi l1), (2, vi l2)] [] from ?_)
  unfold P2_findTelling at hw
  refine wm_aload_n hC 0 dX2_findTelling_0 rfl (k_ne0 hk0 (by decide)) ?_
  refine wm_iconst hC dX2_findTelling_1 (k := ?_)
  refine x_putI hC 8 fl_X2_35 rfl hk0 dX2_findTelling_2 hw (fun I1 hw => ?_)
  refine wm_iconst hC dX2_findTelling_5 (k := ?_)
  refine wm_istore_n hC dX2_findTelling_6 (by decide) (L2 := [(3, vi 1), (0, vr l0), (1, vi l1), (2, vi l2)]) rfl ?_
  obtain ⟨f, hw⟩ := hw
  refine wm_sub [1, 2, 3, 0] (L2 := [(0, vr l0), (1, vi l1), (2, vi l2), (3, vi 1)]) rfl ?_
  exact W2_findTelling_b7 hC hRm hE hk0 f _ _ hw
def P3_empty (l0 : Nat) (I : mI) (R : mR) (Q : mI → Prop) : Prop := (kK (R l0 0) = 21 ∧ (PJ7_fill_53178 (R l0 0) 0 I (fun I1 => (kK (R l0 3) = 21 ∧ (PJ7_fill_53178 (R l0 3) 0 I1 (fun I2 => (kK (R l0 4) = 21 ∧ (PJ7_fill_53178 (R l0 4) (-1) I2 (fun I3 => (kK (R l0 6) = 21 ∧ (PJ7_fill_53178 (R l0 6) 0 I3 (fun I4 => (kK (R l0 7) = 21 ∧ (PJ7_fill_53178 (R l0 7) 0 I4 (fun I5 => (wLet (up I5 l0 8 0) (fun I6 => (wLet (up I6 l0 9 0) (fun I7 => (wLet (up I7 l0 10 0) (fun I8 => (wLet (up I8 l0 11 0) (fun I9 => (Q I9))))))))))))))))))))))))
set_option maxRecDepth 20000 in
theorem C3_empty {ad : Nat → Nat} {n : Nat} {I J : mI} {R : mR} {Q : mI → Prop}  {l0 : Nat} (hk0 : kK l0 = 3) (hw : P3_empty l0 I R Q) : wMet yX3_empty cX3_empty 1 none 2 35 false ad n I J R [vr l0] (fun _ I' J' R' => (J' = J ∧ R' = R) ∧ Q I') := by
  refine wMet_of (by decide) (Nat.le_of_ble_eq_true rfl) (fun C hC hRm hE hS => ?_)
  refine (show WM C ad n I J R 0 0 0 [(0, vr l0)] [] from ?_)
  unfold P3_empty at hw
  refine wm_aload_n hC 0 dX3_empty_0 rfl (k_ne0 hk0 (by decide)) ?_
  refine x_getR2 hC 0 fl_X3_9 rfl hk0 dX3_empty_1 hw (fun g1 hw => ?_)
  refine wm_iconst hC dX3_empty_4 (k := ?_)
  refine y_callS_v_I hC hRm noS ml_X3_52 (CJ7_fill_53178 g1 hw) (Nat.le_of_ble_eq_true rfl) (Nat.le_of_ble_eq_true rfl) ⟨Nat.zero_le _, Nat.zero_le _⟩ rfl (st := []) rfl (Nat.le_of_ble_eq_true rfl) dX3_empty_5 (fun I1 hw => ?_)
  refine wm_aload_n hC 0 dX3_empty_8 rfl (k_ne0 hk0 (by decide)) ?_
  refine x_getR2 hC 3 fl_X3_21 rfl hk0 dX3_empty_9 hw (fun g2 hw => ?_)
  refine wm_iconst hC dX3_empty_12 (k := ?_)
  refine y_callS_v_I hC hRm noS ml_X3_52 (CJ7_fill_53178 g2 hw) (Nat.le_of_ble_eq_true rfl) (Nat.le_of_ble_eq_true rfl) ⟨Nat.zero_le _, Nat.zero_le _⟩ rfl (st := []) rfl (Nat.le_of_ble_eq_true rfl) dX3_empty_13 (fun I2 hw => ?_)
  refine wm_aload_n hC 0 dX3_empty_16 rfl (k_ne0 hk0 (by decide)) ?_
  refine x_getR2 hC 4 fl_X3_24 rfl hk0 dX3_empty_17 hw (fun g3 hw => ?_)
  refine wm_iconst hC dX3_empty_20 (k := ?_)
  refine y_callS_v_I hC hRm noS ml_X3_52 (CJ7_fill_53178 g3 hw) (Nat.le_of_ble_eq_true rfl) (Nat.le_of_ble_eq_true rfl) ⟨Nat.zero_le _, Nat.zero_le _⟩ rfl (st := []) rfl (Nat.le_of_ble_eq_true rfl) dX3_empty_21 (fun I3 hw => ?_)
  refine wm_aload_n hC 0 dX3_empty_24 rfl (k_ne0 hk0 (by decide)) ?_
  refine x_getR2 hC 6 fl_X3_30 rfl hk0 dX3_empty_25 hw (fun g4 hw => ?_)
  refine wm_iconst hC dX3_empty_28 (k := ?_)
  refine y_callS_v_I hC hRm noS ml_X3_52 (CJ7_fill_53178 g4 hw) (Nat.le_of_ble_eq_true rfl) (Nat.le_of_ble_eq_true rfl) ⟨Nat.zero_le _, Nat.zero_le _⟩ rfl (st := []) rfl (Nat.le_of_ble_eq_true rfl) dX3_empty_29 (fun I4 hw => ?_)
  refine wm_aload_n hC 0 dX3_empty_32 rfl (k_ne0 hk0 (by decide)) ?_
  refine x_getR2 hC 7 fl_X3_33 rfl hk0 dX3_empty_33 hw (fun g5 hw => ?_)
  refine wm_iconst hC dX3_empty_36 (k := ?_)
  refine y_callS_v_I hC hRm noS ml_X3_52 (CJ7_fill_53178 g5 hw) (Nat.le_of_ble_eq_true rfl) (Nat.le_of_ble_eq_true rfl) ⟨Nat.zero_le _, Nat.zero_le _⟩ rfl (st := []) rfl (Nat.le_of_ble_eq_true rfl) dX3_empty_37 (fun I5 hw => ?_)
  refine wm_aload_n hC 0 dX3_empty_40 rfl (k_ne0 hk0 (by decide)) ?_
  refine wm_iconst hC dX3_empty_41 (k := ?_)
  refine x_putI hC 8 fl_X3_36 rfl hk0 dX3_empty_42 hw (fun I6 hw => ?_)
  refine wm_aload_n hC 0 dX3_empty_45 rfl (k_ne0 hk0 (by decide)) ?_
  refine wm_iconst hC dX3_empty_46 (k := ?_)
  refine x_putI hC 9 fl_X3_40 rfl hk0 dX3_empty_47 hw (fun I7 hw => ?_)
  refine wm_aload_n hC 0 dX3_empty_50 rfl (k_ne0 hk0 (by decide)) ?_
  refine wm_iconst hC dX3_empty_51 (k := ?_)
  refine x_putI hC 10 fl_X3_43 rfl hk0 dX3_empty_52 hw (fun I8 hw => ?_)
  refine wm_aload_n hC 0 dX3_empty_55 rfl (k_ne0 hk0 (by decide)) ?_
  refine wm_iconst hC dX3_empty_56 (k := ?_)
  refine x_putI hC 11 fl_X3_46 rfl hk0 dX3_empty_57 hw (fun I9 hw => ?_)
  exact wm_return hC hE dX3_empty_60 ⟨⟨rfl, rfl⟩, hw⟩
def P3_find_b17_body (l0 : Nat) (l1 : Int) (l2 : Int) (I : mI) (R : mR) (Q : Int → Prop) (k17 : Int → Prop) (l3 : Int) : Prop := (kK (R l0 0) = 21 ∧ (((0 : Int) ≤ l1 ∧ l1 < (kN (R l0 0) : Int)) ∧ (if (I (R l0 0) l1) ≤ l3 then (Q (-1)) else (kK (R l0 1) = 21 ∧ (rg (l1 * 6) ∧ (rg ((l1 * 6) + l3) ∧ (((0 : Int) ≤ ((l1 * 6) + l3) ∧ ((l1 * 6) + l3) < (kN (R l0 1) : Int)) ∧ (if (I (R l0 1) ((l1 * 6) + l3)) = l2 then (Q l3) else (rg (l3 + 1) ∧ (k17 (l3 + 1)))))))))))
def P3_find_b17 (l0 : Nat) (l1 : Int) (l2 : Int) (I : mI) (R : mR) (Q : Int → Prop) : Nat → Int → Prop
  | 0 => fun _ => False
  | f + 1 => fun l3 => P3_find_b17_body l0 l1 l2 I R Q (P3_find_b17 l0 l1 l2 I R Q f) l3
set_option maxRecDepth 20000 in
theorem W3_find_b17_body {C : wX} {ad : Nat → Nat} {n : Nat} {I J : mI} {R : mR} {Q : Int → Prop} (hC : wOK C cX3_find 4 RX3) (hRm : wRm C 1 12 0 0) (hE : wEnd C (some .int) ad n (fun r I' J' R' => (I' = I ∧ J' = J ∧ R' = R) ∧ Q r)) {l0 : Nat} {l1 : Int} {l2 : Int} {l3 : Int}   (hk0 : kK l0 = 3)  {k17 : Int → Prop} (kk17 : ∀ (y3 : Int), k17 y3 → WM C ad n I J R 0 0 17 [(0, vr l0), (1, vi l1), (2, vi l2), (3, vi y3)] []) (hw : P3_find_b17_body l0 l1 l2 I R Q k17 l3) : WM C ad n I J R 0 0 17 [(0, vr l0), (1, vi l1), (2, vi l2), (3, vi l3)] [] := by
  unfold P3_find_b17_body at hw
  refine wm_iload_n hC 3 dX3_find_17 rfl ?_
  refine wm_aload_n hC 0 dX3_find_18 rfl (k_ne0 hk0 (by decide)) ?_
  refine x_getR2 hC 0 fl_X3_9 rfl hk0 dX3_find_19 hw (fun g2 hw => ?_)
  refine wm_iload_n hC 1 dX3_find_22 rfl ?_
  refine x_iald hC g2 dX3_find_23 hw (fun hw => ?_)
  refine wm_icmp_ge (tgt := 50) hC dX3_find_24 (by decide) hw (fun hw => ?_) (fun hw => ?_)
  · refine wm_iconst hC dX3_find_50 (k := ?_)
    exact wm_ireturn hC hE dX3_find_51 ⟨⟨rfl, rfl, rfl⟩, hw⟩
  · refine wm_aload_n hC 0 dX3_find_27 rfl (k_ne0 hk0 (by decide)) ?_
    refine x_getR2 hC 1 fl_X3_15 rfl hk0 dX3_find_28 hw (fun g3 hw => ?_)
    refine wm_iload_n hC 1 dX3_find_31 rfl ?_
    refine wm_bipush hC dX3_find_32 (k := ?_)
    refine x_imul hC dX3_find_34 hw (fun hw => ?_)
    refine wm_iload_n hC 3 dX3_find_35 rfl ?_
    refine x_iadd hC dX3_find_36 hw (fun hw => ?_)
    refine x_iald hC g3 dX3_find_37 hw (fun hw => ?_)
    refine wm_iload_n hC 2 dX3_find_38 rfl ?_
    refine wm_icmp_ne (tgt := 44) hC dX3_find_39 (by decide) hw (fun hw => ?_) (fun hw => ?_)
    · refine wm_iload_n hC 3 dX3_find_42 rfl ?_
      exact wm_ireturn hC hE dX3_find_43 ⟨⟨rfl, rfl, rfl⟩, hw⟩
    · refine x_iinc hC 3 dX3_find_44 rfl (by decide) (L2 := [(3, vi (l3 + 1)), (0, vr l0), (1, vi l1), (2, vi l2)]) rfl hw (fun hw => ?_)
      refine wm_goto (tgt := 17) hC dX3_find_47 (by decide) ?_
      refine wm_sub [1, 2, 3, 0] (L2 := [(0, vr l0), (1, vi l1), (2, vi l2), (3, vi (l3 + 1))]) rfl ?_
      exact kk17 _ hw
set_option maxRecDepth 20000 in
theorem W3_find_b17 {C : wX} {ad : Nat → Nat} {n : Nat} {I J : mI} {R : mR} {Q : Int → Prop} (hC : wOK C cX3_find 4 RX3) (hRm : wRm C 1 12 0 0) (hE : wEnd C (some .int) ad n (fun r I' J' R' => (I' = I ∧ J' = J ∧ R' = R) ∧ Q r)) {l0 : Nat} {l1 : Int} {l2 : Int}   (hk0 : kK l0 = 3)  : ∀ (f : Nat) (l3 : Int), P3_find_b17 l0 l1 l2 I R Q f l3 → WM C ad n I J R 0 0 17 [(0, vr l0), (1, vi l1), (2, vi l2), (3, vi l3)] [] := by
  intro f
  induction f with
  | zero => intro l3 hw; exact hw.elim
  | succ f ih => intro l3 hw; exact W3_find_b17_body hC hRm hE hk0 (fun a0 hw => ih a0 hw) hw
def P3_find (l0 : Nat) (l1 : Int) (l2 : Int) (I : mI) (R : mR) (Q : Int → Prop) : Prop := (if l1 < 0 then (Q (-1)) else (kK (R l0 0) = 21 ∧ (if l1 < (kN (R l0 0) : Int) then (∃ f, P3_find_b17 l0 l1 l2 I R Q f 0) else (Q (-1)))))
set_option maxRecDepth 20000 in
theorem C3_find {ad : Nat → Nat} {n : Nat} {I J : mI} {R : mR} {Q : Int → Prop}  {l0 : Nat} {l1 : Int} {l2 : Int} (hk0 : kK l0 = 3) (hw : P3_find l0 l1 l2 I R Q) : wMet yX3_find cX3_find 4 (some .int) 1 12 false ad n I J R [vr l0, vi l1, vi l2] (fun r I' J' R' => (I' = I ∧ J' = J ∧ R' = R) ∧ Q r) := by
  refine wMet_of (by decide) (Nat.le_of_ble_eq_true rfl) (fun C hC hRm hE hS => ?_)
  refine (show WM C ad n I J R 0 0 0 [(0, vr l0), (1, vi l1), (2, vi l2)] [] from ?_)
  unfold P3_find at hw
  refine wm_iload_n hC 1 dX3_find_0 rfl ?_
  refine wm_if_lt (tgt := 13) hC dX3_find_1 (by decide) hw (fun hw => ?_) (fun hw => ?_)
  · refine wm_iconst hC dX3_find_13 (k := ?_)
    exact wm_ireturn hC hE dX3_find_14 ⟨⟨rfl, rfl, rfl⟩, hw⟩
  · refine wm_iload_n hC 1 dX3_find_4 rfl ?_
    refine wm_aload_n hC 0 dX3_find_5 rfl (k_ne0 hk0 (by decide)) ?_
    refine x_getR2 hC 0 fl_X3_9 rfl hk0 dX3_find_6 hw (fun g1 hw => ?_)
    refine x_alen hC g1 (by decide) dX3_find_9 ?_
    refine wm_icmp_lt (tgt := 15) hC dX3_find_10 (by decide) hw (fun hw => ?_) (fun hw => ?_)
    · refine wm_iconst hC dX3_find_15 (k := ?_)
      refine wm_istore_n hC dX3_find_16 (by decide) (L2 := [(3, vi 0), (0, vr l0), (1, vi l1), (2, vi l2)]) rfl ?_
      obtain ⟨f, hw⟩ := hw
      refine wm_sub [1, 2, 3, 0] (L2 := [(0, vr l0), (1, vi l1), (2, vi l2), (3, vi 0)]) rfl ?_
      exact W3_find_b17 hC hRm hE hk0 f _ hw
    · refine wm_iconst hC dX3_find_13 (k := ?_)
      exact wm_ireturn hC hE dX3_find_14 ⟨⟨rfl, rfl, rfl⟩, hw⟩
