def p1_exchange (l0 : Nat) (l1 : Int) (l2 : Int) (I : mI) (Q : mI → Prop) : Prop := (((0 : Int) ≤ l1 ∧ l1 < (6 : Int)) ∧ (((0 : Int) ≤ l2 ∧ l2 < (6 : Int)) ∧ (((0 : Int) ≤ l1 ∧ l1 < (6 : Int)) ∧ wLet (up I l0 l1 (I l0 l2)) (fun I1 => (((0 : Int) ≤ l2 ∧ l2 < (6 : Int)) ∧ wLet (up I1 l0 l2 (I l0 l1)) (fun I2 => (Q I2)))))))
set_option maxRecDepth 20000 in
theorem c1_exchange {ad : Nat → Nat} {n : Nat} {I J : mI} {R : mR} {Q : mI → Prop}  (hRF : RF R) {l0 : Nat} {l1 : Int} {l2 : Int} (h0 : isA 6 l0)   (hw : p1_exchange l0 l1 l2 I Q) : wMet yX1_exchange cX1_exchange 4 none 1 12 false ad n I J R [vr l0, vi l1, vi l2] (fun _ I' J' R' => (J' = J ∧ R' = R) ∧ Q I') := by
  refine wMet_of (by decide) (Nat.le_of_ble_eq_true rfl) (fun C hC hRm hE hS => ?_)
  refine (show WM C ad n I J R 0 0 0 [(0, vr l0), (1, vi l1), (2, vi l2)] [] from ?_)
  unfold p1_exchange at hw
  refine wm_aload_n hC 0 dX1_exchange_0 rfl (k_ne0 h0.1 (by decide)) ?_
  refine wm_iload_n hC 1 dX1_exchange_1 rfl ?_
  refine x_iald2 hC h0.1 h0.2 dX1_exchange_2 hw (fun hw => ?_)
  refine wm_istore_n hC dX1_exchange_3 (by decide) (L2 := [(3, vi (I l0 l1)), (0, vr l0), (1, vi l1), (2, vi l2)]) rfl ?_
  refine wm_aload_n hC 1 dX1_exchange_4 rfl (k_ne0 h0.1 (by decide)) ?_
  refine wm_iload_n hC 2 dX1_exchange_5 rfl ?_
  refine wm_aload_n hC 1 dX1_exchange_6 rfl (k_ne0 h0.1 (by decide)) ?_
  refine wm_iload_n hC 3 dX1_exchange_7 rfl ?_
  refine x_iald2 hC h0.1 h0.2 dX1_exchange_8 hw (fun hw => ?_)
  refine x_iast2 hC h0.1 h0.2 dX1_exchange_9 hw (fun I1 hw => ?_)
  refine wm_aload_n hC 1 dX1_exchange_10 rfl (k_ne0 h0.1 (by decide)) ?_
  refine wm_iload_n hC 3 dX1_exchange_11 rfl ?_
  refine wm_iload_n hC 0 dX1_exchange_12 rfl ?_
  refine x_iast2 hC h0.1 h0.2 dX1_exchange_13 hw (fun I2 hw => ?_)
  exact wm_return hC hE dX1_exchange_14 ⟨⟨rfl, rfl⟩, hw⟩
def p1_nextOrder_b84_body (l1 : Nat) (R : mR) (Q : mI → Prop) (k84 : Int → Int → mI → Prop) (l5 : Int) (l6 : Int) (I : mI) : Prop := (if l6 ≤ l5 then (Q I) else (p1_exchange l1 l5 l6 I (fun I2 => (rg (l5 + 1) ∧ (rg (l6 + (-1)) ∧ (k84 (l5 + 1) (l6 + (-1)) I2))))))
def p1_nextOrder_b84 (l1 : Nat) (R : mR) (Q : mI → Prop) : Nat → Int → Int → mI → Prop
  | 0 => fun _ _ _ => False
  | f + 1 => fun l5 l6 I => p1_nextOrder_b84_body l1 R Q (p1_nextOrder_b84 l1 R Q f) l5 l6 I
set_option maxRecDepth 20000 in
theorem w1_nextOrder_b84_body {C : wX} {ad : Nat → Nat} {n : Nat} {I J : mI} {R : mR} {Q : mI → Prop} (hC : wOK C cX1_nextOrder 7 RX1) (hRm : wRm C 2 35 0 0) (hE : wEnd C none ad n (fun _ I' J' R' => (J' = J ∧ R' = R) ∧ Q I')) (hRF : RF R) {l1 : Nat} {l5 : Int} {l6 : Int}   (h1 : isA 6 l1)  {k84 : Int → Int → mI → Prop} (kk84 : ∀ (y5 : Int) (y6 : Int) (I' : mI), k84 y5 y6 I' → WM C ad n I' J R 0 0 84 [(1, vr l1), (5, vi y5), (6, vi y6)] []) (hw : p1_nextOrder_b84_body l1 R Q k84 l5 l6 I) : WM C ad n I J R 0 0 84 [(1, vr l1), (5, vi l5), (6, vi l6)] [] := by
  unfold p1_nextOrder_b84_body at hw
  refine wm_iload hC 1 dX1_nextOrder_84 rfl ?_
  refine wm_iload hC 2 dX1_nextOrder_86 rfl ?_
  refine wm_icmp_ge (tgt := 108) hC dX1_nextOrder_88 (by decide) hw (fun hw => ?_) (fun hw => ?_)
  · exact wm_return hC hE dX1_nextOrder_108 ⟨⟨rfl, rfl⟩, hw⟩
  · refine wm_aload_n hC 0 dX1_nextOrder_91 rfl (k_ne0 h1.1 (by decide)) ?_
    refine wm_iload hC 1 dX1_nextOrder_92 rfl ?_
    refine wm_iload hC 2 dX1_nextOrder_94 rfl ?_
    refine y_callS_v_I hC hRm noS ml_X1_125 (c1_exchange hRF h1 hw) (Nat.le_of_ble_eq_true rfl) (Nat.le_of_ble_eq_true rfl) ⟨Nat.zero_le _, Nat.zero_le _⟩ rfl (st := []) rfl (Nat.le_of_ble_eq_true rfl) dX1_nextOrder_96 (fun I2 hw => ?_)
    refine x_iinc hC 1 dX1_nextOrder_99 rfl (by decide) (L2 := [(5, vi (l5 + 1)), (1, vr l1), (6, vi l6)]) rfl hw (fun hw => ?_)
    refine x_iinc hC 2 dX1_nextOrder_102 rfl (by decide) (L2 := [(6, vi (l6 + (-1))), (5, vi (l5 + 1)), (1, vr l1)]) rfl hw (fun hw => ?_)
    refine wm_goto (tgt := 84) hC dX1_nextOrder_105 (by decide) ?_
    refine wm_sub [2, 1, 0] (L2 := [(1, vr l1), (5, vi (l5 + 1)), (6, vi (l6 + (-1)))]) rfl ?_
    exact kk84 _ _ _ hw
set_option maxRecDepth 20000 in
theorem w1_nextOrder_b84 {C : wX} {ad : Nat → Nat} {n : Nat} {J : mI} {R : mR} {Q : mI → Prop} (hC : wOK C cX1_nextOrder 7 RX1) (hRm : wRm C 2 35 0 0) (hE : wEnd C none ad n (fun _ I' J' R' => (J' = J ∧ R' = R) ∧ Q I')) (hRF : RF R) {l1 : Nat}   (h1 : isA 6 l1)  : ∀ (f : Nat) (l5 : Int) (l6 : Int) (I : mI), p1_nextOrder_b84 l1 R Q f l5 l6 I → WM C ad n I J R 0 0 84 [(1, vr l1), (5, vi l5), (6, vi l6)] [] := by
  intro f
  induction f with
  | zero => intro l5 l6 I hw; exact hw.elim
  | succ f ih => intro l5 l6 I hw; exact w1_nextOrder_b84_body hC hRm hE hRF h1 (fun a0 a1 a2 aw => ih a0 a1 a2 aw) hw
def p1_nextOrder_b67 (l1 : Nat) (l2 : Int) (l3 : Int) (l4 : Int) (I : mI) (R : mR) (Q : mI → Prop) : Prop := (p1_exchange l1 l3 l4 I (fun I1 => (rg (l3 + 1) ∧ (rg (l2 - 1) ∧ (∃ f, p1_nextOrder_b84 l1 R Q f (l3 + 1) (l2 - 1) I1)))))
set_option maxRecDepth 20000 in
theorem w1_nextOrder_b67 {C : wX} {ad : Nat → Nat} {n : Nat} {I J : mI} {R : mR} {Q : mI → Prop} (hC : wOK C cX1_nextOrder 7 RX1) (hRm : wRm C 2 35 0 0) (hE : wEnd C none ad n (fun _ I' J' R' => (J' = J ∧ R' = R) ∧ Q I')) (hRF : RF R) {l1 : Nat} {l2 : Int} {l3 : Int} {l4 : Int}   (h1 : isA 6 l1)  (hw : p1_nextOrder_b67 l1 l2 l3 l4 I R Q) : WM C ad n I J R 0 0 67 [(1, vr l1), (2, vi l2), (3, vi l3), (4, vi l4)] [] := by
  unfold p1_nextOrder_b67 at hw
  refine wm_aload_n hC 0 dX1_nextOrder_67 rfl (k_ne0 h1.1 (by decide)) ?_
  refine wm_iload_n hC 2 dX1_nextOrder_68 rfl ?_
  refine wm_iload hC 3 dX1_nextOrder_69 rfl ?_
  refine y_callS_v_I hC hRm noS ml_X1_125 (c1_exchange hRF h1 hw) (Nat.le_of_ble_eq_true rfl) (Nat.le_of_ble_eq_true rfl) ⟨Nat.zero_le _, Nat.zero_le _⟩ rfl (st := []) rfl (Nat.le_of_ble_eq_true rfl) dX1_nextOrder_71 (fun I1 hw => ?_)
  refine wm_iload_n hC 2 dX1_nextOrder_74 rfl ?_
  refine wm_iconst hC dX1_nextOrder_75 (k := ?_)
  refine x_iadd hC dX1_nextOrder_76 hw (fun hw => ?_)
  refine wm_istore hC dX1_nextOrder_77 (by decide) (L2 := [(5, vi (l3 + 1)), (1, vr l1), (2, vi l2), (3, vi l3), (4, vi l4)]) rfl ?_
  refine wm_iload_n hC 2 dX1_nextOrder_79 rfl ?_
  refine wm_iconst hC dX1_nextOrder_80 (k := ?_)
  refine x_isub hC dX1_nextOrder_81 hw (fun hw => ?_)
  refine wm_istore hC dX1_nextOrder_82 (by decide) (L2 := [(6, vi (l2 - 1)), (5, vi (l3 + 1)), (1, vr l1), (2, vi l2), (3, vi l3), (4, vi l4)]) rfl ?_
  obtain ⟨f, hw⟩ := hw
  refine wm_sub [2, 1, 0] (L2 := [(1, vr l1), (5, vi (l3 + 1)), (6, vi (l2 - 1))]) rfl ?_
  exact w1_nextOrder_b84 hC hRm hE hRF h1 f _ _ _ hw
def p1_nextOrder_b45_body (l1 : Nat) (l2 : Int) (l3 : Int) (I : mI) (R : mR) (Q : mI → Prop) (k45 : Int → Prop) (l4 : Int) : Prop := (if l4 ≤ l3 then (p1_nextOrder_b67 l1 l2 l3 l4 I R Q) else (((0 : Int) ≤ l4 ∧ l4 < (6 : Int)) ∧ (((0 : Int) ≤ l3 ∧ l3 < (6 : Int)) ∧ (if (I l1 l3) ≤ (I l1 l4) then (p1_nextOrder_b67 l1 l2 l3 l4 I R Q) else (rg (l4 + (-1)) ∧ (k45 (l4 + (-1))))))))
def p1_nextOrder_b45 (l1 : Nat) (l2 : Int) (l3 : Int) (I : mI) (R : mR) (Q : mI → Prop) : Nat → Int → Prop
  | 0 => fun _ => False
  | f + 1 => fun l4 => p1_nextOrder_b45_body l1 l2 l3 I R Q (p1_nextOrder_b45 l1 l2 l3 I R Q f) l4
set_option maxRecDepth 20000 in
theorem w1_nextOrder_b45_body {C : wX} {ad : Nat → Nat} {n : Nat} {I J : mI} {R : mR} {Q : mI → Prop} (hC : wOK C cX1_nextOrder 7 RX1) (hRm : wRm C 2 35 0 0) (hE : wEnd C none ad n (fun _ I' J' R' => (J' = J ∧ R' = R) ∧ Q I')) (hRF : RF R) {l1 : Nat} {l2 : Int} {l3 : Int} {l4 : Int}   (h1 : isA 6 l1)  {k45 : Int → Prop} (kk45 : ∀ (y4 : Int), k45 y4 → WM C ad n I J R 0 0 45 [(1, vr l1), (2, vi l2), (3, vi l3), (4, vi y4)] []) (hw : p1_nextOrder_b45_body l1 l2 l3 I R Q k45 l4) : WM C ad n I J R 0 0 45 [(1, vr l1), (2, vi l2), (3, vi l3), (4, vi l4)] [] := by
  unfold p1_nextOrder_b45_body at hw
  refine wm_iload hC 3 dX1_nextOrder_45 rfl ?_
  refine wm_iload_n hC 2 dX1_nextOrder_47 rfl ?_
  refine wm_icmp_le (tgt := 67) hC dX1_nextOrder_48 (by decide) hw (fun hw => ?_) (fun hw => ?_)
  · exact w1_nextOrder_b67 hC hRm hE hRF h1 hw
  · refine wm_aload_n hC 0 dX1_nextOrder_51 rfl (k_ne0 h1.1 (by decide)) ?_
    refine wm_iload hC 3 dX1_nextOrder_52 rfl ?_
    refine x_iald2 hC h1.1 h1.2 dX1_nextOrder_54 hw (fun hw => ?_)
    refine wm_aload_n hC 0 dX1_nextOrder_55 rfl (k_ne0 h1.1 (by decide)) ?_
    refine wm_iload_n hC 2 dX1_nextOrder_56 rfl ?_
    refine x_iald2 hC h1.1 h1.2 dX1_nextOrder_57 hw (fun hw => ?_)
    refine wm_icmp_ge (tgt := 67) hC dX1_nextOrder_58 (by decide) hw (fun hw => ?_) (fun hw => ?_)
    · exact w1_nextOrder_b67 hC hRm hE hRF h1 hw
    · refine x_iinc hC 3 dX1_nextOrder_61 rfl (by decide) (L2 := [(4, vi (l4 + (-1))), (1, vr l1), (2, vi l2), (3, vi l3)]) rfl hw (fun hw => ?_)
      refine wm_goto (tgt := 45) hC dX1_nextOrder_64 (by decide) ?_
      refine wm_sub [1, 2, 3, 0] (L2 := [(1, vr l1), (2, vi l2), (3, vi l3), (4, vi (l4 + (-1)))]) rfl ?_
      exact kk45 _ hw
set_option maxRecDepth 20000 in
theorem w1_nextOrder_b45 {C : wX} {ad : Nat → Nat} {n : Nat} {I : mI} {J : mI} {R : mR} {Q : mI → Prop} (hC : wOK C cX1_nextOrder 7 RX1) (hRm : wRm C 2 35 0 0) (hE : wEnd C none ad n (fun _ I' J' R' => (J' = J ∧ R' = R) ∧ Q I')) (hRF : RF R) {l1 : Nat} {l2 : Int} {l3 : Int}   (h1 : isA 6 l1)  : ∀ (f : Nat) (l4 : Int), p1_nextOrder_b45 l1 l2 l3 I R Q f l4 → WM C ad n I J R 0 0 45 [(1, vr l1), (2, vi l2), (3, vi l3), (4, vi l4)] [] := by
  intro f
  induction f with
  | zero => intro l4 hw; exact hw.elim
  | succ f ih => intro l4 hw; exact w1_nextOrder_b45_body hC hRm hE hRF h1 (fun a0 aw => ih a0 aw) hw
def p1_nextOrder_b35 (l1 : Nat) (l2 : Int) (l3 : Int) (I : mI) (R : mR) (Q : mI → Prop) : Prop := (if (0 : Int) ≤ l3 then (rg (l2 - 1) ∧ (∃ f, p1_nextOrder_b45 l1 l2 l3 I R Q f (l2 - 1))) else (Q I))
set_option maxRecDepth 20000 in
theorem w1_nextOrder_b35 {C : wX} {ad : Nat → Nat} {n : Nat} {I J : mI} {R : mR} {Q : mI → Prop} (hC : wOK C cX1_nextOrder 7 RX1) (hRm : wRm C 2 35 0 0) (hE : wEnd C none ad n (fun _ I' J' R' => (J' = J ∧ R' = R) ∧ Q I')) (hRF : RF R) {l1 : Nat} {l2 : Int} {l3 : Int}   (h1 : isA 6 l1)  (hw : p1_nextOrder_b35 l1 l2 l3 I R Q) : WM C ad n I J R 0 0 35 [(1, vr l1), (2, vi l2), (3, vi l3)] [] := by
  unfold p1_nextOrder_b35 at hw
  refine wm_iload_n hC 2 dX1_nextOrder_35 rfl ?_
  refine wm_if_ge (tgt := 40) hC dX1_nextOrder_36 (by decide) hw (fun hw => ?_) (fun hw => ?_)
  · refine wm_iload_n hC 1 dX1_nextOrder_40 rfl ?_
    refine wm_iconst hC dX1_nextOrder_41 (k := ?_)
    refine x_isub hC dX1_nextOrder_42 hw (fun hw => ?_)
    refine wm_istore hC dX1_nextOrder_43 (by decide) (L2 := [(4, vi (l2 - 1)), (1, vr l1), (2, vi l2), (3, vi l3)]) rfl ?_
    obtain ⟨f, hw⟩ := hw
    refine wm_sub [1, 2, 3, 0] (L2 := [(1, vr l1), (2, vi l2), (3, vi l3), (4, vi (l2 - 1))]) rfl ?_
    exact w1_nextOrder_b45 hC hRm hE hRF h1 f _ hw
  · exact wm_return hC hE dX1_nextOrder_39 ⟨⟨rfl, rfl⟩, hw⟩
def p1_nextOrder_b14_body (l1 : Nat) (l2 : Int) (I : mI) (R : mR) (Q : mI → Prop) (k14 : Int → Prop) (l3 : Int) : Prop := (if l3 < 0 then (p1_nextOrder_b35 l1 l2 l3 I R Q) else (((0 : Int) ≤ l3 ∧ l3 < (6 : Int)) ∧ (rg (l3 + 1) ∧ (((0 : Int) ≤ (l3 + 1) ∧ (l3 + 1) < (6 : Int)) ∧ (if (I l1 l3) ≤ (I l1 (l3 + 1)) then (p1_nextOrder_b35 l1 l2 l3 I R Q) else (rg (l3 + (-1)) ∧ (k14 (l3 + (-1)))))))))
def p1_nextOrder_b14 (l1 : Nat) (l2 : Int) (I : mI) (R : mR) (Q : mI → Prop) : Nat → Int → Prop
  | 0 => fun _ => False
  | f + 1 => fun l3 => p1_nextOrder_b14_body l1 l2 I R Q (p1_nextOrder_b14 l1 l2 I R Q f) l3
set_option maxRecDepth 20000 in
theorem w1_nextOrder_b14_body {C : wX} {ad : Nat → Nat} {n : Nat} {I J : mI} {R : mR} {Q : mI → Prop} (hC : wOK C cX1_nextOrder 7 RX1) (hRm : wRm C 2 35 0 0) (hE : wEnd C none ad n (fun _ I' J' R' => (J' = J ∧ R' = R) ∧ Q I')) (hRF : RF R) {l1 : Nat} {l2 : Int} {l3 : Int}   (h1 : isA 6 l1)  {k14 : Int → Prop} (kk14 : ∀ (y3 : Int), k14 y3 → WM C ad n I J R 0 0 14 [(1, vr l1), (2, vi l2), (3, vi y3)] []) (hw : p1_nextOrder_b14_body l1 l2 I R Q k14 l3) : WM C ad n I J R 0 0 14 [(1, vr l1), (2, vi l2), (3, vi l3)] [] := by
  unfold p1_nextOrder_b14_body at hw
  refine wm_iload_n hC 2 dX1_nextOrder_14 rfl ?_
  refine wm_if_lt (tgt := 35) hC dX1_nextOrder_15 (by decide) hw (fun hw => ?_) (fun hw => ?_)
  · exact w1_nextOrder_b35 hC hRm hE hRF h1 hw
  · refine wm_aload_n hC 0 dX1_nextOrder_18 rfl (k_ne0 h1.1 (by decide)) ?_
    refine wm_iload_n hC 2 dX1_nextOrder_19 rfl ?_
    refine x_iald2 hC h1.1 h1.2 dX1_nextOrder_20 hw (fun hw => ?_)
    refine wm_aload_n hC 0 dX1_nextOrder_21 rfl (k_ne0 h1.1 (by decide)) ?_
    refine wm_iload_n hC 2 dX1_nextOrder_22 rfl ?_
    refine wm_iconst hC dX1_nextOrder_23 (k := ?_)
    refine x_iadd hC dX1_nextOrder_24 hw (fun hw => ?_)
    refine x_iald2 hC h1.1 h1.2 dX1_nextOrder_25 hw (fun hw => ?_)
    refine wm_icmp_le (tgt := 35) hC dX1_nextOrder_26 (by decide) hw (fun hw => ?_) (fun hw => ?_)
    · exact w1_nextOrder_b35 hC hRm hE hRF h1 hw
    · refine x_iinc hC 2 dX1_nextOrder_29 rfl (by decide) (L2 := [(3, vi (l3 + (-1))), (1, vr l1), (2, vi l2)]) rfl hw (fun hw => ?_)
      refine wm_goto (tgt := 14) hC dX1_nextOrder_32 (by decide) ?_
      refine wm_sub [1, 2, 0] (L2 := [(1, vr l1), (2, vi l2), (3, vi (l3 + (-1)))]) rfl ?_
      exact kk14 _ hw
set_option maxRecDepth 20000 in
theorem w1_nextOrder_b14 {C : wX} {ad : Nat → Nat} {n : Nat} {I : mI} {J : mI} {R : mR} {Q : mI → Prop} (hC : wOK C cX1_nextOrder 7 RX1) (hRm : wRm C 2 35 0 0) (hE : wEnd C none ad n (fun _ I' J' R' => (J' = J ∧ R' = R) ∧ Q I')) (hRF : RF R) {l1 : Nat} {l2 : Int}   (h1 : isA 6 l1)  : ∀ (f : Nat) (l3 : Int), p1_nextOrder_b14 l1 l2 I R Q f l3 → WM C ad n I J R 0 0 14 [(1, vr l1), (2, vi l2), (3, vi l3)] [] := by
  intro f
  induction f with
  | zero => intro l3 hw; exact hw.elim
  | succ f ih => intro l3 hw; exact w1_nextOrder_b14_body hC hRm hE hRF h1 (fun a0 aw => ih a0 aw) hw
def p1_nextOrder (l1 : Nat) (I : mI) (R : mR) (Q : mI → Prop) : Prop := (isLd (R 146 4) ∧ (wLet (I ((R 146 4) + 1) 0) (fun x1 => (rg (x1 - 2) ∧ (∃ f, p1_nextOrder_b14 l1 x1 I R Q f (x1 - 2))))))
set_option maxRecDepth 20000 in
theorem c1_nextOrder {ad : Nat → Nat} {n : Nat} {I J : mI} {R : mR} {Q : mI → Prop}  (hRF : RF R) {l1 : Nat}  (h1 : isA 6 l1) (hw : p1_nextOrder l1 I R Q) : wMet yX1_nextOrder cX1_nextOrder 7 none 2 35 false ad n I J R [vr 146, vr l1] (fun _ I' J' R' => (J' = J ∧ R' = R) ∧ Q I') := by
  refine wMet_of (by decide) (Nat.le_of_ble_eq_true rfl) (fun C hC hRm hE hS => ?_)
  refine (show WM C ad n I J R 0 0 0 [(0, vr 146), (1, vr l1)] [] from ?_)
  unfold p1_nextOrder at hw
  refine wm_aload_n hC 0 dX1_nextOrder_0 rfl (k_ne0 kk_146 (by decide)) ?_
  refine x_getRD hC 4 fl_X1_38 rfl kk_146 dX1_nextOrder_1 hw (fun g1 hw => ?_)
  refine x_getR3 hC 0 fl_X1_53 rfl (ld_k0 g1) (rfd_0 hRF g1) dX1_nextOrder_4 ?_
  refine wm_iconst hC dX1_nextOrder_7 (k := ?_)
  refine x_ialdK hC (ld_k1 g1) (ld_n1 g1) (by decide) (by decide) dX1_nextOrder_8 ?_
  refine x_nameI hw (fun x1 hw => ?_)
  refine wm_istore_n hC dX1_nextOrder_9 (by decide) (L2 := [(2, vi x1), (0, vr 146), (1, vr l1)]) rfl ?_
  refine wm_iload_n hC 0 dX1_nextOrder_10 rfl ?_
  refine wm_iconst hC dX1_nextOrder_11 (k := ?_)
  refine x_isub hC dX1_nextOrder_12 hw (fun hw => ?_)
  refine wm_istore_n hC dX1_nextOrder_13 (by decide) (L2 := [(3, vi (x1 - 2)), (2, vi x1), (0, vr 146), (1, vr l1)]) rfl ?_
  obtain ⟨f, hw⟩ := hw
  refine wm_sub [3, 1, 0] (L2 := [(1, vr l1), (2, vi x1), (3, vi (x1 - 2))]) rfl ?_
  exact w1_nextOrder_b14 hC hRm hE hRF h1 f _ hw
def p1_countOrders_b41 (l1 : Nat) (l2 : Int) (l3 : Int) (l5 : Int) (s0 : Int) (s1 : Int) (I : mI) (J : mI) (R : mR) (k12 : Int → Int → mI → mI → Prop) (Q : Int → mI → mI → Prop) : Prop := (rg (s0 + s1) ∧ (p1_nextOrder l1 I R (fun I3 => (rg (l5 + 1) ∧ (k12 (s0 + s1) (l5 + 1) I3 J)))))
set_option maxRecDepth 20000 in
theorem w1_countOrders_b41 {C : wX} {ad : Nat → Nat} {n : Nat} {I J : mI} {R : mR} {Q : Int → mI → mI → Prop} (hC : wOK C cX1_countOrders 6 RX1) (hRm : wRm C 6 139 0 0) (hE : wEnd C (some .int) ad n (fun r I' J' R' => (R' = R) ∧ Q r I' J')) (hRF : RF R) {l1 : Nat} {l2 : Int} {l3 : Int} {l5 : Int} {s0 : Int} {s1 : Int}  {k12 : Int → Int → mI → mI → Prop} (h1 : isA 6 l1) (kk12 : ∀ (y4 : Int) (y5 : Int) (I' : mI) (J' : mI), k12 y4 y5 I' J' → WM C ad n I' J' R 0 0 12 [(0, vr 146), (1, vr l1), (2, vi l2), (3, vi l3), (4, vi y4), (5, vi y5)] []) (hw : p1_countOrders_b41 l1 l2 l3 l5 s0 s1 I J R k12 Q) : WM C ad n I J R 0 0 41 [(0, vr 146), (1, vr l1), (2, vi l2), (3, vi l3), (5, vi l5)] [vi s1, vi s0] := by
  unfold p1_countOrders_b41 at hw
  refine x_iadd hC dX1_countOrders_41 hw (fun hw => ?_)
  refine wm_istore hC dX1_countOrders_42 (by decide) (L2 := [(4, vi (s0 + s1)), (0, vr 146), (1, vr l1), (2, vi l2), (3, vi l3), (5, vi l5)]) rfl ?_
  refine wm_aload_n hC 1 dX1_countOrders_44 rfl (k_ne0 kk_146 (by decide)) ?_
  refine wm_aload_n hC 2 dX1_countOrders_45 rfl (k_ne0 h1.1 (by decide)) ?_
  refine y_callV_v_I hC hRm noS ml_X1_121 kk_146 (c1_nextOrder hRF h1 hw) (Nat.le_of_ble_eq_true rfl) (Nat.le_of_ble_eq_true rfl) ⟨Nat.zero_le _, Nat.zero_le _⟩ rfl (st := []) rfl (Nat.le_of_ble_eq_true rfl) dX1_countOrders_46 (fun I3 hw => ?_)
  refine x_iinc hC 5 dX1_countOrders_49 rfl (by decide) (L2 := [(5, vi (l5 + 1)), (4, vi (s0 + s1)), (0, vr 146), (1, vr l1), (2, vi l2), (3, vi l3)]) rfl hw (fun hw => ?_)
  refine wm_goto (tgt := 12) hC dX1_countOrders_52 (by decide) ?_
  refine wm_sub [2, 3, 4, 5, 1, 0] (L2 := [(0, vr 146), (1, vr l1), (2, vi l2), (3, vi l3), (4, vi (s0 + s1)), (5, vi (l5 + 1))]) rfl ?_
  exact kk12 _ _ _ _ hw
def p1_countOrders_b12_body (l1 : Nat) (l2 : Int) (l3 : Int) (R : mR) (Q : Int → mI → mI → Prop) (k12 : Int → Int → mI → mI → Prop) (l4 : Int) (l5 : Int) (I : mI) (J : mI) : Prop := (if l3 ≤ l5 then (Q l4 I J) else (isLd (R 146 4) ∧ (p3_everybody (R 146 4) I (fun r2 => (p1_ask l1 r2 I J R (fun r3 I2 J1 => (if r3 = l2 then (p1_countOrders_b41 l1 l2 l3 l5 l4 1 I2 J1 R k12 Q) else (p1_countOrders_b41 l1 l2 l3 l5 l4 0 I2 J1 R k12 Q))))))))
def p1_countOrders_b12 (l1 : Nat) (l2 : Int) (l3 : Int) (R : mR) (Q : Int → mI → mI → Prop) : Nat → Int → Int → mI → mI → Prop
  | 0 => fun _ _ _ _ => False
  | f + 1 => fun l4 l5 I J => p1_countOrders_b12_body l1 l2 l3 R Q (p1_countOrders_b12 l1 l2 l3 R Q f) l4 l5 I J
set_option maxRecDepth 20000 in
theorem w1_countOrders_b12_body {C : wX} {ad : Nat → Nat} {n : Nat} {I J : mI} {R : mR} {Q : Int → mI → mI → Prop} (hC : wOK C cX1_countOrders 6 RX1) (hRm : wRm C 6 139 0 0) (hE : wEnd C (some .int) ad n (fun r I' J' R' => (R' = R) ∧ Q r I' J')) (hRF : RF R) {l1 : Nat} {l2 : Int} {l3 : Int} {l4 : Int} {l5 : Int}   (h1 : isA 6 l1)  {k12 : Int → Int → mI → mI → Prop} (kk12 : ∀ (y4 : Int) (y5 : Int) (I' : mI) (J' : mI), k12 y4 y5 I' J' → WM C ad n I' J' R 0 0 12 [(0, vr 146), (1, vr l1), (2, vi l2), (3, vi l3), (4, vi y4), (5, vi y5)] []) (hw : p1_countOrders_b12_body l1 l2 l3 R Q k12 l4 l5 I J) : WM C ad n I J R 0 0 12 [(0, vr 146), (1, vr l1), (2, vi l2), (3, vi l3), (4, vi l4), (5, vi l5)] [] := by
  unfold p1_countOrders_b12_body at hw
  refine wm_iload hC 5 dX1_countOrders_12 rfl ?_
  refine wm_iload_n hC 3 dX1_countOrders_14 rfl ?_
  refine wm_icmp_ge (tgt := 55) hC dX1_countOrders_15 (by decide) hw (fun hw => ?_) (fun hw => ?_)
  · refine wm_iload hC 4 dX1_countOrders_55 rfl ?_
    exact wm_ireturn hC hE dX1_countOrders_57 ⟨rfl, hw⟩
  · refine wm_iload hC 4 dX1_countOrders_18 rfl ?_
    refine wm_aload_n hC 0 dX1_countOrders_20 rfl (k_ne0 kk_146 (by decide)) ?_
    refine wm_aload_n hC 1 dX1_countOrders_21 rfl (k_ne0 h1.1 (by decide)) ?_
    refine wm_aload_n hC 0 dX1_countOrders_22 rfl (k_ne0 kk_146 (by decide)) ?_
    refine x_getRD hC 4 fl_X1_38 rfl kk_146 dX1_countOrders_23 hw (fun g1 hw => ?_)
    refine y_callV_i_n hC hRm noS ml_X1_113 (ld_k0 g1) (c3_everybody hRF g1 hw) (Nat.le_of_ble_eq_true rfl) (Nat.le_of_ble_eq_true rfl) ⟨Nat.zero_le _, Nat.zero_le _⟩ rfl (st := [vr l1, vr 146, vi l4]) rfl (Nat.le_of_ble_eq_true rfl) dX1_countOrders_26 (fun r2 hw => ?_)
    refine y_callV_i_IJ hC hRm noS ml_X1_117 kk_146 (c1_ask hRF h1 hw) (Nat.le_of_ble_eq_true rfl) (Nat.le_of_ble_eq_true rfl) ⟨Nat.zero_le _, Nat.zero_le _⟩ rfl (st := [vi l4]) rfl (Nat.le_of_ble_eq_true rfl) dX1_countOrders_29 (fun r3 I2 J1 hw => ?_)
    refine wm_iload_n hC 2 dX1_countOrders_32 rfl ?_
    refine wm_icmp_ne (tgt := 40) hC dX1_countOrders_33 (by decide) hw (fun hw => ?_) (fun hw => ?_)
    · refine wm_iconst hC dX1_countOrders_36 (k := ?_)
      refine wm_goto (tgt := 41) hC dX1_countOrders_37 (by decide) ?_
      refine wm_sub [0, 1, 2, 3, 5] (L2 := [(0, vr 146), (1, vr l1), (2, vi l2), (3, vi l3), (5, vi l5)]) rfl ?_
      exact w1_countOrders_b41 hC hRm hE hRF h1 kk12 hw
    · refine wm_iconst hC dX1_countOrders_40 (k := ?_)
      refine wm_sub [0, 1, 2, 3, 5] (L2 := [(0, vr 146), (1, vr l1), (2, vi l2), (3, vi l3), (5, vi l5)]) rfl ?_
      exact w1_countOrders_b41 hC hRm hE hRF h1 kk12 hw
set_option maxRecDepth 20000 in
theorem w1_countOrders_b12 {C : wX} {ad : Nat → Nat} {n : Nat} {R : mR} {Q : Int → mI → mI → Prop} (hC : wOK C cX1_countOrders 6 RX1) (hRm : wRm C 6 139 0 0) (hE : wEnd C (some .int) ad n (fun r I' J' R' => (R' = R) ∧ Q r I' J')) (hRF : RF R) {l1 : Nat} {l2 : Int} {l3 : Int}   (h1 : isA 6 l1)  : ∀ (f : Nat) (l4 : Int) (l5 : Int) (I : mI) (J : mI), p1_countOrders_b12 l1 l2 l3 R Q f l4 l5 I J → WM C ad n I J R 0 0 12 [(0, vr 146), (1, vr l1), (2, vi l2), (3, vi l3), (4, vi l4), (5, vi l5)] [] := by
  intro f
  induction f with
  | zero => intro l4 l5 I J hw; exact hw.elim
  | succ f ih => intro l4 l5 I J hw; exact w1_countOrders_b12_body hC hRm hE hRF h1 (fun a0 a1 a2 a3 aw => ih a0 a1 a2 a3 aw) hw
def p1_countOrders (l1 : Nat) (l2 : Int) (I : mI) (J : mI) (R : mR) (Q : Int → mI → mI → Prop) : Prop := (p1_beginOrders l1 I R (fun r1 I1 => (∃ f, p1_countOrders_b12 l1 l2 r1 R Q f 0 0 I1 J)))
set_option maxRecDepth 20000 in
theorem c1_countOrders {ad : Nat → Nat} {n : Nat} {I J : mI} {R : mR} {Q : Int → mI → mI → Prop}  (hRF : RF R) {l1 : Nat} {l2 : Int}  (h1 : isA 6 l1)  (hw : p1_countOrders l1 l2 I J R Q) : wMet yX1_countOrders cX1_countOrders 6 (some .int) 6 139 false ad n I J R [vr 146, vr l1, vi l2] (fun r I' J' R' => (R' = R) ∧ Q r I' J') := by
  refine wMet_of (by decide) (Nat.le_of_ble_eq_true rfl) (fun C hC hRm hE hS => ?_)
  refine (show WM C ad n I J R 0 0 0 [(0, vr 146), (1, vr l1), (2, vi l2)] [] from ?_)
  unfold p1_countOrders at hw
  refine wm_aload_n hC 0 dX1_countOrders_0 rfl (k_ne0 kk_146 (by decide)) ?_
  refine wm_aload_n hC 1 dX1_countOrders_1 rfl (k_ne0 h1.1 (by decide)) ?_
  refine y_callV_i_I hC hRm noS ml_X1_109 kk_146 (c1_beginOrders hRF h1 hw) (Nat.le_of_ble_eq_true rfl) (Nat.le_of_ble_eq_true rfl) ⟨Nat.zero_le _, Nat.zero_le _⟩ rfl (st := []) rfl (Nat.le_of_ble_eq_true rfl) dX1_countOrders_2 (fun r1 I1 hw => ?_)
  refine wm_istore_n hC dX1_countOrders_5 (by decide) (L2 := [(3, vi r1), (0, vr 146), (1, vr l1), (2, vi l2)]) rfl ?_
  refine wm_iconst hC dX1_countOrders_6 (k := ?_)
  refine wm_istore hC dX1_countOrders_7 (by decide) (L2 := [(4, vi 0), (3, vi r1), (0, vr 146), (1, vr l1), (2, vi l2)]) rfl ?_
  refine wm_iconst hC dX1_countOrders_9 (k := ?_)
  refine wm_istore hC dX1_countOrders_10 (by decide) (L2 := [(5, vi 0), (4, vi 0), (3, vi r1), (0, vr 146), (1, vr l1), (2, vi l2)]) rfl ?_
  obtain ⟨f, hw⟩ := hw
  refine wm_sub [3, 4, 5, 2, 1, 0] (L2 := [(0, vr 146), (1, vr l1), (2, vi l2), (3, vi r1), (4, vi 0), (5, vi 0)]) rfl ?_
  exact w1_countOrders_b12 hC hRm hE hRF h1 f _ _ _ _ hw
def p1_firstOrder_b9_body (l1 : Nat) (l2 : Int) (l3 : Int) (R : mR) (Q : Int → mI → mI → Prop) (k9 : Int → mI → mI → Prop) (l4 : Int) (I : mI) (J : mI) : Prop := (if l3 ≤ l4 then (Q 0 I J) else (isLd (R 146 4) ∧ (p3_everybody (R 146 4) I (fun r2 => (p1_ask l1 r2 I J R (fun r3 I2 J1 => (if r3 = l2 then (Q 1 I2 J1) else (p1_nextOrder l1 I2 R (fun I3 => (rg (l4 + 1) ∧ (k9 (l4 + 1) I3 J1)))))))))))
def p1_firstOrder_b9 (l1 : Nat) (l2 : Int) (l3 : Int) (R : mR) (Q : Int → mI → mI → Prop) : Nat → Int → mI → mI → Prop
  | 0 => fun _ _ _ => False
  | f + 1 => fun l4 I J => p1_firstOrder_b9_body l1 l2 l3 R Q (p1_firstOrder_b9 l1 l2 l3 R Q f) l4 I J
set_option maxRecDepth 20000 in
theorem w1_firstOrder_b9_body {C : wX} {ad : Nat → Nat} {n : Nat} {I J : mI} {R : mR} {Q : Int → mI → mI → Prop} (hC : wOK C cX1_firstOrder 5 RX1) (hRm : wRm C 6 139 0 0) (hE : wEnd C (some .boolean) ad n (fun r I' J' R' => (R' = R) ∧ Q r I' J')) (hRF : RF R) {l1 : Nat} {l2 : Int} {l3 : Int} {l4 : Int}   (h1 : isA 6 l1)  {k9 : Int → mI → mI → Prop} (kk9 : ∀ (y4 : Int) (I' : mI) (J' : mI), k9 y4 I' J' → WM C ad n I' J' R 0 0 9 [(0, vr 146), (1, vr l1), (2, vi l2), (3, vi l3), (4, vi y4)] []) (hw : p1_firstOrder_b9_body l1 l2 l3 R Q k9 l4 I J) : WM C ad n I J R 0 0 9 [(0, vr 146), (1, vr l1), (2, vi l2), (3, vi l3), (4, vi l4)] [] := by
  unfold p1_firstOrder_b9_body at hw
  refine wm_iload hC 4 dX1_firstOrder_9 rfl ?_
  refine wm_iload_n hC 3 dX1_firstOrder_11 rfl ?_
  refine wm_icmp_ge (tgt := 44) hC dX1_firstOrder_12 (by decide) hw (fun hw => ?_) (fun hw => ?_)
  · refine wm_iconst hC dX1_firstOrder_44 (k := ?_)
    exact wm_zreturn hC hE (Or.inl rfl) dX1_firstOrder_45 ⟨rfl, hw⟩
  · refine wm_aload_n hC 0 dX1_firstOrder_15 rfl (k_ne0 kk_146 (by decide)) ?_
    refine wm_aload_n hC 1 dX1_firstOrder_16 rfl (k_ne0 h1.1 (by decide)) ?_
    refine wm_aload_n hC 0 dX1_firstOrder_17 rfl (k_ne0 kk_146 (by decide)) ?_
    refine x_getRD hC 4 fl_X1_38 rfl kk_146 dX1_firstOrder_18 hw (fun g1 hw => ?_)
    refine y_callV_i_n hC hRm noS ml_X1_113 (ld_k0 g1) (c3_everybody hRF g1 hw) (Nat.le_of_ble_eq_true rfl) (Nat.le_of_ble_eq_true rfl) ⟨Nat.zero_le _, Nat.zero_le _⟩ rfl (st := [vr l1, vr 146]) rfl (Nat.le_of_ble_eq_true rfl) dX1_firstOrder_21 (fun r2 hw => ?_)
    refine y_callV_i_IJ hC hRm noS ml_X1_117 kk_146 (c1_ask hRF h1 hw) (Nat.le_of_ble_eq_true rfl) (Nat.le_of_ble_eq_true rfl) ⟨Nat.zero_le _, Nat.zero_le _⟩ rfl (st := []) rfl (Nat.le_of_ble_eq_true rfl) dX1_firstOrder_24 (fun r3 I2 J1 hw => ?_)
    refine wm_iload_n hC 2 dX1_firstOrder_27 rfl ?_
    refine wm_icmp_ne (tgt := 33) hC dX1_firstOrder_28 (by decide) hw (fun hw => ?_) (fun hw => ?_)
    · refine wm_iconst hC dX1_firstOrder_31 (k := ?_)
      exact wm_zreturn hC hE (Or.inr rfl) dX1_firstOrder_32 ⟨rfl, hw⟩
    · refine wm_aload_n hC 0 dX1_firstOrder_33 rfl (k_ne0 kk_146 (by decide)) ?_
      refine wm_aload_n hC 1 dX1_firstOrder_34 rfl (k_ne0 h1.1 (by decide)) ?_
      refine y_callV_v_I hC hRm noS ml_X1_121 kk_146 (c1_nextOrder hRF h1 hw) (Nat.le_of_ble_eq_true rfl) (Nat.le_of_ble_eq_true rfl) ⟨Nat.zero_le _, Nat.zero_le _⟩ rfl (st := []) rfl (Nat.le_of_ble_eq_true rfl) dX1_firstOrder_35 (fun I3 hw => ?_)
      refine x_iinc hC 4 dX1_firstOrder_38 rfl (by decide) (L2 := [(4, vi (l4 + 1)), (0, vr 146), (1, vr l1), (2, vi l2), (3, vi l3)]) rfl hw (fun hw => ?_)
      refine wm_goto (tgt := 9) hC dX1_firstOrder_41 (by decide) ?_
      refine wm_sub [1, 2, 3, 4, 0] (L2 := [(0, vr 146), (1, vr l1), (2, vi l2), (3, vi l3), (4, vi (l4 + 1))]) rfl ?_
      exact kk9 _ _ _ hw
set_option maxRecDepth 20000 in
theorem w1_firstOrder_b9 {C : wX} {ad : Nat → Nat} {n : Nat} {R : mR} {Q : Int → mI → mI → Prop} (hC : wOK C cX1_firstOrder 5 RX1) (hRm : wRm C 6 139 0 0) (hE : wEnd C (some .boolean) ad n (fun r I' J' R' => (R' = R) ∧ Q r I' J')) (hRF : RF R) {l1 : Nat} {l2 : Int} {l3 : Int}   (h1 : isA 6 l1)  : ∀ (f : Nat) (l4 : Int) (I : mI) (J : mI), p1_firstOrder_b9 l1 l2 l3 R Q f l4 I J → WM C ad n I J R 0 0 9 [(0, vr 146), (1, vr l1), (2, vi l2), (3, vi l3), (4, vi l4)] [] := by
  intro f
  induction f with
  | zero => intro l4 I J hw; exact hw.elim
  | succ f ih => intro l4 I J hw; exact w1_firstOrder_b9_body hC hRm hE hRF h1 (fun a0 a1 a2 aw => ih a0 a1 a2 aw) hw
def p1_firstOrder (l1 : Nat) (l2 : Int) (I : mI) (J : mI) (R : mR) (Q : Int → mI → mI → Prop) : Prop := (p1_beginOrders l1 I R (fun r1 I1 => (∃ f, p1_firstOrder_b9 l1 l2 r1 R Q f 0 I1 J)))
set_option maxRecDepth 20000 in
theorem c1_firstOrder {ad : Nat → Nat} {n : Nat} {I J : mI} {R : mR} {Q : Int → mI → mI → Prop}  (hRF : RF R) {l1 : Nat} {l2 : Int}  (h1 : isA 6 l1)  (hw : p1_firstOrder l1 l2 I J R Q) : wMet yX1_firstOrder cX1_firstOrder 5 (some .boolean) 6 139 false ad n I J R [vr 146, vr l1, vi l2] (fun r I' J' R' => (R' = R) ∧ Q r I' J') := by
  refine wMet_of (by decide) (Nat.le_of_ble_eq_true rfl) (fun C hC hRm hE hS => ?_)
  refine (show WM C ad n I J R 0 0 0 [(0, vr 146), (1, vr l1), (2, vi l2)] [] from ?_)
  unfold p1_firstOrder at hw
  refine wm_aload_n hC 0 dX1_firstOrder_0 rfl (k_ne0 kk_146 (by decide)) ?_
  refine wm_aload_n hC 1 dX1_firstOrder_1 rfl (k_ne0 h1.1 (by decide)) ?_
  refine y_callV_i_I hC hRm noS ml_X1_109 kk_146 (c1_beginOrders hRF h1 hw) (Nat.le_of_ble_eq_true rfl) (Nat.le_of_ble_eq_true rfl) ⟨Nat.zero_le _, Nat.zero_le _⟩ rfl (st := []) rfl (Nat.le_of_ble_eq_true rfl) dX1_firstOrder_2 (fun r1 I1 hw => ?_)
  refine wm_istore_n hC dX1_firstOrder_5 (by decide) (L2 := [(3, vi r1), (0, vr 146), (1, vr l1), (2, vi l2)]) rfl ?_
  refine wm_iconst hC dX1_firstOrder_6 (k := ?_)
  refine wm_istore hC dX1_firstOrder_7 (by decide) (L2 := [(4, vi 0), (3, vi r1), (0, vr 146), (1, vr l1), (2, vi l2)]) rfl ?_
  obtain ⟨f, hw⟩ := hw
  refine wm_sub [2, 3, 4, 1, 0] (L2 := [(0, vr 146), (1, vr l1), (2, vi l2), (3, vi r1), (4, vi 0)]) rfl ?_
  exact w1_firstOrder_b9 hC hRm hE hRF h1 f _ _ _ hw
def p1_oddsOf_b55_body (l1 : Int) (l2 : Int) (l3 : Int) (R : mR) (Q : Int → mI → mI → Prop) (k55 : Int → Int → mI → mI → Prop) (l4 : Int) (l5 : Int) (I : mI) (J : mI) : Prop := (if l2 ≤ l5 then (Q l4 I J) else (isSt (R 146 5) ∧ (p1_ask ((R 146 5) + 1) (bAnd l3 (bXor (bShl 1 l5) (-1))) I J R (fun r3 I2 J2 => (if r3 = l1 then (isLd (R 146 4) ∧ (rg (l4 + (I2 (R 146 4) 11)) ∧ (wLet (l4 + (I2 (R 146 4) 11)) (fun x3 => (rg (l5 + 1) ∧ (k55 x3 (l5 + 1) I2 J2)))))) else (rg (l4 + 0) ∧ (rg (l5 + 1) ∧ (k55 (l4 + 0) (l5 + 1) I2 J2))))))))
def p1_oddsOf_b55 (l1 : Int) (l2 : Int) (l3 : Int) (R : mR) (Q : Int → mI → mI → Prop) : Nat → Int → Int → mI → mI → Prop
  | 0 => fun _ _ _ _ => False
  | f + 1 => fun l4 l5 I J => p1_oddsOf_b55_body l1 l2 l3 R Q (p1_oddsOf_b55 l1 l2 l3 R Q f) l4 l5 I J
set_option maxRecDepth 20000 in
theorem w1_oddsOf_b55_body {C : wX} {ad : Nat → Nat} {n : Nat} {I J : mI} {R : mR} {Q : Int → mI → mI → Prop} (hC : wOK C cX1_oddsOf 6 RX1) (hRm : wRm C 6 139 0 0) (hE : wEnd C (some .int) ad n (fun r I' J' R' => (R' = R) ∧ Q r I' J')) (hRF : RF R) {l1 : Int} {l2 : Int} {l3 : Int} {l4 : Int} {l5 : Int}     {k55 : Int → Int → mI → mI → Prop} (kk55 : ∀ (y4 : Int) (y5 : Int) (I' : mI) (J' : mI), k55 y4 y5 I' J' → WM C ad n I' J' R 0 0 55 [(0, vr 146), (1, vi l1), (2, vi l2), (3, vi l3), (4, vi y4), (5, vi y5)] []) (hw : p1_oddsOf_b55_body l1 l2 l3 R Q k55 l4 l5 I J) : WM C ad n I J R 0 0 55 [(0, vr 146), (1, vi l1), (2, vi l2), (3, vi l3), (4, vi l4), (5, vi l5)] [] := by
  unfold p1_oddsOf_b55_body at hw
  refine wm_iload hC 5 dX1_oddsOf_55 rfl ?_
  refine wm_iload_n hC 2 dX1_oddsOf_57 rfl ?_
  refine wm_icmp_ge (tgt := 106) hC dX1_oddsOf_58 (by decide) hw (fun hw => ?_) (fun hw => ?_)
  · refine wm_iload hC 4 dX1_oddsOf_106 rfl ?_
    exact wm_ireturn hC hE dX1_oddsOf_108 ⟨rfl, hw⟩
  · refine wm_iload hC 4 dX1_oddsOf_61 rfl ?_
    refine wm_aload_n hC 0 dX1_oddsOf_63 rfl (k_ne0 kk_146 (by decide)) ?_
    refine wm_aload_n hC 0 dX1_oddsOf_64 rfl (k_ne0 kk_146 (by decide)) ?_
    refine x_getRD hC 5 fl_X1_42 rfl kk_146 dX1_oddsOf_65 hw (fun g5 hw => ?_)
    refine x_getR3 hC 3 fl_X1_129 rfl (st_k0 g5) (rfs_3 hRF g5) dX1_oddsOf_68 ?_
    refine wm_iload_n hC 3 dX1_oddsOf_71 rfl ?_
    refine wm_iconst hC dX1_oddsOf_72 (k := ?_)
    refine wm_iload hC 5 dX1_oddsOf_73 rfl ?_
    refine wm_ishl hC dX1_oddsOf_75 ?_
    refine wm_iconst hC dX1_oddsOf_76 (k := ?_)
    refine wm_ixor hC dX1_oddsOf_77 ?_
    refine wm_iand hC dX1_oddsOf_78 ?_
    refine y_callV_i_IJ hC hRm noS ml_X1_117 kk_146 (c1_ask hRF ⟨(st_k1 g5), (st_n1 g5)⟩ hw) (Nat.le_of_ble_eq_true rfl) (Nat.le_of_ble_eq_true rfl) ⟨Nat.zero_le _, Nat.zero_le _⟩ rfl (st := [vi l4]) rfl (Nat.le_of_ble_eq_true rfl) dX1_oddsOf_79 (fun r3 I2 J2 hw => ?_)
    refine wm_iload_n hC 1 dX1_oddsOf_82 rfl ?_
    refine wm_icmp_ne (tgt := 96) hC dX1_oddsOf_83 (by decide) hw (fun hw => ?_) (fun hw => ?_)
    · refine wm_aload_n hC 0 dX1_oddsOf_86 rfl (k_ne0 kk_146 (by decide)) ?_
      refine x_getRD hC 4 fl_X1_38 rfl kk_146 dX1_oddsOf_87 hw (fun g6 hw => ?_)
      refine x_getI hC 11 fl_X1_132 rfl (ld_k0 g6) dX1_oddsOf_90 ?_
      refine wm_goto (tgt := 97) hC dX1_oddsOf_93 (by decide) ?_
      refine x_iadd hC dX1_oddsOf_97 hw (fun hw => ?_)
      refine x_nameI hw (fun x3 hw => ?_)
      refine wm_istore hC dX1_oddsOf_98 (by decide) (L2 := [(4, vi x3), (0, vr 146), (1, vi l1), (2, vi l2), (3, vi l3), (5, vi l5)]) rfl ?_
      refine x_iinc hC 5 dX1_oddsOf_100 rfl (by decide) (L2 := [(5, vi (l5 + 1)), (4, vi x3), (0, vr 146), (1, vi l1), (2, vi l2), (3, vi l3)]) rfl hw (fun hw => ?_)
      refine wm_goto (tgt := 55) hC dX1_oddsOf_103 (by decide) ?_
      refine wm_sub [2, 3, 4, 5, 1, 0] (L2 := [(0, vr 146), (1, vi l1), (2, vi l2), (3, vi l3), (4, vi x3), (5, vi (l5 + 1))]) rfl ?_
      exact kk55 _ _ _ _ hw
    · refine wm_iconst hC dX1_oddsOf_96 (k := ?_)
      refine x_iadd hC dX1_oddsOf_97 hw (fun hw => ?_)
      refine wm_istore hC dX1_oddsOf_98 (by decide) (L2 := [(4, vi (l4 + 0)), (0, vr 146), (1, vi l1), (2, vi l2), (3, vi l3), (5, vi l5)]) rfl ?_
      refine x_iinc hC 5 dX1_oddsOf_100 rfl (by decide) (L2 := [(5, vi (l5 + 1)), (4, vi (l4 + 0)), (0, vr 146), (1, vi l1), (2, vi l2), (3, vi l3)]) rfl hw (fun hw => ?_)
      refine wm_goto (tgt := 55) hC dX1_oddsOf_103 (by decide) ?_
      refine wm_sub [2, 3, 4, 5, 1, 0] (L2 := [(0, vr 146), (1, vi l1), (2, vi l2), (3, vi l3), (4, vi (l4 + 0)), (5, vi (l5 + 1))]) rfl ?_
      exact kk55 _ _ _ _ hw
set_option maxRecDepth 20000 in
theorem w1_oddsOf_b55 {C : wX} {ad : Nat → Nat} {n : Nat} {R : mR} {Q : Int → mI → mI → Prop} (hC : wOK C cX1_oddsOf 6 RX1) (hRm : wRm C 6 139 0 0) (hE : wEnd C (some .int) ad n (fun r I' J' R' => (R' = R) ∧ Q r I' J')) (hRF : RF R) {l1 : Int} {l2 : Int} {l3 : Int}     : ∀ (f : Nat) (l4 : Int) (l5 : Int) (I : mI) (J : mI), p1_oddsOf_b55 l1 l2 l3 R Q f l4 l5 I J → WM C ad n I J R 0 0 55 [(0, vr 146), (1, vi l1), (2, vi l2), (3, vi l3), (4, vi l4), (5, vi l5)] [] := by
  intro f
  induction f with
  | zero => intro l4 l5 I J hw; exact hw.elim
  | succ f ih => intro l4 l5 I J hw; exact w1_oddsOf_b55_body hC hRm hE hRF  (fun a0 a1 a2 a3 aw => ih a0 a1 a2 a3 aw) hw
def p1_oddsOf (l1 : Int) (I : mI) (J : mI) (R : mR) (Q : Int → mI → mI → Prop) : Prop := (isLd (R 146 4) ∧ (wLet (I ((R 146 4) + 1) 0) (fun x1 => (isLd (R 146 4) ∧ (p3_everybody (R 146 4) I (fun r1 => (isSt (R 146 5) ∧ (p1_ask ((R 146 5) + 1) r1 I J R (fun r2 I1 J1 => (if r2 = l1 then (isLd (R 146 4) ∧ (rg (100 - (I1 (R 146 4) 11)) ∧ (rg ((100 - (I1 (R 146 4) 11)) * x1) ∧ (wLet ((100 - (I1 (R 146 4) 11)) * x1) (fun x2 => (∃ f, p1_oddsOf_b55 l1 x1 r1 R Q f x2 0 I1 J1)))))) else (∃ f, p1_oddsOf_b55 l1 x1 r1 R Q f 0 0 I1 J1)))))))))))
set_option maxRecDepth 20000 in
theorem c1_oddsOf {ad : Nat → Nat} {n : Nat} {I J : mI} {R : mR} {Q : Int → mI → mI → Prop}  (hRF : RF R) {l1 : Int}   (hw : p1_oddsOf l1 I J R Q) : wMet yX1_oddsOf cX1_oddsOf 6 (some .int) 6 139 false ad n I J R [vr 146, vi l1] (fun r I' J' R' => (R' = R) ∧ Q r I' J') := by
  refine wMet_of (by decide) (Nat.le_of_ble_eq_true rfl) (fun C hC hRm hE hS => ?_)
  refine (show WM C ad n I J R 0 0 0 [(0, vr 146), (1, vi l1)] [] from ?_)
  unfold p1_oddsOf at hw
  refine wm_aload_n hC 0 dX1_oddsOf_0 rfl (k_ne0 kk_146 (by decide)) ?_
  refine x_getRD hC 4 fl_X1_38 rfl kk_146 dX1_oddsOf_1 hw (fun g1 hw => ?_)
  refine x_getR3 hC 0 fl_X1_53 rfl (ld_k0 g1) (rfd_0 hRF g1) dX1_oddsOf_4 ?_
  refine wm_iconst hC dX1_oddsOf_7 (k := ?_)
  refine x_ialdK hC (ld_k1 g1) (ld_n1 g1) (by decide) (by decide) dX1_oddsOf_8 ?_
  refine x_nameI hw (fun x1 hw => ?_)
  refine wm_istore_n hC dX1_oddsOf_9 (by decide) (L2 := [(2, vi x1), (0, vr 146), (1, vi l1)]) rfl ?_
  refine wm_aload_n hC 1 dX1_oddsOf_10 rfl (k_ne0 kk_146 (by decide)) ?_
  refine x_getRD hC 4 fl_X1_38 rfl kk_146 dX1_oddsOf_11 hw (fun g2 hw => ?_)
  refine y_callV_i_n hC hRm noS ml_X1_113 (ld_k0 g2) (c3_everybody hRF g2 hw) (Nat.le_of_ble_eq_true rfl) (Nat.le_of_ble_eq_true rfl) ⟨Nat.zero_le _, Nat.zero_le _⟩ rfl (st := []) rfl (Nat.le_of_ble_eq_true rfl) dX1_oddsOf_14 (fun r1 hw => ?_)
  refine wm_istore_n hC dX1_oddsOf_17 (by decide) (L2 := [(3, vi r1), (2, vi x1), (0, vr 146), (1, vi l1)]) rfl ?_
  refine wm_aload_n hC 2 dX1_oddsOf_18 rfl (k_ne0 kk_146 (by decide)) ?_
  refine wm_aload_n hC 2 dX1_oddsOf_19 rfl (k_ne0 kk_146 (by decide)) ?_
  refine x_getRD hC 5 fl_X1_42 rfl kk_146 dX1_oddsOf_20 hw (fun g3 hw => ?_)
  refine x_getR3 hC 3 fl_X1_129 rfl (st_k0 g3) (rfs_3 hRF g3) dX1_oddsOf_23 ?_
  refine wm_iload_n hC 0 dX1_oddsOf_26 rfl ?_
  refine y_callV_i_IJ hC hRm noS ml_X1_117 kk_146 (c1_ask hRF ⟨(st_k1 g3), (st_n1 g3)⟩ hw) (Nat.le_of_ble_eq_true rfl) (Nat.le_of_ble_eq_true rfl) ⟨Nat.zero_le _, Nat.zero_le _⟩ rfl (st := []) rfl (Nat.le_of_ble_eq_true rfl) dX1_oddsOf_27 (fun r2 I1 J1 hw => ?_)
  refine wm_iload_n hC 3 dX1_oddsOf_30 rfl ?_
  refine wm_icmp_ne (tgt := 49) hC dX1_oddsOf_31 (by decide) hw (fun hw => ?_) (fun hw => ?_)
  · refine wm_bipush hC dX1_oddsOf_34 (k := ?_)
    refine wm_aload_n hC 2 dX1_oddsOf_36 rfl (k_ne0 kk_146 (by decide)) ?_
    refine x_getRD hC 4 fl_X1_38 rfl kk_146 dX1_oddsOf_37 hw (fun g4 hw => ?_)
    refine x_getI hC 11 fl_X1_132 rfl (ld_k0 g4) dX1_oddsOf_40 ?_
    refine x_isub hC dX1_oddsOf_43 hw (fun hw => ?_)
    refine wm_iload_n hC 1 dX1_oddsOf_44 rfl ?_
    refine x_imul hC dX1_oddsOf_45 hw (fun hw => ?_)
    refine wm_goto (tgt := 50) hC dX1_oddsOf_46 (by decide) ?_
    refine x_nameI hw (fun x2 hw => ?_)
    refine wm_istore hC dX1_oddsOf_50 (by decide) (L2 := [(4, vi x2), (3, vi r1), (2, vi x1), (0, vr 146), (1, vi l1)]) rfl ?_
    refine wm_iconst hC dX1_oddsOf_52 (k := ?_)
    refine wm_istore hC dX1_oddsOf_53 (by decide) (L2 := [(5, vi 0), (4, vi x2), (3, vi r1), (2, vi x1), (0, vr 146), (1, vi l1)]) rfl ?_
    obtain ⟨f, hw⟩ := hw
    refine wm_sub [4, 5, 3, 2, 1, 0] (L2 := [(0, vr 146), (1, vi l1), (2, vi x1), (3, vi r1), (4, vi x2), (5, vi 0)]) rfl ?_
    exact w1_oddsOf_b55 hC hRm hE hRF  f _ _ _ _ hw
  · refine wm_iconst hC dX1_oddsOf_49 (k := ?_)
    refine wm_istore hC dX1_oddsOf_50 (by decide) (L2 := [(4, vi 0), (3, vi r1), (2, vi x1), (0, vr 146), (1, vi l1)]) rfl ?_
    refine wm_iconst hC dX1_oddsOf_52 (k := ?_)
    refine wm_istore hC dX1_oddsOf_53 (by decide) (L2 := [(5, vi 0), (4, vi 0), (3, vi r1), (2, vi x1), (0, vr 146), (1, vi l1)]) rfl ?_
    obtain ⟨f, hw⟩ := hw
    refine wm_sub [4, 5, 3, 2, 1, 0] (L2 := [(0, vr 146), (1, vi l1), (2, vi x1), (3, vi r1), (4, vi 0), (5, vi 0)]) rfl ?_
    exact w1_oddsOf_b55 hC hRm hE hRF  f _ _ _ _ hw
def p1_powerOf_b4_body (l1 : Int) (R : mR) (Q : Int → mI → mI → Prop) (k4 : Int → Int → mI → mI → Prop) (l2 : Int) (l3 : Int) (I : mI) (J : mI) : Prop := (isLd (R 146 4) ∧ (p3_everybody (R 146 4) I (fun r1 => (if r1 < l3 then (Q l2 I J) else (if (bAnd (bShr l3 l1) 1) = 0 then (isSt (R 146 5) ∧ (p1_ask ((R 146 5) + 1) l3 I J R (fun r2 I1 J1 => (isSt (R 146 5) ∧ (p1_ask ((R 146 5) + 1) (bOr l3 (bShl 1 l1)) I1 J1 R (fun r3 I2 J2 => (if r2 = r3 then (rg (l2 + 0) ∧ (rg (l3 + 1) ∧ (k4 (l2 + 0) (l3 + 1) I2 J2))) else (rg (l2 + 1) ∧ (rg (l3 + 1) ∧ (k4 (l2 + 1) (l3 + 1) I2 J2)))))))))) else (rg (l3 + 1) ∧ (k4 l2 (l3 + 1) I J)))))))
def p1_powerOf_b4 (l1 : Int) (R : mR) (Q : Int → mI → mI → Prop) : Nat → Int → Int → mI → mI → Prop
  | 0 => fun _ _ _ _ => False
  | f + 1 => fun l2 l3 I J => p1_powerOf_b4_body l1 R Q (p1_powerOf_b4 l1 R Q f) l2 l3 I J
set_option maxRecDepth 20000 in
theorem w1_powerOf_b4_body {C : wX} {ad : Nat → Nat} {n : Nat} {I J : mI} {R : mR} {Q : Int → mI → mI → Prop} (hC : wOK C cX1_powerOf 4 RX1) (hRm : wRm C 6 139 0 0) (hE : wEnd C (some .int) ad n (fun r I' J' R' => (R' = R) ∧ Q r I' J')) (hRF : RF R) {l1 : Int} {l2 : Int} {l3 : Int}     {k4 : Int → Int → mI → mI → Prop} (kk4 : ∀ (y2 : Int) (y3 : Int) (I' : mI) (J' : mI), k4 y2 y3 I' J' → WM C ad n I' J' R 0 0 4 [(0, vr 146), (1, vi l1), (2, vi y2), (3, vi y3)] []) (hw : p1_powerOf_b4_body l1 R Q k4 l2 l3 I J) : WM C ad n I J R 0 0 4 [(0, vr 146), (1, vi l1), (2, vi l2), (3, vi l3)] [] := by
  unfold p1_powerOf_b4_body at hw
  refine wm_iload_n hC 3 dX1_powerOf_4 rfl ?_
  refine wm_aload_n hC 0 dX1_powerOf_5 rfl (k_ne0 kk_146 (by decide)) ?_
  refine x_getRD hC 4 fl_X1_38 rfl kk_146 dX1_powerOf_6 hw (fun g1 hw => ?_)
  refine y_callV_i_n hC hRm noS ml_X1_113 (ld_k0 g1) (c3_everybody hRF g1 hw) (Nat.le_of_ble_eq_true rfl) (Nat.le_of_ble_eq_true rfl) ⟨Nat.zero_le _, Nat.zero_le _⟩ rfl (st := [vi l3]) rfl (Nat.le_of_ble_eq_true rfl) dX1_powerOf_9 (fun r1 hw => ?_)
  refine wm_icmp_gt (tgt := 68) hC dX1_powerOf_12 (by decide) hw (fun hw => ?_) (fun hw => ?_)
  · refine wm_iload_n hC 2 dX1_powerOf_68 rfl ?_
    exact wm_ireturn hC hE dX1_powerOf_69 ⟨rfl, hw⟩
  · refine wm_iload_n hC 3 dX1_powerOf_15 rfl ?_
    refine wm_iload_n hC 1 dX1_powerOf_16 rfl ?_
    refine wm_ishr hC dX1_powerOf_17 ?_
    refine wm_iconst hC dX1_powerOf_18 (k := ?_)
    refine wm_iand hC dX1_powerOf_19 ?_
    refine wm_if_ne (tgt := 62) hC dX1_powerOf_20 (by decide) hw (fun hw => ?_) (fun hw => ?_)
    · refine wm_iload_n hC 2 dX1_powerOf_23 rfl ?_
      refine wm_aload_n hC 0 dX1_powerOf_24 rfl (k_ne0 kk_146 (by decide)) ?_
      refine wm_aload_n hC 0 dX1_powerOf_25 rfl (k_ne0 kk_146 (by decide)) ?_
      refine x_getRD hC 5 fl_X1_42 rfl kk_146 dX1_powerOf_26 hw (fun g2 hw => ?_)
      refine x_getR3 hC 3 fl_X1_129 rfl (st_k0 g2) (rfs_3 hRF g2) dX1_powerOf_29 ?_
      refine wm_iload_n hC 3 dX1_powerOf_32 rfl ?_
      refine y_callV_i_IJ hC hRm noS ml_X1_117 kk_146 (c1_ask hRF ⟨(st_k1 g2), (st_n1 g2)⟩ hw) (Nat.le_of_ble_eq_true rfl) (Nat.le_of_ble_eq_true rfl) ⟨Nat.zero_le _, Nat.zero_le _⟩ rfl (st := [vi l2]) rfl (Nat.le_of_ble_eq_true rfl) dX1_powerOf_33 (fun r2 I1 J1 hw => ?_)
      refine wm_aload_n hC 0 dX1_powerOf_36 rfl (k_ne0 kk_146 (by decide)) ?_
      refine wm_aload_n hC 0 dX1_powerOf_37 rfl (k_ne0 kk_146 (by decide)) ?_
      refine x_getRD hC 5 fl_X1_42 rfl kk_146 dX1_powerOf_38 hw (fun g3 hw => ?_)
      refine x_getR3 hC 3 fl_X1_129 rfl (st_k0 g3) (rfs_3 hRF g3) dX1_powerOf_41 ?_
      refine wm_iload_n hC 3 dX1_powerOf_44 rfl ?_
      refine wm_iconst hC dX1_powerOf_45 (k := ?_)
      refine wm_iload_n hC 1 dX1_powerOf_46 rfl ?_
      refine wm_ishl hC dX1_powerOf_47 ?_
      refine wm_ior hC dX1_powerOf_48 ?_
      refine y_callV_i_IJ hC hRm noS ml_X1_117 kk_146 (c1_ask hRF ⟨(st_k1 g3), (st_n1 g3)⟩ hw) (Nat.le_of_ble_eq_true rfl) (Nat.le_of_ble_eq_true rfl) ⟨Nat.zero_le _, Nat.zero_le _⟩ rfl (st := [vi r2, vi l2]) rfl (Nat.le_of_ble_eq_true rfl) dX1_powerOf_49 (fun r3 I2 J2 hw => ?_)
      refine wm_icmp_eq (tgt := 59) hC dX1_powerOf_52 (by decide) hw (fun hw => ?_) (fun hw => ?_)
      · refine wm_iconst hC dX1_powerOf_59 (k := ?_)
        refine x_iadd hC dX1_powerOf_60 hw (fun hw => ?_)
        refine wm_istore_n hC dX1_powerOf_61 (by decide) (L2 := [(2, vi (l2 + 0)), (0, vr 146), (1, vi l1), (3, vi l3)]) rfl ?_
        refine x_iinc hC 3 dX1_powerOf_62 rfl (by decide) (L2 := [(3, vi (l3 + 1)), (2, vi (l2 + 0)), (0, vr 146), (1, vi l1)]) rfl hw (fun hw => ?_)
        refine wm_goto (tgt := 4) hC dX1_powerOf_65 (by decide) ?_
        refine wm_sub [2, 3, 1, 0] (L2 := [(0, vr 146), (1, vi l1), (2, vi (l2 + 0)), (3, vi (l3 + 1))]) rfl ?_
        exact kk4 _ _ _ _ hw
      · refine wm_iconst hC dX1_powerOf_55 (k := ?_)
        refine wm_goto (tgt := 60) hC dX1_powerOf_56 (by decide) ?_
        refine x_iadd hC dX1_powerOf_60 hw (fun hw => ?_)
        refine wm_istore_n hC dX1_powerOf_61 (by decide) (L2 := [(2, vi (l2 + 1)), (0, vr 146), (1, vi l1), (3, vi l3)]) rfl ?_
        refine x_iinc hC 3 dX1_powerOf_62 rfl (by decide) (L2 := [(3, vi (l3 + 1)), (2, vi (l2 + 1)), (0, vr 146), (1, vi l1)]) rfl hw (fun hw => ?_)
        refine wm_goto (tgt := 4) hC dX1_powerOf_65 (by decide) ?_
        refine wm_sub [2, 3, 1, 0] (L2 := [(0, vr 146), (1, vi l1), (2, vi (l2 + 1)), (3, vi (l3 + 1))]) rfl ?_
        exact kk4 _ _ _ _ hw
    · refine x_iinc hC 3 dX1_powerOf_62 rfl (by decide) (L2 := [(3, vi (l3 + 1)), (0, vr 146), (1, vi l1), (2, vi l2)]) rfl hw (fun hw => ?_)
      refine wm_goto (tgt := 4) hC dX1_powerOf_65 (by decide) ?_
      refine wm_sub [1, 2, 3, 0] (L2 := [(0, vr 146), (1, vi l1), (2, vi l2), (3, vi (l3 + 1))]) rfl ?_
      exact kk4 _ _ _ _ hw
set_option maxRecDepth 20000 in
theorem w1_powerOf_b4 {C : wX} {ad : Nat → Nat} {n : Nat} {R : mR} {Q : Int → mI → mI → Prop} (hC : wOK C cX1_powerOf 4 RX1) (hRm : wRm C 6 139 0 0) (hE : wEnd C (some .int) ad n (fun r I' J' R' => (R' = R) ∧ Q r I' J')) (hRF : RF R) {l1 : Int}     : ∀ (f : Nat) (l2 : Int) (l3 : Int) (I : mI) (J : mI), p1_powerOf_b4 l1 R Q f l2 l3 I J → WM C ad n I J R 0 0 4 [(0, vr 146), (1, vi l1), (2, vi l2), (3, vi l3)] [] := by
  intro f
  induction f with
  | zero => intro l2 l3 I J hw; exact hw.elim
  | succ f ih => intro l2 l3 I J hw; exact w1_powerOf_b4_body hC hRm hE hRF  (fun a0 a1 a2 a3 aw => ih a0 a1 a2 a3 aw) hw
def p1_powerOf (l1 : Int) (I : mI) (J : mI) (R : mR) (Q : Int → mI → mI → Prop) : Prop := (∃ f, p1_powerOf_b4 l1 R Q f 0 0 I J)
set_option maxRecDepth 20000 in
theorem c1_powerOf {ad : Nat → Nat} {n : Nat} {I J : mI} {R : mR} {Q : Int → mI → mI → Prop}  (hRF : RF R) {l1 : Int}   (hw : p1_powerOf l1 I J R Q) : wMet yX1_powerOf cX1_powerOf 4 (some .int) 6 139 false ad n I J R [vr 146, vi l1] (fun r I' J' R' => (R' = R) ∧ Q r I' J') := by
  refine wMet_of (by decide) (Nat.le_of_ble_eq_true rfl) (fun C hC hRm hE hS => ?_)
  refine (show WM C ad n I J R 0 0 0 [(0, vr 146), (1, vi l1)] [] from ?_)
  unfold p1_powerOf at hw
  refine wm_iconst hC dX1_powerOf_0 (k := ?_)
  refine wm_istore_n hC dX1_powerOf_1 (by decide) (L2 := [(2, vi 0), (0, vr 146), (1, vi l1)]) rfl ?_
  refine wm_iconst hC dX1_powerOf_2 (k := ?_)
  refine wm_istore_n hC dX1_powerOf_3 (by decide) (L2 := [(3, vi 0), (2, vi 0), (0, vr 146), (1, vi l1)]) rfl ?_
  obtain ⟨f, hw⟩ := hw
  refine wm_sub [2, 3, 1, 0] (L2 := [(0, vr 146), (1, vi l1), (2, vi 0), (3, vi 0)]) rfl ?_
  exact w1_powerOf_b4 hC hRm hE hRF  f _ _ _ _ hw
def p1_suppose (l1 : Int) (l2 : Int) (I : mI) (Q : mI → Prop) : Prop := (wLet (up I 146 8 l1) (fun I1 => (wLet (up I1 146 9 l2) (fun I2 => (Q I2)))))
set_option maxRecDepth 20000 in
theorem c1_suppose {ad : Nat → Nat} {n : Nat} {I J : mI} {R : mR} {Q : mI → Prop}  (hRF : RF R) {l1 : Int} {l2 : Int}    (hw : p1_suppose l1 l2 I Q) : wMet yX1_suppose cX1_suppose 3 none 1 12 false ad n I J R [vr 146, vi l1, vi l2] (fun _ I' J' R' => (J' = J ∧ R' = R) ∧ Q I') := by
  refine wMet_of (by decide) (Nat.le_of_ble_eq_true rfl) (fun C hC hRm hE hS => ?_)
  refine (show WM C ad n I J R 0 0 0 [(0, vr 146), (1, vi l1), (2, vi l2)] [] from ?_)
  unfold p1_suppose at hw
  refine wm_aload_n hC 0 dX1_suppose_0 rfl (k_ne0 kk_146 (by decide)) ?_
  refine wm_iload_n hC 1 dX1_suppose_1 rfl ?_
  refine x_putI hC 8 fl_X1_28 rfl kk_146 dX1_suppose_2 hw (fun I1 hw => ?_)
  refine wm_aload_n hC 0 dX1_suppose_5 rfl (k_ne0 kk_146 (by decide)) ?_
  refine wm_iload_n hC 2 dX1_suppose_6 rfl ?_
  refine x_putI hC 9 fl_X1_31 rfl kk_146 dX1_suppose_7 hw (fun I2 hw => ?_)
  exact wm_return hC hE dX1_suppose_10 ⟨⟨rfl, rfl⟩, hw⟩
def p1_votesFor (l1 : Int) (I : mI) (Q : Int → Prop) : Prop := (if l1 < 0 then (Q (-1)) else (if (6 : Int) ≤ l1 then (Q (-1)) else (((0 : Int) ≤ l1 ∧ l1 < (6 : Int)) ∧ (Q (I 148 l1)))))
set_option maxRecDepth 20000 in
theorem c1_votesFor {ad : Nat → Nat} {n : Nat} {I J : mI} {R : mR} {Q : Int → Prop}  (hRF : RF R) {l1 : Int}   (hw : p1_votesFor l1 I Q) : wMet yX1_votesFor cX1_votesFor 2 (some .int) 1 12 false ad n I J R [vr 146, vi l1] (fun r I' J' R' => (I' = I ∧ J' = J ∧ R' = R) ∧ Q r) := by
  refine wMet_of (by decide) (Nat.le_of_ble_eq_true rfl) (fun C hC hRm hE hS => ?_)
  refine (show WM C ad n I J R 0 0 0 [(0, vr 146), (1, vi l1)] [] from ?_)
  unfold p1_votesFor at hw
  refine wm_iload_n hC 1 dX1_votesFor_0 rfl ?_
  refine wm_if_lt (tgt := 22) hC dX1_votesFor_1 (by decide) hw (fun hw => ?_) (fun hw => ?_)
  · refine wm_iconst hC dX1_votesFor_22 (k := ?_)
    exact wm_ireturn hC hE dX1_votesFor_23 ⟨⟨rfl, rfl, rfl⟩, hw⟩
  · refine wm_iload_n hC 1 dX1_votesFor_4 rfl ?_
    refine wm_aload_n hC 0 dX1_votesFor_5 rfl (k_ne0 kk_146 (by decide)) ?_
    refine x_getR3 hC 2 fl_X1_15 rfl kk_146 (rf_146_2 hRF) dX1_votesFor_6 ?_
    refine x_alen2 hC kk_148 kn_148 (by decide) dX1_votesFor_9 ?_
    refine wm_icmp_ge (tgt := 22) hC dX1_votesFor_10 (by decide) hw (fun hw => ?_) (fun hw => ?_)
    · refine wm_iconst hC dX1_votesFor_22 (k := ?_)
      exact wm_ireturn hC hE dX1_votesFor_23 ⟨⟨rfl, rfl, rfl⟩, hw⟩
    · refine wm_aload_n hC 0 dX1_votesFor_13 rfl (k_ne0 kk_146 (by decide)) ?_
      refine x_getR3 hC 2 fl_X1_15 rfl kk_146 (rf_146_2 hRF) dX1_votesFor_14 ?_
      refine wm_iload_n hC 1 dX1_votesFor_17 rfl ?_
      refine x_iald2 hC kk_148 kn_148 dX1_votesFor_18 hw (fun hw => ?_)
      refine wm_goto (tgt := 23) hC dX1_votesFor_19 (by decide) ?_
      exact wm_ireturn hC hE dX1_votesFor_23 ⟨⟨rfl, rfl, rfl⟩, hw⟩
def p10_add (l1 : Int) (l2 : Int) (l3 : Int) (I : mI) (Q : Int → mI → Prop) : Prop := (if (1601 : Int) ≤ (I 142 3) then (Q l1 I) else (((0 : Int) ≤ (I 142 3) ∧ (I 142 3) < (1601 : Int)) ∧ wLet (up I 143 (I 142 3) l1) (fun I1 => (((0 : Int) ≤ (I1 142 3) ∧ (I1 142 3) < (1601 : Int)) ∧ wLet (up I1 144 (I1 142 3) l2) (fun I2 => (((0 : Int) ≤ (I2 142 3) ∧ (I2 142 3) < (1601 : Int)) ∧ wLet (up I2 145 (I2 142 3) l3) (fun I3 => (rg ((I3 142 3) + 1) ∧ (wLet (up I3 142 3 ((I3 142 3) + 1)) (fun I4 => (Q l1 I4)))))))))))
set_option maxRecDepth 20000 in
theorem c10_add {ad : Nat → Nat} {n : Nat} {I J : mI} {R : mR} {Q : Int → mI → Prop}  (hRF : RF R) {l1 : Int} {l2 : Int} {l3 : Int}     (hw : p10_add l1 l2 l3 I Q) : wMet yX10_add cX10_add 4 (some .int) 1 12 false ad n I J R [vr 142, vi l1, vi l2, vi l3] (fun r I' J' R' => (J' = J ∧ R' = R) ∧ Q r I') := by
  refine wMet_of (by decide) (Nat.le_of_ble_eq_true rfl) (fun C hC hRm hE hS => ?_)
  refine (show WM C ad n I J R 0 0 0 [(0, vr 142), (1, vi l1), (2, vi l2), (3, vi l3)] [] from ?_)
  unfold p10_add at hw
  refine wm_aload_n hC 0 dX10_add_0 rfl (k_ne0 kk_142 (by decide)) ?_
  refine x_getI hC 3 fl_X10_21 rfl kk_142 dX10_add_1 ?_
  refine wm_aload_n hC 0 dX10_add_4 rfl (k_ne0 kk_142 (by decide)) ?_
  refine x_getR3 hC 0 fl_X10_9 rfl kk_142 (rf_142_0 hRF) dX10_add_5 ?_
  refine x_alen2 hC kk_143 kn_143 (by decide) dX10_add_8 ?_
  refine wm_icmp_ge (tgt := 52) hC dX10_add_9 (by decide) hw (fun hw => ?_) (fun hw => ?_)
  · refine wm_iload_n hC 1 dX10_add_52 rfl ?_
    exact wm_ireturn hC hE dX10_add_53 ⟨⟨rfl, rfl⟩, hw⟩
  · refine wm_aload_n hC 0 dX10_add_12 rfl (k_ne0 kk_142 (by decide)) ?_
    refine x_getR3 hC 0 fl_X10_9 rfl kk_142 (rf_142_0 hRF) dX10_add_13 ?_
    refine wm_aload_n hC 0 dX10_add_16 rfl (k_ne0 kk_142 (by decide)) ?_
    refine x_getI hC 3 fl_X10_21 rfl kk_142 dX10_add_17 ?_
    refine wm_iload_n hC 1 dX10_add_20 rfl ?_
    refine x_iast2 hC kk_143 kn_143 dX10_add_21 hw (fun I1 hw => ?_)
    refine wm_aload_n hC 0 dX10_add_22 rfl (k_ne0 kk_142 (by decide)) ?_
    refine x_getR3 hC 1 fl_X10_15 rfl kk_142 (rf_142_1 hRF) dX10_add_23 ?_
    refine wm_aload_n hC 0 dX10_add_26 rfl (k_ne0 kk_142 (by decide)) ?_
    refine x_getI hC 3 fl_X10_21 rfl kk_142 dX10_add_27 ?_
    refine wm_iload_n hC 2 dX10_add_30 rfl ?_
    refine x_iast2 hC kk_144 kn_144 dX10_add_31 hw (fun I2 hw => ?_)
    refine wm_aload_n hC 0 dX10_add_32 rfl (k_ne0 kk_142 (by decide)) ?_
    refine x_getR3 hC 2 fl_X10_18 rfl kk_142 (rf_142_2 hRF) dX10_add_33 ?_
    refine wm_aload_n hC 0 dX10_add_36 rfl (k_ne0 kk_142 (by decide)) ?_
    refine x_getI hC 3 fl_X10_21 rfl kk_142 dX10_add_37 ?_
    refine wm_iload_n hC 3 dX10_add_40 rfl ?_
    refine x_iast2 hC kk_145 kn_145 dX10_add_41 hw (fun I3 hw => ?_)
    refine wm_aload_n hC 0 dX10_add_42 rfl (k_ne0 kk_142 (by decide)) ?_
    refine wm_dup hC dX10_add_43 (k := ?_)
    refine x_getI hC 3 fl_X10_21 rfl kk_142 dX10_add_44 ?_
    refine wm_iconst hC dX10_add_47 (k := ?_)
    refine x_iadd hC dX10_add_48 hw (fun hw => ?_)
    refine x_putI hC 3 fl_X10_21 rfl kk_142 dX10_add_49 hw (fun I4 hw => ?_)
    refine wm_iload_n hC 1 dX10_add_52 rfl ?_
    exact wm_ireturn hC hE dX10_add_53 ⟨⟨rfl, rfl⟩, hw⟩
def p10_beginHere (I : mI) (Q : Int → Prop) : Prop := (if (I 142 5) < 0 then (Q 0) else (if (I 142 3) ≤ (I 142 5) then (Q 0) else (if (I 142 5) < 1601 then (((0 : Int) ≤ (I 142 5) ∧ (I 142 5) < (1601 : Int)) ∧ (if (I 143 (I 142 5)) = 5 then (((0 : Int) ≤ (I 142 5) ∧ (I 142 5) < (1601 : Int)) ∧ (Q (I 144 (I 142 5)))) else (((0 : Int) ≤ (I 142 5) ∧ (I 142 5) < (1601 : Int)) ∧ (Q (I 145 (I 142 5)))))) else (Q 0))))
set_option maxRecDepth 20000 in
theorem c10_beginHere {ad : Nat → Nat} {n : Nat} {I J : mI} {R : mR} {Q : Int → Prop}  (hRF : RF R)   (hw : p10_beginHere I Q) : wMet yX10_beginHere cX10_beginHere 1 (some .int) 1 12 false ad n I J R [vr 142] (fun r I' J' R' => (I' = I ∧ J' = J ∧ R' = R) ∧ Q r) := by
  refine wMet_of (by decide) (Nat.le_of_ble_eq_true rfl) (fun C hC hRm hE hS => ?_)
  refine (show WM C ad n I J R 0 0 0 [(0, vr 142)] [] from ?_)
  unfold p10_beginHere at hw
  refine wm_aload_n hC 0 dX10_beginHere_0 rfl (k_ne0 kk_142 (by decide)) ?_
  refine x_getI hC 5 fl_X10_28 rfl kk_142 dX10_beginHere_1 ?_
  refine wm_if_lt (tgt := 30) hC dX10_beginHere_4 (by decide) hw (fun hw => ?_) (fun hw => ?_)
  · refine wm_iconst hC dX10_beginHere_30 (k := ?_)
    exact wm_ireturn hC hE dX10_beginHere_31 ⟨⟨rfl, rfl, rfl⟩, hw⟩
  · refine wm_aload_n hC 0 dX10_beginHere_7 rfl (k_ne0 kk_142 (by decide)) ?_
    refine x_getI hC 5 fl_X10_28 rfl kk_142 dX10_beginHere_8 ?_
    refine wm_aload_n hC 0 dX10_beginHere_11 rfl (k_ne0 kk_142 (by decide)) ?_
    refine x_getI hC 3 fl_X10_21 rfl kk_142 dX10_beginHere_12 ?_
    refine wm_icmp_ge (tgt := 30) hC dX10_beginHere_15 (by decide) hw (fun hw => ?_) (fun hw => ?_)
    · refine wm_iconst hC dX10_beginHere_30 (k := ?_)
      exact wm_ireturn hC hE dX10_beginHere_31 ⟨⟨rfl, rfl, rfl⟩, hw⟩
    · refine wm_aload_n hC 0 dX10_beginHere_18 rfl (k_ne0 kk_142 (by decide)) ?_
      refine x_getI hC 5 fl_X10_28 rfl kk_142 dX10_beginHere_19 ?_
      refine wm_aload_n hC 0 dX10_beginHere_22 rfl (k_ne0 kk_142 (by decide)) ?_
      refine x_getR3 hC 0 fl_X10_9 rfl kk_142 (rf_142_0 hRF) dX10_beginHere_23 ?_
      refine x_alen2 hC kk_143 kn_143 (by decide) dX10_beginHere_26 ?_
      refine wm_icmp_lt (tgt := 32) hC dX10_beginHere_27 (by decide) hw (fun hw => ?_) (fun hw => ?_)
      · refine wm_aload_n hC 0 dX10_beginHere_32 rfl (k_ne0 kk_142 (by decide)) ?_
        refine x_getR3 hC 0 fl_X10_9 rfl kk_142 (rf_142_0 hRF) dX10_beginHere_33 ?_
        refine wm_aload_n hC 0 dX10_beginHere_36 rfl (k_ne0 kk_142 (by decide)) ?_
        refine x_getI hC 5 fl_X10_28 rfl kk_142 dX10_beginHere_37 ?_
        refine x_iald2 hC kk_143 kn_143 dX10_beginHere_40 hw (fun hw => ?_)
        refine wm_iconst hC dX10_beginHere_41 (k := ?_)
        refine wm_icmp_ne (tgt := 57) hC dX10_beginHere_42 (by decide) hw (fun hw => ?_) (fun hw => ?_)
        · refine wm_aload_n hC 0 dX10_beginHere_45 rfl (k_ne0 kk_142 (by decide)) ?_
          refine x_getR3 hC 1 fl_X10_15 rfl kk_142 (rf_142_1 hRF) dX10_beginHere_46 ?_
          refine wm_aload_n hC 0 dX10_beginHere_49 rfl (k_ne0 kk_142 (by decide)) ?_
          refine x_getI hC 5 fl_X10_28 rfl kk_142 dX10_beginHere_50 ?_
          refine x_iald2 hC kk_144 kn_144 dX10_beginHere_53 hw (fun hw => ?_)
          refine wm_goto (tgt := 66) hC dX10_beginHere_54 (by decide) ?_
          exact wm_ireturn hC hE dX10_beginHere_66 ⟨⟨rfl, rfl, rfl⟩, hw⟩
        · refine wm_aload_n hC 0 dX10_beginHere_57 rfl (k_ne0 kk_142 (by decide)) ?_
          refine x_getR3 hC 2 fl_X10_18 rfl kk_142 (rf_142_2 hRF) dX10_beginHere_58 ?_
          refine wm_aload_n hC 0 dX10_beginHere_61 rfl (k_ne0 kk_142 (by decide)) ?_
          refine x_getI hC 5 fl_X10_28 rfl kk_142 dX10_beginHere_62 ?_
          refine x_iald2 hC kk_145 kn_145 dX10_beginHere_65 hw (fun hw => ?_)
          exact wm_ireturn hC hE dX10_beginHere_66 ⟨⟨rfl, rfl, rfl⟩, hw⟩
      · refine wm_iconst hC dX10_beginHere_30 (k := ?_)
        exact wm_ireturn hC hE dX10_beginHere_31 ⟨⟨rfl, rfl, rfl⟩, hw⟩
def p10_isDigit (l0 : Int) (Q : Int → Prop) : Prop := (if l0 < 48 then (Q 0) else (if (57 : Int) < l0 then (Q 0) else (Q 1)))
set_option maxRecDepth 20000 in
theorem c10_isDigit {ad : Nat → Nat} {n : Nat} {I J : mI} {R : mR} {Q : Int → Prop}  (hRF : RF R) {l0 : Int}  (hw : p10_isDigit l0 Q) : wMet yX10_isDigit cX10_isDigit 1 (some .boolean) 1 12 false ad n I J R [vi l0] (fun r I' J' R' => (I' = I ∧ J' = J ∧ R' = R) ∧ Q r) := by
  refine wMet_of (by decide) (Nat.le_of_ble_eq_true rfl) (fun C hC hRm hE hS => ?_)
  refine (show WM C ad n I J R 0 0 0 [(0, vi l0)] [] from ?_)
  unfold p10_isDigit at hw
  refine wm_iload_n hC 0 dX10_isDigit_0 rfl ?_
  refine wm_bipush hC dX10_isDigit_1 (k := ?_)
  refine wm_icmp_lt (tgt := 16) hC dX10_isDigit_3 (by decide) hw (fun hw => ?_) (fun hw => ?_)
  · refine wm_iconst hC dX10_isDigit_16 (k := ?_)
    exact wm_zreturn hC hE (Or.inl rfl) dX10_isDigit_17 ⟨⟨rfl, rfl, rfl⟩, hw⟩
  · refine wm_iload_n hC 0 dX10_isDigit_6 rfl ?_
    refine wm_bipush hC dX10_isDigit_7 (k := ?_)
    refine wm_icmp_gt (tgt := 16) hC dX10_isDigit_9 (by decide) hw (fun hw => ?_) (fun hw => ?_)
    · refine wm_iconst hC dX10_isDigit_16 (k := ?_)
      exact wm_zreturn hC hE (Or.inl rfl) dX10_isDigit_17 ⟨⟨rfl, rfl, rfl⟩, hw⟩
    · refine wm_iconst hC dX10_isDigit_12 (k := ?_)
      refine wm_goto (tgt := 17) hC dX10_isDigit_13 (by decide) ?_
      exact wm_zreturn hC hE (Or.inr rfl) dX10_isDigit_17 ⟨⟨rfl, rfl, rfl⟩, hw⟩
def p9_byteAt (l1 : Int) (I : mI) (Q : Int → Prop) : Prop := (if l1 < 0 then (Q (-1)) else (if (I 2 1) ≤ l1 then (Q (-1)) else (if (1600 : Int) ≤ l1 then (Q (-1)) else (((0 : Int) ≤ l1 ∧ l1 < (1600 : Int)) ∧ (Q (bAnd (I 3 l1) 255))))))
set_option maxRecDepth 20000 in
theorem c9_byteAt {ad : Nat → Nat} {n : Nat} {I J : mI} {R : mR} {Q : Int → Prop}  (hRF : RF R) {l1 : Int}   (hw : p9_byteAt l1 I Q) : wMet yX9_byteAt cX9_byteAt 2 (some .int) 1 12 false ad n I J R [vr 2, vi l1] (fun r I' J' R' => (I' = I ∧ J' = J ∧ R' = R) ∧ Q r) := by
  refine wMet_of (by decide) (Nat.le_of_ble_eq_true rfl) (fun C hC hRm hE hS => ?_)
  refine (show WM C ad n I J R 0 0 0 [(0, vr 2), (1, vi l1)] [] from ?_)
  unfold p9_byteAt at hw
  refine wm_iload_n hC 1 dX9_byteAt_0 rfl ?_
  refine wm_if_lt (tgt := 34) hC dX9_byteAt_1 (by decide) hw (fun hw => ?_) (fun hw => ?_)
  · refine wm_iconst hC dX9_byteAt_34 (k := ?_)
    exact wm_ireturn hC hE dX9_byteAt_35 ⟨⟨rfl, rfl, rfl⟩, hw⟩
  · refine wm_iload_n hC 1 dX9_byteAt_4 rfl ?_
    refine wm_aload_n hC 0 dX9_byteAt_5 rfl (k_ne0 kk_2 (by decide)) ?_
    refine x_getI hC 1 fl_X9_15 rfl kk_2 dX9_byteAt_6 ?_
    refine wm_icmp_ge (tgt := 34) hC dX9_byteAt_9 (by decide) hw (fun hw => ?_) (fun hw => ?_)
    · refine wm_iconst hC dX9_byteAt_34 (k := ?_)
      exact wm_ireturn hC hE dX9_byteAt_35 ⟨⟨rfl, rfl, rfl⟩, hw⟩
    · refine wm_iload_n hC 1 dX9_byteAt_12 rfl ?_
      refine wm_aload_n hC 0 dX9_byteAt_13 rfl (k_ne0 kk_2 (by decide)) ?_
      refine x_getR3 hC 0 fl_X9_9 rfl kk_2 (rf_2_0 hRF) dX9_byteAt_14 ?_
      refine x_alen2 hC kk_3 kn_3 (by decide) dX9_byteAt_17 ?_
      refine wm_icmp_ge (tgt := 34) hC dX9_byteAt_18 (by decide) hw (fun hw => ?_) (fun hw => ?_)
      · refine wm_iconst hC dX9_byteAt_34 (k := ?_)
        exact wm_ireturn hC hE dX9_byteAt_35 ⟨⟨rfl, rfl, rfl⟩, hw⟩
      · refine wm_aload_n hC 0 dX9_byteAt_21 rfl (k_ne0 kk_2 (by decide)) ?_
        refine x_getR3 hC 0 fl_X9_9 rfl kk_2 (rf_2_0 hRF) dX9_byteAt_22 ?_
        refine wm_iload_n hC 1 dX9_byteAt_25 rfl ?_
        refine x_bald2 hC kk_3 kn_3 dX9_byteAt_26 hw (fun hw => ?_)
        refine wm_sipush hC dX9_byteAt_27 (k := ?_)
        refine wm_iand hC dX9_byteAt_30 ?_
        refine wm_goto (tgt := 35) hC dX9_byteAt_31 (by decide) ?_
        exact wm_ireturn hC hE dX9_byteAt_35 ⟨⟨rfl, rfl, rfl⟩, hw⟩
def p10_cutNumber_b61 (l2 : Int) (l3 : Int) (I : mI) (Q : Int → mI → Prop) : Prop := (p9_byteAt (I 142 4) I (fun r4 => (p10_isDigit r4 (fun r5 => (if r5 = 0 then (p10_add 3 l3 l2 I (fun r6 I2 => (Q r6 I2))) else (p10_add 5 l2 (I 142 4) I (fun r7 I3 => (Q r7 I3))))))))
set_option maxRecDepth 20000 in
theorem w10_cutNumber_b61 {C : wX} {ad : Nat → Nat} {n : Nat} {I J : mI} {R : mR} {Q : Int → mI → Prop} (hC : wOK C cX10_cutNumber 4 RX10) (hRm : wRm C 2 35 0 0) (hE : wEnd C (some .int) ad n (fun r I' J' R' => (J' = J ∧ R' = R) ∧ Q r I')) (hRF : RF R) {l2 : Int} {l3 : Int}     (hw : p10_cutNumber_b61 l2 l3 I Q) : WM C ad n I J R 0 0 61 [(0, vr 142), (1, vr 2), (2, vi l2), (3, vi l3)] [] := by
  unfold p10_cutNumber_b61 at hw
  refine wm_aload_n hC 1 dX10_cutNumber_61 rfl (k_ne0 kk_2 (by decide)) ?_
  refine wm_aload_n hC 0 dX10_cutNumber_62 rfl (k_ne0 kk_142 (by decide)) ?_
  refine x_getI hC 4 fl_X10_25 rfl kk_142 dX10_cutNumber_63 ?_
  refine y_callV_i_n hC hRm noS ml_X10_36 kk_2 (c9_byteAt hRF  hw) (Nat.le_of_ble_eq_true rfl) (Nat.le_of_ble_eq_true rfl) ⟨Nat.zero_le _, Nat.zero_le _⟩ rfl (st := []) rfl (Nat.le_of_ble_eq_true rfl) dX10_cutNumber_66 (fun r4 hw => ?_)
  refine y_callS_z_n hC hRm noS ml_X10_59 (c10_isDigit hRF  hw) (Nat.le_of_ble_eq_true rfl) (Nat.le_of_ble_eq_true rfl) ⟨Nat.zero_le _, Nat.zero_le _⟩ rfl (st := []) rfl (Nat.le_of_ble_eq_true rfl) dX10_cutNumber_69 (fun r5 hw => ?_)
  refine wm_if_eq (tgt := 88) hC dX10_cutNumber_72 (by decide) hw (fun hw => ?_) (fun hw => ?_)
  · refine wm_aload_n hC 0 dX10_cutNumber_88 rfl (k_ne0 kk_142 (by decide)) ?_
    refine wm_iconst hC dX10_cutNumber_89 (k := ?_)
    refine wm_iload_n hC 3 dX10_cutNumber_90 rfl ?_
    refine wm_iload_n hC 2 dX10_cutNumber_91 rfl ?_
    refine y_callV_i_I hC hRm noS ml_X10_48 kk_142 (c10_add hRF  hw) (Nat.le_of_ble_eq_true rfl) (Nat.le_of_ble_eq_true rfl) ⟨Nat.zero_le _, Nat.zero_le _⟩ rfl (st := []) rfl (Nat.le_of_ble_eq_true rfl) dX10_cutNumber_92 (fun r6 I2 hw => ?_)
    exact wm_ireturn hC hE dX10_cutNumber_95 ⟨⟨rfl, rfl⟩, hw⟩
  · refine wm_aload_n hC 0 dX10_cutNumber_75 rfl (k_ne0 kk_142 (by decide)) ?_
    refine wm_iconst hC dX10_cutNumber_76 (k := ?_)
    refine wm_iload_n hC 2 dX10_cutNumber_77 rfl ?_
    refine wm_aload_n hC 0 dX10_cutNumber_78 rfl (k_ne0 kk_142 (by decide)) ?_
    refine x_getI hC 4 fl_X10_25 rfl kk_142 dX10_cutNumber_79 ?_
    refine y_callV_i_I hC hRm noS ml_X10_48 kk_142 (c10_add hRF  hw) (Nat.le_of_ble_eq_true rfl) (Nat.le_of_ble_eq_true rfl) ⟨Nat.zero_le _, Nat.zero_le _⟩ rfl (st := []) rfl (Nat.le_of_ble_eq_true rfl) dX10_cutNumber_82 (fun r7 I3 hw => ?_)
    refine wm_goto (tgt := 95) hC dX10_cutNumber_85 (by decide) ?_
    exact wm_ireturn hC hE dX10_cutNumber_95 ⟨⟨rfl, rfl⟩, hw⟩
def p10_cutNumber_b7_body (l2 : Int) (Q : Int → mI → Prop) (k7 : Int → mI → Prop) (l3 : Int) (I : mI) : Prop := (rg (l2 + 4) ∧ (if (l2 + 4) ≤ (I 142 4) then (p10_cutNumber_b61 l2 l3 I Q) else (p9_byteAt (I 142 4) I (fun r1 => (p10_isDigit r1 (fun r2 => (if r2 = 0 then (p10_cutNumber_b61 l2 l3 I Q) else (rg (l3 * 10) ∧ (p9_byteAt (I 142 4) I (fun r3 => (rg (r3 - 48) ∧ (rg ((l3 * 10) + (r3 - 48)) ∧ (wLet ((l3 * 10) + (r3 - 48)) (fun x1 => (rg ((I 142 4) + 1) ∧ (wLet (up I 142 4 ((I 142 4) + 1)) (fun I1 => (k7 x1 I1))))))))))))))))))
def p10_cutNumber_b7 (l2 : Int) (Q : Int → mI → Prop) : Nat → Int → mI → Prop
  | 0 => fun _ _ => False
  | f + 1 => fun l3 I => p10_cutNumber_b7_body l2 Q (p10_cutNumber_b7 l2 Q f) l3 I
set_option maxRecDepth 20000 in
theorem w10_cutNumber_b7_body {C : wX} {ad : Nat → Nat} {n : Nat} {I J : mI} {R : mR} {Q : Int → mI → Prop} (hC : wOK C cX10_cutNumber 4 RX10) (hRm : wRm C 2 35 0 0) (hE : wEnd C (some .int) ad n (fun r I' J' R' => (J' = J ∧ R' = R) ∧ Q r I')) (hRF : RF R) {l2 : Int} {l3 : Int}     {k7 : Int → mI → Prop} (kk7 : ∀ (y3 : Int) (I' : mI), k7 y3 I' → WM C ad n I' J R 0 0 7 [(0, vr 142), (1, vr 2), (2, vi l2), (3, vi y3)] []) (hw : p10_cutNumber_b7_body l2 Q k7 l3 I) : WM C ad n I J R 0 0 7 [(0, vr 142), (1, vr 2), (2, vi l2), (3, vi l3)] [] := by
  unfold p10_cutNumber_b7_body at hw
  refine wm_aload_n hC 0 dX10_cutNumber_7 rfl (k_ne0 kk_142 (by decide)) ?_
  refine x_getI hC 4 fl_X10_25 rfl kk_142 dX10_cutNumber_8 ?_
  refine wm_iload_n hC 2 dX10_cutNumber_11 rfl ?_
  refine wm_iconst hC dX10_cutNumber_12 (k := ?_)
  refine x_iadd hC dX10_cutNumber_13 hw (fun hw => ?_)
  refine wm_icmp_ge (tgt := 61) hC dX10_cutNumber_14 (by decide) hw (fun hw => ?_) (fun hw => ?_)
  · exact w10_cutNumber_b61 hC hRm hE hRF  hw
  · refine wm_aload_n hC 1 dX10_cutNumber_17 rfl (k_ne0 kk_2 (by decide)) ?_
    refine wm_aload_n hC 0 dX10_cutNumber_18 rfl (k_ne0 kk_142 (by decide)) ?_
    refine x_getI hC 4 fl_X10_25 rfl kk_142 dX10_cutNumber_19 ?_
    refine y_callV_i_n hC hRm noS ml_X10_36 kk_2 (c9_byteAt hRF  hw) (Nat.le_of_ble_eq_true rfl) (Nat.le_of_ble_eq_true rfl) ⟨Nat.zero_le _, Nat.zero_le _⟩ rfl (st := []) rfl (Nat.le_of_ble_eq_true rfl) dX10_cutNumber_22 (fun r1 hw => ?_)
    refine y_callS_z_n hC hRm noS ml_X10_59 (c10_isDigit hRF  hw) (Nat.le_of_ble_eq_true rfl) (Nat.le_of_ble_eq_true rfl) ⟨Nat.zero_le _, Nat.zero_le _⟩ rfl (st := []) rfl (Nat.le_of_ble_eq_true rfl) dX10_cutNumber_25 (fun r2 hw => ?_)
    refine wm_if_eq (tgt := 61) hC dX10_cutNumber_28 (by decide) hw (fun hw => ?_) (fun hw => ?_)
    · exact w10_cutNumber_b61 hC hRm hE hRF  hw
    · refine wm_iload_n hC 3 dX10_cutNumber_31 rfl ?_
      refine wm_bipush hC dX10_cutNumber_32 (k := ?_)
      refine x_imul hC dX10_cutNumber_34 hw (fun hw => ?_)
      refine wm_aload_n hC 1 dX10_cutNumber_35 rfl (k_ne0 kk_2 (by decide)) ?_
      refine wm_aload_n hC 0 dX10_cutNumber_36 rfl (k_ne0 kk_142 (by decide)) ?_
      refine x_getI hC 4 fl_X10_25 rfl kk_142 dX10_cutNumber_37 ?_
      refine y_callV_i_n hC hRm noS ml_X10_36 kk_2 (c9_byteAt hRF  hw) (Nat.le_of_ble_eq_true rfl) (Nat.le_of_ble_eq_true rfl) ⟨Nat.zero_le _, Nat.zero_le _⟩ rfl (st := [vi (l3 * 10)]) rfl (Nat.le_of_ble_eq_true rfl) dX10_cutNumber_40 (fun r3 hw => ?_)
      refine wm_bipush hC dX10_cutNumber_43 (k := ?_)
      refine x_isub hC dX10_cutNumber_45 hw (fun hw => ?_)
      refine x_iadd hC dX10_cutNumber_46 hw (fun hw => ?_)
      refine x_nameI hw (fun x1 hw => ?_)
      refine wm_istore_n hC dX10_cutNumber_47 (by decide) (L2 := [(3, vi x1), (0, vr 142), (1, vr 2), (2, vi l2)]) rfl ?_
      refine wm_aload_n hC 1 dX10_cutNumber_48 rfl (k_ne0 kk_142 (by decide)) ?_
      refine wm_dup hC dX10_cutNumber_49 (k := ?_)
      refine x_getI hC 4 fl_X10_25 rfl kk_142 dX10_cutNumber_50 ?_
      refine wm_iconst hC dX10_cutNumber_53 (k := ?_)
      refine x_iadd hC dX10_cutNumber_54 hw (fun hw => ?_)
      refine x_putI hC 4 fl_X10_25 rfl kk_142 dX10_cutNumber_55 hw (fun I1 hw => ?_)
      refine wm_goto (tgt := 7) hC dX10_cutNumber_58 (by decide) ?_
      refine wm_sub [1, 2, 3, 0] (L2 := [(0, vr 142), (1, vr 2), (2, vi l2), (3, vi x1)]) rfl ?_
      exact kk7 _ _ hw
set_option maxRecDepth 20000 in
theorem w10_cutNumber_b7 {C : wX} {ad : Nat → Nat} {n : Nat} {J : mI} {R : mR} {Q : Int → mI → Prop} (hC : wOK C cX10_cutNumber 4 RX10) (hRm : wRm C 2 35 0 0) (hE : wEnd C (some .int) ad n (fun r I' J' R' => (J' = J ∧ R' = R) ∧ Q r I')) (hRF : RF R) {l2 : Int}     : ∀ (f : Nat) (l3 : Int) (I : mI), p10_cutNumber_b7 l2 Q f l3 I → WM C ad n I J R 0 0 7 [(0, vr 142), (1, vr 2), (2, vi l2), (3, vi l3)] [] := by
  intro f
  induction f with
  | zero => intro l3 I hw; exact hw.elim
  | succ f ih => intro l3 I hw; exact w10_cutNumber_b7_body hC hRm hE hRF  (fun a0 a1 aw => ih a0 a1 aw) hw
def p10_cutNumber (I : mI) (Q : Int → mI → Prop) : Prop := (∃ f, p10_cutNumber_b7 (I 142 4) Q f 0 I)
set_option maxRecDepth 20000 in
theorem c10_cutNumber {ad : Nat → Nat} {n : Nat} {I J : mI} {R : mR} {Q : Int → mI → Prop}  (hRF : RF R)    (hw : p10_cutNumber I Q) : wMet yX10_cutNumber cX10_cutNumber 4 (some .int) 2 35 false ad n I J R [vr 142, vr 2] (fun r I' J' R' => (J' = J ∧ R' = R) ∧ Q r I') := by
  refine wMet_of (by decide) (Nat.le_of_ble_eq_true rfl) (fun C hC hRm hE hS => ?_)
  refine (show WM C ad n I J R 0 0 0 [(0, vr 142), (1, vr 2)] [] from ?_)
  unfold p10_cutNumber at hw
  refine wm_aload_n hC 0 dX10_cutNumber_0 rfl (k_ne0 kk_142 (by decide)) ?_
  refine x_getI hC 4 fl_X10_25 rfl kk_142 dX10_cutNumber_1 ?_
  refine wm_istore_n hC dX10_cutNumber_4 (by decide) (L2 := [(2, vi (I 142 4)), (0, vr 142), (1, vr 2)]) rfl ?_
  refine wm_iconst hC dX10_cutNumber_5 (k := ?_)
  refine wm_istore_n hC dX10_cutNumber_6 (by decide) (L2 := [(3, vi 0), (2, vi (I 142 4)), (0, vr 142), (1, vr 2)]) rfl ?_
  obtain ⟨f, hw⟩ := hw
  refine wm_sub [2, 3, 1, 0] (L2 := [(0, vr 142), (1, vr 2), (2, vi (I 142 4)), (3, vi 0)]) rfl ?_
  exact w10_cutNumber_b7 hC hRm hE hRF  f _ _ hw
def p10_isLetter (l0 : Int) (Q : Int → Prop) : Prop := (if l0 < 97 then (Q 0) else (if (122 : Int) < l0 then (Q 0) else (Q 1)))
set_option maxRecDepth 20000 in
theorem c10_isLetter {ad : Nat → Nat} {n : Nat} {I J : mI} {R : mR} {Q : Int → Prop}  (hRF : RF R) {l0 : Int}  (hw : p10_isLetter l0 Q) : wMet yX10_isLetter cX10_isLetter 1 (some .boolean) 1 12 false ad n I J R [vi l0] (fun r I' J' R' => (I' = I ∧ J' = J ∧ R' = R) ∧ Q r) := by
  refine wMet_of (by decide) (Nat.le_of_ble_eq_true rfl) (fun C hC hRm hE hS => ?_)
  refine (show WM C ad n I J R 0 0 0 [(0, vi l0)] [] from ?_)
  unfold p10_isLetter at hw
  refine wm_iload_n hC 0 dX10_isLetter_0 rfl ?_
  refine wm_bipush hC dX10_isLetter_1 (k := ?_)
  refine wm_icmp_lt (tgt := 16) hC dX10_isLetter_3 (by decide) hw (fun hw => ?_) (fun hw => ?_)
  · refine wm_iconst hC dX10_isLetter_16 (k := ?_)
    exact wm_zreturn hC hE (Or.inl rfl) dX10_isLetter_17 ⟨⟨rfl, rfl, rfl⟩, hw⟩
  · refine wm_iload_n hC 0 dX10_isLetter_6 rfl ?_
    refine wm_bipush hC dX10_isLetter_7 (k := ?_)
    refine wm_icmp_gt (tgt := 16) hC dX10_isLetter_9 (by decide) hw (fun hw => ?_) (fun hw => ?_)
    · refine wm_iconst hC dX10_isLetter_16 (k := ?_)
      exact wm_zreturn hC hE (Or.inl rfl) dX10_isLetter_17 ⟨⟨rfl, rfl, rfl⟩, hw⟩
    · refine wm_iconst hC dX10_isLetter_12 (k := ?_)
      refine wm_goto (tgt := 17) hC dX10_isLetter_13 (by decide) ?_
      exact wm_zreturn hC hE (Or.inr rfl) dX10_isLetter_17 ⟨⟨rfl, rfl, rfl⟩, hw⟩
def p6_ownNumber_b6_body (l0 : Int) (Q : Int → Prop) (k6 : Int → Int → Int → Prop) (l1 : Int) (l2 : Int) (l3 : Int) : Prop := (if (143 : Int) ≤ l3 then (Q (-1)) else (((0 : Int) ≤ l3 ∧ l3 < 143) ∧ (if (wch l3) = 32 then (if l1 = l0 then (Q l2) else (rg (l2 + 1) ∧ (rg (l3 + 1) ∧ (k6 0 (l2 + 1) (l3 + 1))))) else (rg (l1 * 27) ∧ (rg ((wch l3) - 97) ∧ (rg (((wch l3) - 97) + 1) ∧ (rg ((l1 * 27) + (((wch l3) - 97) + 1)) ∧ (wLet ((l1 * 27) + (((wch l3) - 97) + 1)) (fun x1 => (rg (l3 + 1) ∧ (k6 x1 l2 (l3 + 1))))))))))))
def p6_ownNumber_b6 (l0 : Int) (Q : Int → Prop) : Nat → Int → Int → Int → Prop
  | 0 => fun _ _ _ => False
  | f + 1 => fun l1 l2 l3 => p6_ownNumber_b6_body l0 Q (p6_ownNumber_b6 l0 Q f) l1 l2 l3
set_option maxRecDepth 20000 in
theorem w6_ownNumber_b6_body {C : wX} {ad : Nat → Nat} {n : Nat} {I J : mI} {R : mR} {Q : Int → Prop} (hC : wOK C cX6_ownNumber 5 RX6) (hRm : wRm C 5 97 0 0) (hE : wEnd C (some .int) ad n (fun r I' J' R' => (I' = I ∧ J' = J ∧ R' = R) ∧ Q r)) (hRF : RF R) (hStr : wStrC C ad) {l0 : Int} {l1 : Int} {l2 : Int} {l3 : Int}     {k6 : Int → Int → Int → Prop} (kk6 : ∀ (y1 : Int) (y2 : Int) (y3 : Int), k6 y1 y2 y3 → WM C ad n I J R 0 0 6 [(0, vi l0), (1, vi y1), (2, vi y2), (3, vi y3)] []) (hw : p6_ownNumber_b6_body l0 Q k6 l1 l2 l3) : WM C ad n I J R 0 0 6 [(0, vi l0), (1, vi l1), (2, vi l2), (3, vi l3)] [] := by
  unfold p6_ownNumber_b6_body at hw
  refine wm_iload_n hC 3 dX6_ownNumber_6 rfl ?_
  refine wm_ldcW hC hStr dX6_ownNumber_7 (k := ?_)
  refine x_slen hC hRm hStr ml_X6_69 (st := [vi l3]) (Nat.le_of_ble_eq_true rfl) (Nat.le_of_ble_eq_true rfl) (Nat.le_of_ble_eq_true rfl) dX6_ownNumber_9 ?_
  refine wm_icmp_ge (tgt := 64) hC dX6_ownNumber_12 (by decide) hw (fun hw => ?_) (fun hw => ?_)
  · refine wm_iconst hC dX6_ownNumber_64 (k := ?_)
    exact wm_ireturn hC hE dX6_ownNumber_65 ⟨⟨rfl, rfl, rfl⟩, hw⟩
  · refine wm_ldcW hC hStr dX6_ownNumber_15 (k := ?_)
    refine wm_iload_n hC 3 dX6_ownNumber_17 rfl ?_
    refine x_sch hC hRm hStr ml_X6_74 (st := []) (Nat.le_of_ble_eq_true rfl) (Nat.le_of_ble_eq_true rfl) (Nat.le_of_ble_eq_true rfl) dX6_ownNumber_18 hw (fun hw => ?_)
    refine wm_istore hC dX6_ownNumber_21 (by decide) (L2 := [(4, vi (wch l3)), (0, vi l0), (1, vi l1), (2, vi l2), (3, vi l3)]) rfl ?_
    refine wm_iload hC 0 dX6_ownNumber_23 rfl ?_
    refine wm_bipush hC dX6_ownNumber_25 (k := ?_)
    refine wm_icmp_eq (tgt := 46) hC dX6_ownNumber_27 (by decide) hw (fun hw => ?_) (fun hw => ?_)
    · refine wm_iload_n hC 2 dX6_ownNumber_46 rfl ?_
      refine wm_iload_n hC 1 dX6_ownNumber_47 rfl ?_
      refine wm_icmp_ne (tgt := 53) hC dX6_ownNumber_48 (by decide) hw (fun hw => ?_) (fun hw => ?_)
      · refine wm_iload_n hC 3 dX6_ownNumber_51 rfl ?_
        exact wm_ireturn hC hE dX6_ownNumber_52 ⟨⟨rfl, rfl, rfl⟩, hw⟩
      · refine wm_iconst hC dX6_ownNumber_53 (k := ?_)
        refine wm_istore_n hC dX6_ownNumber_54 (by decide) (L2 := [(1, vi 0), (4, vi (wch l3)), (0, vi l0), (2, vi l2), (3, vi l3)]) rfl ?_
        refine x_iinc hC 3 dX6_ownNumber_55 rfl (by decide) (L2 := [(2, vi (l2 + 1)), (1, vi 0), (4, vi (wch l3)), (0, vi l0), (3, vi l3)]) rfl hw (fun hw => ?_)
        refine x_iinc hC 4 dX6_ownNumber_58 rfl (by decide) (L2 := [(3, vi (l3 + 1)), (2, vi (l2 + 1)), (1, vi 0), (4, vi (wch l3)), (0, vi l0)]) rfl hw (fun hw => ?_)
        refine wm_goto (tgt := 6) hC dX6_ownNumber_61 (by decide) ?_
        refine wm_sub [4, 2, 1, 0] (L2 := [(0, vi l0), (1, vi 0), (2, vi (l2 + 1)), (3, vi (l3 + 1))]) rfl ?_
        exact kk6 _ _ _ hw
    · refine wm_iload_n hC 2 dX6_ownNumber_30 rfl ?_
      refine wm_bipush hC dX6_ownNumber_31 (k := ?_)
      refine x_imul hC dX6_ownNumber_33 hw (fun hw => ?_)
      refine wm_iload hC 0 dX6_ownNumber_34 rfl ?_
      refine wm_bipush hC dX6_ownNumber_36 (k := ?_)
      refine x_isub hC dX6_ownNumber_38 hw (fun hw => ?_)
      refine wm_iconst hC dX6_ownNumber_39 (k := ?_)
      refine x_iadd hC dX6_ownNumber_40 hw (fun hw => ?_)
      refine x_iadd hC dX6_ownNumber_41 hw (fun hw => ?_)
      refine x_nameI hw (fun x1 hw => ?_)
      refine wm_istore_n hC dX6_ownNumber_42 (by decide) (L2 := [(1, vi x1), (4, vi (wch l3)), (0, vi l0), (2, vi l2), (3, vi l3)]) rfl ?_
      refine wm_goto (tgt := 58) hC dX6_ownNumber_43 (by decide) ?_
      refine x_iinc hC 4 dX6_ownNumber_58 rfl (by decide) (L2 := [(3, vi (l3 + 1)), (1, vi x1), (4, vi (wch l3)), (0, vi l0), (2, vi l2)]) rfl hw (fun hw => ?_)
      refine wm_goto (tgt := 6) hC dX6_ownNumber_61 (by decide) ?_
      refine wm_sub [3, 1, 4, 0] (L2 := [(0, vi l0), (1, vi x1), (2, vi l2), (3, vi (l3 + 1))]) rfl ?_
      exact kk6 _ _ _ hw
set_option maxRecDepth 20000 in
theorem w6_ownNumber_b6 {C : wX} {ad : Nat → Nat} {n : Nat} {I : mI} {J : mI} {R : mR} {Q : Int → Prop} (hC : wOK C cX6_ownNumber 5 RX6) (hRm : wRm C 5 97 0 0) (hE : wEnd C (some .int) ad n (fun r I' J' R' => (I' = I ∧ J' = J ∧ R' = R) ∧ Q r)) (hRF : RF R) (hStr : wStrC C ad) {l0 : Int}     : ∀ (f : Nat) (l1 : Int) (l2 : Int) (l3 : Int), p6_ownNumber_b6 l0 Q f l1 l2 l3 → WM C ad n I J R 0 0 6 [(0, vi l0), (1, vi l1), (2, vi l2), (3, vi l3)] [] := by
  intro f
  induction f with
  | zero => intro l1 l2 l3 hw; exact hw.elim
  | succ f ih => intro l1 l2 l3 hw; exact w6_ownNumber_b6_body hC hRm hE hRF hStr  (fun a0 a1 a2 aw => ih a0 a1 a2 aw) hw
def p6_ownNumber (l0 : Int) (Q : Int → Prop) : Prop := (∃ f, p6_ownNumber_b6 l0 Q f 0 0 0)
set_option maxRecDepth 20000 in
theorem c6_ownNumber {ad : Nat → Nat} {n : Nat} {I J : mI} {R : mR} {Q : Int → Prop}  (hRF : RF R) {l0 : Int}  (hw : p6_ownNumber l0 Q) : wMet yX6_ownNumber cX6_ownNumber 5 (some .int) 5 97 true ad n I J R [vi l0] (fun r I' J' R' => (I' = I ∧ J' = J ∧ R' = R) ∧ Q r) := by
  refine wMet_of (by decide) (Nat.le_of_ble_eq_true rfl) (fun C hC hRm hE hS => ?_)
  have hStr := hS rfl
  refine (show WM C ad n I J R 0 0 0 [(0, vi l0)] [] from ?_)
  unfold p6_ownNumber at hw
  refine wm_iconst hC dX6_ownNumber_0 (k := ?_)
  refine wm_istore_n hC dX6_ownNumber_1 (by decide) (L2 := [(1, vi 0), (0, vi l0)]) rfl ?_
  refine wm_iconst hC dX6_ownNumber_2 (k := ?_)
  refine wm_istore_n hC dX6_ownNumber_3 (by decide) (L2 := [(2, vi 0), (1, vi 0), (0, vi l0)]) rfl ?_
  refine wm_iconst hC dX6_ownNumber_4 (k := ?_)
  refine wm_istore_n hC dX6_ownNumber_5 (by decide) (L2 := [(3, vi 0), (2, vi 0), (1, vi 0), (0, vi l0)]) rfl ?_
  obtain ⟨f, hw⟩ := hw
  refine wm_sub [3, 2, 1, 0] (L2 := [(0, vi l0), (1, vi 0), (2, vi 0), (3, vi 0)]) rfl ?_
  exact w6_ownNumber_b6 hC hRm hE hRF hStr  f _ _ _ hw
def p10_cutWord_b64 (l2 : Int) (l3 : Int) (I : mI) (Q : Int → mI → Prop) : Prop := (p9_byteAt (I 142 4) I (fun r4 => (p10_isLetter r4 (fun r5 => (if r5 = 0 then (p6_ownNumber l3 (fun r6 => (if r6 = (-1) then (p10_add 2 l3 l2 I (fun r8 I3 => (Q r8 I3))) else (p10_add 1 r6 l2 I (fun r7 I2 => (Q r7 I2)))))) else (p10_add 5 l2 (I 142 4) I (fun r9 I4 => (Q r9 I4))))))))
set_option maxRecDepth 20000 in
theorem w10_cutWord_b64 {C : wX} {ad : Nat → Nat} {n : Nat} {I J : mI} {R : mR} {Q : Int → mI → Prop} (hC : wOK C cX10_cutWord 5 RX10) (hRm : wRm C 6 121 0 0) (hE : wEnd C (some .int) ad n (fun r I' J' R' => (J' = J ∧ R' = R) ∧ Q r I')) (hRF : RF R) (hStr : wStrC C ad) {l2 : Int} {l3 : Int}     (hw : p10_cutWord_b64 l2 l3 I Q) : WM C ad n I J R 0 0 64 [(0, vr 142), (1, vr 2), (2, vi l2), (3, vi l3)] [] := by
  unfold p10_cutWord_b64 at hw
  refine wm_aload_n hC 1 dX10_cutWord_64 rfl (k_ne0 kk_2 (by decide)) ?_
  refine wm_aload_n hC 0 dX10_cutWord_65 rfl (k_ne0 kk_142 (by decide)) ?_
  refine x_getI hC 4 fl_X10_25 rfl kk_142 dX10_cutWord_66 ?_
  refine y_callV_i_n hC hRm noS ml_X10_36 kk_2 (c9_byteAt hRF  hw) (Nat.le_of_ble_eq_true rfl) (Nat.le_of_ble_eq_true rfl) ⟨Nat.zero_le _, Nat.zero_le _⟩ rfl (st := []) rfl (Nat.le_of_ble_eq_true rfl) dX10_cutWord_69 (fun r4 hw => ?_)
  refine y_callS_z_n hC hRm noS ml_X10_52 (c10_isLetter hRF  hw) (Nat.le_of_ble_eq_true rfl) (Nat.le_of_ble_eq_true rfl) ⟨Nat.zero_le _, Nat.zero_le _⟩ rfl (st := []) rfl (Nat.le_of_ble_eq_true rfl) dX10_cutWord_72 (fun r5 hw => ?_)
  refine wm_if_eq (tgt := 89) hC dX10_cutWord_75 (by decide) hw (fun hw => ?_) (fun hw => ?_)
  · refine wm_iload_n hC 3 dX10_cutWord_89 rfl ?_
    refine y_callS_i_n hC hRm (fun _ => hStr) ml_X10_72 (c6_ownNumber hRF  hw) (Nat.le_of_ble_eq_true rfl) (Nat.le_of_ble_eq_true rfl) ⟨Nat.zero_le _, Nat.zero_le _⟩ rfl (st := []) rfl (Nat.le_of_ble_eq_true rfl) dX10_cutWord_90 (fun r6 hw => ?_)
    refine wm_istore hC dX10_cutWord_93 (by decide) (L2 := [(4, vi r6), (0, vr 142), (1, vr 2), (2, vi l2), (3, vi l3)]) rfl ?_
    refine wm_iload hC 0 dX10_cutWord_95 rfl ?_
    refine wm_iconst hC dX10_cutWord_97 (k := ?_)
    refine wm_icmp_ne (tgt := 111) hC dX10_cutWord_98 (by decide) hw (fun hw => ?_) (fun hw => ?_)
    · refine wm_aload_n hC 1 dX10_cutWord_101 rfl (k_ne0 kk_142 (by decide)) ?_
      refine wm_iconst hC dX10_cutWord_102 (k := ?_)
      refine wm_iload_n hC 4 dX10_cutWord_103 rfl ?_
      refine wm_iload_n hC 3 dX10_cutWord_104 rfl ?_
      refine y_callV_i_I hC hRm noS ml_X10_48 kk_142 (c10_add hRF  hw) (Nat.le_of_ble_eq_true rfl) (Nat.le_of_ble_eq_true rfl) ⟨Nat.zero_le _, Nat.zero_le _⟩ rfl (st := []) rfl (Nat.le_of_ble_eq_true rfl) dX10_cutWord_105 (fun r8 I3 hw => ?_)
      refine wm_goto (tgt := 119) hC dX10_cutWord_108 (by decide) ?_
      exact wm_ireturn hC hE dX10_cutWord_119 ⟨⟨rfl, rfl⟩, hw⟩
    · refine wm_aload_n hC 1 dX10_cutWord_111 rfl (k_ne0 kk_142 (by decide)) ?_
      refine wm_iconst hC dX10_cutWord_112 (k := ?_)
      refine wm_iload hC 0 dX10_cutWord_113 rfl ?_
      refine wm_iload_n hC 3 dX10_cutWord_115 rfl ?_
      refine y_callV_i_I hC hRm noS ml_X10_48 kk_142 (c10_add hRF  hw) (Nat.le_of_ble_eq_true rfl) (Nat.le_of_ble_eq_true rfl) ⟨Nat.zero_le _, Nat.zero_le _⟩ rfl (st := []) rfl (Nat.le_of_ble_eq_true rfl) dX10_cutWord_116 (fun r7 I2 hw => ?_)
      exact wm_ireturn hC hE dX10_cutWord_119 ⟨⟨rfl, rfl⟩, hw⟩
  · refine wm_aload_n hC 0 dX10_cutWord_78 rfl (k_ne0 kk_142 (by decide)) ?_
    refine wm_iconst hC dX10_cutWord_79 (k := ?_)
    refine wm_iload_n hC 2 dX10_cutWord_80 rfl ?_
    refine wm_aload_n hC 0 dX10_cutWord_81 rfl (k_ne0 kk_142 (by decide)) ?_
    refine x_getI hC 4 fl_X10_25 rfl kk_142 dX10_cutWord_82 ?_
    refine y_callV_i_I hC hRm noS ml_X10_48 kk_142 (c10_add hRF  hw) (Nat.le_of_ble_eq_true rfl) (Nat.le_of_ble_eq_true rfl) ⟨Nat.zero_le _, Nat.zero_le _⟩ rfl (st := []) rfl (Nat.le_of_ble_eq_true rfl) dX10_cutWord_85 (fun r9 I4 hw => ?_)
    exact wm_ireturn hC hE dX10_cutWord_88 ⟨⟨rfl, rfl⟩, hw⟩
def p10_cutWord_b7_body (l2 : Int) (Q : Int → mI → Prop) (k7 : Int → mI → Prop) (l3 : Int) (I : mI) : Prop := (rg (l2 + 6) ∧ (if (l2 + 6) ≤ (I 142 4) then (p10_cutWord_b64 l2 l3 I Q) else (p9_byteAt (I 142 4) I (fun r1 => (p10_isLetter r1 (fun r2 => (if r2 = 0 then (p10_cutWord_b64 l2 l3 I Q) else (rg (l3 * 27) ∧ (p9_byteAt (I 142 4) I (fun r3 => (rg (r3 - 97) ∧ (rg ((r3 - 97) + 1) ∧ (rg ((l3 * 27) + ((r3 - 97) + 1)) ∧ (wLet ((l3 * 27) + ((r3 - 97) + 1)) (fun x1 => (rg ((I 142 4) + 1) ∧ (wLet (up I 142 4 ((I 142 4) + 1)) (fun I1 => (k7 x1 I1)))))))))))))))))))
def p10_cutWord_b7 (l2 : Int) (Q : Int → mI → Prop) : Nat → Int → mI → Prop
  | 0 => fun _ _ => False
  | f + 1 => fun l3 I => p10_cutWord_b7_body l2 Q (p10_cutWord_b7 l2 Q f) l3 I
set_option maxRecDepth 20000 in
theorem w10_cutWord_b7_body {C : wX} {ad : Nat → Nat} {n : Nat} {I J : mI} {R : mR} {Q : Int → mI → Prop} (hC : wOK C cX10_cutWord 5 RX10) (hRm : wRm C 6 121 0 0) (hE : wEnd C (some .int) ad n (fun r I' J' R' => (J' = J ∧ R' = R) ∧ Q r I')) (hRF : RF R) (hStr : wStrC C ad) {l2 : Int} {l3 : Int}     {k7 : Int → mI → Prop} (kk7 : ∀ (y3 : Int) (I' : mI), k7 y3 I' → WM C ad n I' J R 0 0 7 [(0, vr 142), (1, vr 2), (2, vi l2), (3, vi y3)] []) (hw : p10_cutWord_b7_body l2 Q k7 l3 I) : WM C ad n I J R 0 0 7 [(0, vr 142), (1, vr 2), (2, vi l2), (3, vi l3)] [] := by
  unfold p10_cutWord_b7_body at hw
  refine wm_aload_n hC 0 dX10_cutWord_7 rfl (k_ne0 kk_142 (by decide)) ?_
  refine x_getI hC 4 fl_X10_25 rfl kk_142 dX10_cutWord_8 ?_
  refine wm_iload_n hC 2 dX10_cutWord_11 rfl ?_
  refine wm_bipush hC dX10_cutWord_12 (k := ?_)
  refine x_iadd hC dX10_cutWord_14 hw (fun hw => ?_)
  refine wm_icmp_ge (tgt := 64) hC dX10_cutWord_15 (by decide) hw (fun hw => ?_) (fun hw => ?_)
  · exact w10_cutWord_b64 hC hRm hE hRF hStr  hw
  · refine wm_aload_n hC 1 dX10_cutWord_18 rfl (k_ne0 kk_2 (by decide)) ?_
    refine wm_aload_n hC 0 dX10_cutWord_19 rfl (k_ne0 kk_142 (by decide)) ?_
    refine x_getI hC 4 fl_X10_25 rfl kk_142 dX10_cutWord_20 ?_
    refine y_callV_i_n hC hRm noS ml_X10_36 kk_2 (c9_byteAt hRF  hw) (Nat.le_of_ble_eq_true rfl) (Nat.le_of_ble_eq_true rfl) ⟨Nat.zero_le _, Nat.zero_le _⟩ rfl (st := []) rfl (Nat.le_of_ble_eq_true rfl) dX10_cutWord_23 (fun r1 hw => ?_)
    refine y_callS_z_n hC hRm noS ml_X10_52 (c10_isLetter hRF  hw) (Nat.le_of_ble_eq_true rfl) (Nat.le_of_ble_eq_true rfl) ⟨Nat.zero_le _, Nat.zero_le _⟩ rfl (st := []) rfl (Nat.le_of_ble_eq_true rfl) dX10_cutWord_26 (fun r2 hw => ?_)
    refine wm_if_eq (tgt := 64) hC dX10_cutWord_29 (by decide) hw (fun hw => ?_) (fun hw => ?_)
    · exact w10_cutWord_b64 hC hRm hE hRF hStr  hw
    · refine wm_iload_n hC 3 dX10_cutWord_32 rfl ?_
      refine wm_bipush hC dX10_cutWord_33 (k := ?_)
      refine x_imul hC dX10_cutWord_35 hw (fun hw => ?_)
      refine wm_aload_n hC 1 dX10_cutWord_36 rfl (k_ne0 kk_2 (by decide)) ?_
      refine wm_aload_n hC 0 dX10_cutWord_37 rfl (k_ne0 kk_142 (by decide)) ?_
      refine x_getI hC 4 fl_X10_25 rfl kk_142 dX10_cutWord_38 ?_
      refine y_callV_i_n hC hRm noS ml_X10_36 kk_2 (c9_byteAt hRF  hw) (Nat.le_of_ble_eq_true rfl) (Nat.le_of_ble_eq_true rfl) ⟨Nat.zero_le _, Nat.zero_le _⟩ rfl (st := [vi (l3 * 27)]) rfl (Nat.le_of_ble_eq_true rfl) dX10_cutWord_41 (fun r3 hw => ?_)
      refine wm_bipush hC dX10_cutWord_44 (k := ?_)
      refine x_isub hC dX10_cutWord_46 hw (fun hw => ?_)
      refine wm_iconst hC dX10_cutWord_47 (k := ?_)
      refine x_iadd hC dX10_cutWord_48 hw (fun hw => ?_)
      refine x_iadd hC dX10_cutWord_49 hw (fun hw => ?_)
      refine x_nameI hw (fun x1 hw => ?_)
      refine wm_istore_n hC dX10_cutWord_50 (by decide) (L2 := [(3, vi x1), (0, vr 142), (1, vr 2), (2, vi l2)]) rfl ?_
      refine wm_aload_n hC 1 dX10_cutWord_51 rfl (k_ne0 kk_142 (by decide)) ?_
      refine wm_dup hC dX10_cutWord_52 (k := ?_)
      refine x_getI hC 4 fl_X10_25 rfl kk_142 dX10_cutWord_53 ?_
      refine wm_iconst hC dX10_cutWord_56 (k := ?_)
      refine x_iadd hC dX10_cutWord_57 hw (fun hw => ?_)
      refine x_putI hC 4 fl_X10_25 rfl kk_142 dX10_cutWord_58 hw (fun I1 hw => ?_)
      refine wm_goto (tgt := 7) hC dX10_cutWord_61 (by decide) ?_
      refine wm_sub [1, 2, 3, 0] (L2 := [(0, vr 142), (1, vr 2), (2, vi l2), (3, vi x1)]) rfl ?_
      exact kk7 _ _ hw
set_option maxRecDepth 20000 in
theorem w10_cutWord_b7 {C : wX} {ad : Nat → Nat} {n : Nat} {J : mI} {R : mR} {Q : Int → mI → Prop} (hC : wOK C cX10_cutWord 5 RX10) (hRm : wRm C 6 121 0 0) (hE : wEnd C (some .int) ad n (fun r I' J' R' => (J' = J ∧ R' = R) ∧ Q r I')) (hRF : RF R) (hStr : wStrC C ad) {l2 : Int}     : ∀ (f : Nat) (l3 : Int) (I : mI), p10_cutWord_b7 l2 Q f l3 I → WM C ad n I J R 0 0 7 [(0, vr 142), (1, vr 2), (2, vi l2), (3, vi l3)] [] := by
  intro f
  induction f with
  | zero => intro l3 I hw; exact hw.elim
  | succ f ih => intro l3 I hw; exact w10_cutWord_b7_body hC hRm hE hRF hStr  (fun a0 a1 aw => ih a0 a1 aw) hw
def p10_cutWord (I : mI) (Q : Int → mI → Prop) : Prop := (∃ f, p10_cutWord_b7 (I 142 4) Q f 0 I)
set_option maxRecDepth 20000 in
theorem c10_cutWord {ad : Nat → Nat} {n : Nat} {I J : mI} {R : mR} {Q : Int → mI → Prop}  (hRF : RF R)    (hw : p10_cutWord I Q) : wMet yX10_cutWord cX10_cutWord 5 (some .int) 6 121 true ad n I J R [vr 142, vr 2] (fun r I' J' R' => (J' = J ∧ R' = R) ∧ Q r I') := by
  refine wMet_of (by decide) (Nat.le_of_ble_eq_true rfl) (fun C hC hRm hE hS => ?_)
  have hStr := hS rfl
  refine (show WM C ad n I J R 0 0 0 [(0, vr 142), (1, vr 2)] [] from ?_)
  unfold p10_cutWord at hw
  refine wm_aload_n hC 0 dX10_cutWord_0 rfl (k_ne0 kk_142 (by decide)) ?_
  refine x_getI hC 4 fl_X10_25 rfl kk_142 dX10_cutWord_1 ?_
  refine wm_istore_n hC dX10_cutWord_4 (by decide) (L2 := [(2, vi (I 142 4)), (0, vr 142), (1, vr 2)]) rfl ?_
  refine wm_iconst hC dX10_cutWord_5 (k := ?_)
  refine wm_istore_n hC dX10_cutWord_6 (by decide) (L2 := [(3, vi 0), (2, vi (I 142 4)), (0, vr 142), (1, vr 2)]) rfl ?_
  obtain ⟨f, hw⟩ := hw
  refine wm_sub [2, 3, 1, 0] (L2 := [(0, vr 142), (1, vr 2), (2, vi (I 142 4)), (3, vi 0)]) rfl ?_
  exact w10_cutWord_b7 hC hRm hE hRF hStr  f _ _ hw
def p10_cutOne_b59 (l3 : Int) (I : mI) (Q : Int → mI → Prop) : Prop := (if (0 : Int) ≤ (sgx (nC l3)) then (rg ((I 142 4) + 1) ∧ (wLet (up I 142 4 ((I 142 4) + 1)) (fun I4 => (rg ((I4 142 4) - 1) ∧ (p10_add 4 l3 ((I4 142 4) - 1) I4 (fun r7 I5 => (Q r7 I5))))))) else (p10_add 5 (I 142 4) (I 142 4) I (fun r8 I6 => (Q r8 I6))))
set_option maxRecDepth 20000 in
theorem w10_cutOne_b59 {C : wX} {ad : Nat → Nat} {n : Nat} {I J : mI} {R : mR} {Q : Int → mI → Prop} (hC : wOK C cX10_cutOne 4 RX10) (hRm : wRm C 7 145 0 0) (hE : wEnd C (some .int) ad n (fun r I' J' R' => (J' = J ∧ R' = R) ∧ Q r I')) (hRF : RF R) (hStr : wStrC C ad) {l3 : Int}     (hw : p10_cutOne_b59 l3 I Q) : WM C ad n I J R 0 0 59 [(0, vr 142), (3, vi l3)] [] := by
  unfold p10_cutOne_b59 at hw
  refine wm_ldcG hC hStr dX10_cutOne_59 (k := ?_)
  refine wm_iload_n hC 1 dX10_cutOne_61 rfl ?_
  refine wm_i2c hC dX10_cutOne_62 ?_
  refine x_six hC hRm hStr ml_X10_67 (st := []) (Nat.le_of_ble_eq_true rfl) (Nat.le_of_ble_eq_true rfl) (Nat.le_of_ble_eq_true rfl) dX10_cutOne_63 ?_
  refine wm_if_ge (tgt := 83) hC dX10_cutOne_66 (by decide) hw (fun hw => ?_) (fun hw => ?_)
  · refine wm_aload_n hC 0 dX10_cutOne_83 rfl (k_ne0 kk_142 (by decide)) ?_
    refine wm_dup hC dX10_cutOne_84 (k := ?_)
    refine x_getI hC 4 fl_X10_25 rfl kk_142 dX10_cutOne_85 ?_
    refine wm_iconst hC dX10_cutOne_88 (k := ?_)
    refine x_iadd hC dX10_cutOne_89 hw (fun hw => ?_)
    refine x_putI hC 4 fl_X10_25 rfl kk_142 dX10_cutOne_90 hw (fun I4 hw => ?_)
    refine wm_aload_n hC 0 dX10_cutOne_93 rfl (k_ne0 kk_142 (by decide)) ?_
    refine wm_iconst hC dX10_cutOne_94 (k := ?_)
    refine wm_iload_n hC 1 dX10_cutOne_95 rfl ?_
    refine wm_aload_n hC 0 dX10_cutOne_96 rfl (k_ne0 kk_142 (by decide)) ?_
    refine x_getI hC 4 fl_X10_25 rfl kk_142 dX10_cutOne_97 ?_
    refine wm_iconst hC dX10_cutOne_100 (k := ?_)
    refine x_isub hC dX10_cutOne_101 hw (fun hw => ?_)
    refine y_callV_i_I hC hRm noS ml_X10_48 kk_142 (c10_add hRF  hw) (Nat.le_of_ble_eq_true rfl) (Nat.le_of_ble_eq_true rfl) ⟨Nat.zero_le _, Nat.zero_le _⟩ rfl (st := []) rfl (Nat.le_of_ble_eq_true rfl) dX10_cutOne_102 (fun r7 I5 hw => ?_)
    exact wm_ireturn hC hE dX10_cutOne_105 ⟨⟨rfl, rfl⟩, hw⟩
  · refine wm_aload_n hC 0 dX10_cutOne_69 rfl (k_ne0 kk_142 (by decide)) ?_
    refine wm_iconst hC dX10_cutOne_70 (k := ?_)
    refine wm_aload_n hC 0 dX10_cutOne_71 rfl (k_ne0 kk_142 (by decide)) ?_
    refine x_getI hC 4 fl_X10_25 rfl kk_142 dX10_cutOne_72 ?_
    refine wm_aload_n hC 0 dX10_cutOne_75 rfl (k_ne0 kk_142 (by decide)) ?_
    refine x_getI hC 4 fl_X10_25 rfl kk_142 dX10_cutOne_76 ?_
    refine y_callV_i_I hC hRm noS ml_X10_48 kk_142 (c10_add hRF  hw) (Nat.le_of_ble_eq_true rfl) (Nat.le_of_ble_eq_true rfl) ⟨Nat.zero_le _, Nat.zero_le _⟩ rfl (st := []) rfl (Nat.le_of_ble_eq_true rfl) dX10_cutOne_79 (fun r8 I6 hw => ?_)
    exact wm_ireturn hC hE dX10_cutOne_82 ⟨⟨rfl, rfl⟩, hw⟩
def p10_cutOne_b42 (l2 : Int) (l3 : Int) (I : mI) (Q : Int → mI → Prop) : Prop := (p10_isDigit l3 (fun r5 => (if r5 = 0 then (p10_cutOne_b59 l3 I Q) else (if l2 = 0 then (p10_cutNumber I (fun r6 I3 => (Q r6 I3))) else (p10_cutOne_b59 l3 I Q)))))
set_option maxRecDepth 20000 in
theorem w10_cutOne_b42 {C : wX} {ad : Nat → Nat} {n : Nat} {I J : mI} {R : mR} {Q : Int → mI → Prop} (hC : wOK C cX10_cutOne 4 RX10) (hRm : wRm C 7 145 0 0) (hE : wEnd C (some .int) ad n (fun r I' J' R' => (J' = J ∧ R' = R) ∧ Q r I')) (hRF : RF R) (hStr : wStrC C ad) {l2 : Int} {l3 : Int}     (hw : p10_cutOne_b42 l2 l3 I Q) : WM C ad n I J R 0 0 42 [(0, vr 142), (1, vr 2), (2, vi l2), (3, vi l3)] [] := by
  unfold p10_cutOne_b42 at hw
  refine wm_iload_n hC 3 dX10_cutOne_42 rfl ?_
  refine y_callS_z_n hC hRm noS ml_X10_59 (c10_isDigit hRF  hw) (Nat.le_of_ble_eq_true rfl) (Nat.le_of_ble_eq_true rfl) ⟨Nat.zero_le _, Nat.zero_le _⟩ rfl (st := []) rfl (Nat.le_of_ble_eq_true rfl) dX10_cutOne_43 (fun r5 hw => ?_)
  refine wm_if_eq (tgt := 59) hC dX10_cutOne_46 (by decide) hw (fun hw => ?_) (fun hw => ?_)
  · refine wm_sub [0, 3] (L2 := [(0, vr 142), (3, vi l3)]) rfl ?_
    exact w10_cutOne_b59 hC hRm hE hRF hStr  hw
  · refine wm_iload_n hC 2 dX10_cutOne_49 rfl ?_
    refine wm_if_ne (tgt := 59) hC dX10_cutOne_50 (by decide) hw (fun hw => ?_) (fun hw => ?_)
    · refine wm_aload_n hC 0 dX10_cutOne_53 rfl (k_ne0 kk_142 (by decide)) ?_
      refine wm_aload_n hC 1 dX10_cutOne_54 rfl (k_ne0 kk_2 (by decide)) ?_
      refine y_callV_i_I hC hRm noS ml_X10_62 kk_142 (c10_cutNumber hRF  hw) (Nat.le_of_ble_eq_true rfl) (Nat.le_of_ble_eq_true rfl) ⟨Nat.zero_le _, Nat.zero_le _⟩ rfl (st := []) rfl (Nat.le_of_ble_eq_true rfl) dX10_cutOne_55 (fun r6 I3 hw => ?_)
      exact wm_ireturn hC hE dX10_cutOne_58 ⟨⟨rfl, rfl⟩, hw⟩
    · refine wm_sub [0, 3] (L2 := [(0, vr 142), (3, vi l3)]) rfl ?_
      exact w10_cutOne_b59 hC hRm hE hRF hStr  hw
def p10_cutOne (l2 : Int) (I : mI) (Q : Int → mI → Prop) : Prop := (p9_byteAt (I 142 4) I (fun r1 => (if r1 = (-1) then (p10_add 0 0 (I 142 4) I (fun r4 I2 => (Q r4 I2))) else (p10_isLetter r1 (fun r2 => (if r2 = 0 then (p10_cutOne_b42 l2 r1 I Q) else (if l2 = 0 then (p10_cutWord I (fun r3 I1 => (Q r3 I1))) else (p10_cutOne_b42 l2 r1 I Q))))))))
set_option maxRecDepth 20000 in
theorem c10_cutOne {ad : Nat → Nat} {n : Nat} {I J : mI} {R : mR} {Q : Int → mI → Prop}  (hRF : RF R) {l2 : Int}    (hw : p10_cutOne l2 I Q) : wMet yX10_cutOne cX10_cutOne 4 (some .int) 7 145 true ad n I J R [vr 142, vr 2, vi l2] (fun r I' J' R' => (J' = J ∧ R' = R) ∧ Q r I') := by
  refine wMet_of (by decide) (Nat.le_of_ble_eq_true rfl) (fun C hC hRm hE hS => ?_)
  have hStr := hS rfl
  refine (show WM C ad n I J R 0 0 0 [(0, vr 142), (1, vr 2), (2, vi l2)] [] from ?_)
  unfold p10_cutOne at hw
  refine wm_aload_n hC 1 dX10_cutOne_0 rfl (k_ne0 kk_2 (by decide)) ?_
  refine wm_aload_n hC 0 dX10_cutOne_1 rfl (k_ne0 kk_142 (by decide)) ?_
  refine x_getI hC 4 fl_X10_25 rfl kk_142 dX10_cutOne_2 ?_
  refine y_callV_i_n hC hRm noS ml_X10_36 kk_2 (c9_byteAt hRF  hw) (Nat.le_of_ble_eq_true rfl) (Nat.le_of_ble_eq_true rfl) ⟨Nat.zero_le _, Nat.zero_le _⟩ rfl (st := []) rfl (Nat.le_of_ble_eq_true rfl) dX10_cutOne_5 (fun r1 hw => ?_)
  refine wm_istore_n hC dX10_cutOne_8 (by decide) (L2 := [(3, vi r1), (0, vr 142), (1, vr 2), (2, vi l2)]) rfl ?_
  refine wm_iload_n hC 0 dX10_cutOne_9 rfl ?_
  refine wm_iconst hC dX10_cutOne_10 (k := ?_)
  refine wm_icmp_ne (tgt := 25) hC dX10_cutOne_11 (by decide) hw (fun hw => ?_) (fun hw => ?_)
  · refine wm_aload_n hC 1 dX10_cutOne_14 rfl (k_ne0 kk_142 (by decide)) ?_
    refine wm_iconst hC dX10_cutOne_15 (k := ?_)
    refine wm_iconst hC dX10_cutOne_16 (k := ?_)
    refine wm_aload_n hC 1 dX10_cutOne_17 rfl (k_ne0 kk_142 (by decide)) ?_
    refine x_getI hC 4 fl_X10_25 rfl kk_142 dX10_cutOne_18 ?_
    refine y_callV_i_I hC hRm noS ml_X10_48 kk_142 (c10_add hRF  hw) (Nat.le_of_ble_eq_true rfl) (Nat.le_of_ble_eq_true rfl) ⟨Nat.zero_le _, Nat.zero_le _⟩ rfl (st := []) rfl (Nat.le_of_ble_eq_true rfl) dX10_cutOne_21 (fun r4 I2 hw => ?_)
    exact wm_ireturn hC hE dX10_cutOne_24 ⟨⟨rfl, rfl⟩, hw⟩
  · refine wm_iload_n hC 0 dX10_cutOne_25 rfl ?_
    refine y_callS_z_n hC hRm noS ml_X10_52 (c10_isLetter hRF  hw) (Nat.le_of_ble_eq_true rfl) (Nat.le_of_ble_eq_true rfl) ⟨Nat.zero_le _, Nat.zero_le _⟩ rfl (st := []) rfl (Nat.le_of_ble_eq_true rfl) dX10_cutOne_26 (fun r2 hw => ?_)
    refine wm_if_eq (tgt := 42) hC dX10_cutOne_29 (by decide) hw (fun hw => ?_) (fun hw => ?_)
    · refine wm_sub [1, 2, 3, 0] (L2 := [(0, vr 142), (1, vr 2), (2, vi l2), (3, vi r1)]) rfl ?_
      exact w10_cutOne_b42 hC hRm hE hRF hStr  hw
    · refine wm_iload_n hC 3 dX10_cutOne_32 rfl ?_
      refine wm_if_ne (tgt := 42) hC dX10_cutOne_33 (by decide) hw (fun hw => ?_) (fun hw => ?_)
      · refine wm_aload_n hC 1 dX10_cutOne_36 rfl (k_ne0 kk_142 (by decide)) ?_
        refine wm_aload_n hC 2 dX10_cutOne_37 rfl (k_ne0 kk_2 (by decide)) ?_
        refine y_callV_i_I hC hRm (fun _ => hStr) ml_X10_55 kk_142 (c10_cutWord hRF  hw) (Nat.le_of_ble_eq_true rfl) (Nat.le_of_ble_eq_true rfl) ⟨Nat.zero_le _, Nat.zero_le _⟩ rfl (st := []) rfl (Nat.le_of_ble_eq_true rfl) dX10_cutOne_38 (fun r3 I1 hw => ?_)
        exact wm_ireturn hC hE dX10_cutOne_41 ⟨⟨rfl, rfl⟩, hw⟩
      · refine wm_sub [1, 2, 3, 0] (L2 := [(0, vr 142), (1, vr 2), (2, vi l2), (3, vi r1)]) rfl ?_
        exact w10_cutOne_b42 hC hRm hE hRF hStr  hw
def p10_isBlank (l0 : Int) (Q : Int → Prop) : Prop := (if l0 = 32 then (Q 1) else (if l0 = 10 then (Q 1) else (Q 0)))
set_option maxRecDepth 20000 in
theorem c10_isBlank {ad : Nat → Nat} {n : Nat} {I J : mI} {R : mR} {Q : Int → Prop}  (hRF : RF R) {l0 : Int}  (hw : p10_isBlank l0 Q) : wMet yX10_isBlank cX10_isBlank 1 (some .boolean) 1 12 false ad n I J R [vi l0] (fun r I' J' R' => (I' = I ∧ J' = J ∧ R' = R) ∧ Q r) := by
  refine wMet_of (by decide) (Nat.le_of_ble_eq_true rfl) (fun C hC hRm hE hS => ?_)
  refine (show WM C ad n I J R 0 0 0 [(0, vi l0)] [] from ?_)
  unfold p10_isBlank at hw
  refine wm_iload_n hC 0 dX10_isBlank_0 rfl ?_
  refine wm_bipush hC dX10_isBlank_1 (k := ?_)
  refine wm_icmp_eq (tgt := 12) hC dX10_isBlank_3 (by decide) hw (fun hw => ?_) (fun hw => ?_)
  · refine wm_iconst hC dX10_isBlank_12 (k := ?_)
    refine wm_goto (tgt := 17) hC dX10_isBlank_13 (by decide) ?_
    exact wm_zreturn hC hE (Or.inr rfl) dX10_isBlank_17 ⟨⟨rfl, rfl, rfl⟩, hw⟩
  · refine wm_iload_n hC 0 dX10_isBlank_6 rfl ?_
    refine wm_bipush hC dX10_isBlank_7 (k := ?_)
    refine wm_icmp_ne (tgt := 16) hC dX10_isBlank_9 (by decide) hw (fun hw => ?_) (fun hw => ?_)
    · refine wm_iconst hC dX10_isBlank_12 (k := ?_)
      refine wm_goto (tgt := 17) hC dX10_isBlank_13 (by decide) ?_
      exact wm_zreturn hC hE (Or.inr rfl) dX10_isBlank_17 ⟨⟨rfl, rfl, rfl⟩, hw⟩
    · refine wm_iconst hC dX10_isBlank_16 (k := ?_)
      exact wm_zreturn hC hE (Or.inl rfl) dX10_isBlank_17 ⟨⟨rfl, rfl, rfl⟩, hw⟩
def p10_cut_b100 (l3 : Int) (s0 : Int) (I : mI) (k19 : Int → Int → mI → Prop) (Q : mI → Prop) : Prop := (p10_cutOne s0 I (fun r3 I5 => (rg (l3 + 1) ∧ (k19 r3 (l3 + 1) I5))))
set_option maxRecDepth 20000 in
theorem w10_cut_b100 {C : wX} {ad : Nat → Nat} {n : Nat} {I J : mI} {R : mR} {Q : mI → Prop} (hC : wOK C cX10_cut 6 RX10) (hRm : wRm C 8 168 0 0) (hE : wEnd C none ad n (fun _ I' J' R' => (J' = J ∧ R' = R) ∧ Q I')) (hRF : RF R) (hStr : wStrC C ad) {l3 : Int} {s0 : Int}  {k19 : Int → Int → mI → Prop}  (kk19 : ∀ (y2 : Int) (y3 : Int) (I' : mI), k19 y2 y3 I' → WM C ad n I' J R 0 0 19 [(0, vr 142), (1, vr 2), (2, vi y2), (3, vi y3)] []) (hw : p10_cut_b100 l3 s0 I k19 Q) : WM C ad n I J R 0 0 100 [(0, vr 142), (1, vr 2), (3, vi l3)] [vi s0] := by
  unfold p10_cut_b100 at hw
  refine wm_istore hC dX10_cut_100 (by decide) (L2 := [(5, vi s0), (0, vr 142), (1, vr 2), (3, vi l3)]) rfl ?_
  refine wm_aload_n hC 1 dX10_cut_102 rfl (k_ne0 kk_142 (by decide)) ?_
  refine wm_aload_n hC 2 dX10_cut_103 rfl (k_ne0 kk_2 (by decide)) ?_
  refine wm_iload hC 0 dX10_cut_104 rfl ?_
  refine y_callV_i_I hC hRm (fun _ => hStr) ml_X10_44 kk_142 (c10_cutOne hRF  hw) (Nat.le_of_ble_eq_true rfl) (Nat.le_of_ble_eq_true rfl) ⟨Nat.zero_le _, Nat.zero_le _⟩ rfl (st := []) rfl (Nat.le_of_ble_eq_true rfl) dX10_cut_106 (fun r3 I5 hw => ?_)
  refine wm_istore_n hC dX10_cut_109 (by decide) (L2 := [(2, vi r3), (5, vi s0), (0, vr 142), (1, vr 2), (3, vi l3)]) rfl ?_
  refine x_iinc hC 4 dX10_cut_110 rfl (by decide) (L2 := [(3, vi (l3 + 1)), (2, vi r3), (5, vi s0), (0, vr 142), (1, vr 2)]) rfl hw (fun hw => ?_)
  refine wm_goto (tgt := 19) hC dX10_cut_113 (by decide) ?_
  refine wm_sub [3, 4, 1, 0] (L2 := [(0, vr 142), (1, vr 2), (2, vi r3), (3, vi (l3 + 1))]) rfl ?_
  exact kk19 _ _ _ hw
def p10_cut_b99 (l3 : Int) (I : mI) (k19 : Int → Int → mI → Prop) (Q : mI → Prop) : Prop := (p10_cut_b100 l3 0 I k19 Q)
set_option maxRecDepth 20000 in
theorem w10_cut_b99 {C : wX} {ad : Nat → Nat} {n : Nat} {I J : mI} {R : mR} {Q : mI → Prop} (hC : wOK C cX10_cut 6 RX10) (hRm : wRm C 8 168 0 0) (hE : wEnd C none ad n (fun _ I' J' R' => (J' = J ∧ R' = R) ∧ Q I')) (hRF : RF R) (hStr : wStrC C ad) {l3 : Int}  {k19 : Int → Int → mI → Prop}  (kk19 : ∀ (y2 : Int) (y3 : Int) (I' : mI), k19 y2 y3 I' → WM C ad n I' J R 0 0 19 [(0, vr 142), (1, vr 2), (2, vi y2), (3, vi y3)] []) (hw : p10_cut_b99 l3 I k19 Q) : WM C ad n I J R 0 0 99 [(0, vr 142), (1, vr 2), (3, vi l3)] [] := by
  unfold p10_cut_b99 at hw
  refine wm_iconst hC dX10_cut_99 (k := ?_)
  exact w10_cut_b100 hC hRm hE hRF hStr kk19 hw
def p10_cut_b81 (l2 : Int) (l3 : Int) (l4 : Int) (I : mI) (k19 : Int → Int → mI → Prop) (Q : mI → Prop) : Prop := (if (I 142 4) = l4 then (if l2 = 4 then (p10_cut_b99 l3 I k19 Q) else (p10_cut_b100 l3 1 I k19 Q)) else (p10_cut_b99 l3 I k19 Q))
set_option maxRecDepth 20000 in
theorem w10_cut_b81 {C : wX} {ad : Nat → Nat} {n : Nat} {I J : mI} {R : mR} {Q : mI → Prop} (hC : wOK C cX10_cut 6 RX10) (hRm : wRm C 8 168 0 0) (hE : wEnd C none ad n (fun _ I' J' R' => (J' = J ∧ R' = R) ∧ Q I')) (hRF : RF R) (hStr : wStrC C ad) {l2 : Int} {l3 : Int} {l4 : Int}  {k19 : Int → Int → mI → Prop}  (kk19 : ∀ (y2 : Int) (y3 : Int) (I' : mI), k19 y2 y3 I' → WM C ad n I' J R 0 0 19 [(0, vr 142), (1, vr 2), (2, vi y2), (3, vi y3)] []) (hw : p10_cut_b81 l2 l3 l4 I k19 Q) : WM C ad n I J R 0 0 81 [(0, vr 142), (1, vr 2), (2, vi l2), (3, vi l3), (4, vi l4)] [] := by
  unfold p10_cut_b81 at hw
  refine wm_aload_n hC 0 dX10_cut_81 rfl (k_ne0 kk_142 (by decide)) ?_
  refine x_getI hC 4 fl_X10_25 rfl kk_142 dX10_cut_82 ?_
  refine wm_iload hC 4 dX10_cut_85 rfl ?_
  refine wm_icmp_ne (tgt := 99) hC dX10_cut_87 (by decide) hw (fun hw => ?_) (fun hw => ?_)
  · refine wm_iload_n hC 2 dX10_cut_90 rfl ?_
    refine wm_iconst hC dX10_cut_91 (k := ?_)
    refine wm_icmp_eq (tgt := 99) hC dX10_cut_92 (by decide) hw (fun hw => ?_) (fun hw => ?_)
    · refine wm_sub [0, 1, 3] (L2 := [(0, vr 142), (1, vr 2), (3, vi l3)]) rfl ?_
      exact w10_cut_b99 hC hRm hE hRF hStr kk19 hw
    · refine wm_iconst hC dX10_cut_95 (k := ?_)
      refine wm_goto (tgt := 100) hC dX10_cut_96 (by decide) ?_
      refine wm_sub [0, 1, 3] (L2 := [(0, vr 142), (1, vr 2), (3, vi l3)]) rfl ?_
      exact w10_cut_b100 hC hRm hE hRF hStr kk19 hw
  · refine wm_sub [0, 1, 3] (L2 := [(0, vr 142), (1, vr 2), (3, vi l3)]) rfl ?_
    exact w10_cut_b99 hC hRm hE hRF hStr kk19 hw
def p10_cut_b43_body (l2 : Int) (l3 : Int) (l4 : Int) (k19 : Int → Int → mI → Prop) (Q : mI → Prop) (k43 : mI → Prop) (I : mI) : Prop := (if (I 2 1) ≤ (I 142 4) then (p10_cut_b81 l2 l3 l4 I k19 Q) else (p9_byteAt (I 142 4) I (fun r1 => (p10_isBlank r1 (fun r2 => (if r2 = 0 then (p10_cut_b81 l2 l3 l4 I k19 Q) else (rg ((I 142 4) + 1) ∧ (wLet (up I 142 4 ((I 142 4) + 1)) (fun I4 => (k43 I4))))))))))
def p10_cut_b43 (l2 : Int) (l3 : Int) (l4 : Int) (k19 : Int → Int → mI → Prop) (Q : mI → Prop) : Nat → mI → Prop
  | 0 => fun _ => False
  | f + 1 => fun I => p10_cut_b43_body l2 l3 l4 k19 Q (p10_cut_b43 l2 l3 l4 k19 Q f) I
set_option maxRecDepth 20000 in
theorem w10_cut_b43_body {C : wX} {ad : Nat → Nat} {n : Nat} {I J : mI} {R : mR} {Q : mI → Prop} (hC : wOK C cX10_cut 6 RX10) (hRm : wRm C 8 168 0 0) (hE : wEnd C none ad n (fun _ I' J' R' => (J' = J ∧ R' = R) ∧ Q I')) (hRF : RF R) (hStr : wStrC C ad) {l2 : Int} {l3 : Int} {l4 : Int}   {k19 : Int → Int → mI → Prop}  (kk19 : ∀ (y2 : Int) (y3 : Int) (I' : mI), k19 y2 y3 I' → WM C ad n I' J R 0 0 19 [(0, vr 142), (1, vr 2), (2, vi y2), (3, vi y3)] []) {k43 : mI → Prop} (kk43 : ∀ (I' : mI), k43 I' → WM C ad n I' J R 0 0 43 [(0, vr 142), (1, vr 2), (2, vi l2), (3, vi l3), (4, vi l4)] []) (hw : p10_cut_b43_body l2 l3 l4 k19 Q k43 I) : WM C ad n I J R 0 0 43 [(0, vr 142), (1, vr 2), (2, vi l2), (3, vi l3), (4, vi l4)] [] := by
  unfold p10_cut_b43_body at hw
  refine wm_aload_n hC 0 dX10_cut_43 rfl (k_ne0 kk_142 (by decide)) ?_
  refine x_getI hC 4 fl_X10_25 rfl kk_142 dX10_cut_44 ?_
  refine wm_aload_n hC 1 dX10_cut_47 rfl (k_ne0 kk_2 (by decide)) ?_
  refine x_getI hC 1 fl_X10_31 rfl kk_2 dX10_cut_48 ?_
  refine wm_icmp_ge (tgt := 81) hC dX10_cut_51 (by decide) hw (fun hw => ?_) (fun hw => ?_)
  · exact w10_cut_b81 hC hRm hE hRF hStr kk19 hw
  · refine wm_aload_n hC 1 dX10_cut_54 rfl (k_ne0 kk_2 (by decide)) ?_
    refine wm_aload_n hC 0 dX10_cut_55 rfl (k_ne0 kk_142 (by decide)) ?_
    refine x_getI hC 4 fl_X10_25 rfl kk_142 dX10_cut_56 ?_
    refine y_callV_i_n hC hRm noS ml_X10_36 kk_2 (c9_byteAt hRF  hw) (Nat.le_of_ble_eq_true rfl) (Nat.le_of_ble_eq_true rfl) ⟨Nat.zero_le _, Nat.zero_le _⟩ rfl (st := []) rfl (Nat.le_of_ble_eq_true rfl) dX10_cut_59 (fun r1 hw => ?_)
    refine y_callS_z_n hC hRm noS ml_X10_40 (c10_isBlank hRF  hw) (Nat.le_of_ble_eq_true rfl) (Nat.le_of_ble_eq_true rfl) ⟨Nat.zero_le _, Nat.zero_le _⟩ rfl (st := []) rfl (Nat.le_of_ble_eq_true rfl) dX10_cut_62 (fun r2 hw => ?_)
    refine wm_if_eq (tgt := 81) hC dX10_cut_65 (by decide) hw (fun hw => ?_) (fun hw => ?_)
    · exact w10_cut_b81 hC hRm hE hRF hStr kk19 hw
    · refine wm_aload_n hC 0 dX10_cut_68 rfl (k_ne0 kk_142 (by decide)) ?_
      refine wm_dup hC dX10_cut_69 (k := ?_)
      refine x_getI hC 4 fl_X10_25 rfl kk_142 dX10_cut_70 ?_
      refine wm_iconst hC dX10_cut_73 (k := ?_)
      refine x_iadd hC dX10_cut_74 hw (fun hw => ?_)
      refine x_putI hC 4 fl_X10_25 rfl kk_142 dX10_cut_75 hw (fun I4 hw => ?_)
      refine wm_goto (tgt := 43) hC dX10_cut_78 (by decide) ?_
      exact kk43 _ hw
set_option maxRecDepth 20000 in
theorem w10_cut_b43 {C : wX} {ad : Nat → Nat} {n : Nat} {J : mI} {R : mR} {Q : mI → Prop} (hC : wOK C cX10_cut 6 RX10) (hRm : wRm C 8 168 0 0) (hE : wEnd C none ad n (fun _ I' J' R' => (J' = J ∧ R' = R) ∧ Q I')) (hRF : RF R) (hStr : wStrC C ad) {l2 : Int} {l3 : Int} {l4 : Int}  {k19 : Int → Int → mI → Prop}  (kk19 : ∀ (y2 : Int) (y3 : Int) (I' : mI), k19 y2 y3 I' → WM C ad n I' J R 0 0 19 [(0, vr 142), (1, vr 2), (2, vi y2), (3, vi y3)] []) : ∀ (f : Nat) (I : mI), p10_cut_b43 l2 l3 l4 k19 Q f I → WM C ad n I J R 0 0 43 [(0, vr 142), (1, vr 2), (2, vi l2), (3, vi l3), (4, vi l4)] [] := by
  intro f
  induction f with
  | zero => intro I hw; exact hw.elim
  | succ f ih => intro I hw; exact w10_cut_b43_body hC hRm hE hRF hStr kk19 (fun a0 aw => ih a0 aw) hw
def p10_cut_b19_body (Q : mI → Prop) (k19 : Int → Int → mI → Prop) (l2 : Int) (l3 : Int) (I : mI) : Prop := (if (1601 : Int) ≤ l3 then (Q I) else (if l2 = 5 then (Q I) else (if l2 = 0 then (Q I) else (∃ f, p10_cut_b43 l2 l3 (I 142 4) k19 Q f I))))
def p10_cut_b19 (Q : mI → Prop) : Nat → Int → Int → mI → Prop
  | 0 => fun _ _ _ => False
  | f + 1 => fun l2 l3 I => p10_cut_b19_body Q (p10_cut_b19 Q f) l2 l3 I
set_option maxRecDepth 20000 in
theorem w10_cut_b19_body {C : wX} {ad : Nat → Nat} {n : Nat} {I J : mI} {R : mR} {Q : mI → Prop} (hC : wOK C cX10_cut 6 RX10) (hRm : wRm C 8 168 0 0) (hE : wEnd C none ad n (fun _ I' J' R' => (J' = J ∧ R' = R) ∧ Q I')) (hRF : RF R) (hStr : wStrC C ad)  {l2 : Int} {l3 : Int}     {k19 : Int → Int → mI → Prop} (kk19 : ∀ (y2 : Int) (y3 : Int) (I' : mI), k19 y2 y3 I' → WM C ad n I' J R 0 0 19 [(0, vr 142), (1, vr 2), (2, vi y2), (3, vi y3)] []) (hw : p10_cut_b19_body Q k19 l2 l3 I) : WM C ad n I J R 0 0 19 [(0, vr 142), (1, vr 2), (2, vi l2), (3, vi l3)] [] := by
  unfold p10_cut_b19_body at hw
  refine wm_iload_n hC 3 dX10_cut_19 rfl ?_
  refine wm_aload_n hC 0 dX10_cut_20 rfl (k_ne0 kk_142 (by decide)) ?_
  refine x_getR3 hC 0 fl_X10_9 rfl kk_142 (rf_142_0 hRF) dX10_cut_21 ?_
  refine x_alen2 hC kk_143 kn_143 (by decide) dX10_cut_24 ?_
  refine wm_icmp_ge (tgt := 116) hC dX10_cut_25 (by decide) hw (fun hw => ?_) (fun hw => ?_)
  · exact wm_return hC hE dX10_cut_116 ⟨⟨rfl, rfl⟩, hw⟩
  · refine wm_iload_n hC 2 dX10_cut_28 rfl ?_
    refine wm_iconst hC dX10_cut_29 (k := ?_)
    refine wm_icmp_eq (tgt := 116) hC dX10_cut_30 (by decide) hw (fun hw => ?_) (fun hw => ?_)
    · exact wm_return hC hE dX10_cut_116 ⟨⟨rfl, rfl⟩, hw⟩
    · refine wm_iload_n hC 2 dX10_cut_33 rfl ?_
      refine wm_if_eq (tgt := 116) hC dX10_cut_34 (by decide) hw (fun hw => ?_) (fun hw => ?_)
      · exact wm_return hC hE dX10_cut_116 ⟨⟨rfl, rfl⟩, hw⟩
      · refine wm_aload_n hC 0 dX10_cut_37 rfl (k_ne0 kk_142 (by decide)) ?_
        refine x_getI hC 4 fl_X10_25 rfl kk_142 dX10_cut_38 ?_
        refine wm_istore hC dX10_cut_41 (by decide) (L2 := [(4, vi (I 142 4)), (0, vr 142), (1, vr 2), (2, vi l2), (3, vi l3)]) rfl ?_
        obtain ⟨f, hw⟩ := hw
        refine wm_sub [1, 2, 3, 4, 0] (L2 := [(0, vr 142), (1, vr 2), (2, vi l2), (3, vi l3), (4, vi (I 142 4))]) rfl ?_
        exact w10_cut_b43 hC hRm hE hRF hStr kk19 f _ hw
set_option maxRecDepth 20000 in
theorem w10_cut_b19 {C : wX} {ad : Nat → Nat} {n : Nat} {J : mI} {R : mR} {Q : mI → Prop} (hC : wOK C cX10_cut 6 RX10) (hRm : wRm C 8 168 0 0) (hE : wEnd C none ad n (fun _ I' J' R' => (J' = J ∧ R' = R) ∧ Q I')) (hRF : RF R) (hStr : wStrC C ad)      : ∀ (f : Nat) (l2 : Int) (l3 : Int) (I : mI), p10_cut_b19 Q f l2 l3 I → WM C ad n I J R 0 0 19 [(0, vr 142), (1, vr 2), (2, vi l2), (3, vi l3)] [] := by
  intro f
  induction f with
  | zero => intro l2 l3 I hw; exact hw.elim
  | succ f ih => intro l2 l3 I hw; exact w10_cut_b19_body hC hRm hE hRF hStr  (fun a0 a1 a2 aw => ih a0 a1 a2 aw) hw
def p10_cut (I : mI) (Q : mI → Prop) : Prop := (wLet (up I 142 5 0) (fun I1 => (wLet (up I1 142 3 0) (fun I2 => (wLet (up I2 142 4 0) (fun I3 => (∃ f, p10_cut_b19 Q f 4 0 I3)))))))
set_option maxRecDepth 20000 in
theorem c10_cut {ad : Nat → Nat} {n : Nat} {I J : mI} {R : mR} {Q : mI → Prop}  (hRF : RF R)    (hw : p10_cut I Q) : wMet yX10_cut cX10_cut 6 none 8 168 true ad n I J R [vr 142, vr 2] (fun _ I' J' R' => (J' = J ∧ R' = R) ∧ Q I') := by
  refine wMet_of (by decide) (Nat.le_of_ble_eq_true rfl) (fun C hC hRm hE hS => ?_)
  have hStr := hS rfl
  refine (show WM C ad n I J R 0 0 0 [(0, vr 142), (1, vr 2)] [] from ?_)
  unfold p10_cut at hw
  refine wm_aload_n hC 0 dX10_cut_0 rfl (k_ne0 kk_142 (by decide)) ?_
  refine wm_iconst hC dX10_cut_1 (k := ?_)
  refine x_putI hC 5 fl_X10_28 rfl kk_142 dX10_cut_2 hw (fun I1 hw => ?_)
  refine wm_aload_n hC 0 dX10_cut_5 rfl (k_ne0 kk_142 (by decide)) ?_
  refine wm_iconst hC dX10_cut_6 (k := ?_)
  refine x_putI hC 3 fl_X10_21 rfl kk_142 dX10_cut_7 hw (fun I2 hw => ?_)
  refine wm_aload_n hC 0 dX10_cut_10 rfl (k_ne0 kk_142 (by decide)) ?_
  refine wm_iconst hC dX10_cut_11 (k := ?_)
  refine x_putI hC 4 fl_X10_25 rfl kk_142 dX10_cut_12 hw (fun I3 hw => ?_)
  refine wm_iconst hC dX10_cut_15 (k := ?_)
  refine wm_istore_n hC dX10_cut_16 (by decide) (L2 := [(2, vi 4), (0, vr 142), (1, vr 2)]) rfl ?_
  refine wm_iconst hC dX10_cut_17 (k := ?_)
  refine wm_istore_n hC dX10_cut_18 (by decide) (L2 := [(3, vi 0), (2, vi 4), (0, vr 142), (1, vr 2)]) rfl ?_
  obtain ⟨f, hw⟩ := hw
  refine wm_sub [2, 3, 1, 0] (L2 := [(0, vr 142), (1, vr 2), (2, vi 4), (3, vi 0)]) rfl ?_
  exact w10_cut_b19 hC hRm hE hRF hStr  f _ _ _ hw
def p10_isHere (l1 : Int) (l2 : Int) (I : mI) (Q : Int → Prop) : Prop := (if (I 142 5) < 0 then (Q 0) else (if (I 142 3) ≤ (I 142 5) then (Q 0) else (if (1601 : Int) ≤ (I 142 5) then (Q 0) else (((0 : Int) ≤ (I 142 5) ∧ (I 142 5) < (1601 : Int)) ∧ (if (I 143 (I 142 5)) = l1 then (((0 : Int) ≤ (I 142 5) ∧ (I 142 5) < (1601 : Int)) ∧ (if (I 144 (I 142 5)) = l2 then (Q 1) else (Q 0))) else (Q 0))))))
set_option maxRecDepth 20000 in
theorem c10_isHere {ad : Nat → Nat} {n : Nat} {I J : mI} {R : mR} {Q : Int → Prop}  (hRF : RF R) {l1 : Int} {l2 : Int}    (hw : p10_isHere l1 l2 I Q) : wMet yX10_isHere cX10_isHere 3 (some .boolean) 1 12 false ad n I J R [vr 142, vi l1, vi l2] (fun r I' J' R' => (I' = I ∧ J' = J ∧ R' = R) ∧ Q r) := by
  refine wMet_of (by decide) (Nat.le_of_ble_eq_true rfl) (fun C hC hRm hE hS => ?_)
  refine (show WM C ad n I J R 0 0 0 [(0, vr 142), (1, vi l1), (2, vi l2)] [] from ?_)
  unfold p10_isHere at hw
  refine wm_aload_n hC 0 dX10_isHere_0 rfl (k_ne0 kk_142 (by decide)) ?_
  refine x_getI hC 5 fl_X10_28 rfl kk_142 dX10_isHere_1 ?_
  refine wm_if_lt (tgt := 60) hC dX10_isHere_4 (by decide) hw (fun hw => ?_) (fun hw => ?_)
  · refine wm_iconst hC dX10_isHere_60 (k := ?_)
    exact wm_zreturn hC hE (Or.inl rfl) dX10_isHere_61 ⟨⟨rfl, rfl, rfl⟩, hw⟩
  · refine wm_aload_n hC 0 dX10_isHere_7 rfl (k_ne0 kk_142 (by decide)) ?_
    refine x_getI hC 5 fl_X10_28 rfl kk_142 dX10_isHere_8 ?_
    refine wm_aload_n hC 0 dX10_isHere_11 rfl (k_ne0 kk_142 (by decide)) ?_
    refine x_getI hC 3 fl_X10_21 rfl kk_142 dX10_isHere_12 ?_
    refine wm_icmp_ge (tgt := 60) hC dX10_isHere_15 (by decide) hw (fun hw => ?_) (fun hw => ?_)
    · refine wm_iconst hC dX10_isHere_60 (k := ?_)
      exact wm_zreturn hC hE (Or.inl rfl) dX10_isHere_61 ⟨⟨rfl, rfl, rfl⟩, hw⟩
    · refine wm_aload_n hC 0 dX10_isHere_18 rfl (k_ne0 kk_142 (by decide)) ?_
      refine x_getI hC 5 fl_X10_28 rfl kk_142 dX10_isHere_19 ?_
      refine wm_aload_n hC 0 dX10_isHere_22 rfl (k_ne0 kk_142 (by decide)) ?_
      refine x_getR3 hC 0 fl_X10_9 rfl kk_142 (rf_142_0 hRF) dX10_isHere_23 ?_
      refine x_alen2 hC kk_143 kn_143 (by decide) dX10_isHere_26 ?_
      refine wm_icmp_ge (tgt := 60) hC dX10_isHere_27 (by decide) hw (fun hw => ?_) (fun hw => ?_)
      · refine wm_iconst hC dX10_isHere_60 (k := ?_)
        exact wm_zreturn hC hE (Or.inl rfl) dX10_isHere_61 ⟨⟨rfl, rfl, rfl⟩, hw⟩
      · refine wm_aload_n hC 0 dX10_isHere_30 rfl (k_ne0 kk_142 (by decide)) ?_
        refine x_getR3 hC 0 fl_X10_9 rfl kk_142 (rf_142_0 hRF) dX10_isHere_31 ?_
        refine wm_aload_n hC 0 dX10_isHere_34 rfl (k_ne0 kk_142 (by decide)) ?_
        refine x_getI hC 5 fl_X10_28 rfl kk_142 dX10_isHere_35 ?_
        refine x_iald2 hC kk_143 kn_143 dX10_isHere_38 hw (fun hw => ?_)
        refine wm_iload_n hC 1 dX10_isHere_39 rfl ?_
        refine wm_icmp_ne (tgt := 60) hC dX10_isHere_40 (by decide) hw (fun hw => ?_) (fun hw => ?_)
        · refine wm_aload_n hC 0 dX10_isHere_43 rfl (k_ne0 kk_142 (by decide)) ?_
          refine x_getR3 hC 1 fl_X10_15 rfl kk_142 (rf_142_1 hRF) dX10_isHere_44 ?_
          refine wm_aload_n hC 0 dX10_isHere_47 rfl (k_ne0 kk_142 (by decide)) ?_
          refine x_getI hC 5 fl_X10_28 rfl kk_142 dX10_isHere_48 ?_
          refine x_iald2 hC kk_144 kn_144 dX10_isHere_51 hw (fun hw => ?_)
          refine wm_iload_n hC 2 dX10_isHere_52 rfl ?_
          refine wm_icmp_ne (tgt := 60) hC dX10_isHere_53 (by decide) hw (fun hw => ?_) (fun hw => ?_)
          · refine wm_iconst hC dX10_isHere_56 (k := ?_)
            refine wm_goto (tgt := 61) hC dX10_isHere_57 (by decide) ?_
            exact wm_zreturn hC hE (Or.inr rfl) dX10_isHere_61 ⟨⟨rfl, rfl, rfl⟩, hw⟩
          · refine wm_iconst hC dX10_isHere_60 (k := ?_)
            exact wm_zreturn hC hE (Or.inl rfl) dX10_isHere_61 ⟨⟨rfl, rfl, rfl⟩, hw⟩
        · refine wm_iconst hC dX10_isHere_60 (k := ?_)
          exact wm_zreturn hC hE (Or.inl rfl) dX10_isHere_61 ⟨⟨rfl, rfl, rfl⟩, hw⟩
def p10_placeHere (I : mI) (Q : Int → Prop) : Prop := (if (I 142 5) < 0 then (Q 0) else (if (I 142 3) ≤ (I 142 5) then (Q 0) else (if (1601 : Int) ≤ (I 142 5) then (Q 0) else (((0 : Int) ≤ (I 142 5) ∧ (I 142 5) < (1601 : Int)) ∧ (Q (I 145 (I 142 5)))))))
set_option maxRecDepth 20000 in
theorem c10_placeHere {ad : Nat → Nat} {n : Nat} {I J : mI} {R : mR} {Q : Int → Prop}  (hRF : RF R)   (hw : p10_placeHere I Q) : wMet yX10_placeHere cX10_placeHere 1 (some .int) 1 12 false ad n I J R [vr 142] (fun r I' J' R' => (I' = I ∧ J' = J ∧ R' = R) ∧ Q r) := by
  refine wMet_of (by decide) (Nat.le_of_ble_eq_true rfl) (fun C hC hRm hE hS => ?_)
  refine (show WM C ad n I J R 0 0 0 [(0, vr 142)] [] from ?_)
  unfold p10_placeHere at hw
  refine wm_aload_n hC 0 dX10_placeHere_0 rfl (k_ne0 kk_142 (by decide)) ?_
  refine x_getI hC 5 fl_X10_28 rfl kk_142 dX10_placeHere_1 ?_
  refine wm_if_lt (tgt := 42) hC dX10_placeHere_4 (by decide) hw (fun hw => ?_) (fun hw => ?_)
  · refine wm_iconst hC dX10_placeHere_42 (k := ?_)
    exact wm_ireturn hC hE dX10_placeHere_43 ⟨⟨rfl, rfl, rfl⟩, hw⟩
  · refine wm_aload_n hC 0 dX10_placeHere_7 rfl (k_ne0 kk_142 (by decide)) ?_
    refine x_getI hC 5 fl_X10_28 rfl kk_142 dX10_placeHere_8 ?_
    refine wm_aload_n hC 0 dX10_placeHere_11 rfl (k_ne0 kk_142 (by decide)) ?_
    refine x_getI hC 3 fl_X10_21 rfl kk_142 dX10_placeHere_12 ?_
    refine wm_icmp_ge (tgt := 42) hC dX10_placeHere_15 (by decide) hw (fun hw => ?_) (fun hw => ?_)
    · refine wm_iconst hC dX10_placeHere_42 (k := ?_)
      exact wm_ireturn hC hE dX10_placeHere_43 ⟨⟨rfl, rfl, rfl⟩, hw⟩
    · refine wm_aload_n hC 0 dX10_placeHere_18 rfl (k_ne0 kk_142 (by decide)) ?_
      refine x_getI hC 5 fl_X10_28 rfl kk_142 dX10_placeHere_19 ?_
      refine wm_aload_n hC 0 dX10_placeHere_22 rfl (k_ne0 kk_142 (by decide)) ?_
      refine x_getR3 hC 2 fl_X10_18 rfl kk_142 (rf_142_2 hRF) dX10_placeHere_23 ?_
      refine x_alen2 hC kk_145 kn_145 (by decide) dX10_placeHere_26 ?_
      refine wm_icmp_ge (tgt := 42) hC dX10_placeHere_27 (by decide) hw (fun hw => ?_) (fun hw => ?_)
      · refine wm_iconst hC dX10_placeHere_42 (k := ?_)
        exact wm_ireturn hC hE dX10_placeHere_43 ⟨⟨rfl, rfl, rfl⟩, hw⟩
      · refine wm_aload_n hC 0 dX10_placeHere_30 rfl (k_ne0 kk_142 (by decide)) ?_
        refine x_getR3 hC 2 fl_X10_18 rfl kk_142 (rf_142_2 hRF) dX10_placeHere_31 ?_
        refine wm_aload_n hC 0 dX10_placeHere_34 rfl (k_ne0 kk_142 (by decide)) ?_
        refine x_getI hC 5 fl_X10_28 rfl kk_142 dX10_placeHere_35 ?_
        refine x_iald2 hC kk_145 kn_145 dX10_placeHere_38 hw (fun hw => ?_)
        refine wm_goto (tgt := 43) hC dX10_placeHere_39 (by decide) ?_
        exact wm_ireturn hC hE dX10_placeHere_43 ⟨⟨rfl, rfl, rfl⟩, hw⟩
def p10_sortHere (I : mI) (Q : Int → Prop) : Prop := (if (I 142 5) < 0 then (Q 5) else (if (I 142 3) ≤ (I 142 5) then (Q 5) else (if (1601 : Int) ≤ (I 142 5) then (Q 5) else (((0 : Int) ≤ (I 142 5) ∧ (I 142 5) < (1601 : Int)) ∧ (Q (I 143 (I 142 5)))))))
set_option maxRecDepth 20000 in
theorem c10_sortHere {ad : Nat → Nat} {n : Nat} {I J : mI} {R : mR} {Q : Int → Prop}  (hRF : RF R)   (hw : p10_sortHere I Q) : wMet yX10_sortHere cX10_sortHere 1 (some .int) 1 12 false ad n I J R [vr 142] (fun r I' J' R' => (I' = I ∧ J' = J ∧ R' = R) ∧ Q r) := by
  refine wMet_of (by decide) (Nat.le_of_ble_eq_true rfl) (fun C hC hRm hE hS => ?_)
  refine (show WM C ad n I J R 0 0 0 [(0, vr 142)] [] from ?_)
  unfold p10_sortHere at hw
  refine wm_aload_n hC 0 dX10_sortHere_0 rfl (k_ne0 kk_142 (by decide)) ?_
  refine x_getI hC 5 fl_X10_28 rfl kk_142 dX10_sortHere_1 ?_
  refine wm_if_lt (tgt := 42) hC dX10_sortHere_4 (by decide) hw (fun hw => ?_) (fun hw => ?_)
  · refine wm_iconst hC dX10_sortHere_42 (k := ?_)
    exact wm_ireturn hC hE dX10_sortHere_43 ⟨⟨rfl, rfl, rfl⟩, hw⟩
  · refine wm_aload_n hC 0 dX10_sortHere_7 rfl (k_ne0 kk_142 (by decide)) ?_
    refine x_getI hC 5 fl_X10_28 rfl kk_142 dX10_sortHere_8 ?_
    refine wm_aload_n hC 0 dX10_sortHere_11 rfl (k_ne0 kk_142 (by decide)) ?_
    refine x_getI hC 3 fl_X10_21 rfl kk_142 dX10_sortHere_12 ?_
    refine wm_icmp_ge (tgt := 42) hC dX10_sortHere_15 (by decide) hw (fun hw => ?_) (fun hw => ?_)
    · refine wm_iconst hC dX10_sortHere_42 (k := ?_)
      exact wm_ireturn hC hE dX10_sortHere_43 ⟨⟨rfl, rfl, rfl⟩, hw⟩
    · refine wm_aload_n hC 0 dX10_sortHere_18 rfl (k_ne0 kk_142 (by decide)) ?_
      refine x_getI hC 5 fl_X10_28 rfl kk_142 dX10_sortHere_19 ?_
      refine wm_aload_n hC 0 dX10_sortHere_22 rfl (k_ne0 kk_142 (by decide)) ?_
      refine x_getR3 hC 0 fl_X10_9 rfl kk_142 (rf_142_0 hRF) dX10_sortHere_23 ?_
      refine x_alen2 hC kk_143 kn_143 (by decide) dX10_sortHere_26 ?_
      refine wm_icmp_ge (tgt := 42) hC dX10_sortHere_27 (by decide) hw (fun hw => ?_) (fun hw => ?_)
      · refine wm_iconst hC dX10_sortHere_42 (k := ?_)
        exact wm_ireturn hC hE dX10_sortHere_43 ⟨⟨rfl, rfl, rfl⟩, hw⟩
      · refine wm_aload_n hC 0 dX10_sortHere_30 rfl (k_ne0 kk_142 (by decide)) ?_
        refine x_getR3 hC 0 fl_X10_9 rfl kk_142 (rf_142_0 hRF) dX10_sortHere_31 ?_
        refine wm_aload_n hC 0 dX10_sortHere_34 rfl (k_ne0 kk_142 (by decide)) ?_
        refine x_getI hC 5 fl_X10_28 rfl kk_142 dX10_sortHere_35 ?_
        refine x_iald2 hC kk_143 kn_143 dX10_sortHere_38 hw (fun hw => ?_)
        refine wm_goto (tgt := 43) hC dX10_sortHere_39 (by decide) ?_
        exact wm_ireturn hC hE dX10_sortHere_43 ⟨⟨rfl, rfl, rfl⟩, hw⟩
def p10_step (I : mI) (Q : mI → Prop) : Prop := (if (I 142 3) ≤ (I 142 5) then (wLet (up I 142 5 (I 142 3)) (fun I1 => (Q I1))) else (rg ((I 142 5) + 1) ∧ (wLet (up I 142 5 ((I 142 5) + 1)) (fun I2 => (Q I2)))))
set_option maxRecDepth 20000 in
theorem c10_step {ad : Nat → Nat} {n : Nat} {I J : mI} {R : mR} {Q : mI → Prop}  (hRF : RF R)   (hw : p10_step I Q) : wMet yX10_step cX10_step 1 none 1 12 false ad n I J R [vr 142] (fun _ I' J' R' => (J' = J ∧ R' = R) ∧ Q I') := by
  refine wMet_of (by decide) (Nat.le_of_ble_eq_true rfl) (fun C hC hRm hE hS => ?_)
  refine (show WM C ad n I J R 0 0 0 [(0, vr 142)] [] from ?_)
  unfold p10_step at hw
  refine wm_aload_n hC 0 dX10_step_0 rfl (k_ne0 kk_142 (by decide)) ?_
  refine wm_aload_n hC 0 dX10_step_1 rfl (k_ne0 kk_142 (by decide)) ?_
  refine x_getI hC 5 fl_X10_28 rfl kk_142 dX10_step_2 ?_
  refine wm_aload_n hC 0 dX10_step_5 rfl (k_ne0 kk_142 (by decide)) ?_
  refine x_getI hC 3 fl_X10_21 rfl kk_142 dX10_step_6 ?_
  refine wm_icmp_ge (tgt := 21) hC dX10_step_9 (by decide) hw (fun hw => ?_) (fun hw => ?_)
  · refine wm_aload_n hC 0 dX10_step_21 rfl (k_ne0 kk_142 (by decide)) ?_
    refine x_getI hC 3 fl_X10_21 rfl kk_142 dX10_step_22 ?_
    refine x_putI hC 5 fl_X10_28 rfl kk_142 dX10_step_25 hw (fun I1 hw => ?_)
    exact wm_return hC hE dX10_step_28 ⟨⟨rfl, rfl⟩, hw⟩
  · refine wm_aload_n hC 0 dX10_step_12 rfl (k_ne0 kk_142 (by decide)) ?_
    refine x_getI hC 5 fl_X10_28 rfl kk_142 dX10_step_13 ?_
    refine wm_iconst hC dX10_step_16 (k := ?_)
    refine x_iadd hC dX10_step_17 hw (fun hw => ?_)
    refine wm_goto (tgt := 25) hC dX10_step_18 (by decide) ?_
    refine x_putI hC 5 fl_X10_28 rfl kk_142 dX10_step_25 hw (fun I2 hw => ?_)
    exact wm_return hC hE dX10_step_28 ⟨⟨rfl, rfl⟩, hw⟩
def p10_stop (I : mI) (Q : mI → Prop) : Prop := (wLet (up I 142 5 (I 142 3)) (fun I1 => (Q I1)))
set_option maxRecDepth 20000 in
theorem c10_stop {ad : Nat → Nat} {n : Nat} {I J : mI} {R : mR} {Q : mI → Prop}  (hRF : RF R)   (hw : p10_stop I Q) : wMet yX10_stop cX10_stop 1 none 1 12 false ad n I J R [vr 142] (fun _ I' J' R' => (J' = J ∧ R' = R) ∧ Q I') := by
  refine wMet_of (by decide) (Nat.le_of_ble_eq_true rfl) (fun C hC hRm hE hS => ?_)
  refine (show WM C ad n I J R 0 0 0 [(0, vr 142)] [] from ?_)
  unfold p10_stop at hw
  refine wm_aload_n hC 0 dX10_stop_0 rfl (k_ne0 kk_142 (by decide)) ?_
  refine wm_aload_n hC 0 dX10_stop_1 rfl (k_ne0 kk_142 (by decide)) ?_
  refine x_getI hC 3 fl_X10_21 rfl kk_142 dX10_stop_2 ?_
  refine x_putI hC 5 fl_X10_28 rfl kk_142 dX10_stop_5 hw (fun I1 hw => ?_)
  exact wm_return hC hE dX10_stop_8 ⟨⟨rfl, rfl⟩, hw⟩
def p10_valueHere (I : mI) (Q : Int → Prop) : Prop := (if (I 142 5) < 0 then (Q 0) else (if (I 142 3) ≤ (I 142 5) then (Q 0) else (if (1601 : Int) ≤ (I 142 5) then (Q 0) else (((0 : Int) ≤ (I 142 5) ∧ (I 142 5) < (1601 : Int)) ∧ (Q (I 144 (I 142 5)))))))
set_option maxRecDepth 20000 in
theorem c10_valueHere {ad : Nat → Nat} {n : Nat} {I J : mI} {R : mR} {Q : Int → Prop}  (hRF : RF R)   (hw : p10_valueHere I Q) : wMet yX10_valueHere cX10_valueHere 1 (some .int) 1 12 false ad n I J R [vr 142] (fun r I' J' R' => (I' = I ∧ J' = J ∧ R' = R) ∧ Q r) := by
  refine wMet_of (by decide) (Nat.le_of_ble_eq_true rfl) (fun C hC hRm hE hS => ?_)
  refine (show WM C ad n I J R 0 0 0 [(0, vr 142)] [] from ?_)
  unfold p10_valueHere at hw
  refine wm_aload_n hC 0 dX10_valueHere_0 rfl (k_ne0 kk_142 (by decide)) ?_
  refine x_getI hC 5 fl_X10_28 rfl kk_142 dX10_valueHere_1 ?_
  refine wm_if_lt (tgt := 42) hC dX10_valueHere_4 (by decide) hw (fun hw => ?_) (fun hw => ?_)
  · refine wm_iconst hC dX10_valueHere_42 (k := ?_)
    exact wm_ireturn hC hE dX10_valueHere_43 ⟨⟨rfl, rfl, rfl⟩, hw⟩
  · refine wm_aload_n hC 0 dX10_valueHere_7 rfl (k_ne0 kk_142 (by decide)) ?_
    refine x_getI hC 5 fl_X10_28 rfl kk_142 dX10_valueHere_8 ?_
    refine wm_aload_n hC 0 dX10_valueHere_11 rfl (k_ne0 kk_142 (by decide)) ?_
    refine x_getI hC 3 fl_X10_21 rfl kk_142 dX10_valueHere_12 ?_
    refine wm_icmp_ge (tgt := 42) hC dX10_valueHere_15 (by decide) hw (fun hw => ?_) (fun hw => ?_)
    · refine wm_iconst hC dX10_valueHere_42 (k := ?_)
      exact wm_ireturn hC hE dX10_valueHere_43 ⟨⟨rfl, rfl, rfl⟩, hw⟩
    · refine wm_aload_n hC 0 dX10_valueHere_18 rfl (k_ne0 kk_142 (by decide)) ?_
      refine x_getI hC 5 fl_X10_28 rfl kk_142 dX10_valueHere_19 ?_
      refine wm_aload_n hC 0 dX10_valueHere_22 rfl (k_ne0 kk_142 (by decide)) ?_
      refine x_getR3 hC 1 fl_X10_15 rfl kk_142 (rf_142_1 hRF) dX10_valueHere_23 ?_
      refine x_alen2 hC kk_144 kn_144 (by decide) dX10_valueHere_26 ?_
      refine wm_icmp_ge (tgt := 42) hC dX10_valueHere_27 (by decide) hw (fun hw => ?_) (fun hw => ?_)
      · refine wm_iconst hC dX10_valueHere_42 (k := ?_)
        exact wm_ireturn hC hE dX10_valueHere_43 ⟨⟨rfl, rfl, rfl⟩, hw⟩
      · refine wm_aload_n hC 0 dX10_valueHere_30 rfl (k_ne0 kk_142 (by decide)) ?_
        refine x_getR3 hC 1 fl_X10_15 rfl kk_142 (rf_142_1 hRF) dX10_valueHere_31 ?_
        refine wm_aload_n hC 0 dX10_valueHere_34 rfl (k_ne0 kk_142 (by decide)) ?_
        refine x_getI hC 5 fl_X10_28 rfl kk_142 dX10_valueHere_35 ?_
        refine x_iald2 hC kk_144 kn_144 dX10_valueHere_38 hw (fun hw => ?_)
        refine wm_goto (tgt := 43) hC dX10_valueHere_39 (by decide) ?_
        exact wm_ireturn hC hE dX10_valueHere_43 ⟨⟨rfl, rfl, rfl⟩, hw⟩
def p3_isThere (l0 : Nat) (l1 : Int) (l2 : Int) (I : mI) (Q : Int → Prop) : Prop := (if l1 < 0 then (Q 0) else (if (3 : Int) ≤ l1 then (Q 0) else (if l2 < 0 then (Q 0) else (((0 : Int) ≤ l1 ∧ l1 < (3 : Int)) ∧ (if (I (l0 + 1) l1) ≤ l2 then (Q 0) else (Q 1))))))
set_option maxRecDepth 20000 in
theorem c3_isThere {ad : Nat → Nat} {n : Nat} {I J : mI} {R : mR} {Q : Int → Prop}  (hRF : RF R) {l0 : Nat} {l1 : Int} {l2 : Int} (h0 : isLd l0)   (hw : p3_isThere l0 l1 l2 I Q) : wMet yX3_isThere cX3_isThere 3 (some .boolean) 1 12 false ad n I J R [vr l0, vi l1, vi l2] (fun r I' J' R' => (I' = I ∧ J' = J ∧ R' = R) ∧ Q r) := by
  refine wMet_of (by decide) (Nat.le_of_ble_eq_true rfl) (fun C hC hRm hE hS => ?_)
  refine (show WM C ad n I J R 0 0 0 [(0, vr l0), (1, vi l1), (2, vi l2)] [] from ?_)
  unfold p3_isThere at hw
  refine wm_iload_n hC 1 dX3_isThere_0 rfl ?_
  refine wm_if_lt (tgt := 31) hC dX3_isThere_1 (by decide) hw (fun hw => ?_) (fun hw => ?_)
  · refine wm_iconst hC dX3_isThere_31 (k := ?_)
    exact wm_zreturn hC hE (Or.inl rfl) dX3_isThere_32 ⟨⟨rfl, rfl, rfl⟩, hw⟩
  · refine wm_iload_n hC 1 dX3_isThere_4 rfl ?_
    refine wm_aload_n hC 0 dX3_isThere_5 rfl (k_ne0 (ld_k0 h0) (by decide)) ?_
    refine x_getR3 hC 0 fl_X3_9 rfl (ld_k0 h0) (rfd_0 hRF h0) dX3_isThere_6 ?_
    refine x_alen2 hC (ld_k1 h0) (ld_n1 h0) (by decide) dX3_isThere_9 ?_
    refine wm_icmp_ge (tgt := 31) hC dX3_isThere_10 (by decide) hw (fun hw => ?_) (fun hw => ?_)
    · refine wm_iconst hC dX3_isThere_31 (k := ?_)
      exact wm_zreturn hC hE (Or.inl rfl) dX3_isThere_32 ⟨⟨rfl, rfl, rfl⟩, hw⟩
    · refine wm_iload_n hC 2 dX3_isThere_13 rfl ?_
      refine wm_if_lt (tgt := 31) hC dX3_isThere_14 (by decide) hw (fun hw => ?_) (fun hw => ?_)
      · refine wm_iconst hC dX3_isThere_31 (k := ?_)
        exact wm_zreturn hC hE (Or.inl rfl) dX3_isThere_32 ⟨⟨rfl, rfl, rfl⟩, hw⟩
      · refine wm_iload_n hC 2 dX3_isThere_17 rfl ?_
        refine wm_aload_n hC 0 dX3_isThere_18 rfl (k_ne0 (ld_k0 h0) (by decide)) ?_
        refine x_getR3 hC 0 fl_X3_9 rfl (ld_k0 h0) (rfd_0 hRF h0) dX3_isThere_19 ?_
        refine wm_iload_n hC 1 dX3_isThere_22 rfl ?_
        refine x_iald2 hC (ld_k1 h0) (ld_n1 h0) dX3_isThere_23 hw (fun hw => ?_)
        refine wm_icmp_ge (tgt := 31) hC dX3_isThere_24 (by decide) hw (fun hw => ?_) (fun hw => ?_)
        · refine wm_iconst hC dX3_isThere_31 (k := ?_)
          exact wm_zreturn hC hE (Or.inl rfl) dX3_isThere_32 ⟨⟨rfl, rfl, rfl⟩, hw⟩
        · refine wm_iconst hC dX3_isThere_27 (k := ?_)
          refine wm_goto (tgt := 32) hC dX3_isThere_28 (by decide) ?_
          exact wm_zreturn hC hE (Or.inr rfl) dX3_isThere_32 ⟨⟨rfl, rfl, rfl⟩, hw⟩
def p11_areThere (l1 : Int) (l2 : Int) (I : mI) (R : mR) (Q : Int → Prop) : Prop := (isLd (R 1 12) ∧ (p3_isThere (R 1 12) 0 l1 I (fun r1 => (if r1 = 0 then (Q 0) else (isLd (R 1 12) ∧ (p3_isThere (R 1 12) 2 l2 I (fun r2 => (if r2 = 0 then (Q 0) else (Q 1)))))))))
set_option maxRecDepth 20000 in
theorem c11_areThere {ad : Nat → Nat} {n : Nat} {I J : mI} {R : mR} {Q : Int → Prop}  (hRF : RF R) {l1 : Int} {l2 : Int}    (hw : p11_areThere l1 l2 I R Q) : wMet yX11_areThere cX11_areThere 3 (some .boolean) 2 34 false ad n I J R [vr 1, vi l1, vi l2] (fun r I' J' R' => (I' = I ∧ J' = J ∧ R' = R) ∧ Q r) := by
  refine wMet_of (by decide) (Nat.le_of_ble_eq_true rfl) (fun C hC hRm hE hS => ?_)
  refine (show WM C ad n I J R 0 0 0 [(0, vr 1), (1, vi l1), (2, vi l2)] [] from ?_)
  unfold p11_areThere at hw
  refine wm_aload_n hC 0 dX11_areThere_0 rfl (k_ne0 kk_1 (by decide)) ?_
  refine x_getRD hC 12 fl_X11_57 rfl kk_1 dX11_areThere_1 hw (fun g1 hw => ?_)
  refine wm_iconst hC dX11_areThere_4 (k := ?_)
  refine wm_iload_n hC 1 dX11_areThere_5 rfl ?_
  refine y_callV_z_n hC hRm noS ml_X11_167 (ld_k0 g1) (c3_isThere hRF g1 hw) (Nat.le_of_ble_eq_true rfl) (Nat.le_of_ble_eq_true rfl) ⟨Nat.zero_le _, Nat.zero_le _⟩ rfl (st := []) rfl (Nat.le_of_ble_eq_true rfl) dX11_areThere_6 (fun r1 hw => ?_)
  refine wm_if_eq (tgt := 28) hC dX11_areThere_9 (by decide) hw (fun hw => ?_) (fun hw => ?_)
  · refine wm_iconst hC dX11_areThere_28 (k := ?_)
    exact wm_zreturn hC hE (Or.inl rfl) dX11_areThere_29 ⟨⟨rfl, rfl, rfl⟩, hw⟩
  · refine wm_aload_n hC 0 dX11_areThere_12 rfl (k_ne0 kk_1 (by decide)) ?_
    refine x_getRD hC 12 fl_X11_57 rfl kk_1 dX11_areThere_13 hw (fun g2 hw => ?_)
    refine wm_iconst hC dX11_areThere_16 (k := ?_)
    refine wm_iload_n hC 2 dX11_areThere_17 rfl ?_
    refine y_callV_z_n hC hRm noS ml_X11_167 (ld_k0 g2) (c3_isThere hRF g2 hw) (Nat.le_of_ble_eq_true rfl) (Nat.le_of_ble_eq_true rfl) ⟨Nat.zero_le _, Nat.zero_le _⟩ rfl (st := []) rfl (Nat.le_of_ble_eq_true rfl) dX11_areThere_18 (fun r2 hw => ?_)
    refine wm_if_eq (tgt := 28) hC dX11_areThere_21 (by decide) hw (fun hw => ?_) (fun hw => ?_)
    · refine wm_iconst hC dX11_areThere_28 (k := ?_)
      exact wm_zreturn hC hE (Or.inl rfl) dX11_areThere_29 ⟨⟨rfl, rfl, rfl⟩, hw⟩
    · refine wm_iconst hC dX11_areThere_24 (k := ?_)
      refine wm_goto (tgt := 29) hC dX11_areThere_25 (by decide) ?_
      exact wm_zreturn hC hE (Or.inr rfl) dX11_areThere_29 ⟨⟨rfl, rfl, rfl⟩, hw⟩
def p7_placeOf_b2_body (l0 : Nat) (l1 : Int) (l2 : Int) (I : mI) (Q : Int → Prop) (k2 : Int → Prop) (l3 : Int) : Prop := (if l2 ≤ l3 then (Q (-1)) else (if (6 : Int) ≤ l3 then (Q (-1)) else (((0 : Int) ≤ l3 ∧ l3 < (6 : Int)) ∧ (if (I (l0 + 1) l3) = l1 then (Q l3) else (rg (l3 + 1) ∧ (k2 (l3 + 1)))))))
def p7_placeOf_b2 (l0 : Nat) (l1 : Int) (l2 : Int) (I : mI) (Q : Int → Prop) : Nat → Int → Prop
  | 0 => fun _ => False
  | f + 1 => fun l3 => p7_placeOf_b2_body l0 l1 l2 I Q (p7_placeOf_b2 l0 l1 l2 I Q f) l3
set_option maxRecDepth 20000 in
theorem w7_placeOf_b2_body {C : wX} {ad : Nat → Nat} {n : Nat} {I J : mI} {R : mR} {Q : Int → Prop} (hC : wOK C cX7_placeOf 4 RX7) (hRm : wRm C 1 12 0 0) (hE : wEnd C (some .int) ad n (fun r I' J' R' => (I' = I ∧ J' = J ∧ R' = R) ∧ Q r)) (hRF : RF R) {l0 : Nat} {l1 : Int} {l2 : Int} {l3 : Int}   (h0 : isSt l0)  {k2 : Int → Prop} (kk2 : ∀ (y3 : Int), k2 y3 → WM C ad n I J R 0 0 2 [(0, vr l0), (1, vi l1), (2, vi l2), (3, vi y3)] []) (hw : p7_placeOf_b2_body l0 l1 l2 I Q k2 l3) : WM C ad n I J R 0 0 2 [(0, vr l0), (1, vi l1), (2, vi l2), (3, vi l3)] [] := by
  unfold p7_placeOf_b2_body at hw
  refine wm_iload_n hC 3 dX7_placeOf_2 rfl ?_
  refine wm_iload_n hC 2 dX7_placeOf_3 rfl ?_
  refine wm_icmp_ge (tgt := 34) hC dX7_placeOf_4 (by decide) hw (fun hw => ?_) (fun hw => ?_)
  · refine wm_iconst hC dX7_placeOf_34 (k := ?_)
    exact wm_ireturn hC hE dX7_placeOf_35 ⟨⟨rfl, rfl, rfl⟩, hw⟩
  · refine wm_iload_n hC 3 dX7_placeOf_7 rfl ?_
    refine wm_aload_n hC 0 dX7_placeOf_8 rfl (k_ne0 (st_k0 h0) (by decide)) ?_
    refine x_getR3 hC 3 fl_X7_21 rfl (st_k0 h0) (rfs_3 hRF h0) dX7_placeOf_9 ?_
    refine x_alen2 hC (st_k1 h0) (st_n1 h0) (by decide) dX7_placeOf_12 ?_
    refine wm_icmp_ge (tgt := 34) hC dX7_placeOf_13 (by decide) hw (fun hw => ?_) (fun hw => ?_)
    · refine wm_iconst hC dX7_placeOf_34 (k := ?_)
      exact wm_ireturn hC hE dX7_placeOf_35 ⟨⟨rfl, rfl, rfl⟩, hw⟩
    · refine wm_aload_n hC 0 dX7_placeOf_16 rfl (k_ne0 (st_k0 h0) (by decide)) ?_
      refine x_getR3 hC 3 fl_X7_21 rfl (st_k0 h0) (rfs_3 hRF h0) dX7_placeOf_17 ?_
      refine wm_iload_n hC 3 dX7_placeOf_20 rfl ?_
      refine x_iald2 hC (st_k1 h0) (st_n1 h0) dX7_placeOf_21 hw (fun hw => ?_)
      refine wm_iload_n hC 1 dX7_placeOf_22 rfl ?_
      refine wm_icmp_ne (tgt := 28) hC dX7_placeOf_23 (by decide) hw (fun hw => ?_) (fun hw => ?_)
      · refine wm_iload_n hC 3 dX7_placeOf_26 rfl ?_
        exact wm_ireturn hC hE dX7_placeOf_27 ⟨⟨rfl, rfl, rfl⟩, hw⟩
      · refine x_iinc hC 3 dX7_placeOf_28 rfl (by decide) (L2 := [(3, vi (l3 + 1)), (0, vr l0), (1, vi l1), (2, vi l2)]) rfl hw (fun hw => ?_)
        refine wm_goto (tgt := 2) hC dX7_placeOf_31 (by decide) ?_
        refine wm_sub [1, 2, 3, 0] (L2 := [(0, vr l0), (1, vi l1), (2, vi l2), (3, vi (l3 + 1))]) rfl ?_
        exact kk2 _ hw
set_option maxRecDepth 20000 in
theorem w7_placeOf_b2 {C : wX} {ad : Nat → Nat} {n : Nat} {I : mI} {J : mI} {R : mR} {Q : Int → Prop} (hC : wOK C cX7_placeOf 4 RX7) (hRm : wRm C 1 12 0 0) (hE : wEnd C (some .int) ad n (fun r I' J' R' => (I' = I ∧ J' = J ∧ R' = R) ∧ Q r)) (hRF : RF R) {l0 : Nat} {l1 : Int} {l2 : Int}   (h0 : isSt l0)  : ∀ (f : Nat) (l3 : Int), p7_placeOf_b2 l0 l1 l2 I Q f l3 → WM C ad n I J R 0 0 2 [(0, vr l0), (1, vi l1), (2, vi l2), (3, vi l3)] [] := by
  intro f
  induction f with
  | zero => intro l3 hw; exact hw.elim
  | succ f ih => intro l3 hw; exact w7_placeOf_b2_body hC hRm hE hRF h0 (fun a0 aw => ih a0 aw) hw
def p7_placeOf (l0 : Nat) (l1 : Int) (l2 : Int) (I : mI) (Q : Int → Prop) : Prop := (∃ f, p7_placeOf_b2 l0 l1 l2 I Q f 0)
set_option maxRecDepth 20000 in
theorem c7_placeOf {ad : Nat → Nat} {n : Nat} {I J : mI} {R : mR} {Q : Int → Prop}  (hRF : RF R) {l0 : Nat} {l1 : Int} {l2 : Int} (h0 : isSt l0)   (hw : p7_placeOf l0 l1 l2 I Q) : wMet yX7_placeOf cX7_placeOf 4 (some .int) 1 12 false ad n I J R [vr l0, vi l1, vi l2] (fun r I' J' R' => (I' = I ∧ J' = J ∧ R' = R) ∧ Q r) := by
  refine wMet_of (by decide) (Nat.le_of_ble_eq_true rfl) (fun C hC hRm hE hS => ?_)
  refine (show WM C ad n I J R 0 0 0 [(0, vr l0), (1, vi l1), (2, vi l2)] [] from ?_)
  unfold p7_placeOf at hw
  refine wm_iconst hC dX7_placeOf_0 (k := ?_)
  refine wm_istore_n hC dX7_placeOf_1 (by decide) (L2 := [(3, vi 0), (0, vr l0), (1, vi l1), (2, vi l2)]) rfl ?_
  obtain ⟨f, hw⟩ := hw
  refine wm_sub [1, 2, 3, 0] (L2 := [(0, vr l0), (1, vi l1), (2, vi l2), (3, vi 0)]) rfl ?_
  exact w7_placeOf_b2 hC hRm hE hRF h0 f _ hw
def p11_blind (l1 : Int) (l2 : Int) (I : mI) (J : mI) (R : mR) (Q : Int → mI → mI → mR → Prop) : Prop := (isLd (R 1 12) ∧ (p3_isThere (R 1 12) 0 l1 I (fun r1 => (if r1 = 0 then (Q (-1) I J R) else (if l2 = 0 then (isLd (R 1 12) ∧ (p3_traitOf (R 1 12) 0 l1 l2 I (fun r2 => (Q r2 I J R)))) else (if l2 = 1 then (isLd (R 1 12) ∧ (p3_traitOf (R 1 12) 0 l1 l2 I (fun r3 => (Q r3 I J R)))) else (if l2 = 2 then (isLd (R 1 12) ∧ (p3_traitOf (R 1 12) 0 l1 l2 I (fun r4 => (Q r4 I J R)))) else (if l2 = 3 then (isLd (R 1 12) ∧ (p3_isLate (R 1 12) l1 I (fun r5 => (Q r5 I J R)))) else (if l2 = 4 then (((0 : Int) ≤ l1 ∧ l1 < (6 : Int)) ∧ (Q (I 9 l1) I J R)) else (if l2 = 5 then (isLd (R 1 12) ∧ (p7_placeOf 7 l1 (I ((R 1 12) + 1) 0) I (fun r6 => (Q r6 I J R)))) else (if l2 = 6 then (isLd (R 1 12) ∧ (p1_sit (R 1 12) 7 0 I J R (fun I1 J1 R1 => (p1_isCounting l1 I1 (fun r7 => (if r7 = 0 then (Q 0 I1 J1 R1) else (Q 1 I1 J1 R1))))))) else (Q (-1) I J R))))))))))))
set_option maxRecDepth 20000 in
theorem c11_blind {ad : Nat → Nat} {n : Nat} {I J : mI} {R : mR} {Q : Int → mI → mI → mR → Prop}  (hRF : RF R) {l1 : Int} {l2 : Int}    (hw : p11_blind l1 l2 I J R Q) : wMet yX11_blind cX11_blind 3 (some .int) 4 86 false ad n I J R [vr 1, vi l1, vi l2] (fun r I' J' R' => (True) ∧ (RF R' ∧ Q r I' J' R')) := by
  refine wMet_of (by decide) (Nat.le_of_ble_eq_true rfl) (fun C hC hRm hE hS => ?_)
  refine (show WM C ad n I J R 0 0 0 [(0, vr 1), (1, vi l1), (2, vi l2)] [] from ?_)
  unfold p11_blind at hw
  refine wm_aload_n hC 0 dX11_blind_0 rfl (k_ne0 kk_1 (by decide)) ?_
  refine x_getRD hC 12 fl_X11_57 rfl kk_1 dX11_blind_1 hw (fun g1 hw => ?_)
  refine wm_iconst hC dX11_blind_4 (k := ?_)
  refine wm_iload_n hC 1 dX11_blind_5 rfl ?_
  refine y_callV_z_n hC hRm noS ml_X11_167 (ld_k0 g1) (c3_isThere hRF g1 hw) (Nat.le_of_ble_eq_true rfl) (Nat.le_of_ble_eq_true rfl) ⟨Nat.zero_le _, Nat.zero_le _⟩ rfl (st := []) rfl (Nat.le_of_ble_eq_true rfl) dX11_blind_6 (fun r1 hw => ?_)
  refine wm_if_ne (tgt := 14) hC dX11_blind_9 (by decide) hw (fun hw => ?_) (fun hw => ?_)
  · refine wm_iconst hC dX11_blind_12 (k := ?_)
    exact wm_ireturn hC hE dX11_blind_13 ⟨trivial, ⟨hRF, hw⟩⟩
  · refine wm_iload_n hC 2 dX11_blind_14 rfl ?_
    by_cases hc1 : l2 = 0
    · rw [if_pos hc1] at hw
      refine wm_tableIn (v := 0) (tgt := 56) hC dX11_blind_15 hc1 (by decide) (by decide) rfl rfl ?_
      refine wm_aload_n hC 0 dX11_blind_56 rfl (k_ne0 kk_1 (by decide)) ?_
      refine x_getRD hC 12 fl_X11_57 rfl kk_1 dX11_blind_57 hw (fun g2 hw => ?_)
      refine wm_iconst hC dX11_blind_60 (k := ?_)
      refine wm_iload_n hC 1 dX11_blind_61 rfl ?_
      refine wm_iload_n hC 2 dX11_blind_62 rfl ?_
      refine y_callV_i_n hC hRm noS ml_X11_175 (ld_k0 g2) (c3_traitOf hRF g2 hw) (Nat.le_of_ble_eq_true rfl) (Nat.le_of_ble_eq_true rfl) ⟨Nat.zero_le _, Nat.zero_le _⟩ rfl (st := []) rfl (Nat.le_of_ble_eq_true rfl) dX11_blind_63 (fun r2 hw => ?_)
      exact wm_ireturn hC hE dX11_blind_66 ⟨trivial, ⟨hRF, hw⟩⟩
    rw [if_neg hc1] at hw
    by_cases hc2 : l2 = 1
    · rw [if_pos hc2] at hw
      refine wm_tableIn (v := 1) (tgt := 56) hC dX11_blind_15 hc2 (by decide) (by decide) rfl rfl ?_
      refine wm_aload_n hC 0 dX11_blind_56 rfl (k_ne0 kk_1 (by decide)) ?_
      refine x_getRD hC 12 fl_X11_57 rfl kk_1 dX11_blind_57 hw (fun g3 hw => ?_)
      refine wm_iconst hC dX11_blind_60 (k := ?_)
      refine wm_iload_n hC 1 dX11_blind_61 rfl ?_
      refine wm_iload_n hC 2 dX11_blind_62 rfl ?_
      refine y_callV_i_n hC hRm noS ml_X11_175 (ld_k0 g3) (c3_traitOf hRF g3 hw) (Nat.le_of_ble_eq_true rfl) (Nat.le_of_ble_eq_true rfl) ⟨Nat.zero_le _, Nat.zero_le _⟩ rfl (st := []) rfl (Nat.le_of_ble_eq_true rfl) dX11_blind_63 (fun r3 hw => ?_)
      exact wm_ireturn hC hE dX11_blind_66 ⟨trivial, ⟨hRF, hw⟩⟩
    rw [if_neg hc2] at hw
    by_cases hc3 : l2 = 2
    · rw [if_pos hc3] at hw
      refine wm_tableIn (v := 2) (tgt := 56) hC dX11_blind_15 hc3 (by decide) (by decide) rfl rfl ?_
      refine wm_aload_n hC 0 dX11_blind_56 rfl (k_ne0 kk_1 (by decide)) ?_
      refine x_getRD hC 12 fl_X11_57 rfl kk_1 dX11_blind_57 hw (fun g4 hw => ?_)
      refine wm_iconst hC dX11_blind_60 (k := ?_)
      refine wm_iload_n hC 1 dX11_blind_61 rfl ?_
      refine wm_iload_n hC 2 dX11_blind_62 rfl ?_
      refine y_callV_i_n hC hRm noS ml_X11_175 (ld_k0 g4) (c3_traitOf hRF g4 hw) (Nat.le_of_ble_eq_true rfl) (Nat.le_of_ble_eq_true rfl) ⟨Nat.zero_le _, Nat.zero_le _⟩ rfl (st := []) rfl (Nat.le_of_ble_eq_true rfl) dX11_blind_63 (fun r4 hw => ?_)
      exact wm_ireturn hC hE dX11_blind_66 ⟨trivial, ⟨hRF, hw⟩⟩
    rw [if_neg hc3] at hw
    by_cases hc4 : l2 = 3
    · rw [if_pos hc4] at hw
      refine wm_tableIn (v := 3) (tgt := 67) hC dX11_blind_15 hc4 (by decide) (by decide) rfl rfl ?_
      refine wm_aload_n hC 0 dX11_blind_67 rfl (k_ne0 kk_1 (by decide)) ?_
      refine x_getRD hC 12 fl_X11_57 rfl kk_1 dX11_blind_68 hw (fun g5 hw => ?_)
      refine wm_iload_n hC 1 dX11_blind_71 rfl ?_
      refine y_callV_i_n hC hRm noS ml_X11_178 (ld_k0 g5) (c3_isLate hRF g5 hw) (Nat.le_of_ble_eq_true rfl) (Nat.le_of_ble_eq_true rfl) ⟨Nat.zero_le _, Nat.zero_le _⟩ rfl (st := []) rfl (Nat.le_of_ble_eq_true rfl) dX11_blind_72 (fun r5 hw => ?_)
      exact wm_ireturn hC hE dX11_blind_75 ⟨trivial, ⟨hRF, hw⟩⟩
    rw [if_neg hc4] at hw
    by_cases hc5 : l2 = 4
    · rw [if_pos hc5] at hw
      refine wm_tableIn (v := 4) (tgt := 76) hC dX11_blind_15 hc5 (by decide) (by decide) rfl rfl ?_
      refine wm_aload_n hC 0 dX11_blind_76 rfl (k_ne0 kk_1 (by decide)) ?_
      refine x_getR3 hC 2 fl_X11_26 rfl kk_1 (rf_1_2 hRF) dX11_blind_77 ?_
      refine x_getR3 hC 4 fl_X11_181 rfl kk_7 (rfs_4 hRF isSt_7) dX11_blind_80 ?_
      refine wm_iload_n hC 1 dX11_blind_83 rfl ?_
      refine x_iald2 hC kk_9 kn_9 dX11_blind_84 hw (fun hw => ?_)
      exact wm_ireturn hC hE dX11_blind_85 ⟨trivial, ⟨hRF, hw⟩⟩
    rw [if_neg hc5] at hw
    by_cases hc6 : l2 = 5
    · rw [if_pos hc6] at hw
      refine wm_tableIn (v := 5) (tgt := 86) hC dX11_blind_15 hc6 (by decide) (by decide) rfl rfl ?_
      refine wm_aload_n hC 0 dX11_blind_86 rfl (k_ne0 kk_1 (by decide)) ?_
      refine x_getR3 hC 2 fl_X11_26 rfl kk_1 (rf_1_2 hRF) dX11_blind_87 ?_
      refine wm_iload_n hC 1 dX11_blind_90 rfl ?_
      refine wm_aload_n hC 0 dX11_blind_91 rfl (k_ne0 kk_1 (by decide)) ?_
      refine x_getRD hC 12 fl_X11_57 rfl kk_1 dX11_blind_92 hw (fun g6 hw => ?_)
      refine x_getR3 hC 0 fl_X11_145 rfl (ld_k0 g6) (rfd_0 hRF g6) dX11_blind_95 ?_
      refine wm_iconst hC dX11_blind_98 (k := ?_)
      refine x_ialdK hC (ld_k1 g6) (ld_n1 g6) (by decide) (by decide) dX11_blind_99 ?_
      refine y_callV_i_n hC hRm noS ml_X11_184 kk_7 (c7_placeOf hRF isSt_7 hw) (Nat.le_of_ble_eq_true rfl) (Nat.le_of_ble_eq_true rfl) ⟨Nat.zero_le _, Nat.zero_le _⟩ rfl (st := []) rfl (Nat.le_of_ble_eq_true rfl) dX11_blind_100 (fun r6 hw => ?_)
      exact wm_ireturn hC hE dX11_blind_103 ⟨trivial, ⟨hRF, hw⟩⟩
    rw [if_neg hc6] at hw
    by_cases hc7 : l2 = 6
    · rw [if_pos hc7] at hw
      refine wm_tableIn (v := 6) (tgt := 104) hC dX11_blind_15 hc7 (by decide) (by decide) rfl rfl ?_
      refine wm_aload_n hC 0 dX11_blind_104 rfl (k_ne0 kk_1 (by decide)) ?_
      refine x_getR3 hC 9 fl_X11_88 rfl kk_1 (rf_1_9 hRF) dX11_blind_105 ?_
      refine wm_aload_n hC 0 dX11_blind_108 rfl (k_ne0 kk_1 (by decide)) ?_
      refine x_getRD hC 12 fl_X11_57 rfl kk_1 dX11_blind_109 hw (fun g7 hw => ?_)
      refine wm_aload_n hC 0 dX11_blind_112 rfl (k_ne0 kk_1 (by decide)) ?_
      refine x_getR3 hC 2 fl_X11_26 rfl kk_1 (rf_1_2 hRF) dX11_blind_113 ?_
      refine wm_iconst hC dX11_blind_116 (k := ?_)
      refine y_callV_v_IJR hC hRm noS ml_X11_187 kk_146 (c1_sit hRF g7 isSt_7 hw) (Nat.le_of_ble_eq_true rfl) (Nat.le_of_ble_eq_true rfl) ⟨Nat.zero_le _, Nat.zero_le _⟩ rfl (st := []) rfl (Nat.le_of_ble_eq_true rfl) dX11_blind_117 (fun I1 J1 R1 hw => ?_)
      obtain ⟨rf1, hw⟩ := hw
      refine wm_aload_n hC 0 dX11_blind_120 rfl (k_ne0 kk_1 (by decide)) ?_
      refine x_getR3 hC 9 fl_X11_88 rfl kk_1 (rf_1_9 rf1) dX11_blind_121 ?_
      refine wm_iload_n hC 1 dX11_blind_124 rfl ?_
      refine y_callV_z_n hC hRm noS ml_X11_191 kk_146 (c1_isCounting rf1  hw) (Nat.le_of_ble_eq_true rfl) (Nat.le_of_ble_eq_true rfl) ⟨Nat.zero_le _, Nat.zero_le _⟩ rfl (st := []) rfl (Nat.le_of_ble_eq_true rfl) dX11_blind_125 (fun r7 hw => ?_)
      refine wm_if_eq (tgt := 135) hC dX11_blind_128 (by decide) hw (fun hw => ?_) (fun hw => ?_)
      · refine wm_iconst hC dX11_blind_135 (k := ?_)
        exact wm_ireturn hC hE dX11_blind_136 ⟨trivial, ⟨rf1, hw⟩⟩
      · refine wm_iconst hC dX11_blind_131 (k := ?_)
        refine wm_goto (tgt := 136) hC dX11_blind_132 (by decide) ?_
        exact wm_ireturn hC hE dX11_blind_136 ⟨trivial, ⟨rf1, hw⟩⟩
    rw [if_neg hc7] at hw
    refine wm_tableOut (tgt := 137) hC dX11_blind_15 (by omega) rfl ?_
    refine wm_iconst hC dX11_blind_137 (k := ?_)
    exact wm_ireturn hC hE dX11_blind_138 ⟨trivial, ⟨hRF, hw⟩⟩
def p11_canPass (l1 : Int) (I : mI) (Q : Int → Prop) : Prop := (if l1 < 0 then (Q 0) else (if (40 : Int) < l1 then (Q 0) else (rg ((I 7 0) + l1) ∧ (if (999 : Int) < ((I 7 0) + l1) then (Q 0) else (Q 1)))))
set_option maxRecDepth 20000 in
theorem c11_canPass {ad : Nat → Nat} {n : Nat} {I J : mI} {R : mR} {Q : Int → Prop}  (hRF : RF R) {l1 : Int}   (hw : p11_canPass l1 I Q) : wMet yX11_canPass cX11_canPass 2 (some .boolean) 1 12 false ad n I J R [vr 1, vi l1] (fun r I' J' R' => (I' = I ∧ J' = J ∧ R' = R) ∧ Q r) := by
  refine wMet_of (by decide) (Nat.le_of_ble_eq_true rfl) (fun C hC hRm hE hS => ?_)
  refine (show WM C ad n I J R 0 0 0 [(0, vr 1), (1, vi l1)] [] from ?_)
  unfold p11_canPass at hw
  refine wm_iload_n hC 1 dX11_canPass_0 rfl ?_
  refine wm_if_lt (tgt := 29) hC dX11_canPass_1 (by decide) hw (fun hw => ?_) (fun hw => ?_)
  · refine wm_iconst hC dX11_canPass_29 (k := ?_)
    exact wm_zreturn hC hE (Or.inl rfl) dX11_canPass_30 ⟨⟨rfl, rfl, rfl⟩, hw⟩
  · refine wm_iload_n hC 1 dX11_canPass_4 rfl ?_
    refine wm_bipush hC dX11_canPass_5 (k := ?_)
    refine wm_icmp_gt (tgt := 29) hC dX11_canPass_7 (by decide) hw (fun hw => ?_) (fun hw => ?_)
    · refine wm_iconst hC dX11_canPass_29 (k := ?_)
      exact wm_zreturn hC hE (Or.inl rfl) dX11_canPass_30 ⟨⟨rfl, rfl, rfl⟩, hw⟩
    · refine wm_aload_n hC 0 dX11_canPass_10 rfl (k_ne0 kk_1 (by decide)) ?_
      refine x_getR3 hC 2 fl_X11_26 rfl kk_1 (rf_1_2 hRF) dX11_canPass_11 ?_
      refine x_getI hC 0 fl_X11_147 rfl kk_7 dX11_canPass_14 ?_
      refine wm_iload_n hC 1 dX11_canPass_17 rfl ?_
      refine x_iadd hC dX11_canPass_18 hw (fun hw => ?_)
      refine wm_sipush hC dX11_canPass_19 (k := ?_)
      refine wm_icmp_gt (tgt := 29) hC dX11_canPass_22 (by decide) hw (fun hw => ?_) (fun hw => ?_)
      · refine wm_iconst hC dX11_canPass_29 (k := ?_)
        exact wm_zreturn hC hE (Or.inl rfl) dX11_canPass_30 ⟨⟨rfl, rfl, rfl⟩, hw⟩
      · refine wm_iconst hC dX11_canPass_25 (k := ?_)
        refine wm_goto (tgt := 30) hC dX11_canPass_26 (by decide) ?_
        exact wm_zreturn hC hE (Or.inr rfl) dX11_canPass_30 ⟨⟨rfl, rfl, rfl⟩, hw⟩
def p11_draw (l1 : Int) (I : mI) (Q : Int → mI → Prop) : Prop := (if (0 : Int) < l1 then (rl (1103515245 * (I 1 16)) ∧ (rl ((1103515245 * (I 1 16)) + 12345) ∧ (rg (lAnd ((1103515245 * (I 1 16)) + 12345) 2147483647) ∧ (wLet (up I 1 16 (lAnd ((1103515245 * (I 1 16)) + 12345) 2147483647)) (fun I1 => (l1 ≠ 0 ∧ (Q (Int.tmod (Int.tdiv (I1 1 16) 64) l1) I1))))))) else (Q (-1) I))
set_option maxRecDepth 20000 in
theorem c11_draw {ad : Nat → Nat} {n : Nat} {I J : mI} {R : mR} {Q : Int → mI → Prop}  (hRF : RF R) {l1 : Int}   (hw : p11_draw l1 I Q) : wMet yX11_draw cX11_draw 2 (some .int) 1 12 false ad n I J R [vr 1, vi l1] (fun r I' J' R' => (J' = J ∧ R' = R) ∧ Q r I') := by
  refine wMet_of (by decide) (Nat.le_of_ble_eq_true rfl) (fun C hC hRm hE hS => ?_)
  refine (show WM C ad n I J R 0 0 0 [(0, vr 1), (1, vi l1)] [] from ?_)
  unfold p11_draw at hw
  refine wm_iload_n hC 1 dX11_draw_0 rfl ?_
  refine wm_if_gt (tgt := 6) hC dX11_draw_1 (by decide) hw (fun hw => ?_) (fun hw => ?_)
  · refine wm_aload_n hC 0 dX11_draw_6 rfl (k_ne0 kk_1 (by decide)) ?_
    refine wm_ldc2 hC (x := 1103515245) tc_X11_310 rfl dX11_draw_7 (k := ?_)
    refine wm_aload_n hC 0 dX11_draw_10 rfl (k_ne0 kk_1 (by decide)) ?_
    refine x_getI hC 16 fl_X11_71 rfl kk_1 dX11_draw_11 ?_
    refine wm_i2l hC dX11_draw_14 ?_
    refine x_lmul hC dX11_draw_15 hw (fun hw => ?_)
    refine wm_ldc2 hC (x := 12345) tc_X11_312 rfl dX11_draw_16 (k := ?_)
    refine x_ladd hC dX11_draw_19 hw (fun hw => ?_)
    refine wm_ldc2 hC (x := 2147483647) tc_X11_314 rfl dX11_draw_20 (k := ?_)
    refine wm_land hC dX11_draw_23 ?_
    refine x_l2i hC dX11_draw_24 hw (fun hw => ?_)
    refine x_putI hC 16 fl_X11_71 rfl kk_1 dX11_draw_25 hw (fun I1 hw => ?_)
    refine wm_aload_n hC 0 dX11_draw_28 rfl (k_ne0 kk_1 (by decide)) ?_
    refine x_getI hC 16 fl_X11_71 rfl kk_1 dX11_draw_29 ?_
    refine wm_bipush hC dX11_draw_32 (k := ?_)
    refine x_idivP hC (by decide) dX11_draw_34 ?_
    refine wm_iload_n hC 1 dX11_draw_35 rfl ?_
    refine x_irem hC dX11_draw_36 hw (fun hw => ?_)
    exact wm_ireturn hC hE dX11_draw_37 ⟨⟨rfl, rfl⟩, hw⟩
  · refine wm_iconst hC dX11_draw_4 (k := ?_)
    exact wm_ireturn hC hE dX11_draw_5 ⟨⟨rfl, rfl⟩, hw⟩
def p11_refuse (l1 : Int) (I : mI) (Q : Int → mI → Prop) : Prop := (if l1 < 0 then (Q (-1) I) else (if (6 : Int) ≤ l1 then (Q (-1) I) else (((0 : Int) ≤ l1 ∧ l1 < (6 : Int)) ∧ (rg ((I 122 l1) + 1) ∧ (((0 : Int) ≤ l1 ∧ l1 < (6 : Int)) ∧ wLet (up I 122 l1 ((I 122 l1) + 1)) (fun I1 => (Q (-1) I1)))))))
set_option maxRecDepth 20000 in
theorem c11_refuse {ad : Nat → Nat} {n : Nat} {I J : mI} {R : mR} {Q : Int → mI → Prop}  (hRF : RF R) {l1 : Int}   (hw : p11_refuse l1 I Q) : wMet yX11_refuse cX11_refuse 2 (some .int) 1 12 false ad n I J R [vr 1, vi l1] (fun r I' J' R' => (J' = J ∧ R' = R) ∧ Q r I') := by
  refine wMet_of (by decide) (Nat.le_of_ble_eq_true rfl) (fun C hC hRm hE hS => ?_)
  refine (show WM C ad n I J R 0 0 0 [(0, vr 1), (1, vi l1)] [] from ?_)
  unfold p11_refuse at hw
  refine wm_iload_n hC 1 dX11_refuse_0 rfl ?_
  refine wm_if_lt (tgt := 23) hC dX11_refuse_1 (by decide) hw (fun hw => ?_) (fun hw => ?_)
  · refine wm_iconst hC dX11_refuse_23 (k := ?_)
    exact wm_ireturn hC hE dX11_refuse_24 ⟨⟨rfl, rfl⟩, hw⟩
  · refine wm_iload_n hC 1 dX11_refuse_4 rfl ?_
    refine wm_aload_n hC 0 dX11_refuse_5 rfl (k_ne0 kk_1 (by decide)) ?_
    refine x_getR3 hC 7 fl_X11_51 rfl kk_1 (rf_1_7 hRF) dX11_refuse_6 ?_
    refine x_alen2 hC kk_122 kn_122 (by decide) dX11_refuse_9 ?_
    refine wm_icmp_ge (tgt := 23) hC dX11_refuse_10 (by decide) hw (fun hw => ?_) (fun hw => ?_)
    · refine wm_iconst hC dX11_refuse_23 (k := ?_)
      exact wm_ireturn hC hE dX11_refuse_24 ⟨⟨rfl, rfl⟩, hw⟩
    · refine wm_aload_n hC 0 dX11_refuse_13 rfl (k_ne0 kk_1 (by decide)) ?_
      refine x_getR3 hC 7 fl_X11_51 rfl kk_1 (rf_1_7 hRF) dX11_refuse_14 ?_
      refine wm_iload_n hC 1 dX11_refuse_17 rfl ?_
      refine wm_dup2_11 hC dX11_refuse_18 (k := ?_)
      refine x_iald2 hC kk_122 kn_122 dX11_refuse_19 hw (fun hw => ?_)
      refine wm_iconst hC dX11_refuse_20 (k := ?_)
      refine x_iadd hC dX11_refuse_21 hw (fun hw => ?_)
      refine x_iast2 hC kk_122 kn_122 dX11_refuse_22 hw (fun I1 hw => ?_)
      refine wm_iconst hC dX11_refuse_23 (k := ?_)
      exact wm_ireturn hC hE dX11_refuse_24 ⟨⟨rfl, rfl⟩, hw⟩
def p7_take (l0 : Nat) (l1 : Nat) (I : mI) (Q : mI → Prop) : Prop := (wLet (up I l0 0 (I l1 0)) (fun I1 => (wLet (up I1 l0 1 (I1 l1 1)) (fun I2 => (wLet (up I2 l0 2 (I2 l1 2)) (fun I3 => (wLet (cpy I3 (l1 + 1) 0 (l0 + 1) 0 6) (fun I4 => (wLet (cpy I4 (l1 + 2) 0 (l0 + 2) 0 6) (fun I5 => (wLet (cpy I5 (l1 + 3) 0 (l0 + 3) 0 6) (fun I6 => (wLet (cpy I6 (l1 + 4) 0 (l0 + 4) 0 120) (fun I7 => (Q I7)))))))))))))))
set_option maxRecDepth 20000 in
theorem c7_take {ad : Nat → Nat} {n : Nat} {I J : mI} {R : mR} {Q : mI → Prop}  (hRF : RF R) {l0 : Nat} {l1 : Nat} (h0 : isSt l0) (h1 : isSt l1) (hw : p7_take l0 l1 I Q) : wMet yX7_take cX7_take 2 none 1 60 false ad n I J R [vr l0, vr l1] (fun _ I' J' R' => (J' = J ∧ R' = R) ∧ Q I') := by
  refine wMet_of (by decide) (Nat.le_of_ble_eq_true rfl) (fun C hC hRm hE hS => ?_)
  refine (show WM C ad n I J R 0 0 0 [(0, vr l0), (1, vr l1)] [] from ?_)
  unfold p7_take at hw
  refine wm_aload_n hC 0 dX7_take_0 rfl (k_ne0 (st_k0 h0) (by decide)) ?_
  refine wm_aload_n hC 1 dX7_take_1 rfl (k_ne0 (st_k0 h1) (by decide)) ?_
  refine x_getI hC 0 fl_X7_9 rfl (st_k0 h1) dX7_take_2 ?_
  refine x_putI hC 0 fl_X7_9 rfl (st_k0 h0) dX7_take_5 hw (fun I1 hw => ?_)
  refine wm_aload_n hC 0 dX7_take_8 rfl (k_ne0 (st_k0 h0) (by decide)) ?_
  refine wm_aload_n hC 1 dX7_take_9 rfl (k_ne0 (st_k0 h1) (by decide)) ?_
  refine x_getI hC 1 fl_X7_15 rfl (st_k0 h1) dX7_take_10 ?_
  refine x_putI hC 1 fl_X7_15 rfl (st_k0 h0) dX7_take_13 hw (fun I2 hw => ?_)
  refine wm_aload_n hC 0 dX7_take_16 rfl (k_ne0 (st_k0 h0) (by decide)) ?_
  refine wm_aload_n hC 1 dX7_take_17 rfl (k_ne0 (st_k0 h1) (by decide)) ?_
  refine x_getI hC 2 fl_X7_18 rfl (st_k0 h1) dX7_take_18 ?_
  refine x_putI hC 2 fl_X7_18 rfl (st_k0 h0) dX7_take_21 hw (fun I3 hw => ?_)
  refine wm_aload_n hC 1 dX7_take_24 rfl (k_ne0 (st_k0 h1) (by decide)) ?_
  refine x_getR3 hC 3 fl_X7_21 rfl (st_k0 h1) (rfs_3 hRF h1) dX7_take_25 ?_
  refine wm_iconst hC dX7_take_28 (k := ?_)
  refine wm_aload_n hC 0 dX7_take_29 rfl (k_ne0 (st_k0 h0) (by decide)) ?_
  refine x_getR3 hC 3 fl_X7_21 rfl (st_k0 h0) (rfs_3 hRF h0) dX7_take_30 ?_
  refine wm_iconst hC dX7_take_33 (k := ?_)
  refine wm_aload_n hC 0 dX7_take_34 rfl (k_ne0 (st_k0 h0) (by decide)) ?_
  refine x_getR3 hC 3 fl_X7_21 rfl (st_k0 h0) (rfs_3 hRF h0) dX7_take_35 ?_
  refine x_alen2 hC (st_k1 h0) (st_n1 h0) (by decide) dX7_take_38 ?_
  refine x_copyi2 hC hRm (st := []) (st_k1 h1) (st_n1 h1) (st_k1 h0) (st_n1 h0) cw_X7_42 (Nat.le_of_ble_eq_true rfl) (by decide) (by decide) dX7_take_39 hw (fun I4 hw => ?_)
  refine wm_aload_n hC 1 dX7_take_42 rfl (k_ne0 (st_k0 h1) (by decide)) ?_
  refine x_getR3 hC 4 fl_X7_25 rfl (st_k0 h1) (rfs_4 hRF h1) dX7_take_43 ?_
  refine wm_iconst hC dX7_take_46 (k := ?_)
  refine wm_aload_n hC 0 dX7_take_47 rfl (k_ne0 (st_k0 h0) (by decide)) ?_
  refine x_getR3 hC 4 fl_X7_25 rfl (st_k0 h0) (rfs_4 hRF h0) dX7_take_48 ?_
  refine wm_iconst hC dX7_take_51 (k := ?_)
  refine wm_aload_n hC 0 dX7_take_52 rfl (k_ne0 (st_k0 h0) (by decide)) ?_
  refine x_getR3 hC 4 fl_X7_25 rfl (st_k0 h0) (rfs_4 hRF h0) dX7_take_53 ?_
  refine x_alen2 hC (st_k2 h0) (st_n2 h0) (by decide) dX7_take_56 ?_
  refine x_copyi2 hC hRm (st := []) (st_k2 h1) (st_n2 h1) (st_k2 h0) (st_n2 h0) cw_X7_42 (Nat.le_of_ble_eq_true rfl) (by decide) (by decide) dX7_take_57 hw (fun I5 hw => ?_)
  refine wm_aload_n hC 1 dX7_take_60 rfl (k_ne0 (st_k0 h1) (by decide)) ?_
  refine x_getR3 hC 5 fl_X7_28 rfl (st_k0 h1) (rfs_5 hRF h1) dX7_take_61 ?_
  refine wm_iconst hC dX7_take_64 (k := ?_)
  refine wm_aload_n hC 0 dX7_take_65 rfl (k_ne0 (st_k0 h0) (by decide)) ?_
  refine x_getR3 hC 5 fl_X7_28 rfl (st_k0 h0) (rfs_5 hRF h0) dX7_take_66 ?_
  refine wm_iconst hC dX7_take_69 (k := ?_)
  refine wm_aload_n hC 0 dX7_take_70 rfl (k_ne0 (st_k0 h0) (by decide)) ?_
  refine x_getR3 hC 5 fl_X7_28 rfl (st_k0 h0) (rfs_5 hRF h0) dX7_take_71 ?_
  refine x_alen2 hC (st_k3 h0) (st_n3 h0) (by decide) dX7_take_74 ?_
  refine x_copyi2 hC hRm (st := []) (st_k3 h1) (st_n3 h1) (st_k3 h0) (st_n3 h0) cw_X7_42 (Nat.le_of_ble_eq_true rfl) (by decide) (by decide) dX7_take_75 hw (fun I6 hw => ?_)
  refine wm_aload_n hC 1 dX7_take_78 rfl (k_ne0 (st_k0 h1) (by decide)) ?_
  refine x_getR3 hC 6 fl_X7_31 rfl (st_k0 h1) (rfs_6 hRF h1) dX7_take_79 ?_
  refine wm_iconst hC dX7_take_82 (k := ?_)
  refine wm_aload_n hC 0 dX7_take_83 rfl (k_ne0 (st_k0 h0) (by decide)) ?_
  refine x_getR3 hC 6 fl_X7_31 rfl (st_k0 h0) (rfs_6 hRF h0) dX7_take_84 ?_
  refine wm_iconst hC dX7_take_87 (k := ?_)
  refine wm_aload_n hC 0 dX7_take_88 rfl (k_ne0 (st_k0 h0) (by decide)) ?_
  refine x_getR3 hC 6 fl_X7_31 rfl (st_k0 h0) (rfs_6 hRF h0) dX7_take_89 ?_
  refine x_alen2 hC (st_k4 h0) (st_n4 h0) (by decide) dX7_take_92 ?_
  refine x_copyi2 hC hRm (st := []) (st_k4 h1) (st_n4 h1) (st_k4 h0) (st_n4 h0) cw_X7_42 (Nat.le_of_ble_eq_true rfl) (by decide) (by decide) dX7_take_93 hw (fun I7 hw => ?_)
  exact wm_return hC hE dX7_take_96 ⟨⟨rfl, rfl⟩, hw⟩
