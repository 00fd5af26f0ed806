def p6_readFormula_b37 (l1 : Int) (I : mI) (R : mR) (Q : mI → Prop) : Prop := (isLd (R 141 2) ∧ (isLd (R 141 2) ∧ (((0 : Int) ≤ l1 ∧ l1 < (3 : Int)) ∧ wLet (up I ((R 141 2) + 8) l1 (I (R 141 2) 8)) (fun I5 => (Q I5)))))
set_option maxRecDepth 20000 in
theorem w6_readFormula_b37 {C : wX} {ad : Nat → Nat} {n : Nat} {I J : mI} {R : mR} {Q : mI → Prop} (hC : wOK C cX6_readFormula 2 RX6) (hRm : wRm C 103 4222 0 0) (hE : wEnd C none ad n (fun _ I' J' R' => (J' = J ∧ R' = R) ∧ Q I')) (hRF : RF R) {l1 : Int}     (hw : p6_readFormula_b37 l1 I R Q) : WM C ad n I J R 0 0 37 [(0, vr 141), (1, vi l1)] [] := by
  unfold p6_readFormula_b37 at hw
  refine wm_aload_n hC 0 dX6_readFormula_37 rfl (k_ne0 kk_141 (by decide)) ?_
  refine x_getRD hC 2 fl_X6_38 rfl kk_141 dX6_readFormula_38 hw (fun g3 hw => ?_)
  refine x_getR3 hC 7 fl_X6_189 rfl (ld_k0 g3) (rfd_7 hRF g3) dX6_readFormula_41 ?_
  refine wm_iload_n hC 1 dX6_readFormula_44 rfl ?_
  refine wm_aload_n hC 0 dX6_readFormula_45 rfl (k_ne0 kk_141 (by decide)) ?_
  refine x_getRD hC 2 fl_X6_38 rfl kk_141 dX6_readFormula_46 hw (fun g4 hw => ?_)
  refine x_getI hC 8 fl_X6_180 rfl (ld_k0 g4) dX6_readFormula_49 ?_
  refine x_iast2 hC (ld_k8 g3) (ld_n8 g3) dX6_readFormula_52 hw (fun I5 hw => ?_)
  exact wm_return hC hE dX6_readFormula_53 ⟨⟨rfl, rfl⟩, hw⟩
def p6_readFormula (l1 : Int) (I : mI) (R : mR) (Q : mI → Prop) : Prop := (wLet (up I 141 4 l1) (fun I1 => (isLd (R 141 2) ∧ (isLd (R 141 2) ∧ (((0 : Int) ≤ l1 ∧ l1 < (3 : Int)) ∧ wLet (up I1 ((R 141 2) + 7) l1 (I1 (R 141 2) 8)) (fun I2 => (if l1 = 1 then (pGrd 90 0 0 I2 R (fun I4 => (p6_readFormula_b37 l1 I4 R Q))) else (pGrd 90 4 0 I2 R (fun I3 => (p6_readFormula_b37 l1 I3 R Q))))))))))
set_option maxRecDepth 20000 in
theorem c6_readFormula {ad : Nat → Nat} {n : Nat} {I J : mI} {R : mR} {Q : mI → Prop}  (hRF : RF R) {l1 : Int}   (hw : p6_readFormula l1 I R Q) : wMet yX6_readFormula cX6_readFormula 2 none 103 4222 false ad n I J R [vr 141, vi l1] (fun _ I' J' R' => (J' = J ∧ R' = R) ∧ Q I') := by
  refine wMet_of (by decide) (Nat.le_of_ble_eq_true rfl) (fun C hC hRm hE hS => ?_)
  refine (show WM C ad n I J R 0 0 0 [(0, vr 141), (1, vi l1)] [] from ?_)
  unfold p6_readFormula at hw
  refine wm_aload_n hC 0 dX6_readFormula_0 rfl (k_ne0 kk_141 (by decide)) ?_
  refine wm_iload_n hC 1 dX6_readFormula_1 rfl ?_
  refine x_putI hC 4 fl_X6_22 rfl kk_141 dX6_readFormula_2 hw (fun I1 hw => ?_)
  refine wm_aload_n hC 0 dX6_readFormula_5 rfl (k_ne0 kk_141 (by decide)) ?_
  refine x_getRD hC 2 fl_X6_38 rfl kk_141 dX6_readFormula_6 hw (fun g1 hw => ?_)
  refine x_getR3 hC 6 fl_X6_177 rfl (ld_k0 g1) (rfd_6 hRF g1) dX6_readFormula_9 ?_
  refine wm_iload_n hC 1 dX6_readFormula_12 rfl ?_
  refine wm_aload_n hC 0 dX6_readFormula_13 rfl (k_ne0 kk_141 (by decide)) ?_
  refine x_getRD hC 2 fl_X6_38 rfl kk_141 dX6_readFormula_14 hw (fun g2 hw => ?_)
  refine x_getI hC 8 fl_X6_180 rfl (ld_k0 g2) dX6_readFormula_17 ?_
  refine x_iast2 hC (ld_k7 g1) (ld_n7 g1) dX6_readFormula_20 hw (fun I2 hw => ?_)
  refine wm_iload_n hC 1 dX6_readFormula_21 rfl ?_
  refine wm_iconst hC dX6_readFormula_22 (k := ?_)
  refine wm_icmp_ne (tgt := 33) hC dX6_readFormula_23 (by decide) hw (fun hw => ?_) (fun hw => ?_)
  · refine wm_aload_n hC 0 dX6_readFormula_26 rfl (k_ne0 kk_141 (by decide)) ?_
    refine y_callV_v_I hC hRm noS ml_X6_183 kk_141 (cGrd_0 hRF  hw) (Nat.le_of_ble_eq_true rfl) (Nat.le_of_ble_eq_true rfl) ⟨Nat.zero_le _, Nat.zero_le _⟩ rfl (st := []) rfl (Nat.le_of_ble_eq_true rfl) dX6_readFormula_27 (fun I4 hw => ?_)
    refine wm_goto (tgt := 37) hC dX6_readFormula_30 (by decide) ?_
    exact w6_readFormula_b37 hC hRm hE hRF  hw
  · refine wm_aload_n hC 0 dX6_readFormula_33 rfl (k_ne0 kk_141 (by decide)) ?_
    refine y_callV_v_I hC hRm noS ml_X6_186 kk_141 (cGrd_4 hRF  hw) (Nat.le_of_ble_eq_true rfl) (Nat.le_of_ble_eq_true rfl) ⟨Nat.zero_le _, Nat.zero_le _⟩ rfl (st := []) rfl (Nat.le_of_ble_eq_true rfl) dX6_readFormula_34 (fun I3 hw => ?_)
    exact w6_readFormula_b37 hC hRm hE hRF  hw
def p3_find_b17_body (l0 : Nat) (l1 : Int) (l2 : Int) (I : mI) (Q : Int → Prop) (k17 : Int → Prop) (l3 : Int) : Prop := (((0 : Int) ≤ l1 ∧ l1 < (3 : Int)) ∧ (if (I (l0 + 1) l1) ≤ l3 then (Q (-1)) else (rg (l1 * 6) ∧ (rg ((l1 * 6) + l3) ∧ (((0 : Int) ≤ ((l1 * 6) + l3) ∧ ((l1 * 6) + l3) < (18 : Int)) ∧ (if (I (l0 + 2) ((l1 * 6) + l3)) = l2 then (Q l3) else (rg (l3 + 1) ∧ (k17 (l3 + 1)))))))))
def p3_find_b17 (l0 : Nat) (l1 : Int) (l2 : Int) (I : mI) (Q : Int → Prop) : Nat → Int → Prop
  | 0 => fun _ => False
  | f + 1 => fun l3 => p3_find_b17_body l0 l1 l2 I Q (p3_find_b17 l0 l1 l2 I Q f) l3
set_option maxRecDepth 20000 in
theorem w3_find_b17_body {C : wX} {ad : Nat → Nat} {n : Nat} {I J : mI} {R : mR} {Q : Int → Prop} (hC : wOK C cX3_find 4 RX3) (hRm : wRm C 1 12 0 0) (hE : wEnd C (some .int) ad n (fun r I' J' R' => (I' = I ∧ J' = J ∧ R' = R) ∧ Q r)) (hRF : RF R) {l0 : Nat} {l1 : Int} {l2 : Int} {l3 : Int}   (h0 : isLd l0)  {k17 : Int → Prop} (kk17 : ∀ (y3 : Int), k17 y3 → WM C ad n I J R 0 0 17 [(0, vr l0), (1, vi l1), (2, vi l2), (3, vi y3)] []) (hw : p3_find_b17_body l0 l1 l2 I Q k17 l3) : WM C ad n I J R 0 0 17 [(0, vr l0), (1, vi l1), (2, vi l2), (3, vi l3)] [] := by
  unfold p3_find_b17_body at hw
  refine wm_iload_n hC 3 dX3_find_17 rfl ?_
  refine wm_aload_n hC 0 dX3_find_18 rfl (k_ne0 (ld_k0 h0) (by decide)) ?_
  refine x_getR3 hC 0 fl_X3_9 rfl (ld_k0 h0) (rfd_0 hRF h0) dX3_find_19 ?_
  refine wm_iload_n hC 1 dX3_find_22 rfl ?_
  refine x_iald2 hC (ld_k1 h0) (ld_n1 h0) dX3_find_23 hw (fun hw => ?_)
  refine wm_icmp_ge (tgt := 50) hC dX3_find_24 (by decide) hw (fun hw => ?_) (fun hw => ?_)
  · refine wm_iconst hC dX3_find_50 (k := ?_)
    exact wm_ireturn hC hE dX3_find_51 ⟨⟨rfl, rfl, rfl⟩, hw⟩
  · refine wm_aload_n hC 0 dX3_find_27 rfl (k_ne0 (ld_k0 h0) (by decide)) ?_
    refine x_getR3 hC 1 fl_X3_15 rfl (ld_k0 h0) (rfd_1 hRF h0) dX3_find_28 ?_
    refine wm_iload_n hC 1 dX3_find_31 rfl ?_
    refine wm_bipush hC dX3_find_32 (k := ?_)
    refine x_imul hC dX3_find_34 hw (fun hw => ?_)
    refine wm_iload_n hC 3 dX3_find_35 rfl ?_
    refine x_iadd hC dX3_find_36 hw (fun hw => ?_)
    refine x_iald2 hC (ld_k2 h0) (ld_n2 h0) dX3_find_37 hw (fun hw => ?_)
    refine wm_iload_n hC 2 dX3_find_38 rfl ?_
    refine wm_icmp_ne (tgt := 44) hC dX3_find_39 (by decide) hw (fun hw => ?_) (fun hw => ?_)
    · refine wm_iload_n hC 3 dX3_find_42 rfl ?_
      exact wm_ireturn hC hE dX3_find_43 ⟨⟨rfl, rfl, rfl⟩, hw⟩
    · refine x_iinc hC 3 dX3_find_44 rfl (by decide) (L2 := [(3, vi (l3 + 1)), (0, vr l0), (1, vi l1), (2, vi l2)]) rfl hw (fun hw => ?_)
      refine wm_goto (tgt := 17) hC dX3_find_47 (by decide) ?_
      refine wm_sub [1, 2, 3, 0] (L2 := [(0, vr l0), (1, vi l1), (2, vi l2), (3, vi (l3 + 1))]) rfl ?_
      exact kk17 _ hw
set_option maxRecDepth 20000 in
theorem w3_find_b17 {C : wX} {ad : Nat → Nat} {n : Nat} {I : mI} {J : mI} {R : mR} {Q : Int → Prop} (hC : wOK C cX3_find 4 RX3) (hRm : wRm C 1 12 0 0) (hE : wEnd C (some .int) ad n (fun r I' J' R' => (I' = I ∧ J' = J ∧ R' = R) ∧ Q r)) (hRF : RF R) {l0 : Nat} {l1 : Int} {l2 : Int}   (h0 : isLd l0)  : ∀ (f : Nat) (l3 : Int), p3_find_b17 l0 l1 l2 I Q f l3 → WM C ad n I J R 0 0 17 [(0, vr l0), (1, vi l1), (2, vi l2), (3, vi l3)] [] := by
  intro f
  induction f with
  | zero => intro l3 hw; exact hw.elim
  | succ f ih => intro l3 hw; exact w3_find_b17_body hC hRm hE hRF h0 (fun a0 aw => ih a0 aw) hw
def p3_find (l0 : Nat) (l1 : Int) (l2 : Int) (I : mI) (Q : Int → Prop) : Prop := (if l1 < 0 then (Q (-1)) else (if l1 < 3 then (∃ f, p3_find_b17 l0 l1 l2 I Q f 0) else (Q (-1))))
set_option maxRecDepth 20000 in
theorem c3_find {ad : Nat → Nat} {n : Nat} {I J : mI} {R : mR} {Q : Int → Prop}  (hRF : RF R) {l0 : Nat} {l1 : Int} {l2 : Int} (h0 : isLd l0)   (hw : p3_find l0 l1 l2 I Q) : wMet yX3_find cX3_find 4 (some .int) 1 12 false ad n I J R [vr l0, vi l1, vi l2] (fun r I' J' R' => (I' = I ∧ J' = J ∧ R' = R) ∧ Q r) := by
  refine wMet_of (by decide) (Nat.le_of_ble_eq_true rfl) (fun C hC hRm hE hS => ?_)
  refine (show WM C ad n I J R 0 0 0 [(0, vr l0), (1, vi l1), (2, vi l2)] [] from ?_)
  unfold p3_find at hw
  refine wm_iload_n hC 1 dX3_find_0 rfl ?_
  refine wm_if_lt (tgt := 13) hC dX3_find_1 (by decide) hw (fun hw => ?_) (fun hw => ?_)
  · refine wm_iconst hC dX3_find_13 (k := ?_)
    exact wm_ireturn hC hE dX3_find_14 ⟨⟨rfl, rfl, rfl⟩, hw⟩
  · refine wm_iload_n hC 1 dX3_find_4 rfl ?_
    refine wm_aload_n hC 0 dX3_find_5 rfl (k_ne0 (ld_k0 h0) (by decide)) ?_
    refine x_getR3 hC 0 fl_X3_9 rfl (ld_k0 h0) (rfd_0 hRF h0) dX3_find_6 ?_
    refine x_alen2 hC (ld_k1 h0) (ld_n1 h0) (by decide) dX3_find_9 ?_
    refine wm_icmp_lt (tgt := 15) hC dX3_find_10 (by decide) hw (fun hw => ?_) (fun hw => ?_)
    · refine wm_iconst hC dX3_find_15 (k := ?_)
      refine wm_istore_n hC dX3_find_16 (by decide) (L2 := [(3, vi 0), (0, vr l0), (1, vi l1), (2, vi l2)]) rfl ?_
      obtain ⟨f, hw⟩ := hw
      refine wm_sub [1, 2, 3, 0] (L2 := [(0, vr l0), (1, vi l1), (2, vi l2), (3, vi 0)]) rfl ?_
      exact w3_find_b17 hC hRm hE hRF h0 f _ hw
    · refine wm_iconst hC dX3_find_13 (k := ?_)
      exact wm_ireturn hC hE dX3_find_14 ⟨⟨rfl, rfl, rfl⟩, hw⟩
def p6_isName (I : mI) (Q : Int → mI → Prop) : Prop := (p10_sortHere I (fun r1 => (if r1 = 2 then (Q 1 I) else (p6_fail 1 I (fun I1 => (Q 0 I1))))))
set_option maxRecDepth 20000 in
theorem c6_isName {ad : Nat → Nat} {n : Nat} {I J : mI} {R : mR} {Q : Int → mI → Prop}  (hRF : RF R)   (hw : p6_isName I Q) : wMet yX6_isName cX6_isName 1 (some .boolean) 3 53 false ad n I J R [vr 141] (fun r I' J' R' => (J' = J ∧ R' = R) ∧ Q r I') := by
  refine wMet_of (by decide) (Nat.le_of_ble_eq_true rfl) (fun C hC hRm hE hS => ?_)
  refine (show WM C ad n I J R 0 0 0 [(0, vr 141)] [] from ?_)
  unfold p6_isName at hw
  refine wm_aload_n hC 0 dX6_isName_0 rfl (k_ne0 kk_141 (by decide)) ?_
  refine x_getR3 hC 1 fl_X6_12 rfl kk_141 (rf_141_1 hRF) dX6_isName_1 ?_
  refine y_callV_i_n hC hRm noS ml_X6_51 kk_142 (c10_sortHere hRF  hw) (Nat.le_of_ble_eq_true rfl) (Nat.le_of_ble_eq_true rfl) ⟨Nat.zero_le _, Nat.zero_le _⟩ rfl (st := []) rfl (Nat.le_of_ble_eq_true rfl) dX6_isName_4 (fun r1 hw => ?_)
  refine wm_iconst hC dX6_isName_7 (k := ?_)
  refine wm_icmp_ne (tgt := 13) hC dX6_isName_8 (by decide) hw (fun hw => ?_) (fun hw => ?_)
  · refine wm_iconst hC dX6_isName_11 (k := ?_)
    exact wm_zreturn hC hE (Or.inr rfl) dX6_isName_12 ⟨⟨rfl, rfl⟩, hw⟩
  · refine wm_aload_n hC 0 dX6_isName_13 rfl (k_ne0 kk_141 (by decide)) ?_
    refine wm_iconst hC dX6_isName_14 (k := ?_)
    refine y_callV_v_I hC hRm noS ml_X6_92 kk_141 (c6_fail hRF  hw) (Nat.le_of_ble_eq_true rfl) (Nat.le_of_ble_eq_true rfl) ⟨Nat.zero_le _, Nat.zero_le _⟩ rfl (st := []) rfl (Nat.le_of_ble_eq_true rfl) dX6_isName_15 (fun I1 hw => ?_)
    refine wm_iconst hC dX6_isName_18 (k := ?_)
    exact wm_zreturn hC hE (Or.inl rfl) dX6_isName_19 ⟨⟨rfl, rfl⟩, hw⟩
def p6_findNamed (l1 : Int) (I : mI) (R : mR) (Q : Int → mI → Prop) : Prop := (p6_isName I (fun r1 I1 => (if r1 = 0 then (Q (-1) I1) else (isLd (R 141 2) ∧ (p10_valueHere I1 (fun r2 => (p3_find (R 141 2) l1 r2 I1 (fun r3 => (if r3 = (-1) then (p6_fail 3 I1 (fun I2 => (Q r3 I2))) else (Q r3 I1))))))))))
set_option maxRecDepth 20000 in
theorem c6_findNamed {ad : Nat → Nat} {n : Nat} {I J : mI} {R : mR} {Q : Int → mI → Prop}  (hRF : RF R) {l1 : Int}   (hw : p6_findNamed l1 I R Q) : wMet yX6_findNamed cX6_findNamed 3 (some .int) 4 73 false ad n I J R [vr 141, vi l1] (fun r I' J' R' => (J' = J ∧ R' = R) ∧ Q r I') := by
  refine wMet_of (by decide) (Nat.le_of_ble_eq_true rfl) (fun C hC hRm hE hS => ?_)
  refine (show WM C ad n I J R 0 0 0 [(0, vr 141), (1, vi l1)] [] from ?_)
  unfold p6_findNamed at hw
  refine wm_aload_n hC 0 dX6_findNamed_0 rfl (k_ne0 kk_141 (by decide)) ?_
  refine y_callV_z_I hC hRm noS ml_X6_139 kk_141 (c6_isName hRF  hw) (Nat.le_of_ble_eq_true rfl) (Nat.le_of_ble_eq_true rfl) ⟨Nat.zero_le _, Nat.zero_le _⟩ rfl (st := []) rfl (Nat.le_of_ble_eq_true rfl) dX6_findNamed_1 (fun r1 I1 hw => ?_)
  refine wm_if_ne (tgt := 9) hC dX6_findNamed_4 (by decide) hw (fun hw => ?_) (fun hw => ?_)
  · refine wm_iconst hC dX6_findNamed_7 (k := ?_)
    exact wm_ireturn hC hE dX6_findNamed_8 ⟨⟨rfl, rfl⟩, hw⟩
  · refine wm_aload_n hC 0 dX6_findNamed_9 rfl (k_ne0 kk_141 (by decide)) ?_
    refine x_getRD hC 2 fl_X6_38 rfl kk_141 dX6_findNamed_10 hw (fun g1 hw => ?_)
    refine wm_iload_n hC 1 dX6_findNamed_13 rfl ?_
    refine wm_aload_n hC 0 dX6_findNamed_14 rfl (k_ne0 kk_141 (by decide)) ?_
    refine x_getR3 hC 1 fl_X6_12 rfl kk_141 (rf_141_1 hRF) dX6_findNamed_15 ?_
    refine y_callV_i_n hC hRm noS ml_X6_78 kk_142 (c10_valueHere hRF  hw) (Nat.le_of_ble_eq_true rfl) (Nat.le_of_ble_eq_true rfl) ⟨Nat.zero_le _, Nat.zero_le _⟩ rfl (st := [vi l1, vr (R 141 2)]) rfl (Nat.le_of_ble_eq_true rfl) dX6_findNamed_18 (fun r2 hw => ?_)
    refine y_callV_i_n hC hRm noS ml_X6_174 (ld_k0 g1) (c3_find hRF g1 hw) (Nat.le_of_ble_eq_true rfl) (Nat.le_of_ble_eq_true rfl) ⟨Nat.zero_le _, Nat.zero_le _⟩ rfl (st := []) rfl (Nat.le_of_ble_eq_true rfl) dX6_findNamed_21 (fun r3 hw => ?_)
    refine wm_istore_n hC dX6_findNamed_24 (by decide) (L2 := [(2, vi r3), (0, vr 141), (1, vi l1)]) rfl ?_
    refine wm_iload_n hC 0 dX6_findNamed_25 rfl ?_
    refine wm_iconst hC dX6_findNamed_26 (k := ?_)
    refine wm_icmp_ne (tgt := 35) hC dX6_findNamed_27 (by decide) hw (fun hw => ?_) (fun hw => ?_)
    · refine wm_aload_n hC 1 dX6_findNamed_30 rfl (k_ne0 kk_141 (by decide)) ?_
      refine wm_iconst hC dX6_findNamed_31 (k := ?_)
      refine y_callV_v_I hC hRm noS ml_X6_92 kk_141 (c6_fail hRF  hw) (Nat.le_of_ble_eq_true rfl) (Nat.le_of_ble_eq_true rfl) ⟨Nat.zero_le _, Nat.zero_le _⟩ rfl (st := []) rfl (Nat.le_of_ble_eq_true rfl) dX6_findNamed_32 (fun I2 hw => ?_)
      refine wm_iload_n hC 0 dX6_findNamed_35 rfl ?_
      exact wm_ireturn hC hE dX6_findNamed_36 ⟨⟨rfl, rfl⟩, hw⟩
    · refine wm_iload_n hC 0 dX6_findNamed_35 rfl ?_
      exact wm_ireturn hC hE dX6_findNamed_36 ⟨⟨rfl, rfl⟩, hw⟩
def p6_readLate (I : mI) (R : mR) (Q : mI → Prop) : Prop := (p6_findNamed 0 I R (fun r1 I1 => (if r1 = (-1) then (Q I1) else (isLd (R 141 2) ∧ (p3_isLate (R 141 2) r1 I1 (fun r2 => (if r2 = 1 then (p6_fail 3 I1 (fun I4 => (Q I4))) else (isLd (R 141 2) ∧ (wLet (up I1 (R 141 2) 9 (bOr (I1 (R 141 2) 9) (bShl 1 r1))) (fun I2 => (p10_step I2 (fun I3 => (Q I3)))))))))))))
set_option maxRecDepth 20000 in
theorem c6_readLate {ad : Nat → Nat} {n : Nat} {I J : mI} {R : mR} {Q : mI → Prop}  (hRF : RF R)   (hw : p6_readLate I R Q) : wMet yX6_readLate cX6_readLate 2 none 5 95 false ad n I J R [vr 141] (fun _ I' J' R' => (J' = J ∧ R' = R) ∧ Q I') := by
  refine wMet_of (by decide) (Nat.le_of_ble_eq_true rfl) (fun C hC hRm hE hS => ?_)
  refine (show WM C ad n I J R 0 0 0 [(0, vr 141)] [] from ?_)
  unfold p6_readLate at hw
  refine wm_aload_n hC 0 dX6_readLate_0 rfl (k_ne0 kk_141 (by decide)) ?_
  refine wm_iconst hC dX6_readLate_1 (k := ?_)
  refine y_callV_i_I hC hRm noS ml_X6_159 kk_141 (c6_findNamed hRF  hw) (Nat.le_of_ble_eq_true rfl) (Nat.le_of_ble_eq_true rfl) ⟨Nat.zero_le _, Nat.zero_le _⟩ rfl (st := []) rfl (Nat.le_of_ble_eq_true rfl) dX6_readLate_2 (fun r1 I1 hw => ?_)
  refine wm_istore_n hC dX6_readLate_5 (by decide) (L2 := [(1, vi r1), (0, vr 141)]) rfl ?_
  refine wm_iload_n hC 0 dX6_readLate_6 rfl ?_
  refine wm_iconst hC dX6_readLate_7 (k := ?_)
  refine wm_icmp_ne (tgt := 12) hC dX6_readLate_8 (by decide) hw (fun hw => ?_) (fun hw => ?_)
  · exact wm_return hC hE dX6_readLate_11 ⟨⟨rfl, rfl⟩, hw⟩
  · refine wm_aload_n hC 1 dX6_readLate_12 rfl (k_ne0 kk_141 (by decide)) ?_
    refine x_getRD hC 2 fl_X6_38 rfl kk_141 dX6_readLate_13 hw (fun g1 hw => ?_)
    refine wm_iload_n hC 0 dX6_readLate_16 rfl ?_
    refine y_callV_i_n hC hRm noS ml_X6_162 (ld_k0 g1) (c3_isLate hRF g1 hw) (Nat.le_of_ble_eq_true rfl) (Nat.le_of_ble_eq_true rfl) ⟨Nat.zero_le _, Nat.zero_le _⟩ rfl (st := []) rfl (Nat.le_of_ble_eq_true rfl) dX6_readLate_17 (fun r2 hw => ?_)
    refine wm_iconst hC dX6_readLate_20 (k := ?_)
    refine wm_icmp_ne (tgt := 30) hC dX6_readLate_21 (by decide) hw (fun hw => ?_) (fun hw => ?_)
    · refine wm_aload_n hC 1 dX6_readLate_24 rfl (k_ne0 kk_141 (by decide)) ?_
      refine wm_iconst hC dX6_readLate_25 (k := ?_)
      refine y_callV_v_I hC hRm noS ml_X6_92 kk_141 (c6_fail hRF  hw) (Nat.le_of_ble_eq_true rfl) (Nat.le_of_ble_eq_true rfl) ⟨Nat.zero_le _, Nat.zero_le _⟩ rfl (st := []) rfl (Nat.le_of_ble_eq_true rfl) dX6_readLate_26 (fun I4 hw => ?_)
      exact wm_return hC hE dX6_readLate_29 ⟨⟨rfl, rfl⟩, hw⟩
    · refine wm_aload_n hC 1 dX6_readLate_30 rfl (k_ne0 kk_141 (by decide)) ?_
      refine x_getRD hC 2 fl_X6_38 rfl kk_141 dX6_readLate_31 hw (fun g2 hw => ?_)
      refine wm_dup hC dX6_readLate_34 (k := ?_)
      refine x_getI hC 9 fl_X6_165 rfl (ld_k0 g2) dX6_readLate_35 ?_
      refine wm_iconst hC dX6_readLate_38 (k := ?_)
      refine wm_iload_n hC 0 dX6_readLate_39 rfl ?_
      refine wm_ishl hC dX6_readLate_40 ?_
      refine wm_ior hC dX6_readLate_41 ?_
      refine x_putI hC 9 fl_X6_165 rfl (ld_k0 g2) dX6_readLate_42 hw (fun I2 hw => ?_)
      refine wm_aload_n hC 1 dX6_readLate_45 rfl (k_ne0 kk_141 (by decide)) ?_
      refine x_getR3 hC 1 fl_X6_12 rfl kk_141 (rf_141_1 hRF) dX6_readLate_46 ?_
      refine y_callV_v_I hC hRm noS ml_X6_89 kk_142 (c10_step hRF  hw) (Nat.le_of_ble_eq_true rfl) (Nat.le_of_ble_eq_true rfl) ⟨Nat.zero_le _, Nat.zero_le _⟩ rfl (st := []) rfl (Nat.le_of_ble_eq_true rfl) dX6_readLate_49 (fun I3 hw => ?_)
      exact wm_return hC hE dX6_readLate_52 ⟨⟨rfl, rfl⟩, hw⟩
def p6_readNear (I : mI) (R : mR) (Q : mI → Prop) : Prop := (p6_findNamed 2 I R (fun r1 I1 => (if r1 = (-1) then (Q I1) else (p10_step I1 (fun I2 => (p6_findNamed 2 I2 R (fun r2 I3 => (if r2 = (-1) then (Q I3) else (if r1 = r2 then (p6_fail 3 I3 (fun I4 => (Q I4))) else (isLd (R 141 2) ∧ (((0 : Int) ≤ r1 ∧ r1 < (6 : Int)) ∧ (if (bAnd (bShr (I3 ((R 141 2) + 4) r1) r2) 1) = 1 then (p6_fail 3 I3 (fun I8 => (Q I8))) else (isLd (R 141 2) ∧ (((0 : Int) ≤ r1 ∧ r1 < (6 : Int)) ∧ (((0 : Int) ≤ r1 ∧ r1 < (6 : Int)) ∧ wLet (up I3 ((R 141 2) + 4) r1 (bOr (I3 ((R 141 2) + 4) r1) (bShl 1 r2))) (fun I5 => (isLd (R 141 2) ∧ (((0 : Int) ≤ r2 ∧ r2 < (6 : Int)) ∧ (((0 : Int) ≤ r2 ∧ r2 < (6 : Int)) ∧ wLet (up I5 ((R 141 2) + 4) r2 (bOr (I5 ((R 141 2) + 4) r2) (bShl 1 r1))) (fun I6 => (p10_step I6 (fun I7 => (Q I7)))))))))))))))))))))))
set_option maxRecDepth 20000 in
theorem c6_readNear {ad : Nat → Nat} {n : Nat} {I J : mI} {R : mR} {Q : mI → Prop}  (hRF : RF R)   (hw : p6_readNear I R Q) : wMet yX6_readNear cX6_readNear 3 none 5 95 false ad n I J R [vr 141] (fun _ I' J' R' => (J' = J ∧ R' = R) ∧ Q I') := by
  refine wMet_of (by decide) (Nat.le_of_ble_eq_true rfl) (fun C hC hRm hE hS => ?_)
  refine (show WM C ad n I J R 0 0 0 [(0, vr 141)] [] from ?_)
  unfold p6_readNear at hw
  refine wm_aload_n hC 0 dX6_readNear_0 rfl (k_ne0 kk_141 (by decide)) ?_
  refine wm_iconst hC dX6_readNear_1 (k := ?_)
  refine y_callV_i_I hC hRm noS ml_X6_159 kk_141 (c6_findNamed hRF  hw) (Nat.le_of_ble_eq_true rfl) (Nat.le_of_ble_eq_true rfl) ⟨Nat.zero_le _, Nat.zero_le _⟩ rfl (st := []) rfl (Nat.le_of_ble_eq_true rfl) dX6_readNear_2 (fun r1 I1 hw => ?_)
  refine wm_istore_n hC dX6_readNear_5 (by decide) (L2 := [(1, vi r1), (0, vr 141)]) rfl ?_
  refine wm_iload_n hC 0 dX6_readNear_6 rfl ?_
  refine wm_iconst hC dX6_readNear_7 (k := ?_)
  refine wm_icmp_ne (tgt := 12) hC dX6_readNear_8 (by decide) hw (fun hw => ?_) (fun hw => ?_)
  · exact wm_return hC hE dX6_readNear_11 ⟨⟨rfl, rfl⟩, hw⟩
  · refine wm_aload_n hC 1 dX6_readNear_12 rfl (k_ne0 kk_141 (by decide)) ?_
    refine x_getR3 hC 1 fl_X6_12 rfl kk_141 (rf_141_1 hRF) dX6_readNear_13 ?_
    refine y_callV_v_I hC hRm noS ml_X6_89 kk_142 (c10_step hRF  hw) (Nat.le_of_ble_eq_true rfl) (Nat.le_of_ble_eq_true rfl) ⟨Nat.zero_le _, Nat.zero_le _⟩ rfl (st := []) rfl (Nat.le_of_ble_eq_true rfl) dX6_readNear_16 (fun I2 hw => ?_)
    refine wm_aload_n hC 1 dX6_readNear_19 rfl (k_ne0 kk_141 (by decide)) ?_
    refine wm_iconst hC dX6_readNear_20 (k := ?_)
    refine y_callV_i_I hC hRm noS ml_X6_159 kk_141 (c6_findNamed hRF  hw) (Nat.le_of_ble_eq_true rfl) (Nat.le_of_ble_eq_true rfl) ⟨Nat.zero_le _, Nat.zero_le _⟩ rfl (st := []) rfl (Nat.le_of_ble_eq_true rfl) dX6_readNear_21 (fun r2 I3 hw => ?_)
    refine wm_istore_n hC dX6_readNear_24 (by decide) (L2 := [(2, vi r2), (1, vi r1), (0, vr 141)]) rfl ?_
    refine wm_iload_n hC 0 dX6_readNear_25 rfl ?_
    refine wm_iconst hC dX6_readNear_26 (k := ?_)
    refine wm_icmp_ne (tgt := 31) hC dX6_readNear_27 (by decide) hw (fun hw => ?_) (fun hw => ?_)
    · exact wm_return hC hE dX6_readNear_30 ⟨⟨rfl, rfl⟩, hw⟩
    · refine wm_iload_n hC 1 dX6_readNear_31 rfl ?_
      refine wm_iload_n hC 0 dX6_readNear_32 rfl ?_
      refine wm_icmp_eq (tgt := 53) hC dX6_readNear_33 (by decide) hw (fun hw => ?_) (fun hw => ?_)
      · refine wm_aload_n hC 2 dX6_readNear_53 rfl (k_ne0 kk_141 (by decide)) ?_
        refine wm_iconst hC dX6_readNear_54 (k := ?_)
        refine y_callV_v_I hC hRm noS ml_X6_92 kk_141 (c6_fail hRF  hw) (Nat.le_of_ble_eq_true rfl) (Nat.le_of_ble_eq_true rfl) ⟨Nat.zero_le _, Nat.zero_le _⟩ rfl (st := []) rfl (Nat.le_of_ble_eq_true rfl) dX6_readNear_55 (fun I4 hw => ?_)
        exact wm_return hC hE dX6_readNear_58 ⟨⟨rfl, rfl⟩, hw⟩
      · refine wm_aload_n hC 2 dX6_readNear_36 rfl (k_ne0 kk_141 (by decide)) ?_
        refine x_getRD hC 2 fl_X6_38 rfl kk_141 dX6_readNear_37 hw (fun g1 hw => ?_)
        refine x_getR3 hC 3 fl_X6_168 rfl (ld_k0 g1) (rfd_3 hRF g1) dX6_readNear_40 ?_
        refine wm_iload_n hC 1 dX6_readNear_43 rfl ?_
        refine x_iald2 hC (ld_k4 g1) (ld_n4 g1) dX6_readNear_44 hw (fun hw => ?_)
        refine wm_iload_n hC 0 dX6_readNear_45 rfl ?_
        refine wm_ishr hC dX6_readNear_46 ?_
        refine wm_iconst hC dX6_readNear_47 (k := ?_)
        refine wm_iand hC dX6_readNear_48 ?_
        refine wm_iconst hC dX6_readNear_49 (k := ?_)
        refine wm_icmp_ne (tgt := 59) hC dX6_readNear_50 (by decide) hw (fun hw => ?_) (fun hw => ?_)
        · refine wm_aload_n hC 2 dX6_readNear_53 rfl (k_ne0 kk_141 (by decide)) ?_
          refine wm_iconst hC dX6_readNear_54 (k := ?_)
          refine y_callV_v_I hC hRm noS ml_X6_92 kk_141 (c6_fail hRF  hw) (Nat.le_of_ble_eq_true rfl) (Nat.le_of_ble_eq_true rfl) ⟨Nat.zero_le _, Nat.zero_le _⟩ rfl (st := []) rfl (Nat.le_of_ble_eq_true rfl) dX6_readNear_55 (fun I8 hw => ?_)
          exact wm_return hC hE dX6_readNear_58 ⟨⟨rfl, rfl⟩, hw⟩
        · refine wm_aload_n hC 2 dX6_readNear_59 rfl (k_ne0 kk_141 (by decide)) ?_
          refine x_getRD hC 2 fl_X6_38 rfl kk_141 dX6_readNear_60 hw (fun g2 hw => ?_)
          refine x_getR3 hC 3 fl_X6_168 rfl (ld_k0 g2) (rfd_3 hRF g2) dX6_readNear_63 ?_
          refine wm_iload_n hC 1 dX6_readNear_66 rfl ?_
          refine wm_dup2_11 hC dX6_readNear_67 (k := ?_)
          refine x_iald2 hC (ld_k4 g2) (ld_n4 g2) dX6_readNear_68 hw (fun hw => ?_)
          refine wm_iconst hC dX6_readNear_69 (k := ?_)
          refine wm_iload_n hC 0 dX6_readNear_70 rfl ?_
          refine wm_ishl hC dX6_readNear_71 ?_
          refine wm_ior hC dX6_readNear_72 ?_
          refine x_iast2 hC (ld_k4 g2) (ld_n4 g2) dX6_readNear_73 hw (fun I5 hw => ?_)
          refine wm_aload_n hC 2 dX6_readNear_74 rfl (k_ne0 kk_141 (by decide)) ?_
          refine x_getRD hC 2 fl_X6_38 rfl kk_141 dX6_readNear_75 hw (fun g3 hw => ?_)
          refine x_getR3 hC 3 fl_X6_168 rfl (ld_k0 g3) (rfd_3 hRF g3) dX6_readNear_78 ?_
          refine wm_iload_n hC 0 dX6_readNear_81 rfl ?_
          refine wm_dup2_11 hC dX6_readNear_82 (k := ?_)
          refine x_iald2 hC (ld_k4 g3) (ld_n4 g3) dX6_readNear_83 hw (fun hw => ?_)
          refine wm_iconst hC dX6_readNear_84 (k := ?_)
          refine wm_iload_n hC 1 dX6_readNear_85 rfl ?_
          refine wm_ishl hC dX6_readNear_86 ?_
          refine wm_ior hC dX6_readNear_87 ?_
          refine x_iast2 hC (ld_k4 g3) (ld_n4 g3) dX6_readNear_88 hw (fun I6 hw => ?_)
          refine wm_aload_n hC 2 dX6_readNear_89 rfl (k_ne0 kk_141 (by decide)) ?_
          refine x_getR3 hC 1 fl_X6_12 rfl kk_141 (rf_141_1 hRF) dX6_readNear_90 ?_
          refine y_callV_v_I hC hRm noS ml_X6_89 kk_142 (c10_step hRF  hw) (Nat.le_of_ble_eq_true rfl) (Nat.le_of_ble_eq_true rfl) ⟨Nat.zero_le _, Nat.zero_le _⟩ rfl (st := []) rfl (Nat.le_of_ble_eq_true rfl) dX6_readNear_93 (fun I7 hw => ?_)
          exact wm_return hC hE dX6_readNear_96 ⟨⟨rfl, rfl⟩, hw⟩
def p6_isTaken (l1 : Int) (I : mI) (R : mR) (Q : Int → Prop) : Prop := (isLd (R 141 2) ∧ (p3_find (R 141 2) 0 l1 I (fun r1 => (if r1 = (-1) then (isLd (R 141 2) ∧ (p3_find (R 141 2) 1 l1 I (fun r2 => (if r2 = (-1) then (isLd (R 141 2) ∧ (p3_find (R 141 2) 2 l1 I (fun r3 => (if r3 = (-1) then (Q 0) else (Q 1))))) else (Q 1))))) else (Q 1)))))
set_option maxRecDepth 20000 in
theorem c6_isTaken {ad : Nat → Nat} {n : Nat} {I J : mI} {R : mR} {Q : Int → Prop}  (hRF : RF R) {l1 : Int}   (hw : p6_isTaken l1 I R Q) : wMet yX6_isTaken cX6_isTaken 2 (some .boolean) 2 35 false ad n I J R [vr 141, vi l1] (fun r I' J' R' => (I' = I ∧ J' = J ∧ R' = R) ∧ Q r) := by
  refine wMet_of (by decide) (Nat.le_of_ble_eq_true rfl) (fun C hC hRm hE hS => ?_)
  refine (show WM C ad n I J R 0 0 0 [(0, vr 141), (1, vi l1)] [] from ?_)
  unfold p6_isTaken at hw
  refine wm_aload_n hC 0 dX6_isTaken_0 rfl (k_ne0 kk_141 (by decide)) ?_
  refine x_getRD hC 2 fl_X6_38 rfl kk_141 dX6_isTaken_1 hw (fun g1 hw => ?_)
  refine wm_iconst hC dX6_isTaken_4 (k := ?_)
  refine wm_iload_n hC 1 dX6_isTaken_5 rfl ?_
  refine y_callV_i_n hC hRm noS ml_X6_174 (ld_k0 g1) (c3_find hRF g1 hw) (Nat.le_of_ble_eq_true rfl) (Nat.le_of_ble_eq_true rfl) ⟨Nat.zero_le _, Nat.zero_le _⟩ rfl (st := []) rfl (Nat.le_of_ble_eq_true rfl) dX6_isTaken_6 (fun r1 hw => ?_)
  refine wm_iconst hC dX6_isTaken_9 (k := ?_)
  refine wm_icmp_ne (tgt := 39) hC dX6_isTaken_10 (by decide) hw (fun hw => ?_) (fun hw => ?_)
  · refine wm_aload_n hC 0 dX6_isTaken_13 rfl (k_ne0 kk_141 (by decide)) ?_
    refine x_getRD hC 2 fl_X6_38 rfl kk_141 dX6_isTaken_14 hw (fun g2 hw => ?_)
    refine wm_iconst hC dX6_isTaken_17 (k := ?_)
    refine wm_iload_n hC 1 dX6_isTaken_18 rfl ?_
    refine y_callV_i_n hC hRm noS ml_X6_174 (ld_k0 g2) (c3_find hRF g2 hw) (Nat.le_of_ble_eq_true rfl) (Nat.le_of_ble_eq_true rfl) ⟨Nat.zero_le _, Nat.zero_le _⟩ rfl (st := []) rfl (Nat.le_of_ble_eq_true rfl) dX6_isTaken_19 (fun r2 hw => ?_)
    refine wm_iconst hC dX6_isTaken_22 (k := ?_)
    refine wm_icmp_ne (tgt := 39) hC dX6_isTaken_23 (by decide) hw (fun hw => ?_) (fun hw => ?_)
    · refine wm_aload_n hC 0 dX6_isTaken_26 rfl (k_ne0 kk_141 (by decide)) ?_
      refine x_getRD hC 2 fl_X6_38 rfl kk_141 dX6_isTaken_27 hw (fun g3 hw => ?_)
      refine wm_iconst hC dX6_isTaken_30 (k := ?_)
      refine wm_iload_n hC 1 dX6_isTaken_31 rfl ?_
      refine y_callV_i_n hC hRm noS ml_X6_174 (ld_k0 g3) (c3_find hRF g3 hw) (Nat.le_of_ble_eq_true rfl) (Nat.le_of_ble_eq_true rfl) ⟨Nat.zero_le _, Nat.zero_le _⟩ rfl (st := []) rfl (Nat.le_of_ble_eq_true rfl) dX6_isTaken_32 (fun r3 hw => ?_)
      refine wm_iconst hC dX6_isTaken_35 (k := ?_)
      refine wm_icmp_eq (tgt := 43) hC dX6_isTaken_36 (by decide) hw (fun hw => ?_) (fun hw => ?_)
      · refine wm_iconst hC dX6_isTaken_43 (k := ?_)
        exact wm_zreturn hC hE (Or.inl rfl) dX6_isTaken_44 ⟨⟨rfl, rfl, rfl⟩, hw⟩
      · refine wm_iconst hC dX6_isTaken_39 (k := ?_)
        refine wm_goto (tgt := 44) hC dX6_isTaken_40 (by decide) ?_
        exact wm_zreturn hC hE (Or.inr rfl) dX6_isTaken_44 ⟨⟨rfl, rfl, rfl⟩, hw⟩
    · refine wm_iconst hC dX6_isTaken_39 (k := ?_)
      refine wm_goto (tgt := 44) hC dX6_isTaken_40 (by decide) ?_
      exact wm_zreturn hC hE (Or.inr rfl) dX6_isTaken_44 ⟨⟨rfl, rfl, rfl⟩, hw⟩
  · refine wm_iconst hC dX6_isTaken_39 (k := ?_)
    refine wm_goto (tgt := 44) hC dX6_isTaken_40 (by decide) ?_
    exact wm_zreturn hC hE (Or.inr rfl) dX6_isTaken_44 ⟨⟨rfl, rfl, rfl⟩, hw⟩
def p6_takeUpTo (l1 : Int) (I : mI) (Q : Int → mI → Prop) : Prop := (p10_valueHere I (fun r1 => (p10_sortHere I (fun r2 => (if r2 = 3 then (if r1 ≤ l1 then (p10_step I (fun I1 => (Q r1 I1))) else (p6_fail 4 I (fun I2 => (Q 0 I2)))) else (p6_fail 1 I (fun I3 => (Q 0 I3))))))))
set_option maxRecDepth 20000 in
theorem c6_takeUpTo {ad : Nat → Nat} {n : Nat} {I J : mI} {R : mR} {Q : Int → mI → Prop}  (hRF : RF R) {l1 : Int}   (hw : p6_takeUpTo l1 I Q) : wMet yX6_takeUpTo cX6_takeUpTo 3 (some .int) 3 53 false ad n I J R [vr 141, vi l1] (fun r I' J' R' => (J' = J ∧ R' = R) ∧ Q r I') := by
  refine wMet_of (by decide) (Nat.le_of_ble_eq_true rfl) (fun C hC hRm hE hS => ?_)
  refine (show WM C ad n I J R 0 0 0 [(0, vr 141), (1, vi l1)] [] from ?_)
  unfold p6_takeUpTo at hw
  refine wm_aload_n hC 0 dX6_takeUpTo_0 rfl (k_ne0 kk_141 (by decide)) ?_
  refine x_getR3 hC 1 fl_X6_12 rfl kk_141 (rf_141_1 hRF) dX6_takeUpTo_1 ?_
  refine y_callV_i_n hC hRm noS ml_X6_78 kk_142 (c10_valueHere hRF  hw) (Nat.le_of_ble_eq_true rfl) (Nat.le_of_ble_eq_true rfl) ⟨Nat.zero_le _, Nat.zero_le _⟩ rfl (st := []) rfl (Nat.le_of_ble_eq_true rfl) dX6_takeUpTo_4 (fun r1 hw => ?_)
  refine wm_istore_n hC dX6_takeUpTo_7 (by decide) (L2 := [(2, vi r1), (0, vr 141), (1, vi l1)]) rfl ?_
  refine wm_aload_n hC 1 dX6_takeUpTo_8 rfl (k_ne0 kk_141 (by decide)) ?_
  refine x_getR3 hC 1 fl_X6_12 rfl kk_141 (rf_141_1 hRF) dX6_takeUpTo_9 ?_
  refine y_callV_i_n hC hRm noS ml_X6_51 kk_142 (c10_sortHere hRF  hw) (Nat.le_of_ble_eq_true rfl) (Nat.le_of_ble_eq_true rfl) ⟨Nat.zero_le _, Nat.zero_le _⟩ rfl (st := []) rfl (Nat.le_of_ble_eq_true rfl) dX6_takeUpTo_12 (fun r2 hw => ?_)
  refine wm_iconst hC dX6_takeUpTo_15 (k := ?_)
  refine wm_icmp_eq (tgt := 26) hC dX6_takeUpTo_16 (by decide) hw (fun hw => ?_) (fun hw => ?_)
  · refine wm_iload_n hC 0 dX6_takeUpTo_26 rfl ?_
    refine wm_iload_n hC 2 dX6_takeUpTo_27 rfl ?_
    refine wm_icmp_le (tgt := 38) hC dX6_takeUpTo_28 (by decide) hw (fun hw => ?_) (fun hw => ?_)
    · refine wm_aload_n hC 1 dX6_takeUpTo_38 rfl (k_ne0 kk_141 (by decide)) ?_
      refine x_getR3 hC 1 fl_X6_12 rfl kk_141 (rf_141_1 hRF) dX6_takeUpTo_39 ?_
      refine y_callV_v_I hC hRm noS ml_X6_89 kk_142 (c10_step hRF  hw) (Nat.le_of_ble_eq_true rfl) (Nat.le_of_ble_eq_true rfl) ⟨Nat.zero_le _, Nat.zero_le _⟩ rfl (st := []) rfl (Nat.le_of_ble_eq_true rfl) dX6_takeUpTo_42 (fun I1 hw => ?_)
      refine wm_iload_n hC 0 dX6_takeUpTo_45 rfl ?_
      exact wm_ireturn hC hE dX6_takeUpTo_46 ⟨⟨rfl, rfl⟩, hw⟩
    · refine wm_aload_n hC 1 dX6_takeUpTo_31 rfl (k_ne0 kk_141 (by decide)) ?_
      refine wm_iconst hC dX6_takeUpTo_32 (k := ?_)
      refine y_callV_v_I hC hRm noS ml_X6_92 kk_141 (c6_fail hRF  hw) (Nat.le_of_ble_eq_true rfl) (Nat.le_of_ble_eq_true rfl) ⟨Nat.zero_le _, Nat.zero_le _⟩ rfl (st := []) rfl (Nat.le_of_ble_eq_true rfl) dX6_takeUpTo_33 (fun I2 hw => ?_)
      refine wm_iconst hC dX6_takeUpTo_36 (k := ?_)
      exact wm_ireturn hC hE dX6_takeUpTo_37 ⟨⟨rfl, rfl⟩, hw⟩
  · refine wm_aload_n hC 1 dX6_takeUpTo_19 rfl (k_ne0 kk_141 (by decide)) ?_
    refine wm_iconst hC dX6_takeUpTo_20 (k := ?_)
    refine y_callV_v_I hC hRm noS ml_X6_92 kk_141 (c6_fail hRF  hw) (Nat.le_of_ble_eq_true rfl) (Nat.le_of_ble_eq_true rfl) ⟨Nat.zero_le _, Nat.zero_le _⟩ rfl (st := []) rfl (Nat.le_of_ble_eq_true rfl) dX6_takeUpTo_21 (fun I3 hw => ?_)
    refine wm_iconst hC dX6_takeUpTo_24 (k := ?_)
    exact wm_ireturn hC hE dX6_takeUpTo_25 ⟨⟨rfl, rfl⟩, hw⟩
def p6_takeTrait (l1 : Int) (l2 : Int) (I : mI) (Q : Int → mI → Prop) : Prop := (p6_isOwn l1 I (fun r1 => (if r1 = 0 then (p6_fail 1 I (fun I3 => (Q 0 I3))) else (p10_step I (fun I1 => (p6_takeUpTo l2 I1 (fun r2 I2 => (Q r2 I2))))))))
set_option maxRecDepth 20000 in
theorem c6_takeTrait {ad : Nat → Nat} {n : Nat} {I J : mI} {R : mR} {Q : Int → mI → Prop}  (hRF : RF R) {l1 : Int} {l2 : Int}    (hw : p6_takeTrait l1 l2 I Q) : wMet yX6_takeTrait cX6_takeTrait 3 (some .int) 4 75 false ad n I J R [vr 141, vi l1, vi l2] (fun r I' J' R' => (J' = J ∧ R' = R) ∧ Q r I') := by
  refine wMet_of (by decide) (Nat.le_of_ble_eq_true rfl) (fun C hC hRm hE hS => ?_)
  refine (show WM C ad n I J R 0 0 0 [(0, vr 141), (1, vi l1), (2, vi l2)] [] from ?_)
  unfold p6_takeTrait at hw
  refine wm_aload_n hC 0 dX6_takeTrait_0 rfl (k_ne0 kk_141 (by decide)) ?_
  refine wm_iload_n hC 1 dX6_takeTrait_1 rfl ?_
  refine y_callV_z_n hC hRm noS ml_X6_156 kk_141 (c6_isOwn hRF  hw) (Nat.le_of_ble_eq_true rfl) (Nat.le_of_ble_eq_true rfl) ⟨Nat.zero_le _, Nat.zero_le _⟩ rfl (st := []) rfl (Nat.le_of_ble_eq_true rfl) dX6_takeTrait_2 (fun r1 hw => ?_)
  refine wm_if_ne (tgt := 15) hC dX6_takeTrait_5 (by decide) hw (fun hw => ?_) (fun hw => ?_)
  · refine wm_aload_n hC 0 dX6_takeTrait_8 rfl (k_ne0 kk_141 (by decide)) ?_
    refine wm_iconst hC dX6_takeTrait_9 (k := ?_)
    refine y_callV_v_I hC hRm noS ml_X6_92 kk_141 (c6_fail hRF  hw) (Nat.le_of_ble_eq_true rfl) (Nat.le_of_ble_eq_true rfl) ⟨Nat.zero_le _, Nat.zero_le _⟩ rfl (st := []) rfl (Nat.le_of_ble_eq_true rfl) dX6_takeTrait_10 (fun I3 hw => ?_)
    refine wm_iconst hC dX6_takeTrait_13 (k := ?_)
    exact wm_ireturn hC hE dX6_takeTrait_14 ⟨⟨rfl, rfl⟩, hw⟩
  · refine wm_aload_n hC 0 dX6_takeTrait_15 rfl (k_ne0 kk_141 (by decide)) ?_
    refine x_getR3 hC 1 fl_X6_12 rfl kk_141 (rf_141_1 hRF) dX6_takeTrait_16 ?_
    refine y_callV_v_I hC hRm noS ml_X6_89 kk_142 (c10_step hRF  hw) (Nat.le_of_ble_eq_true rfl) (Nat.le_of_ble_eq_true rfl) ⟨Nat.zero_le _, Nat.zero_le _⟩ rfl (st := []) rfl (Nat.le_of_ble_eq_true rfl) dX6_takeTrait_19 (fun I1 hw => ?_)
    refine wm_aload_n hC 0 dX6_takeTrait_22 rfl (k_ne0 kk_141 (by decide)) ?_
    refine wm_iload_n hC 2 dX6_takeTrait_23 rfl ?_
    refine y_callV_i_I hC hRm noS ml_X6_115 kk_141 (c6_takeUpTo hRF  hw) (Nat.le_of_ble_eq_true rfl) (Nat.le_of_ble_eq_true rfl) ⟨Nat.zero_le _, Nat.zero_le _⟩ rfl (st := []) rfl (Nat.le_of_ble_eq_true rfl) dX6_takeTrait_24 (fun r2 I2 hw => ?_)
    exact wm_ireturn hC hE dX6_takeTrait_27 ⟨⟨rfl, rfl⟩, hw⟩
def p6_readOne_b128 (l1 : Int) (I : mI) (R : mR) (Q : mI → Prop) : Prop := (isLd (R 141 2) ∧ (((0 : Int) ≤ l1 ∧ l1 < (3 : Int)) ∧ (rg ((I ((R 141 2) + 1) l1) + 1) ∧ (((0 : Int) ≤ l1 ∧ l1 < (3 : Int)) ∧ wLet (up I ((R 141 2) + 1) l1 ((I ((R 141 2) + 1) l1) + 1)) (fun I9 => (Q I9))))))
set_option maxRecDepth 20000 in
theorem w6_readOne_b128 {C : wX} {ad : Nat → Nat} {n : Nat} {I J : mI} {R : mR} {Q : mI → Prop} (hC : wOK C cX6_readOne 4 RX6) (hRm : wRm C 5 97 0 0) (hE : wEnd C none ad n (fun _ I' J' R' => (J' = J ∧ R' = R) ∧ Q I')) (hRF : RF R) {l1 : Int}     (hw : p6_readOne_b128 l1 I R Q) : WM C ad n I J R 0 0 128 [(0, vr 141), (1, vi l1)] [] := by
  unfold p6_readOne_b128 at hw
  refine wm_aload_n hC 0 dX6_readOne_128 rfl (k_ne0 kk_141 (by decide)) ?_
  refine x_getRD hC 2 fl_X6_38 rfl kk_141 dX6_readOne_129 hw (fun g5 hw => ?_)
  refine x_getR3 hC 0 fl_X6_132 rfl (ld_k0 g5) (rfd_0 hRF g5) dX6_readOne_132 ?_
  refine wm_iload_n hC 1 dX6_readOne_135 rfl ?_
  refine wm_dup2_11 hC dX6_readOne_136 (k := ?_)
  refine x_iald2 hC (ld_k1 g5) (ld_n1 g5) dX6_readOne_137 hw (fun hw => ?_)
  refine wm_iconst hC dX6_readOne_138 (k := ?_)
  refine x_iadd hC dX6_readOne_139 hw (fun hw => ?_)
  refine x_iast2 hC (ld_k1 g5) (ld_n1 g5) dX6_readOne_140 hw (fun I9 hw => ?_)
  exact wm_return hC hE dX6_readOne_141 ⟨⟨rfl, rfl⟩, hw⟩
def p6_readOne_b68_body (l1 : Int) (l2 : Int) (R : mR) (Q : mI → Prop) (k68 : Int → mI → Prop) (l3 : Int) (I : mI) : Prop := (if (3 : Int) ≤ l3 then (if l1 = 1 then (isLd (R 141 2) ∧ (rg (l2 * 4) ∧ (rg ((l2 * 4) + 3) ∧ (p6_takeTrait 14 99 I (fun r5 I5 => (((0 : Int) ≤ ((l2 * 4) + 3) ∧ ((l2 * 4) + 3) < (72 : Int)) ∧ wLet (up I5 ((R 141 2) + 3) ((l2 * 4) + 3) r5) (fun I6 => (p6_readOne_b128 l1 I6 R Q)))))))) else (p6_readOne_b128 l1 I R Q)) else (isLd (R 141 2) ∧ (rg (l2 * 4) ∧ (rg ((l2 * 4) + l3) ∧ (rg (11 + l3) ∧ (p6_takeTrait (11 + l3) 9 I (fun r6 I7 => (((0 : Int) ≤ ((l2 * 4) + l3) ∧ ((l2 * 4) + l3) < (72 : Int)) ∧ wLet (up I7 ((R 141 2) + 3) ((l2 * 4) + l3) r6) (fun I8 => (rg (l3 + 1) ∧ (k68 (l3 + 1) I8)))))))))))
def p6_readOne_b68 (l1 : Int) (l2 : Int) (R : mR) (Q : mI → Prop) : Nat → Int → mI → Prop
  | 0 => fun _ _ => False
  | f + 1 => fun l3 I => p6_readOne_b68_body l1 l2 R Q (p6_readOne_b68 l1 l2 R Q f) l3 I
set_option maxRecDepth 20000 in
theorem w6_readOne_b68_body {C : wX} {ad : Nat → Nat} {n : Nat} {I J : mI} {R : mR} {Q : mI → Prop} (hC : wOK C cX6_readOne 4 RX6) (hRm : wRm C 5 97 0 0) (hE : wEnd C none ad n (fun _ I' J' R' => (J' = J ∧ R' = R) ∧ Q I')) (hRF : RF R) {l1 : Int} {l2 : Int} {l3 : Int}     {k68 : Int → mI → Prop} (kk68 : ∀ (y3 : Int) (I' : mI), k68 y3 I' → WM C ad n I' J R 0 0 68 [(0, vr 141), (1, vi l1), (2, vi l2), (3, vi y3)] []) (hw : p6_readOne_b68_body l1 l2 R Q k68 l3 I) : WM C ad n I J R 0 0 68 [(0, vr 141), (1, vi l1), (2, vi l2), (3, vi l3)] [] := by
  unfold p6_readOne_b68_body at hw
  refine wm_iload_n hC 3 dX6_readOne_68 rfl ?_
  refine wm_iconst hC dX6_readOne_69 (k := ?_)
  refine wm_icmp_ge (tgt := 102) hC dX6_readOne_70 (by decide) hw (fun hw => ?_) (fun hw => ?_)
  · refine wm_iload_n hC 1 dX6_readOne_102 rfl ?_
    refine wm_iconst hC dX6_readOne_103 (k := ?_)
    refine wm_icmp_ne (tgt := 128) hC dX6_readOne_104 (by decide) hw (fun hw => ?_) (fun hw => ?_)
    · refine wm_aload_n hC 0 dX6_readOne_107 rfl (k_ne0 kk_141 (by decide)) ?_
      refine x_getRD hC 2 fl_X6_38 rfl kk_141 dX6_readOne_108 hw (fun g3 hw => ?_)
      refine x_getR3 hC 2 fl_X6_149 rfl (ld_k0 g3) (rfd_2 hRF g3) dX6_readOne_111 ?_
      refine wm_iload_n hC 2 dX6_readOne_114 rfl ?_
      refine wm_iconst hC dX6_readOne_115 (k := ?_)
      refine x_imul hC dX6_readOne_116 hw (fun hw => ?_)
      refine wm_iconst hC dX6_readOne_117 (k := ?_)
      refine x_iadd hC dX6_readOne_118 hw (fun hw => ?_)
      refine wm_aload_n hC 0 dX6_readOne_119 rfl (k_ne0 kk_141 (by decide)) ?_
      refine wm_bipush hC dX6_readOne_120 (k := ?_)
      refine wm_bipush hC dX6_readOne_122 (k := ?_)
      refine y_callV_i_I hC hRm noS ml_X6_152 kk_141 (c6_takeTrait hRF  hw) (Nat.le_of_ble_eq_true rfl) (Nat.le_of_ble_eq_true rfl) ⟨Nat.zero_le _, Nat.zero_le _⟩ rfl (st := [vi ((l2 * 4) + 3), vr ((R 141 2) + 3)]) rfl (Nat.le_of_ble_eq_true rfl) dX6_readOne_124 (fun r5 I5 hw => ?_)
      refine x_iast2 hC (ld_k3 g3) (ld_n3 g3) dX6_readOne_127 hw (fun I6 hw => ?_)
      refine wm_sub [0, 1] (L2 := [(0, vr 141), (1, vi l1)]) rfl ?_
      exact w6_readOne_b128 hC hRm hE hRF  hw
    · refine wm_sub [0, 1] (L2 := [(0, vr 141), (1, vi l1)]) rfl ?_
      exact w6_readOne_b128 hC hRm hE hRF  hw
  · refine wm_aload_n hC 0 dX6_readOne_73 rfl (k_ne0 kk_141 (by decide)) ?_
    refine x_getRD hC 2 fl_X6_38 rfl kk_141 dX6_readOne_74 hw (fun g4 hw => ?_)
    refine x_getR3 hC 2 fl_X6_149 rfl (ld_k0 g4) (rfd_2 hRF g4) dX6_readOne_77 ?_
    refine wm_iload_n hC 2 dX6_readOne_80 rfl ?_
    refine wm_iconst hC dX6_readOne_81 (k := ?_)
    refine x_imul hC dX6_readOne_82 hw (fun hw => ?_)
    refine wm_iload_n hC 3 dX6_readOne_83 rfl ?_
    refine x_iadd hC dX6_readOne_84 hw (fun hw => ?_)
    refine wm_aload_n hC 0 dX6_readOne_85 rfl (k_ne0 kk_141 (by decide)) ?_
    refine wm_bipush hC dX6_readOne_86 (k := ?_)
    refine wm_iload_n hC 3 dX6_readOne_88 rfl ?_
    refine x_iadd hC dX6_readOne_89 hw (fun hw => ?_)
    refine wm_bipush hC dX6_readOne_90 (k := ?_)
    refine y_callV_i_I hC hRm noS ml_X6_152 kk_141 (c6_takeTrait hRF  hw) (Nat.le_of_ble_eq_true rfl) (Nat.le_of_ble_eq_true rfl) ⟨Nat.zero_le _, Nat.zero_le _⟩ rfl (st := [vi ((l2 * 4) + l3), vr ((R 141 2) + 3)]) rfl (Nat.le_of_ble_eq_true rfl) dX6_readOne_92 (fun r6 I7 hw => ?_)
    refine x_iast2 hC (ld_k3 g4) (ld_n3 g4) dX6_readOne_95 hw (fun I8 hw => ?_)
    refine x_iinc hC 3 dX6_readOne_96 rfl (by decide) (L2 := [(3, vi (l3 + 1)), (0, vr 141), (1, vi l1), (2, vi l2)]) rfl hw (fun hw => ?_)
    refine wm_goto (tgt := 68) hC dX6_readOne_99 (by decide) ?_
    refine wm_sub [1, 2, 3, 0] (L2 := [(0, vr 141), (1, vi l1), (2, vi l2), (3, vi (l3 + 1))]) rfl ?_
    exact kk68 _ _ hw
set_option maxRecDepth 20000 in
theorem w6_readOne_b68 {C : wX} {ad : Nat → Nat} {n : Nat} {J : mI} {R : mR} {Q : mI → Prop} (hC : wOK C cX6_readOne 4 RX6) (hRm : wRm C 5 97 0 0) (hE : wEnd C none ad n (fun _ I' J' R' => (J' = J ∧ R' = R) ∧ Q I')) (hRF : RF R) {l1 : Int} {l2 : Int}     : ∀ (f : Nat) (l3 : Int) (I : mI), p6_readOne_b68 l1 l2 R Q f l3 I → WM C ad n I J R 0 0 68 [(0, vr 141), (1, vi l1), (2, vi l2), (3, vi l3)] [] := by
  intro f
  induction f with
  | zero => intro l3 I hw; exact hw.elim
  | succ f ih => intro l3 I hw; exact w6_readOne_b68_body hC hRm hE hRF  (fun a0 a1 aw => ih a0 a1 aw) hw
def p6_readOne (l1 : Int) (I : mI) (R : mR) (Q : mI → Prop) : Prop := (p6_isName I (fun r1 I1 => (if r1 = 0 then (Q I1) else (p10_valueHere I1 (fun r2 => (p6_isTaken r2 I1 R (fun r3 => (if r3 = 0 then (rg (l1 * 6) ∧ (isLd (R 141 2) ∧ (((0 : Int) ≤ l1 ∧ l1 < (3 : Int)) ∧ (rg ((l1 * 6) + (I1 ((R 141 2) + 1) l1)) ∧ (wLet ((l1 * 6) + (I1 ((R 141 2) + 1) l1)) (fun x1 => (isLd (R 141 2) ∧ (p10_valueHere I1 (fun r4 => (((0 : Int) ≤ x1 ∧ x1 < (18 : Int)) ∧ wLet (up I1 ((R 141 2) + 2) x1 r4) (fun I2 => (p10_step I2 (fun I3 => (∃ f, p6_readOne_b68 l1 x1 R Q f 0 I3)))))))))))))) else (p6_fail 2 I1 (fun I4 => (Q I4)))))))))))
set_option maxRecDepth 20000 in
theorem c6_readOne {ad : Nat → Nat} {n : Nat} {I J : mI} {R : mR} {Q : mI → Prop}  (hRF : RF R) {l1 : Int}   (hw : p6_readOne l1 I R Q) : wMet yX6_readOne cX6_readOne 4 none 5 97 false ad n I J R [vr 141, vi l1] (fun _ I' J' R' => (J' = J ∧ R' = R) ∧ Q I') := by
  refine wMet_of (by decide) (Nat.le_of_ble_eq_true rfl) (fun C hC hRm hE hS => ?_)
  refine (show WM C ad n I J R 0 0 0 [(0, vr 141), (1, vi l1)] [] from ?_)
  unfold p6_readOne at hw
  refine wm_aload_n hC 0 dX6_readOne_0 rfl (k_ne0 kk_141 (by decide)) ?_
  refine y_callV_z_I hC hRm noS ml_X6_139 kk_141 (c6_isName hRF  hw) (Nat.le_of_ble_eq_true rfl) (Nat.le_of_ble_eq_true rfl) ⟨Nat.zero_le _, Nat.zero_le _⟩ rfl (st := []) rfl (Nat.le_of_ble_eq_true rfl) dX6_readOne_1 (fun r1 I1 hw => ?_)
  refine wm_if_ne (tgt := 8) hC dX6_readOne_4 (by decide) hw (fun hw => ?_) (fun hw => ?_)
  · exact wm_return hC hE dX6_readOne_7 ⟨⟨rfl, rfl⟩, hw⟩
  · refine wm_aload_n hC 0 dX6_readOne_8 rfl (k_ne0 kk_141 (by decide)) ?_
    refine wm_aload_n hC 0 dX6_readOne_9 rfl (k_ne0 kk_141 (by decide)) ?_
    refine x_getR3 hC 1 fl_X6_12 rfl kk_141 (rf_141_1 hRF) dX6_readOne_10 ?_
    refine y_callV_i_n hC hRm noS ml_X6_78 kk_142 (c10_valueHere hRF  hw) (Nat.le_of_ble_eq_true rfl) (Nat.le_of_ble_eq_true rfl) ⟨Nat.zero_le _, Nat.zero_le _⟩ rfl (st := [vr 141]) rfl (Nat.le_of_ble_eq_true rfl) dX6_readOne_13 (fun r2 hw => ?_)
    refine y_callV_z_n hC hRm noS ml_X6_143 kk_141 (c6_isTaken hRF  hw) (Nat.le_of_ble_eq_true rfl) (Nat.le_of_ble_eq_true rfl) ⟨Nat.zero_le _, Nat.zero_le _⟩ rfl (st := []) rfl (Nat.le_of_ble_eq_true rfl) dX6_readOne_16 (fun r3 hw => ?_)
    refine wm_if_eq (tgt := 28) hC dX6_readOne_19 (by decide) hw (fun hw => ?_) (fun hw => ?_)
    · refine wm_iload_n hC 1 dX6_readOne_28 rfl ?_
      refine wm_bipush hC dX6_readOne_29 (k := ?_)
      refine x_imul hC dX6_readOne_31 hw (fun hw => ?_)
      refine wm_aload_n hC 0 dX6_readOne_32 rfl (k_ne0 kk_141 (by decide)) ?_
      refine x_getRD hC 2 fl_X6_38 rfl kk_141 dX6_readOne_33 hw (fun g1 hw => ?_)
      refine x_getR3 hC 0 fl_X6_132 rfl (ld_k0 g1) (rfd_0 hRF g1) dX6_readOne_36 ?_
      refine wm_iload_n hC 1 dX6_readOne_39 rfl ?_
      refine x_iald2 hC (ld_k1 g1) (ld_n1 g1) dX6_readOne_40 hw (fun hw => ?_)
      refine x_iadd hC dX6_readOne_41 hw (fun hw => ?_)
      refine x_nameI hw (fun x1 hw => ?_)
      refine wm_istore_n hC dX6_readOne_42 (by decide) (L2 := [(2, vi x1), (0, vr 141), (1, vi l1)]) rfl ?_
      refine wm_aload_n hC 1 dX6_readOne_43 rfl (k_ne0 kk_141 (by decide)) ?_
      refine x_getRD hC 2 fl_X6_38 rfl kk_141 dX6_readOne_44 hw (fun g2 hw => ?_)
      refine x_getR3 hC 1 fl_X6_146 rfl (ld_k0 g2) (rfd_1 hRF g2) dX6_readOne_47 ?_
      refine wm_iload_n hC 0 dX6_readOne_50 rfl ?_
      refine wm_aload_n hC 1 dX6_readOne_51 rfl (k_ne0 kk_141 (by decide)) ?_
      refine x_getR3 hC 1 fl_X6_12 rfl kk_141 (rf_141_1 hRF) dX6_readOne_52 ?_
      refine y_callV_i_n hC hRm noS ml_X6_78 kk_142 (c10_valueHere hRF  hw) (Nat.le_of_ble_eq_true rfl) (Nat.le_of_ble_eq_true rfl) ⟨Nat.zero_le _, Nat.zero_le _⟩ rfl (st := [vi x1, vr ((R 141 2) + 2)]) rfl (Nat.le_of_ble_eq_true rfl) dX6_readOne_55 (fun r4 hw => ?_)
      refine x_iast2 hC (ld_k2 g2) (ld_n2 g2) dX6_readOne_58 hw (fun I2 hw => ?_)
      refine wm_aload_n hC 1 dX6_readOne_59 rfl (k_ne0 kk_141 (by decide)) ?_
      refine x_getR3 hC 1 fl_X6_12 rfl kk_141 (rf_141_1 hRF) dX6_readOne_60 ?_
      refine y_callV_v_I hC hRm noS ml_X6_89 kk_142 (c10_step hRF  hw) (Nat.le_of_ble_eq_true rfl) (Nat.le_of_ble_eq_true rfl) ⟨Nat.zero_le _, Nat.zero_le _⟩ rfl (st := []) rfl (Nat.le_of_ble_eq_true rfl) dX6_readOne_63 (fun I3 hw => ?_)
      refine wm_iconst hC dX6_readOne_66 (k := ?_)
      refine wm_istore_n hC dX6_readOne_67 (by decide) (L2 := [(3, vi 0), (2, vi x1), (0, vr 141), (1, vi l1)]) rfl ?_
      obtain ⟨f, hw⟩ := hw
      refine wm_sub [2, 3, 1, 0] (L2 := [(0, vr 141), (1, vi l1), (2, vi x1), (3, vi 0)]) rfl ?_
      exact w6_readOne_b68 hC hRm hE hRF  f _ _ hw
    · refine wm_aload_n hC 0 dX6_readOne_22 rfl (k_ne0 kk_141 (by decide)) ?_
      refine wm_iconst hC dX6_readOne_23 (k := ?_)
      refine y_callV_v_I hC hRm noS ml_X6_92 kk_141 (c6_fail hRF  hw) (Nat.le_of_ble_eq_true rfl) (Nat.le_of_ble_eq_true rfl) ⟨Nat.zero_le _, Nat.zero_le _⟩ rfl (st := []) rfl (Nat.le_of_ble_eq_true rfl) dX6_readOne_24 (fun I4 hw => ?_)
      exact wm_return hC hE dX6_readOne_27 ⟨⟨rfl, rfl⟩, hw⟩
def p6_readWears (I : mI) (R : mR) (Q : mI → Prop) : Prop := (p6_findNamed 2 I R (fun r1 I1 => (if r1 = (-1) then (Q I1) else (p10_step I1 (fun I2 => (p6_findNamed 1 I2 R (fun r2 I3 => (if r2 = (-1) then (Q I3) else (isLd (R 141 2) ∧ (((0 : Int) ≤ r1 ∧ r1 < (6 : Int)) ∧ wLet (up I3 ((R 141 2) + 5) r1 r2) (fun I4 => (p10_step I4 (fun I5 => (Q I5))))))))))))))
set_option maxRecDepth 20000 in
theorem c6_readWears {ad : Nat → Nat} {n : Nat} {I J : mI} {R : mR} {Q : mI → Prop}  (hRF : RF R)   (hw : p6_readWears I R Q) : wMet yX6_readWears cX6_readWears 3 none 5 95 false ad n I J R [vr 141] (fun _ I' J' R' => (J' = J ∧ R' = R) ∧ Q I') := by
  refine wMet_of (by decide) (Nat.le_of_ble_eq_true rfl) (fun C hC hRm hE hS => ?_)
  refine (show WM C ad n I J R 0 0 0 [(0, vr 141)] [] from ?_)
  unfold p6_readWears at hw
  refine wm_aload_n hC 0 dX6_readWears_0 rfl (k_ne0 kk_141 (by decide)) ?_
  refine wm_iconst hC dX6_readWears_1 (k := ?_)
  refine y_callV_i_I hC hRm noS ml_X6_159 kk_141 (c6_findNamed hRF  hw) (Nat.le_of_ble_eq_true rfl) (Nat.le_of_ble_eq_true rfl) ⟨Nat.zero_le _, Nat.zero_le _⟩ rfl (st := []) rfl (Nat.le_of_ble_eq_true rfl) dX6_readWears_2 (fun r1 I1 hw => ?_)
  refine wm_istore_n hC dX6_readWears_5 (by decide) (L2 := [(1, vi r1), (0, vr 141)]) rfl ?_
  refine wm_iload_n hC 0 dX6_readWears_6 rfl ?_
  refine wm_iconst hC dX6_readWears_7 (k := ?_)
  refine wm_icmp_ne (tgt := 12) hC dX6_readWears_8 (by decide) hw (fun hw => ?_) (fun hw => ?_)
  · exact wm_return hC hE dX6_readWears_11 ⟨⟨rfl, rfl⟩, hw⟩
  · refine wm_aload_n hC 1 dX6_readWears_12 rfl (k_ne0 kk_141 (by decide)) ?_
    refine x_getR3 hC 1 fl_X6_12 rfl kk_141 (rf_141_1 hRF) dX6_readWears_13 ?_
    refine y_callV_v_I hC hRm noS ml_X6_89 kk_142 (c10_step hRF  hw) (Nat.le_of_ble_eq_true rfl) (Nat.le_of_ble_eq_true rfl) ⟨Nat.zero_le _, Nat.zero_le _⟩ rfl (st := []) rfl (Nat.le_of_ble_eq_true rfl) dX6_readWears_16 (fun I2 hw => ?_)
    refine wm_aload_n hC 1 dX6_readWears_19 rfl (k_ne0 kk_141 (by decide)) ?_
    refine wm_iconst hC dX6_readWears_20 (k := ?_)
    refine y_callV_i_I hC hRm noS ml_X6_159 kk_141 (c6_findNamed hRF  hw) (Nat.le_of_ble_eq_true rfl) (Nat.le_of_ble_eq_true rfl) ⟨Nat.zero_le _, Nat.zero_le _⟩ rfl (st := []) rfl (Nat.le_of_ble_eq_true rfl) dX6_readWears_21 (fun r2 I3 hw => ?_)
    refine wm_istore_n hC dX6_readWears_24 (by decide) (L2 := [(2, vi r2), (1, vi r1), (0, vr 141)]) rfl ?_
    refine wm_iload_n hC 0 dX6_readWears_25 rfl ?_
    refine wm_iconst hC dX6_readWears_26 (k := ?_)
    refine wm_icmp_ne (tgt := 31) hC dX6_readWears_27 (by decide) hw (fun hw => ?_) (fun hw => ?_)
    · exact wm_return hC hE dX6_readWears_30 ⟨⟨rfl, rfl⟩, hw⟩
    · refine wm_aload_n hC 2 dX6_readWears_31 rfl (k_ne0 kk_141 (by decide)) ?_
      refine x_getRD hC 2 fl_X6_38 rfl kk_141 dX6_readWears_32 hw (fun g1 hw => ?_)
      refine x_getR3 hC 4 fl_X6_171 rfl (ld_k0 g1) (rfd_4 hRF g1) dX6_readWears_35 ?_
      refine wm_iload_n hC 1 dX6_readWears_38 rfl ?_
      refine wm_iload_n hC 0 dX6_readWears_39 rfl ?_
      refine x_iast2 hC (ld_k5 g1) (ld_n5 g1) dX6_readWears_40 hw (fun I4 hw => ?_)
      refine wm_aload_n hC 2 dX6_readWears_41 rfl (k_ne0 kk_141 (by decide)) ?_
      refine x_getR3 hC 1 fl_X6_12 rfl kk_141 (rf_141_1 hRF) dX6_readWears_42 ?_
      refine y_callV_v_I hC hRm noS ml_X6_89 kk_142 (c10_step hRF  hw) (Nat.le_of_ble_eq_true rfl) (Nat.le_of_ble_eq_true rfl) ⟨Nat.zero_le _, Nat.zero_le _⟩ rfl (st := []) rfl (Nat.le_of_ble_eq_true rfl) dX6_readWears_45 (fun I5 hw => ?_)
      exact wm_return hC hE dX6_readWears_48 ⟨⟨rfl, rfl⟩, hw⟩
def p6_readStatement (I : mI) (R : mR) (Q : mI → Prop) : Prop := (p6_ownHere I (fun r1 => (if (I 141 5) = 60 then (p6_fail 6 I (fun I26 => (Q I26))) else (if r1 < 0 then (p6_fail 1 I (fun I1 => (Q I1))) else (if r1 ≤ 10 then (p6_isFull r1 I R (fun r2 => (if r2 = 0 then (rg ((I 141 5) + 1) ∧ (wLet (up I 141 5 ((I 141 5) + 1)) (fun I2 => (p10_step I2 (fun I3 => (if r1 = 0 then (p6_readOne r1 I3 R (fun I4 => (p6_expect 59 I4 (fun I5 => (Q I5))))) else (if r1 = 1 then (p6_readOne r1 I3 R (fun I6 => (p6_expect 59 I6 (fun I7 => (Q I7))))) else (if r1 = 2 then (p6_readOne r1 I3 R (fun I8 => (p6_expect 59 I8 (fun I9 => (Q I9))))) else (if r1 = 3 then (p6_readLate I3 R (fun I10 => (p6_expect 59 I10 (fun I11 => (Q I11))))) else (if r1 = 4 then (p6_readNear I3 R (fun I12 => (p6_expect 59 I12 (fun I13 => (Q I13))))) else (if r1 = 5 then (p6_readWears I3 R (fun I14 => (p6_expect 59 I14 (fun I15 => (Q I15))))) else (if r1 = 6 then (isLd (R 141 2) ∧ (p6_takeUpTo 999 I3 (fun r3 I16 => (wLet (up I16 (R 141 2) 10 r3) (fun I17 => (p6_expect 59 I17 (fun I18 => (Q I18)))))))) else (if r1 = 7 then (isLd (R 141 2) ∧ (p6_takeUpTo 100 I3 (fun r4 I19 => (wLet (up I19 (R 141 2) 11 r4) (fun I20 => (p6_expect 59 I20 (fun I21 => (Q I21)))))))) else (rg (r1 - 8) ∧ (p6_readFormula (r1 - 8) I3 R (fun I22 => (p6_expect 59 I22 (fun I23 => (Q I23))))))))))))))))))) else (p6_fail 6 I (fun I24 => (Q I24)))))) else (p6_fail 1 I (fun I25 => (Q I25))))))))
set_option maxRecDepth 20000 in
theorem c6_readStatement {ad : Nat → Nat} {n : Nat} {I J : mI} {R : mR} {Q : mI → Prop}  (hRF : RF R)   (hw : p6_readStatement I R Q) : wMet yX6_readStatement cX6_readStatement 2 none 104 4243 false ad n I J R [vr 141] (fun _ I' J' R' => (J' = J ∧ R' = R) ∧ Q I') := by
  refine wMet_of (by decide) (Nat.le_of_ble_eq_true rfl) (fun C hC hRm hE hS => ?_)
  refine (show WM C ad n I J R 0 0 0 [(0, vr 141)] [] from ?_)
  unfold p6_readStatement at hw
  refine wm_aload_n hC 0 dX6_readStatement_0 rfl (k_ne0 kk_141 (by decide)) ?_
  refine y_callV_i_n hC hRm noS ml_X6_96 kk_141 (c6_ownHere hRF  hw) (Nat.le_of_ble_eq_true rfl) (Nat.le_of_ble_eq_true rfl) ⟨Nat.zero_le _, Nat.zero_le _⟩ rfl (st := []) rfl (Nat.le_of_ble_eq_true rfl) dX6_readStatement_1 (fun r1 hw => ?_)
  refine wm_istore_n hC dX6_readStatement_4 (by decide) (L2 := [(1, vi r1), (0, vr 141)]) rfl ?_
  refine wm_aload_n hC 1 dX6_readStatement_5 rfl (k_ne0 kk_141 (by decide)) ?_
  refine x_getI hC 5 fl_X6_25 rfl kk_141 dX6_readStatement_6 ?_
  refine wm_bipush hC dX6_readStatement_9 (k := ?_)
  refine wm_icmp_ne (tgt := 21) hC dX6_readStatement_11 (by decide) hw (fun hw => ?_) (fun hw => ?_)
  · refine wm_aload_n hC 1 dX6_readStatement_14 rfl (k_ne0 kk_141 (by decide)) ?_
    refine wm_bipush hC dX6_readStatement_15 (k := ?_)
    refine y_callV_v_I hC hRm noS ml_X6_92 kk_141 (c6_fail hRF  hw) (Nat.le_of_ble_eq_true rfl) (Nat.le_of_ble_eq_true rfl) ⟨Nat.zero_le _, Nat.zero_le _⟩ rfl (st := []) rfl (Nat.le_of_ble_eq_true rfl) dX6_readStatement_17 (fun I26 hw => ?_)
    exact wm_return hC hE dX6_readStatement_20 ⟨⟨rfl, rfl⟩, hw⟩
  · refine wm_iload_n hC 0 dX6_readStatement_21 rfl ?_
    refine wm_if_lt (tgt := 31) hC dX6_readStatement_22 (by decide) hw (fun hw => ?_) (fun hw => ?_)
    · refine wm_aload_n hC 1 dX6_readStatement_31 rfl (k_ne0 kk_141 (by decide)) ?_
      refine wm_iconst hC dX6_readStatement_32 (k := ?_)
      refine y_callV_v_I hC hRm noS ml_X6_92 kk_141 (c6_fail hRF  hw) (Nat.le_of_ble_eq_true rfl) (Nat.le_of_ble_eq_true rfl) ⟨Nat.zero_le _, Nat.zero_le _⟩ rfl (st := []) rfl (Nat.le_of_ble_eq_true rfl) dX6_readStatement_33 (fun I1 hw => ?_)
      exact wm_return hC hE dX6_readStatement_36 ⟨⟨rfl, rfl⟩, hw⟩
    · refine wm_iload_n hC 0 dX6_readStatement_25 rfl ?_
      refine wm_bipush hC dX6_readStatement_26 (k := ?_)
      refine wm_icmp_le (tgt := 37) hC dX6_readStatement_28 (by decide) hw (fun hw => ?_) (fun hw => ?_)
      · refine wm_aload_n hC 1 dX6_readStatement_37 rfl (k_ne0 kk_141 (by decide)) ?_
        refine wm_iload_n hC 0 dX6_readStatement_38 rfl ?_
        refine y_callV_z_n hC hRm noS ml_X6_99 kk_141 (c6_isFull hRF  hw) (Nat.le_of_ble_eq_true rfl) (Nat.le_of_ble_eq_true rfl) ⟨Nat.zero_le _, Nat.zero_le _⟩ rfl (st := []) rfl (Nat.le_of_ble_eq_true rfl) dX6_readStatement_39 (fun r2 hw => ?_)
        refine wm_if_eq (tgt := 52) hC dX6_readStatement_42 (by decide) hw (fun hw => ?_) (fun hw => ?_)
        · refine wm_aload_n hC 1 dX6_readStatement_52 rfl (k_ne0 kk_141 (by decide)) ?_
          refine wm_dup hC dX6_readStatement_53 (k := ?_)
          refine x_getI hC 5 fl_X6_25 rfl kk_141 dX6_readStatement_54 ?_
          refine wm_iconst hC dX6_readStatement_57 (k := ?_)
          refine x_iadd hC dX6_readStatement_58 hw (fun hw => ?_)
          refine x_putI hC 5 fl_X6_25 rfl kk_141 dX6_readStatement_59 hw (fun I2 hw => ?_)
          refine wm_aload_n hC 1 dX6_readStatement_62 rfl (k_ne0 kk_141 (by decide)) ?_
          refine x_getR3 hC 1 fl_X6_12 rfl kk_141 (rf_141_1 hRF) dX6_readStatement_63 ?_
          refine y_callV_v_I hC hRm noS ml_X6_89 kk_142 (c10_step hRF  hw) (Nat.le_of_ble_eq_true rfl) (Nat.le_of_ble_eq_true rfl) ⟨Nat.zero_le _, Nat.zero_le _⟩ rfl (st := []) rfl (Nat.le_of_ble_eq_true rfl) dX6_readStatement_66 (fun I3 hw => ?_)
          refine wm_iload_n hC 0 dX6_readStatement_69 rfl ?_
          by_cases hc1 : r1 = 0
          · rw [if_pos hc1] at hw
            refine wm_tableIn (v := 0) (tgt := 116) hC dX6_readStatement_70 hc1 (by decide) (by decide) rfl rfl ?_
            refine wm_aload_n hC 1 dX6_readStatement_116 rfl (k_ne0 kk_141 (by decide)) ?_
            refine wm_iload_n hC 0 dX6_readStatement_117 rfl ?_
            refine y_callV_v_I hC hRm noS ml_X6_103 kk_141 (c6_readOne hRF  hw) (Nat.le_of_ble_eq_true rfl) (Nat.le_of_ble_eq_true rfl) ⟨Nat.zero_le _, Nat.zero_le _⟩ rfl (st := []) rfl (Nat.le_of_ble_eq_true rfl) dX6_readStatement_118 (fun I4 hw => ?_)
            refine wm_goto (tgt := 186) hC dX6_readStatement_121 (by decide) ?_
            refine wm_aload_n hC 1 dX6_readStatement_186 rfl (k_ne0 kk_141 (by decide)) ?_
            refine wm_bipush hC dX6_readStatement_187 (k := ?_)
            refine y_callV_v_I hC hRm noS ml_X6_128 kk_141 (c6_expect hRF  hw) (Nat.le_of_ble_eq_true rfl) (Nat.le_of_ble_eq_true rfl) ⟨Nat.zero_le _, Nat.zero_le _⟩ rfl (st := []) rfl (Nat.le_of_ble_eq_true rfl) dX6_readStatement_189 (fun I5 hw => ?_)
            exact wm_return hC hE dX6_readStatement_192 ⟨⟨rfl, rfl⟩, hw⟩
          rw [if_neg hc1] at hw
          by_cases hc2 : r1 = 1
          · rw [if_pos hc2] at hw
            refine wm_tableIn (v := 1) (tgt := 116) hC dX6_readStatement_70 hc2 (by decide) (by decide) rfl rfl ?_
            refine wm_aload_n hC 1 dX6_readStatement_116 rfl (k_ne0 kk_141 (by decide)) ?_
            refine wm_iload_n hC 0 dX6_readStatement_117 rfl ?_
            refine y_callV_v_I hC hRm noS ml_X6_103 kk_141 (c6_readOne hRF  hw) (Nat.le_of_ble_eq_true rfl) (Nat.le_of_ble_eq_true rfl) ⟨Nat.zero_le _, Nat.zero_le _⟩ rfl (st := []) rfl (Nat.le_of_ble_eq_true rfl) dX6_readStatement_118 (fun I6 hw => ?_)
            refine wm_goto (tgt := 186) hC dX6_readStatement_121 (by decide) ?_
            refine wm_aload_n hC 1 dX6_readStatement_186 rfl (k_ne0 kk_141 (by decide)) ?_
            refine wm_bipush hC dX6_readStatement_187 (k := ?_)
            refine y_callV_v_I hC hRm noS ml_X6_128 kk_141 (c6_expect hRF  hw) (Nat.le_of_ble_eq_true rfl) (Nat.le_of_ble_eq_true rfl) ⟨Nat.zero_le _, Nat.zero_le _⟩ rfl (st := []) rfl (Nat.le_of_ble_eq_true rfl) dX6_readStatement_189 (fun I7 hw => ?_)
            exact wm_return hC hE dX6_readStatement_192 ⟨⟨rfl, rfl⟩, hw⟩
          rw [if_neg hc2] at hw
          by_cases hc3 : r1 = 2
          · rw [if_pos hc3] at hw
            refine wm_tableIn (v := 2) (tgt := 116) hC dX6_readStatement_70 hc3 (by decide) (by decide) rfl rfl ?_
            refine wm_aload_n hC 1 dX6_readStatement_116 rfl (k_ne0 kk_141 (by decide)) ?_
            refine wm_iload_n hC 0 dX6_readStatement_117 rfl ?_
            refine y_callV_v_I hC hRm noS ml_X6_103 kk_141 (c6_readOne hRF  hw) (Nat.le_of_ble_eq_true rfl) (Nat.le_of_ble_eq_true rfl) ⟨Nat.zero_le _, Nat.zero_le _⟩ rfl (st := []) rfl (Nat.le_of_ble_eq_true rfl) dX6_readStatement_118 (fun I8 hw => ?_)
            refine wm_goto (tgt := 186) hC dX6_readStatement_121 (by decide) ?_
            refine wm_aload_n hC 1 dX6_readStatement_186 rfl (k_ne0 kk_141 (by decide)) ?_
            refine wm_bipush hC dX6_readStatement_187 (k := ?_)
            refine y_callV_v_I hC hRm noS ml_X6_128 kk_141 (c6_expect hRF  hw) (Nat.le_of_ble_eq_true rfl) (Nat.le_of_ble_eq_true rfl) ⟨Nat.zero_le _, Nat.zero_le _⟩ rfl (st := []) rfl (Nat.le_of_ble_eq_true rfl) dX6_readStatement_189 (fun I9 hw => ?_)
            exact wm_return hC hE dX6_readStatement_192 ⟨⟨rfl, rfl⟩, hw⟩
          rw [if_neg hc3] at hw
          by_cases hc4 : r1 = 3
          · rw [if_pos hc4] at hw
            refine wm_tableIn (v := 3) (tgt := 124) hC dX6_readStatement_70 hc4 (by decide) (by decide) rfl rfl ?_
            refine wm_aload_n hC 1 dX6_readStatement_124 rfl (k_ne0 kk_141 (by decide)) ?_
            refine y_callV_v_I hC hRm noS ml_X6_106 kk_141 (c6_readLate hRF  hw) (Nat.le_of_ble_eq_true rfl) (Nat.le_of_ble_eq_true rfl) ⟨Nat.zero_le _, Nat.zero_le _⟩ rfl (st := []) rfl (Nat.le_of_ble_eq_true rfl) dX6_readStatement_125 (fun I10 hw => ?_)
            refine wm_goto (tgt := 186) hC dX6_readStatement_128 (by decide) ?_
            refine wm_aload_n hC 1 dX6_readStatement_186 rfl (k_ne0 kk_141 (by decide)) ?_
            refine wm_bipush hC dX6_readStatement_187 (k := ?_)
            refine y_callV_v_I hC hRm noS ml_X6_128 kk_141 (c6_expect hRF  hw) (Nat.le_of_ble_eq_true rfl) (Nat.le_of_ble_eq_true rfl) ⟨Nat.zero_le _, Nat.zero_le _⟩ rfl (st := []) rfl (Nat.le_of_ble_eq_true rfl) dX6_readStatement_189 (fun I11 hw => ?_)
            exact wm_return hC hE dX6_readStatement_192 ⟨⟨rfl, rfl⟩, hw⟩
          rw [if_neg hc4] at hw
          by_cases hc5 : r1 = 4
          · rw [if_pos hc5] at hw
            refine wm_tableIn (v := 4) (tgt := 131) hC dX6_readStatement_70 hc5 (by decide) (by decide) rfl rfl ?_
            refine wm_aload_n hC 1 dX6_readStatement_131 rfl (k_ne0 kk_141 (by decide)) ?_
            refine y_callV_v_I hC hRm noS ml_X6_109 kk_141 (c6_readNear hRF  hw) (Nat.le_of_ble_eq_true rfl) (Nat.le_of_ble_eq_true rfl) ⟨Nat.zero_le _, Nat.zero_le _⟩ rfl (st := []) rfl (Nat.le_of_ble_eq_true rfl) dX6_readStatement_132 (fun I12 hw => ?_)
            refine wm_goto (tgt := 186) hC dX6_readStatement_135 (by decide) ?_
            refine wm_aload_n hC 1 dX6_readStatement_186 rfl (k_ne0 kk_141 (by decide)) ?_
            refine wm_bipush hC dX6_readStatement_187 (k := ?_)
            refine y_callV_v_I hC hRm noS ml_X6_128 kk_141 (c6_expect hRF  hw) (Nat.le_of_ble_eq_true rfl) (Nat.le_of_ble_eq_true rfl) ⟨Nat.zero_le _, Nat.zero_le _⟩ rfl (st := []) rfl (Nat.le_of_ble_eq_true rfl) dX6_readStatement_189 (fun I13 hw => ?_)
            exact wm_return hC hE dX6_readStatement_192 ⟨⟨rfl, rfl⟩, hw⟩
          rw [if_neg hc5] at hw
          by_cases hc6 : r1 = 5
          · rw [if_pos hc6] at hw
            refine wm_tableIn (v := 5) (tgt := 138) hC dX6_readStatement_70 hc6 (by decide) (by decide) rfl rfl ?_
            refine wm_aload_n hC 1 dX6_readStatement_138 rfl (k_ne0 kk_141 (by decide)) ?_
            refine y_callV_v_I hC hRm noS ml_X6_112 kk_141 (c6_readWears hRF  hw) (Nat.le_of_ble_eq_true rfl) (Nat.le_of_ble_eq_true rfl) ⟨Nat.zero_le _, Nat.zero_le _⟩ rfl (st := []) rfl (Nat.le_of_ble_eq_true rfl) dX6_readStatement_139 (fun I14 hw => ?_)
            refine wm_goto (tgt := 186) hC dX6_readStatement_142 (by decide) ?_
            refine wm_aload_n hC 1 dX6_readStatement_186 rfl (k_ne0 kk_141 (by decide)) ?_
            refine wm_bipush hC dX6_readStatement_187 (k := ?_)
            refine y_callV_v_I hC hRm noS ml_X6_128 kk_141 (c6_expect hRF  hw) (Nat.le_of_ble_eq_true rfl) (Nat.le_of_ble_eq_true rfl) ⟨Nat.zero_le _, Nat.zero_le _⟩ rfl (st := []) rfl (Nat.le_of_ble_eq_true rfl) dX6_readStatement_189 (fun I15 hw => ?_)
            exact wm_return hC hE dX6_readStatement_192 ⟨⟨rfl, rfl⟩, hw⟩
          rw [if_neg hc6] at hw
          by_cases hc7 : r1 = 6
          · rw [if_pos hc7] at hw
            refine wm_tableIn (v := 6) (tgt := 145) hC dX6_readStatement_70 hc7 (by decide) (by decide) rfl rfl ?_
            refine wm_aload_n hC 1 dX6_readStatement_145 rfl (k_ne0 kk_141 (by decide)) ?_
            refine x_getRD hC 2 fl_X6_38 rfl kk_141 dX6_readStatement_146 hw (fun g1 hw => ?_)
            refine wm_aload_n hC 1 dX6_readStatement_149 rfl (k_ne0 kk_141 (by decide)) ?_
            refine wm_sipush hC dX6_readStatement_150 (k := ?_)
            refine y_callV_i_I hC hRm noS ml_X6_115 kk_141 (c6_takeUpTo hRF  hw) (Nat.le_of_ble_eq_true rfl) (Nat.le_of_ble_eq_true rfl) ⟨Nat.zero_le _, Nat.zero_le _⟩ rfl (st := [vr (R 141 2)]) rfl (Nat.le_of_ble_eq_true rfl) dX6_readStatement_153 (fun r3 I16 hw => ?_)
            refine x_putI hC 10 fl_X6_119 rfl (ld_k0 g1) dX6_readStatement_156 hw (fun I17 hw => ?_)
            refine wm_goto (tgt := 186) hC dX6_readStatement_159 (by decide) ?_
            refine wm_aload_n hC 1 dX6_readStatement_186 rfl (k_ne0 kk_141 (by decide)) ?_
            refine wm_bipush hC dX6_readStatement_187 (k := ?_)
            refine y_callV_v_I hC hRm noS ml_X6_128 kk_141 (c6_expect hRF  hw) (Nat.le_of_ble_eq_true rfl) (Nat.le_of_ble_eq_true rfl) ⟨Nat.zero_le _, Nat.zero_le _⟩ rfl (st := []) rfl (Nat.le_of_ble_eq_true rfl) dX6_readStatement_189 (fun I18 hw => ?_)
            exact wm_return hC hE dX6_readStatement_192 ⟨⟨rfl, rfl⟩, hw⟩
          rw [if_neg hc7] at hw
          by_cases hc8 : r1 = 7
          · rw [if_pos hc8] at hw
            refine wm_tableIn (v := 7) (tgt := 162) hC dX6_readStatement_70 hc8 (by decide) (by decide) rfl rfl ?_
            refine wm_aload_n hC 1 dX6_readStatement_162 rfl (k_ne0 kk_141 (by decide)) ?_
            refine x_getRD hC 2 fl_X6_38 rfl kk_141 dX6_readStatement_163 hw (fun g2 hw => ?_)
            refine wm_aload_n hC 1 dX6_readStatement_166 rfl (k_ne0 kk_141 (by decide)) ?_
            refine wm_bipush hC dX6_readStatement_167 (k := ?_)
            refine y_callV_i_I hC hRm noS ml_X6_115 kk_141 (c6_takeUpTo hRF  hw) (Nat.le_of_ble_eq_true rfl) (Nat.le_of_ble_eq_true rfl) ⟨Nat.zero_le _, Nat.zero_le _⟩ rfl (st := [vr (R 141 2)]) rfl (Nat.le_of_ble_eq_true rfl) dX6_readStatement_169 (fun r4 I19 hw => ?_)
            refine x_putI hC 11 fl_X6_122 rfl (ld_k0 g2) dX6_readStatement_172 hw (fun I20 hw => ?_)
            refine wm_goto (tgt := 186) hC dX6_readStatement_175 (by decide) ?_
            refine wm_aload_n hC 1 dX6_readStatement_186 rfl (k_ne0 kk_141 (by decide)) ?_
            refine wm_bipush hC dX6_readStatement_187 (k := ?_)
            refine y_callV_v_I hC hRm noS ml_X6_128 kk_141 (c6_expect hRF  hw) (Nat.le_of_ble_eq_true rfl) (Nat.le_of_ble_eq_true rfl) ⟨Nat.zero_le _, Nat.zero_le _⟩ rfl (st := []) rfl (Nat.le_of_ble_eq_true rfl) dX6_readStatement_189 (fun I21 hw => ?_)
            exact wm_return hC hE dX6_readStatement_192 ⟨⟨rfl, rfl⟩, hw⟩
          rw [if_neg hc8] at hw
          refine wm_tableOut (tgt := 178) hC dX6_readStatement_70 (by omega) rfl ?_
          refine wm_aload_n hC 1 dX6_readStatement_178 rfl (k_ne0 kk_141 (by decide)) ?_
          refine wm_iload_n hC 0 dX6_readStatement_179 rfl ?_
          refine wm_bipush hC dX6_readStatement_180 (k := ?_)
          refine x_isub hC dX6_readStatement_182 hw (fun hw => ?_)
          refine y_callV_v_I hC hRm noS ml_X6_125 kk_141 (c6_readFormula hRF  hw) (Nat.le_of_ble_eq_true rfl) (Nat.le_of_ble_eq_true rfl) ⟨Nat.zero_le _, Nat.zero_le _⟩ rfl (st := []) rfl (Nat.le_of_ble_eq_true rfl) dX6_readStatement_183 (fun I22 hw => ?_)
          refine wm_aload_n hC 1 dX6_readStatement_186 rfl (k_ne0 kk_141 (by decide)) ?_
          refine wm_bipush hC dX6_readStatement_187 (k := ?_)
          refine y_callV_v_I hC hRm noS ml_X6_128 kk_141 (c6_expect hRF  hw) (Nat.le_of_ble_eq_true rfl) (Nat.le_of_ble_eq_true rfl) ⟨Nat.zero_le _, Nat.zero_le _⟩ rfl (st := []) rfl (Nat.le_of_ble_eq_true rfl) dX6_readStatement_189 (fun I23 hw => ?_)
          exact wm_return hC hE dX6_readStatement_192 ⟨⟨rfl, rfl⟩, hw⟩
        · refine wm_aload_n hC 1 dX6_readStatement_45 rfl (k_ne0 kk_141 (by decide)) ?_
          refine wm_bipush hC dX6_readStatement_46 (k := ?_)
          refine y_callV_v_I hC hRm noS ml_X6_92 kk_141 (c6_fail hRF  hw) (Nat.le_of_ble_eq_true rfl) (Nat.le_of_ble_eq_true rfl) ⟨Nat.zero_le _, Nat.zero_le _⟩ rfl (st := []) rfl (Nat.le_of_ble_eq_true rfl) dX6_readStatement_48 (fun I24 hw => ?_)
          exact wm_return hC hE dX6_readStatement_51 ⟨⟨rfl, rfl⟩, hw⟩
      · refine wm_aload_n hC 1 dX6_readStatement_31 rfl (k_ne0 kk_141 (by decide)) ?_
        refine wm_iconst hC dX6_readStatement_32 (k := ?_)
        refine y_callV_v_I hC hRm noS ml_X6_92 kk_141 (c6_fail hRF  hw) (Nat.le_of_ble_eq_true rfl) (Nat.le_of_ble_eq_true rfl) ⟨Nat.zero_le _, Nat.zero_le _⟩ rfl (st := []) rfl (Nat.le_of_ble_eq_true rfl) dX6_readStatement_33 (fun I25 hw => ?_)
        exact wm_return hC hE dX6_readStatement_36 ⟨⟨rfl, rfl⟩, hw⟩
def p6_read_b45_body (R : mR) (Q : Int → mI → mR → Prop) (k45 : Int → mI → Prop) (l2 : Int) (I : mI) : Prop := (if (60 : Int) < l2 then (Q (I 141 5) I R) else (if (I 141 6) = 0 then (p10_sortHere I (fun r1 => (if r1 = 0 then (Q (I 141 5) I R) else (p6_readStatement I R (fun I7 => (rg (l2 + 1) ∧ (k45 (l2 + 1) I7))))))) else (Q (I 141 5) I R)))
def p6_read_b45 (R : mR) (Q : Int → mI → mR → Prop) : Nat → Int → mI → Prop
  | 0 => fun _ _ => False
  | f + 1 => fun l2 I => p6_read_b45_body R Q (p6_read_b45 R Q f) l2 I
set_option maxRecDepth 20000 in
theorem w6_read_b45_body {C : wX} {ad : Nat → Nat} {n : Nat} {I J : mI} {R : mR} {Q : Int → mI → mR → Prop} (hC : wOK C cX6_read 3 RX6) (hRm : wRm C 105 4264 0 0) (hE : wEnd C (some .int) ad n (fun r I' J' R' => (J' = J) ∧ (RF R' ∧ Q r I' R'))) (hRF : RF R) (hStr : wStrC C ad)  {l2 : Int}     {k45 : Int → mI → Prop} (kk45 : ∀ (y2 : Int) (I' : mI), k45 y2 I' → WM C ad n I' J R 0 0 45 [(0, vr 141), (2, vi y2)] []) (hw : p6_read_b45_body R Q k45 l2 I) : WM C ad n I J R 0 0 45 [(0, vr 141), (2, vi l2)] [] := by
  unfold p6_read_b45_body at hw
  refine wm_iload_n hC 1 dX6_read_45 rfl ?_
  refine wm_bipush hC dX6_read_46 (k := ?_)
  refine wm_icmp_gt (tgt := 78) hC dX6_read_48 (by decide) hw (fun hw => ?_) (fun hw => ?_)
  · refine wm_aload_n hC 0 dX6_read_78 rfl (k_ne0 kk_141 (by decide)) ?_
    refine x_getI hC 5 fl_X6_25 rfl kk_141 dX6_read_79 ?_
    exact wm_ireturn hC hE dX6_read_82 ⟨rfl, ⟨hRF, hw⟩⟩
  · refine wm_aload_n hC 0 dX6_read_51 rfl (k_ne0 kk_141 (by decide)) ?_
    refine x_getI hC 6 fl_X6_28 rfl kk_141 dX6_read_52 ?_
    refine wm_if_ne (tgt := 78) hC dX6_read_55 (by decide) hw (fun hw => ?_) (fun hw => ?_)
    · refine wm_aload_n hC 0 dX6_read_58 rfl (k_ne0 kk_141 (by decide)) ?_
      refine x_getR3 hC 1 fl_X6_12 rfl kk_141 (rf_141_1 hRF) dX6_read_59 ?_
      refine y_callV_i_n hC hRm noS ml_X6_51 kk_142 (c10_sortHere hRF  hw) (Nat.le_of_ble_eq_true rfl) (Nat.le_of_ble_eq_true rfl) ⟨Nat.zero_le _, Nat.zero_le _⟩ rfl (st := []) rfl (Nat.le_of_ble_eq_true rfl) dX6_read_62 (fun r1 hw => ?_)
      refine wm_if_eq (tgt := 78) hC dX6_read_65 (by decide) hw (fun hw => ?_) (fun hw => ?_)
      · refine wm_aload_n hC 0 dX6_read_78 rfl (k_ne0 kk_141 (by decide)) ?_
        refine x_getI hC 5 fl_X6_25 rfl kk_141 dX6_read_79 ?_
        exact wm_ireturn hC hE dX6_read_82 ⟨rfl, ⟨hRF, hw⟩⟩
      · refine wm_aload_n hC 0 dX6_read_68 rfl (k_ne0 kk_141 (by decide)) ?_
        refine y_callV_v_I hC hRm noS ml_X6_55 kk_141 (c6_readStatement hRF  hw) (Nat.le_of_ble_eq_true rfl) (Nat.le_of_ble_eq_true rfl) ⟨Nat.zero_le _, Nat.zero_le _⟩ rfl (st := []) rfl (Nat.le_of_ble_eq_true rfl) dX6_read_69 (fun I7 hw => ?_)
        refine x_iinc hC 1 dX6_read_72 rfl (by decide) (L2 := [(2, vi (l2 + 1)), (0, vr 141)]) rfl hw (fun hw => ?_)
        refine wm_goto (tgt := 45) hC dX6_read_75 (by decide) ?_
        refine wm_sub [1, 0] (L2 := [(0, vr 141), (2, vi (l2 + 1))]) rfl ?_
        exact kk45 _ _ hw
    · refine wm_aload_n hC 0 dX6_read_78 rfl (k_ne0 kk_141 (by decide)) ?_
      refine x_getI hC 5 fl_X6_25 rfl kk_141 dX6_read_79 ?_
      exact wm_ireturn hC hE dX6_read_82 ⟨rfl, ⟨hRF, hw⟩⟩
set_option maxRecDepth 20000 in
theorem w6_read_b45 {C : wX} {ad : Nat → Nat} {n : Nat} {J : mI} {R : mR} {Q : Int → mI → mR → Prop} (hC : wOK C cX6_read 3 RX6) (hRm : wRm C 105 4264 0 0) (hE : wEnd C (some .int) ad n (fun r I' J' R' => (J' = J) ∧ (RF R' ∧ Q r I' R'))) (hRF : RF R) (hStr : wStrC C ad)      : ∀ (f : Nat) (l2 : Int) (I : mI), p6_read_b45 R Q f l2 I → WM C ad n I J R 0 0 45 [(0, vr 141), (2, vi l2)] [] := by
  intro f
  induction f with
  | zero => intro l2 I hw; exact hw.elim
  | succ f ih => intro l2 I hw; exact w6_read_b45_body hC hRm hE hRF hStr  (fun a0 a1 aw => ih a0 a1 aw) hw
def p6_read (l1 : Nat) (I : mI) (R : mR) (Q : Int → mI → mR → Prop) : Prop := (wLet (up R 141 2 l1) (fun R1 => (isLd (R1 141 2) ∧ (p3_empty (R1 141 2) I (fun I1 => (wLet (up I1 141 3 0) (fun I2 => (wLet (up I2 141 5 0) (fun I3 => (wLet (up I3 141 6 0) (fun I4 => (wLet (up I4 141 7 (-1)) (fun I5 => (p10_cut I5 (fun I6 => (∃ f, p6_read_b45 R1 Q f 0 I6))))))))))))))))
set_option maxRecDepth 20000 in
theorem c6_read {ad : Nat → Nat} {n : Nat} {I J : mI} {R : mR} {Q : Int → mI → mR → Prop}  (hRF : RF R) {l1 : Nat}  (h1 : isLd l1) (hw : p6_read l1 I R Q) : wMet yX6_read cX6_read 3 (some .int) 105 4264 true ad n I J R [vr 141, vr l1] (fun r I' J' R' => (J' = J) ∧ (RF R' ∧ Q r I' R')) := by
  refine wMet_of (by decide) (Nat.le_of_ble_eq_true rfl) (fun C hC hRm hE hS => ?_)
  have hStr := hS rfl
  refine (show WM C ad n I J R 0 0 0 [(0, vr 141), (1, vr l1)] [] from ?_)
  unfold p6_read at hw
  refine wm_aload_n hC 0 dX6_read_0 rfl (k_ne0 kk_141 (by decide)) ?_
  refine wm_aload_n hC 1 dX6_read_1 rfl (k_ne0 (ld_k0 h1) (by decide)) ?_
  refine x_putRD hC hRF RF_up_141_2 2 fl_X6_38 rfl kk_141 (Or.inl ⟨_, rfl⟩) (k_lt (ld_k0 h1) (by decide)) dX6_read_2 hw (fun R1 rf1 hw => ?_)
  refine wm_aload_n hC 0 dX6_read_5 rfl (k_ne0 kk_141 (by decide)) ?_
  refine x_getRD hC 2 fl_X6_38 rfl kk_141 dX6_read_6 hw (fun g1 hw => ?_)
  refine y_callV_v_I hC hRm noS ml_X6_42 (ld_k0 g1) (c3_empty rf1 g1 hw) (Nat.le_of_ble_eq_true rfl) (Nat.le_of_ble_eq_true rfl) ⟨Nat.zero_le _, Nat.zero_le _⟩ rfl (st := []) rfl (Nat.le_of_ble_eq_true rfl) dX6_read_9 (fun I1 hw => ?_)
  refine wm_aload_n hC 0 dX6_read_12 rfl (k_ne0 kk_141 (by decide)) ?_
  refine wm_iconst hC dX6_read_13 (k := ?_)
  refine x_putI hC 3 fl_X6_18 rfl kk_141 dX6_read_14 hw (fun I2 hw => ?_)
  refine wm_aload_n hC 0 dX6_read_17 rfl (k_ne0 kk_141 (by decide)) ?_
  refine wm_iconst hC dX6_read_18 (k := ?_)
  refine x_putI hC 5 fl_X6_25 rfl kk_141 dX6_read_19 hw (fun I3 hw => ?_)
  refine wm_aload_n hC 0 dX6_read_22 rfl (k_ne0 kk_141 (by decide)) ?_
  refine wm_iconst hC dX6_read_23 (k := ?_)
  refine x_putI hC 6 fl_X6_28 rfl kk_141 dX6_read_24 hw (fun I4 hw => ?_)
  refine wm_aload_n hC 0 dX6_read_27 rfl (k_ne0 kk_141 (by decide)) ?_
  refine wm_iconst hC dX6_read_28 (k := ?_)
  refine x_putI hC 7 fl_X6_31 rfl kk_141 dX6_read_29 hw (fun I5 hw => ?_)
  refine wm_aload_n hC 0 dX6_read_32 rfl (k_ne0 kk_141 (by decide)) ?_
  refine x_getR3 hC 1 fl_X6_12 rfl kk_141 (rf_141_1 rf1) dX6_read_33 ?_
  refine wm_aload_n hC 0 dX6_read_36 rfl (k_ne0 kk_141 (by decide)) ?_
  refine x_getR3 hC 0 fl_X6_34 rfl kk_141 (rf_141_0 rf1) dX6_read_37 ?_
  refine y_callV_v_I hC hRm (fun _ => hStr) ml_X6_47 kk_142 (c10_cut rf1  hw) (Nat.le_of_ble_eq_true rfl) (Nat.le_of_ble_eq_true rfl) ⟨Nat.zero_le _, Nat.zero_le _⟩ rfl (st := []) rfl (Nat.le_of_ble_eq_true rfl) dX6_read_40 (fun I6 hw => ?_)
  refine wm_iconst hC dX6_read_43 (k := ?_)
  refine wm_istore_n hC dX6_read_44 (by decide) (L2 := [(2, vi 0), (0, vr 141), (1, vr l1)]) rfl ?_
  obtain ⟨f, hw⟩ := hw
  refine wm_sub [1, 0] (L2 := [(0, vr 141), (2, vi 0)]) rfl ?_
  exact w6_read_b45 hC hRm hE rf1 hStr  f _ _ hw
def p7_begin_b20_body (l0 : Nat) (l1 : Nat) (Q : mI → Prop) (k20 : Int → mI → Prop) (l2 : Int) (I : mI) : Prop := (if (6 : Int) ≤ l2 then (Q I) else (((0 : Int) ≤ l2 ∧ l2 < (6 : Int)) ∧ wLet (up I (l0 + 1) l2 l2) (fun I4 => (((0 : Int) ≤ l2 ∧ l2 < (6 : Int)) ∧ wLet (up I4 (l0 + 2) l2 5) (fun I5 => (((0 : Int) ≤ l2 ∧ l2 < (6 : Int)) ∧ (((0 : Int) ≤ l2 ∧ l2 < (6 : Int)) ∧ wLet (up I5 (l0 + 3) l2 (I5 (l1 + 5) l2)) (fun I6 => (rg (l2 + 1) ∧ (k20 (l2 + 1) I6))))))))))
def p7_begin_b20 (l0 : Nat) (l1 : Nat) (Q : mI → Prop) : Nat → Int → mI → Prop
  | 0 => fun _ _ => False
  | f + 1 => fun l2 I => p7_begin_b20_body l0 l1 Q (p7_begin_b20 l0 l1 Q f) l2 I
set_option maxRecDepth 20000 in
theorem w7_begin_b20_body {C : wX} {ad : Nat → Nat} {n : Nat} {I J : mI} {R : mR} {Q : mI → Prop} (hC : wOK C cX7_begin 3 RX7) (hRm : wRm C 1 12 0 0) (hE : wEnd C none ad n (fun _ I' J' R' => (J' = J ∧ R' = R) ∧ Q I')) (hRF : RF R) {l0 : Nat} {l1 : Nat} {l2 : Int}   (h0 : isSt l0) (h1 : isLd l1)  {k20 : Int → mI → Prop} (kk20 : ∀ (y2 : Int) (I' : mI), k20 y2 I' → WM C ad n I' J R 0 0 20 [(0, vr l0), (1, vr l1), (2, vi y2)] []) (hw : p7_begin_b20_body l0 l1 Q k20 l2 I) : WM C ad n I J R 0 0 20 [(0, vr l0), (1, vr l1), (2, vi l2)] [] := by
  unfold p7_begin_b20_body at hw
  refine wm_iload_n hC 2 dX7_begin_20 rfl ?_
  refine wm_bipush hC dX7_begin_21 (k := ?_)
  refine wm_icmp_ge (tgt := 58) hC dX7_begin_23 (by decide) hw (fun hw => ?_) (fun hw => ?_)
  · exact wm_return hC hE dX7_begin_58 ⟨⟨rfl, rfl⟩, hw⟩
  · refine wm_aload_n hC 0 dX7_begin_26 rfl (k_ne0 (st_k0 h0) (by decide)) ?_
    refine x_getR3 hC 3 fl_X7_21 rfl (st_k0 h0) (rfs_3 hRF h0) dX7_begin_27 ?_
    refine wm_iload_n hC 2 dX7_begin_30 rfl ?_
    refine wm_iload_n hC 2 dX7_begin_31 rfl ?_
    refine x_iast2 hC (st_k1 h0) (st_n1 h0) dX7_begin_32 hw (fun I4 hw => ?_)
    refine wm_aload_n hC 0 dX7_begin_33 rfl (k_ne0 (st_k0 h0) (by decide)) ?_
    refine x_getR3 hC 4 fl_X7_25 rfl (st_k0 h0) (rfs_4 hRF h0) dX7_begin_34 ?_
    refine wm_iload_n hC 2 dX7_begin_37 rfl ?_
    refine wm_iconst hC dX7_begin_38 (k := ?_)
    refine x_iast2 hC (st_k2 h0) (st_n2 h0) dX7_begin_39 hw (fun I5 hw => ?_)
    refine wm_aload_n hC 0 dX7_begin_40 rfl (k_ne0 (st_k0 h0) (by decide)) ?_
    refine x_getR3 hC 5 fl_X7_28 rfl (st_k0 h0) (rfs_5 hRF h0) dX7_begin_41 ?_
    refine wm_iload_n hC 2 dX7_begin_44 rfl ?_
    refine wm_aload_n hC 1 dX7_begin_45 rfl (k_ne0 (ld_k0 h1) (by decide)) ?_
    refine x_getR3 hC 4 fl_X7_39 rfl (ld_k0 h1) (rfd_4 hRF h1) dX7_begin_46 ?_
    refine wm_iload_n hC 2 dX7_begin_49 rfl ?_
    refine x_iald2 hC (ld_k5 h1) (ld_n5 h1) dX7_begin_50 hw (fun hw => ?_)
    refine x_iast2 hC (st_k3 h0) (st_n3 h0) dX7_begin_51 hw (fun I6 hw => ?_)
    refine x_iinc hC 2 dX7_begin_52 rfl (by decide) (L2 := [(2, vi (l2 + 1)), (0, vr l0), (1, vr l1)]) rfl hw (fun hw => ?_)
    refine wm_goto (tgt := 20) hC dX7_begin_55 (by decide) ?_
    refine wm_sub [1, 2, 0] (L2 := [(0, vr l0), (1, vr l1), (2, vi (l2 + 1))]) rfl ?_
    exact kk20 _ _ hw
set_option maxRecDepth 20000 in
theorem w7_begin_b20 {C : wX} {ad : Nat → Nat} {n : Nat} {J : mI} {R : mR} {Q : mI → Prop} (hC : wOK C cX7_begin 3 RX7) (hRm : wRm C 1 12 0 0) (hE : wEnd C none ad n (fun _ I' J' R' => (J' = J ∧ R' = R) ∧ Q I')) (hRF : RF R) {l0 : Nat} {l1 : Nat}   (h0 : isSt l0) (h1 : isLd l1)  : ∀ (f : Nat) (l2 : Int) (I : mI), p7_begin_b20 l0 l1 Q f l2 I → WM C ad n I J R 0 0 20 [(0, vr l0), (1, vr l1), (2, vi l2)] [] := by
  intro f
  induction f with
  | zero => intro l2 I hw; exact hw.elim
  | succ f ih => intro l2 I hw; exact w7_begin_b20_body hC hRm hE hRF h0 h1 (fun a0 a1 aw => ih a0 a1 aw) hw
def p7_begin (l0 : Nat) (l1 : Nat) (I : mI) (Q : mI → Prop) : Prop := (wLet (up I l0 0 0) (fun I1 => (wLet (up I1 l0 1 (I1 l1 10)) (fun I2 => (wLet (up I2 l0 2 0) (fun I3 => (∃ f, p7_begin_b20 l0 l1 Q f 0 I3)))))))
set_option maxRecDepth 20000 in
theorem c7_begin {ad : Nat → Nat} {n : Nat} {I J : mI} {R : mR} {Q : mI → Prop}  (hRF : RF R) {l0 : Nat} {l1 : Nat} (h0 : isSt l0) (h1 : isLd l1) (hw : p7_begin l0 l1 I Q) : wMet yX7_begin cX7_begin 3 none 1 12 false ad n I J R [vr l0, vr l1] (fun _ I' J' R' => (J' = J ∧ R' = R) ∧ Q I') := by
  refine wMet_of (by decide) (Nat.le_of_ble_eq_true rfl) (fun C hC hRm hE hS => ?_)
  refine (show WM C ad n I J R 0 0 0 [(0, vr l0), (1, vr l1)] [] from ?_)
  unfold p7_begin at hw
  refine wm_aload_n hC 0 dX7_begin_0 rfl (k_ne0 (st_k0 h0) (by decide)) ?_
  refine wm_iconst hC dX7_begin_1 (k := ?_)
  refine x_putI hC 0 fl_X7_9 rfl (st_k0 h0) dX7_begin_2 hw (fun I1 hw => ?_)
  refine wm_aload_n hC 0 dX7_begin_5 rfl (k_ne0 (st_k0 h0) (by decide)) ?_
  refine wm_aload_n hC 1 dX7_begin_6 rfl (k_ne0 (ld_k0 h1) (by decide)) ?_
  refine x_getI hC 10 fl_X7_34 rfl (ld_k0 h1) dX7_begin_7 ?_
  refine x_putI hC 1 fl_X7_15 rfl (st_k0 h0) dX7_begin_10 hw (fun I2 hw => ?_)
  refine wm_aload_n hC 0 dX7_begin_13 rfl (k_ne0 (st_k0 h0) (by decide)) ?_
  refine wm_iconst hC dX7_begin_14 (k := ?_)
  refine x_putI hC 2 fl_X7_18 rfl (st_k0 h0) dX7_begin_15 hw (fun I3 hw => ?_)
  refine wm_iconst hC dX7_begin_18 (k := ?_)
  refine wm_istore_n hC dX7_begin_19 (by decide) (L2 := [(2, vi 0), (0, vr l0), (1, vr l1)]) rfl ?_
  obtain ⟨f, hw⟩ := hw
  refine wm_sub [1, 2, 0] (L2 := [(0, vr l0), (1, vr l1), (2, vi 0)]) rfl ?_
  exact w7_begin_b20 hC hRm hE hRF h0 h1 f _ _ hw
def p11_land (I : mI) (R : mR) (Q : Int → mI → mR → Prop) : Prop := (isLd (R 1 13) ∧ (p6_read (R 1 13) I R (fun r1 I1 R1 => (wLet (up I1 2 1 0) (fun I2 => (wLet (up I2 1 14 (I2 141 6)) (fun I3 => (wLet (up I3 1 15 (I3 141 7)) (fun I4 => (if (I4 1 14) = 0 then (isLd (R1 1 13) ∧ (isLd (R1 1 12) ∧ (wLet (up R1 1 13 (R1 1 12)) (fun R2 => (wLet (up R2 1 12 (R1 1 13)) (fun R3 => (isLd (R3 1 12) ∧ (p7_begin 7 (R3 1 12) I4 (fun I5 => (wLet (up I5 17 2 0) (fun I6 => (wLet (up I6 151 5 0) (fun I7 => (Q r1 I7 R3)))))))))))))) else (p11_refuse 1 I4 (fun r2 I8 => (Q r2 I8 R1)))))))))))))
set_option maxRecDepth 20000 in
theorem c11_land {ad : Nat → Nat} {n : Nat} {I J : mI} {R : mR} {Q : Int → mI → mR → Prop}  (hRF : RF R)   (hw : p11_land I R Q) : wMet yX11_land cX11_land 3 (some .int) 106 4286 true ad n I J R [vr 1] (fun r I' J' R' => (J' = J) ∧ (RF R' ∧ Q r I' R')) := by
  refine wMet_of (by decide) (Nat.le_of_ble_eq_true rfl) (fun C hC hRm hE hS => ?_)
  have hStr := hS rfl
  refine (show WM C ad n I J R 0 0 0 [(0, vr 1)] [] from ?_)
  unfold p11_land at hw
  refine wm_aload_n hC 0 dX11_land_0 rfl (k_ne0 kk_1 (by decide)) ?_
  refine x_getR3 hC 8 fl_X11_79 rfl kk_1 (rf_1_8 hRF) dX11_land_1 ?_
  refine wm_aload_n hC 0 dX11_land_4 rfl (k_ne0 kk_1 (by decide)) ?_
  refine x_getRD hC 13 fl_X11_61 rfl kk_1 dX11_land_5 hw (fun g1 hw => ?_)
  refine y_callV_i_IR hC hRm (fun _ => hStr) ml_X11_129 kk_141 (c6_read hRF g1 hw) (Nat.le_of_ble_eq_true rfl) (Nat.le_of_ble_eq_true rfl) ⟨Nat.zero_le _, Nat.zero_le _⟩ rfl (st := []) rfl (Nat.le_of_ble_eq_true rfl) dX11_land_8 (fun r1 I1 R1 hw => ?_)
  obtain ⟨rf1, hw⟩ := hw
  refine wm_istore_n hC dX11_land_11 (by decide) (L2 := [(1, vi r1), (0, vr 1)]) rfl ?_
  refine wm_aload_n hC 1 dX11_land_12 rfl (k_ne0 kk_1 (by decide)) ?_
  refine x_getR3 hC 0 fl_X11_10 rfl kk_1 (rf_1_0 rf1) dX11_land_13 ?_
  refine wm_iconst hC dX11_land_16 (k := ?_)
  refine x_putI hC 1 fl_X11_114 rfl kk_2 dX11_land_17 hw (fun I2 hw => ?_)
  refine wm_aload_n hC 1 dX11_land_20 rfl (k_ne0 kk_1 (by decide)) ?_
  refine wm_aload_n hC 1 dX11_land_21 rfl (k_ne0 kk_1 (by decide)) ?_
  refine x_getR3 hC 8 fl_X11_79 rfl kk_1 (rf_1_8 rf1) dX11_land_22 ?_
  refine x_getI hC 6 fl_X11_133 rfl kk_141 dX11_land_25 ?_
  refine x_putI hC 14 fl_X11_64 rfl kk_1 dX11_land_28 hw (fun I3 hw => ?_)
  refine wm_aload_n hC 1 dX11_land_31 rfl (k_ne0 kk_1 (by decide)) ?_
  refine wm_aload_n hC 1 dX11_land_32 rfl (k_ne0 kk_1 (by decide)) ?_
  refine x_getR3 hC 8 fl_X11_79 rfl kk_1 (rf_1_8 rf1) dX11_land_33 ?_
  refine x_getI hC 7 fl_X11_136 rfl kk_141 dX11_land_36 ?_
  refine x_putI hC 15 fl_X11_68 rfl kk_1 dX11_land_39 hw (fun I4 hw => ?_)
  refine wm_aload_n hC 1 dX11_land_42 rfl (k_ne0 kk_1 (by decide)) ?_
  refine x_getI hC 14 fl_X11_64 rfl kk_1 dX11_land_43 ?_
  refine wm_if_eq (tgt := 55) hC dX11_land_46 (by decide) hw (fun hw => ?_) (fun hw => ?_)
  · refine wm_aload_n hC 1 dX11_land_55 rfl (k_ne0 kk_1 (by decide)) ?_
    refine x_getRD hC 13 fl_X11_61 rfl kk_1 dX11_land_56 hw (fun g2 hw => ?_)
    refine wm_astore_n hC dX11_land_59 (k_ne0 (ld_k0 g2) (by decide)) (by decide) (L2 := [(2, vr (R1 1 13)), (1, vi r1), (0, vr 1)]) rfl ?_
    refine wm_aload_n hC 2 dX11_land_60 rfl (k_ne0 kk_1 (by decide)) ?_
    refine wm_aload_n hC 2 dX11_land_61 rfl (k_ne0 kk_1 (by decide)) ?_
    refine x_getRD hC 12 fl_X11_57 rfl kk_1 dX11_land_62 hw (fun g3 hw => ?_)
    refine x_putRD hC rf1 RF_up_1_13 13 fl_X11_61 rfl kk_1 (Or.inl ⟨_, rfl⟩) (k_lt (ld_k0 g3) (by decide)) dX11_land_65 hw (fun R2 rf2 hw => ?_)
    refine wm_aload_n hC 2 dX11_land_68 rfl (k_ne0 kk_1 (by decide)) ?_
    refine wm_aload_n hC 0 dX11_land_69 rfl (k_ne0 (ld_k0 g2) (by decide)) ?_
    refine x_putRD hC rf2 RF_up_1_12 12 fl_X11_57 rfl kk_1 (Or.inl ⟨_, rfl⟩) (k_lt (ld_k0 g2) (by decide)) dX11_land_70 hw (fun R3 rf3 hw => ?_)
    refine wm_aload_n hC 2 dX11_land_73 rfl (k_ne0 kk_1 (by decide)) ?_
    refine x_getR3 hC 2 fl_X11_26 rfl kk_1 (rf_1_2 rf3) dX11_land_74 ?_
    refine wm_aload_n hC 2 dX11_land_77 rfl (k_ne0 kk_1 (by decide)) ?_
    refine x_getRD hC 12 fl_X11_57 rfl kk_1 dX11_land_78 hw (fun g4 hw => ?_)
    refine y_callV_v_I hC hRm noS ml_X11_110 kk_7 (c7_begin rf3 isSt_7 g4 hw) (Nat.le_of_ble_eq_true rfl) (Nat.le_of_ble_eq_true rfl) ⟨Nat.zero_le _, Nat.zero_le _⟩ rfl (st := []) rfl (Nat.le_of_ble_eq_true rfl) dX11_land_81 (fun I5 hw => ?_)
    refine wm_aload_n hC 2 dX11_land_84 rfl (k_ne0 kk_1 (by decide)) ?_
    refine x_getR3 hC 4 fl_X11_36 rfl kk_1 (rf_1_4 rf3) dX11_land_85 ?_
    refine wm_iconst hC dX11_land_88 (k := ?_)
    refine x_putI hC 2 fl_X11_139 rfl kk_17 dX11_land_89 hw (fun I6 hw => ?_)
    refine wm_aload_n hC 2 dX11_land_92 rfl (k_ne0 kk_1 (by decide)) ?_
    refine x_getR3 hC 11 fl_X11_106 rfl kk_1 (rf_1_11 rf3) dX11_land_93 ?_
    refine wm_iconst hC dX11_land_96 (k := ?_)
    refine x_putI hC 5 fl_X11_142 rfl kk_151 dX11_land_97 hw (fun I7 hw => ?_)
    refine wm_iload_n hC 1 dX11_land_100 rfl ?_
    exact wm_ireturn hC hE dX11_land_101 ⟨rfl, ⟨rf3, hw⟩⟩
  · refine wm_aload_n hC 1 dX11_land_49 rfl (k_ne0 kk_1 (by decide)) ?_
    refine wm_iconst hC dX11_land_50 (k := ?_)
    refine y_callV_i_I hC hRm noS ml_X11_117 kk_1 (c11_refuse rf1  hw) (Nat.le_of_ble_eq_true rfl) (Nat.le_of_ble_eq_true rfl) ⟨Nat.zero_le _, Nat.zero_le _⟩ rfl (st := []) rfl (Nat.le_of_ble_eq_true rfl) dX11_land_51 (fun r2 I8 hw => ?_)
    exact wm_ireturn hC hE dX11_land_54 ⟨rfl, ⟨rf1, hw⟩⟩
def p11_lookAhead_b13_body (l1 : Int) (Q : mI → mI → mR → Prop) (k13 : Int → mI → mI → mR → Prop) (l2 : Int) (I : mI) (J : mI) (R : mR) : Prop := (if l1 ≤ l2 then (Q I J R) else (isLd (R 1 12) ∧ (p0_pass (R 1 12) 12 (-1) I J R (fun r1 I2 J1 R1 => (rg (l2 + 1) ∧ (k13 (l2 + 1) I2 J1 R1))))))
def p11_lookAhead_b13 (l1 : Int) (Q : mI → mI → mR → Prop) : Nat → Int → mI → mI → mR → Prop
  | 0 => fun _ _ _ _ => False
  | f + 1 => fun l2 I J R => p11_lookAhead_b13_body l1 Q (p11_lookAhead_b13 l1 Q f) l2 I J R
set_option maxRecDepth 20000 in
theorem w11_lookAhead_b13_body {C : wX} {ad : Nat → Nat} {n : Nat} {I J : mI} {R : mR} {Q : mI → mI → mR → Prop} (hC : wOK C cX11_lookAhead 3 RX11) (hRm : wRm C 7 168 0 0) (hE : wEnd C none ad n (fun _ I' J' R' => (True) ∧ (RF R' ∧ Q I' J' R'))) (hRF : RF R) {l1 : Int} {l2 : Int}     {k13 : Int → mI → mI → mR → Prop} (kk13 : ∀ (y2 : Int) (I' : mI) (J' : mI) (R' : mR), RF R' → k13 y2 I' J' R' → WM C ad n I' J' R' 0 0 13 [(0, vr 1), (1, vi l1), (2, vi y2)] []) (hw : p11_lookAhead_b13_body l1 Q k13 l2 I J R) : WM C ad n I J R 0 0 13 [(0, vr 1), (1, vi l1), (2, vi l2)] [] := by
  unfold p11_lookAhead_b13_body at hw
  refine wm_iload_n hC 2 dX11_lookAhead_13 rfl ?_
  refine wm_iload_n hC 1 dX11_lookAhead_14 rfl ?_
  refine wm_icmp_ge (tgt := 41) hC dX11_lookAhead_15 (by decide) hw (fun hw => ?_) (fun hw => ?_)
  · exact wm_return hC hE dX11_lookAhead_41 ⟨trivial, ⟨hRF, hw⟩⟩
  · refine wm_aload_n hC 0 dX11_lookAhead_18 rfl (k_ne0 kk_1 (by decide)) ?_
    refine x_getR3 hC 10 fl_X11_97 rfl kk_1 (rf_1_10 hRF) dX11_lookAhead_19 ?_
    refine wm_aload_n hC 0 dX11_lookAhead_22 rfl (k_ne0 kk_1 (by decide)) ?_
    refine x_getRD hC 12 fl_X11_57 rfl kk_1 dX11_lookAhead_23 hw (fun g1 hw => ?_)
    refine wm_aload_n hC 0 dX11_lookAhead_26 rfl (k_ne0 kk_1 (by decide)) ?_
    refine x_getR3 hC 3 fl_X11_30 rfl kk_1 (rf_1_3 hRF) dX11_lookAhead_27 ?_
    refine wm_iconst hC dX11_lookAhead_30 (k := ?_)
    refine y_callV_z_IJR hC hRm noS ml_X11_278 kk_150 (c0_pass hRF g1 isSt_12 hw) (Nat.le_of_ble_eq_true rfl) (Nat.le_of_ble_eq_true rfl) ⟨Nat.zero_le _, Nat.zero_le _⟩ rfl (st := []) rfl (Nat.le_of_ble_eq_true rfl) dX11_lookAhead_31 (fun r1 I2 J1 R1 hw => ?_)
    obtain ⟨rf1, hw⟩ := hw
    refine wm_pop hC dX11_lookAhead_34 (k := ?_)
    refine x_iinc hC 2 dX11_lookAhead_35 rfl (by decide) (L2 := [(2, vi (l2 + 1)), (0, vr 1), (1, vi l1)]) rfl hw (fun hw => ?_)
    refine wm_goto (tgt := 13) hC dX11_lookAhead_38 (by decide) ?_
    refine wm_sub [1, 2, 0] (L2 := [(0, vr 1), (1, vi l1), (2, vi (l2 + 1))]) rfl ?_
    exact kk13 _ _ _ _ rf1 hw
set_option maxRecDepth 20000 in
theorem w11_lookAhead_b13 {C : wX} {ad : Nat → Nat} {n : Nat}  {Q : mI → mI → mR → Prop} (hC : wOK C cX11_lookAhead 3 RX11) (hRm : wRm C 7 168 0 0) (hE : wEnd C none ad n (fun _ I' J' R' => (True) ∧ (RF R' ∧ Q I' J' R'))) {l1 : Int}     : ∀ (f : Nat) (l2 : Int) (I : mI) (J : mI) (R : mR), RF R → p11_lookAhead_b13 l1 Q f l2 I J R → WM C ad n I J R 0 0 13 [(0, vr 1), (1, vi l1), (2, vi l2)] [] := by
  intro f
  induction f with
  | zero => intro l2 I J R hRF hw; exact hw.elim
  | succ f ih => intro l2 I J R hRF hw; exact w11_lookAhead_b13_body hC hRm hE hRF  (fun a0 a1 a2 a3 ar aw => ih a0 a1 a2 a3 ar aw) hw
def p11_lookAhead (l1 : Int) (I : mI) (J : mI) (R : mR) (Q : mI → mI → mR → Prop) : Prop := (p7_take 12 7 I (fun I1 => (∃ f, p11_lookAhead_b13 l1 Q f 0 I1 J R)))
set_option maxRecDepth 20000 in
theorem c11_lookAhead {ad : Nat → Nat} {n : Nat} {I J : mI} {R : mR} {Q : mI → mI → mR → Prop}  (hRF : RF R) {l1 : Int}   (hw : p11_lookAhead l1 I J R Q) : wMet yX11_lookAhead cX11_lookAhead 3 none 7 168 false ad n I J R [vr 1, vi l1] (fun _ I' J' R' => (True) ∧ (RF R' ∧ Q I' J' R')) := by
  refine wMet_of (by decide) (Nat.le_of_ble_eq_true rfl) (fun C hC hRm hE hS => ?_)
  refine (show WM C ad n I J R 0 0 0 [(0, vr 1), (1, vi l1)] [] from ?_)
  unfold p11_lookAhead at hw
  refine wm_aload_n hC 0 dX11_lookAhead_0 rfl (k_ne0 kk_1 (by decide)) ?_
  refine x_getR3 hC 3 fl_X11_30 rfl kk_1 (rf_1_3 hRF) dX11_lookAhead_1 ?_
  refine wm_aload_n hC 0 dX11_lookAhead_4 rfl (k_ne0 kk_1 (by decide)) ?_
  refine x_getR3 hC 2 fl_X11_26 rfl kk_1 (rf_1_2 hRF) dX11_lookAhead_5 ?_
  refine y_callV_v_I hC hRm noS ml_X11_308 kk_12 (c7_take hRF isSt_12 isSt_7 hw) (Nat.le_of_ble_eq_true rfl) (Nat.le_of_ble_eq_true rfl) ⟨Nat.zero_le _, Nat.zero_le _⟩ rfl (st := []) rfl (Nat.le_of_ble_eq_true rfl) dX11_lookAhead_8 (fun I1 hw => ?_)
  refine wm_iconst hC dX11_lookAhead_11 (k := ?_)
  refine wm_istore_n hC dX11_lookAhead_12 (by decide) (L2 := [(2, vi 0), (0, vr 1), (1, vi l1)]) rfl ?_
  obtain ⟨f, hw⟩ := hw
  refine wm_sub [1, 2, 0] (L2 := [(0, vr 1), (1, vi l1), (2, vi 0)]) rfl ?_
  exact w11_lookAhead_b13 hC hRm hE  f _ _ _ _ hRF hw
def p11_later (l1 : Int) (l2 : Int) (I : mI) (J : mI) (R : mR) (Q : Int → mI → mI → mR → Prop) : Prop := (isLd (R 1 12) ∧ (p3_isThere (R 1 12) 2 l1 I (fun r1 => (if r1 = 0 then (Q (-1) I J R) else (p11_canPass l2 I (fun r2 => (if r2 = 0 then (Q (-1) I J R) else (p11_lookAhead l2 I J R (fun I1 J1 R1 => (((0 : Int) ≤ l1 ∧ l1 < (6 : Int)) ∧ (Q (I1 15 l1) I1 J1 R1)))))))))))
set_option maxRecDepth 20000 in
theorem c11_later {ad : Nat → Nat} {n : Nat} {I J : mI} {R : mR} {Q : Int → mI → mI → mR → Prop}  (hRF : RF R) {l1 : Int} {l2 : Int}    (hw : p11_later l1 l2 I J R Q) : wMet yX11_later cX11_later 3 (some .int) 8 190 false ad n I J R [vr 1, vi l1, vi l2] (fun r I' J' R' => (True) ∧ (RF R' ∧ Q r I' J' R')) := by
  refine wMet_of (by decide) (Nat.le_of_ble_eq_true rfl) (fun C hC hRm hE hS => ?_)
  refine (show WM C ad n I J R 0 0 0 [(0, vr 1), (1, vi l1), (2, vi l2)] [] from ?_)
  unfold p11_later at hw
  refine wm_aload_n hC 0 dX11_later_0 rfl (k_ne0 kk_1 (by decide)) ?_
  refine x_getRD hC 12 fl_X11_57 rfl kk_1 dX11_later_1 hw (fun g1 hw => ?_)
  refine wm_iconst hC dX11_later_4 (k := ?_)
  refine wm_iload_n hC 1 dX11_later_5 rfl ?_
  refine y_callV_z_n hC hRm noS ml_X11_167 (ld_k0 g1) (c3_isThere hRF g1 hw) (Nat.le_of_ble_eq_true rfl) (Nat.le_of_ble_eq_true rfl) ⟨Nat.zero_le _, Nat.zero_le _⟩ rfl (st := []) rfl (Nat.le_of_ble_eq_true rfl) dX11_later_6 (fun r1 hw => ?_)
  refine wm_if_eq (tgt := 20) hC dX11_later_9 (by decide) hw (fun hw => ?_) (fun hw => ?_)
  · refine wm_iconst hC dX11_later_20 (k := ?_)
    exact wm_ireturn hC hE dX11_later_21 ⟨trivial, ⟨hRF, hw⟩⟩
  · refine wm_aload_n hC 0 dX11_later_12 rfl (k_ne0 kk_1 (by decide)) ?_
    refine wm_iload_n hC 2 dX11_later_13 rfl ?_
    refine y_callV_z_n hC hRm noS ml_X11_227 kk_1 (c11_canPass hRF  hw) (Nat.le_of_ble_eq_true rfl) (Nat.le_of_ble_eq_true rfl) ⟨Nat.zero_le _, Nat.zero_le _⟩ rfl (st := []) rfl (Nat.le_of_ble_eq_true rfl) dX11_later_14 (fun r2 hw => ?_)
    refine wm_if_ne (tgt := 22) hC dX11_later_17 (by decide) hw (fun hw => ?_) (fun hw => ?_)
    · refine wm_iconst hC dX11_later_20 (k := ?_)
      exact wm_ireturn hC hE dX11_later_21 ⟨trivial, ⟨hRF, hw⟩⟩
    · refine wm_aload_n hC 0 dX11_later_22 rfl (k_ne0 kk_1 (by decide)) ?_
      refine wm_iload_n hC 2 dX11_later_23 rfl ?_
      refine y_callV_v_IJR hC hRm noS ml_X11_230 kk_1 (c11_lookAhead hRF  hw) (Nat.le_of_ble_eq_true rfl) (Nat.le_of_ble_eq_true rfl) ⟨Nat.zero_le _, Nat.zero_le _⟩ rfl (st := []) rfl (Nat.le_of_ble_eq_true rfl) dX11_later_24 (fun I1 J1 R1 hw => ?_)
      obtain ⟨rf1, hw⟩ := hw
      refine wm_aload_n hC 0 dX11_later_27 rfl (k_ne0 kk_1 (by decide)) ?_
      refine x_getR3 hC 3 fl_X11_30 rfl kk_1 (rf_1_3 rf1) dX11_later_28 ?_
      refine x_getR3 hC 5 fl_X11_157 rfl kk_12 (rfs_5 rf1 isSt_12) dX11_later_31 ?_
      refine wm_iload_n hC 1 dX11_later_34 rfl ?_
      refine x_iald2 hC kk_15 kn_15 dX11_later_35 hw (fun hw => ?_)
      exact wm_ireturn hC hE dX11_later_36 ⟨trivial, ⟨rf1, hw⟩⟩
def p3_letterOf_b72_body (l3 : Int) (I : mI) (Q : Int → Prop) (k72 : Int → Int → Prop) (l4 : Int) (l6 : Int) : Prop := (if l6 ≤ l3 then (Q (Int.tmod l4 27)) else (rg (l6 + (-1)) ∧ (k72 (Int.tdiv l4 27) (l6 + (-1)))))
def p3_letterOf_b72 (l3 : Int) (I : mI) (Q : Int → Prop) : Nat → Int → Int → Prop
  | 0 => fun _ _ => False
  | f + 1 => fun l4 l6 => p3_letterOf_b72_body l3 I Q (p3_letterOf_b72 l3 I Q f) l4 l6
set_option maxRecDepth 20000 in
theorem w3_letterOf_b72_body {C : wX} {ad : Nat → Nat} {n : Nat} {I J : mI} {R : mR} {Q : Int → Prop} (hC : wOK C cX3_letterOf 7 RX3) (hRm : wRm C 2 34 0 0) (hE : wEnd C (some .int) ad n (fun r I' J' R' => (I' = I ∧ J' = J ∧ R' = R) ∧ Q r)) (hRF : RF R) {l3 : Int} {l4 : Int} {l6 : Int}     {k72 : Int → Int → Prop} (kk72 : ∀ (y4 : Int) (y6 : Int), k72 y4 y6 → WM C ad n I J R 0 0 72 [(3, vi l3), (4, vi y4), (6, vi y6)] []) (hw : p3_letterOf_b72_body l3 I Q k72 l4 l6) : WM C ad n I J R 0 0 72 [(3, vi l3), (4, vi l4), (6, vi l6)] [] := by
  unfold p3_letterOf_b72_body at hw
  refine wm_iload hC 2 dX3_letterOf_72 rfl ?_
  refine wm_iload_n hC 0 dX3_letterOf_74 rfl ?_
  refine wm_icmp_le (tgt := 91) hC dX3_letterOf_75 (by decide) hw (fun hw => ?_) (fun hw => ?_)
  · refine wm_iload hC 1 dX3_letterOf_91 rfl ?_
    refine wm_bipush hC dX3_letterOf_93 (k := ?_)
    refine x_iremP hC (by decide) dX3_letterOf_95 ?_
    exact wm_ireturn hC hE dX3_letterOf_96 ⟨⟨rfl, rfl, rfl⟩, hw⟩
  · refine wm_iload hC 1 dX3_letterOf_78 rfl ?_
    refine wm_bipush hC dX3_letterOf_80 (k := ?_)
    refine x_idivP hC (by decide) dX3_letterOf_82 ?_
    refine wm_istore hC dX3_letterOf_83 (by decide) (L2 := [(4, vi (Int.tdiv l4 27)), (3, vi l3), (6, vi l6)]) rfl ?_
    refine x_iinc hC 2 dX3_letterOf_85 rfl (by decide) (L2 := [(6, vi (l6 + (-1))), (4, vi (Int.tdiv l4 27)), (3, vi l3)]) rfl hw (fun hw => ?_)
    refine wm_goto (tgt := 72) hC dX3_letterOf_88 (by decide) ?_
    refine wm_sub [2, 1, 0] (L2 := [(3, vi l3), (4, vi (Int.tdiv l4 27)), (6, vi (l6 + (-1)))]) rfl ?_
    exact kk72 _ _ hw
set_option maxRecDepth 20000 in
theorem w3_letterOf_b72 {C : wX} {ad : Nat → Nat} {n : Nat} {I : mI} {J : mI} {R : mR} {Q : Int → Prop} (hC : wOK C cX3_letterOf 7 RX3) (hRm : wRm C 2 34 0 0) (hE : wEnd C (some .int) ad n (fun r I' J' R' => (I' = I ∧ J' = J ∧ R' = R) ∧ Q r)) (hRF : RF R) {l3 : Int}     : ∀ (f : Nat) (l4 : Int) (l6 : Int), p3_letterOf_b72 l3 I Q f l4 l6 → WM C ad n I J R 0 0 72 [(3, vi l3), (4, vi l4), (6, vi l6)] [] := by
  intro f
  induction f with
  | zero => intro l4 l6 hw; exact hw.elim
  | succ f ih => intro l4 l6 hw; exact w3_letterOf_b72_body hC hRm hE hRF  (fun a0 a1 aw => ih a0 a1 aw) hw
def p3_letterOf_b58 (l3 : Int) (l4 : Int) (l5 : Int) (I : mI) (Q : Int → Prop) : Prop := (if l3 < l5 then (rg (l5 - 1) ∧ (∃ f, p3_letterOf_b72 l3 I Q f l4 (l5 - 1))) else (Q 0))
set_option maxRecDepth 20000 in
theorem w3_letterOf_b58 {C : wX} {ad : Nat → Nat} {n : Nat} {I J : mI} {R : mR} {Q : Int → Prop} (hC : wOK C cX3_letterOf 7 RX3) (hRm : wRm C 2 34 0 0) (hE : wEnd C (some .int) ad n (fun r I' J' R' => (I' = I ∧ J' = J ∧ R' = R) ∧ Q r)) (hRF : RF R) {l3 : Int} {l4 : Int} {l5 : Int}     (hw : p3_letterOf_b58 l3 l4 l5 I Q) : WM C ad n I J R 0 0 58 [(3, vi l3), (4, vi l4), (5, vi l5)] [] := by
  unfold p3_letterOf_b58 at hw
  refine wm_iload_n hC 0 dX3_letterOf_58 rfl ?_
  refine wm_iload hC 2 dX3_letterOf_59 rfl ?_
  refine wm_icmp_lt (tgt := 66) hC dX3_letterOf_61 (by decide) hw (fun hw => ?_) (fun hw => ?_)
  · refine wm_iload hC 2 dX3_letterOf_66 rfl ?_
    refine wm_iconst hC dX3_letterOf_68 (k := ?_)
    refine x_isub hC dX3_letterOf_69 hw (fun hw => ?_)
    refine wm_istore hC dX3_letterOf_70 (by decide) (L2 := [(6, vi (l5 - 1)), (3, vi l3), (4, vi l4), (5, vi l5)]) rfl ?_
    obtain ⟨f, hw⟩ := hw
    refine wm_sub [1, 2, 0] (L2 := [(3, vi l3), (4, vi l4), (6, vi (l5 - 1))]) rfl ?_
    exact w3_letterOf_b72 hC hRm hE hRF  f _ _ hw
  · refine wm_iconst hC dX3_letterOf_64 (k := ?_)
    exact wm_ireturn hC hE dX3_letterOf_65 ⟨⟨rfl, rfl, rfl⟩, hw⟩
def p3_letterOf_b33_body (l3 : Int) (l4 : Int) (I : mI) (Q : Int → Prop) (k33 : Int → Int → Prop) (l5 : Int) (l6 : Int) : Prop := (if l6 ≤ 0 then (p3_letterOf_b58 l3 l4 l5 I Q) else (if (6 : Int) ≤ l5 then (p3_letterOf_b58 l3 l4 l5 I Q) else (rg (l5 + 1) ∧ (k33 (l5 + 1) (Int.tdiv l6 27)))))
def p3_letterOf_b33 (l3 : Int) (l4 : Int) (I : mI) (Q : Int → Prop) : Nat → Int → Int → Prop
  | 0 => fun _ _ => False
  | f + 1 => fun l5 l6 => p3_letterOf_b33_body l3 l4 I Q (p3_letterOf_b33 l3 l4 I Q f) l5 l6
set_option maxRecDepth 20000 in
theorem w3_letterOf_b33_body {C : wX} {ad : Nat → Nat} {n : Nat} {I J : mI} {R : mR} {Q : Int → Prop} (hC : wOK C cX3_letterOf 7 RX3) (hRm : wRm C 2 34 0 0) (hE : wEnd C (some .int) ad n (fun r I' J' R' => (I' = I ∧ J' = J ∧ R' = R) ∧ Q r)) (hRF : RF R) {l3 : Int} {l4 : Int} {l5 : Int} {l6 : Int}     {k33 : Int → Int → Prop} (kk33 : ∀ (y5 : Int) (y6 : Int), k33 y5 y6 → WM C ad n I J R 0 0 33 [(3, vi l3), (4, vi l4), (5, vi y5), (6, vi y6)] []) (hw : p3_letterOf_b33_body l3 l4 I Q k33 l5 l6) : WM C ad n I J R 0 0 33 [(3, vi l3), (4, vi l4), (5, vi l5), (6, vi l6)] [] := by
  unfold p3_letterOf_b33_body at hw
  refine wm_iload hC 3 dX3_letterOf_33 rfl ?_
  refine wm_if_le (tgt := 58) hC dX3_letterOf_35 (by decide) hw (fun hw => ?_) (fun hw => ?_)
  · refine wm_sub [0, 1, 2] (L2 := [(3, vi l3), (4, vi l4), (5, vi l5)]) rfl ?_
    exact w3_letterOf_b58 hC hRm hE hRF  hw
  · refine wm_iload hC 2 dX3_letterOf_38 rfl ?_
    refine wm_bipush hC dX3_letterOf_40 (k := ?_)
    refine wm_icmp_ge (tgt := 58) hC dX3_letterOf_42 (by decide) hw (fun hw => ?_) (fun hw => ?_)
    · refine wm_sub [0, 1, 2] (L2 := [(3, vi l3), (4, vi l4), (5, vi l5)]) rfl ?_
      exact w3_letterOf_b58 hC hRm hE hRF  hw
    · refine x_iinc hC 2 dX3_letterOf_45 rfl (by decide) (L2 := [(5, vi (l5 + 1)), (3, vi l3), (4, vi l4), (6, vi l6)]) rfl hw (fun hw => ?_)
      refine wm_iload hC 3 dX3_letterOf_48 rfl ?_
      refine wm_bipush hC dX3_letterOf_50 (k := ?_)
      refine x_idivP hC (by decide) dX3_letterOf_52 ?_
      refine wm_istore hC dX3_letterOf_53 (by decide) (L2 := [(6, vi (Int.tdiv l6 27)), (5, vi (l5 + 1)), (3, vi l3), (4, vi l4)]) rfl ?_
      refine wm_goto (tgt := 33) hC dX3_letterOf_55 (by decide) ?_
      refine wm_sub [2, 3, 1, 0] (L2 := [(3, vi l3), (4, vi l4), (5, vi (l5 + 1)), (6, vi (Int.tdiv l6 27))]) rfl ?_
      exact kk33 _ _ hw
set_option maxRecDepth 20000 in
theorem w3_letterOf_b33 {C : wX} {ad : Nat → Nat} {n : Nat} {I : mI} {J : mI} {R : mR} {Q : Int → Prop} (hC : wOK C cX3_letterOf 7 RX3) (hRm : wRm C 2 34 0 0) (hE : wEnd C (some .int) ad n (fun r I' J' R' => (I' = I ∧ J' = J ∧ R' = R) ∧ Q r)) (hRF : RF R) {l3 : Int} {l4 : Int}     : ∀ (f : Nat) (l5 : Int) (l6 : Int), p3_letterOf_b33 l3 l4 I Q f l5 l6 → WM C ad n I J R 0 0 33 [(3, vi l3), (4, vi l4), (5, vi l5), (6, vi l6)] [] := by
  intro f
  induction f with
  | zero => intro l5 l6 hw; exact hw.elim
  | succ f ih => intro l5 l6 hw; exact w3_letterOf_b33_body hC hRm hE hRF  (fun a0 a1 aw => ih a0 a1 aw) hw
def p3_letterOf (l0 : Nat) (l1 : Int) (l2 : Int) (l3 : Int) (I : mI) (Q : Int → Prop) : Prop := (p3_isThere l0 l1 l2 I (fun r1 => (if r1 = 0 then (∃ f, p3_letterOf_b33 l3 0 I Q f 0 0) else (rg (l1 * 6) ∧ (rg ((l1 * 6) + l2) ∧ (((0 : Int) ≤ ((l1 * 6) + l2) ∧ ((l1 * 6) + l2) < (18 : Int)) ∧ (wLet (I (l0 + 2) ((l1 * 6) + l2)) (fun x1 => (∃ f, p3_letterOf_b33 l3 x1 I Q f 0 x1)))))))))
set_option maxRecDepth 20000 in
theorem c3_letterOf {ad : Nat → Nat} {n : Nat} {I J : mI} {R : mR} {Q : Int → Prop}  (hRF : RF R) {l0 : Nat} {l1 : Int} {l2 : Int} {l3 : Int} (h0 : isLd l0)    (hw : p3_letterOf l0 l1 l2 l3 I Q) : wMet yX3_letterOf cX3_letterOf 7 (some .int) 2 34 false ad n I J R [vr l0, vi l1, vi l2, vi l3] (fun r I' J' R' => (I' = I ∧ J' = J ∧ R' = R) ∧ Q r) := by
  refine wMet_of (by decide) (Nat.le_of_ble_eq_true rfl) (fun C hC hRm hE hS => ?_)
  refine (show WM C ad n I J R 0 0 0 [(0, vr l0), (1, vi l1), (2, vi l2), (3, vi l3)] [] from ?_)
  unfold p3_letterOf at hw
  refine wm_aload_n hC 0 dX3_letterOf_0 rfl (k_ne0 (ld_k0 h0) (by decide)) ?_
  refine wm_iload_n hC 1 dX3_letterOf_1 rfl ?_
  refine wm_iload_n hC 2 dX3_letterOf_2 rfl ?_
  refine y_callV_z_n hC hRm noS ml_X3_58 (ld_k0 h0) (c3_isThere hRF h0 hw) (Nat.le_of_ble_eq_true rfl) (Nat.le_of_ble_eq_true rfl) ⟨Nat.zero_le _, Nat.zero_le _⟩ rfl (st := []) rfl (Nat.le_of_ble_eq_true rfl) dX3_letterOf_3 (fun r1 hw => ?_)
  refine wm_if_eq (tgt := 23) hC dX3_letterOf_6 (by decide) hw (fun hw => ?_) (fun hw => ?_)
  · refine wm_iconst hC dX3_letterOf_23 (k := ?_)
    refine wm_istore hC dX3_letterOf_24 (by decide) (L2 := [(4, vi 0), (0, vr l0), (1, vi l1), (2, vi l2), (3, vi l3)]) rfl ?_
    refine wm_iconst hC dX3_letterOf_26 (k := ?_)
    refine wm_istore hC dX3_letterOf_27 (by decide) (L2 := [(5, vi 0), (4, vi 0), (0, vr l0), (1, vi l1), (2, vi l2), (3, vi l3)]) rfl ?_
    refine wm_iload hC 1 dX3_letterOf_29 rfl ?_
    refine wm_istore hC dX3_letterOf_31 (by decide) (L2 := [(6, vi 0), (5, vi 0), (4, vi 0), (0, vr l0), (1, vi l1), (2, vi l2), (3, vi l3)]) rfl ?_
    obtain ⟨f, hw⟩ := hw
    refine wm_sub [6, 2, 1, 0] (L2 := [(3, vi l3), (4, vi 0), (5, vi 0), (6, vi 0)]) rfl ?_
    exact w3_letterOf_b33 hC hRm hE hRF  f _ _ hw
  · refine wm_aload_n hC 0 dX3_letterOf_9 rfl (k_ne0 (ld_k0 h0) (by decide)) ?_
    refine x_getR3 hC 1 fl_X3_15 rfl (ld_k0 h0) (rfd_1 hRF h0) dX3_letterOf_10 ?_
    refine wm_iload_n hC 1 dX3_letterOf_13 rfl ?_
    refine wm_bipush hC dX3_letterOf_14 (k := ?_)
    refine x_imul hC dX3_letterOf_16 hw (fun hw => ?_)
    refine wm_iload_n hC 2 dX3_letterOf_17 rfl ?_
    refine x_iadd hC dX3_letterOf_18 hw (fun hw => ?_)
    refine x_iald2 hC (ld_k2 h0) (ld_n2 h0) dX3_letterOf_19 hw (fun hw => ?_)
    refine wm_goto (tgt := 24) hC dX3_letterOf_20 (by decide) ?_
    refine x_nameI hw (fun x1 hw => ?_)
    refine wm_istore hC dX3_letterOf_24 (by decide) (L2 := [(4, vi x1), (0, vr l0), (1, vi l1), (2, vi l2), (3, vi l3)]) rfl ?_
    refine wm_iconst hC dX3_letterOf_26 (k := ?_)
    refine wm_istore hC dX3_letterOf_27 (by decide) (L2 := [(5, vi 0), (4, vi x1), (0, vr l0), (1, vi l1), (2, vi l2), (3, vi l3)]) rfl ?_
    refine wm_iload hC 1 dX3_letterOf_29 rfl ?_
    refine wm_istore hC dX3_letterOf_31 (by decide) (L2 := [(6, vi x1), (5, vi 0), (4, vi x1), (0, vr l0), (1, vi l1), (2, vi l2), (3, vi l3)]) rfl ?_
    obtain ⟨f, hw⟩ := hw
    refine wm_sub [6, 2, 1, 0] (L2 := [(3, vi l3), (4, vi x1), (5, vi 0), (6, vi x1)]) rfl ?_
    exact w3_letterOf_b33 hC hRm hE hRF  f _ _ hw
def p11_letter (l1 : Int) (l2 : Int) (l3 : Int) (I : mI) (R : mR) (Q : Int → Prop) : Prop := (isLd (R 1 12) ∧ (p3_isThere (R 1 12) l1 l2 I (fun r1 => (if r1 = 0 then (Q (-1)) else (if l3 < 0 then (Q (-1)) else (if l3 ≤ 5 then (isLd (R 1 12) ∧ (p3_letterOf (R 1 12) l1 l2 l3 I (fun r2 => (Q r2)))) else (Q (-1))))))))
set_option maxRecDepth 20000 in
theorem c11_letter {ad : Nat → Nat} {n : Nat} {I J : mI} {R : mR} {Q : Int → Prop}  (hRF : RF R) {l1 : Int} {l2 : Int} {l3 : Int}     (hw : p11_letter l1 l2 l3 I R Q) : wMet yX11_letter cX11_letter 4 (some .int) 3 60 false ad n I J R [vr 1, vi l1, vi l2, vi l3] (fun r I' J' R' => (I' = I ∧ J' = J ∧ R' = R) ∧ Q r) := by
  refine wMet_of (by decide) (Nat.le_of_ble_eq_true rfl) (fun C hC hRm hE hS => ?_)
  refine (show WM C ad n I J R 0 0 0 [(0, vr 1), (1, vi l1), (2, vi l2), (3, vi l3)] [] from ?_)
  unfold p11_letter at hw
  refine wm_aload_n hC 0 dX11_letter_0 rfl (k_ne0 kk_1 (by decide)) ?_
  refine x_getRD hC 12 fl_X11_57 rfl kk_1 dX11_letter_1 hw (fun g1 hw => ?_)
  refine wm_iload_n hC 1 dX11_letter_4 rfl ?_
  refine wm_iload_n hC 2 dX11_letter_5 rfl ?_
  refine y_callV_z_n hC hRm noS ml_X11_167 (ld_k0 g1) (c3_isThere hRF g1 hw) (Nat.le_of_ble_eq_true rfl) (Nat.le_of_ble_eq_true rfl) ⟨Nat.zero_le _, Nat.zero_le _⟩ rfl (st := []) rfl (Nat.le_of_ble_eq_true rfl) dX11_letter_6 (fun r1 hw => ?_)
  refine wm_if_eq (tgt := 21) hC dX11_letter_9 (by decide) hw (fun hw => ?_) (fun hw => ?_)
  · refine wm_iconst hC dX11_letter_21 (k := ?_)
    exact wm_ireturn hC hE dX11_letter_22 ⟨⟨rfl, rfl, rfl⟩, hw⟩
  · refine wm_iload_n hC 3 dX11_letter_12 rfl ?_
    refine wm_if_lt (tgt := 21) hC dX11_letter_13 (by decide) hw (fun hw => ?_) (fun hw => ?_)
    · refine wm_iconst hC dX11_letter_21 (k := ?_)
      exact wm_ireturn hC hE dX11_letter_22 ⟨⟨rfl, rfl, rfl⟩, hw⟩
    · refine wm_iload_n hC 3 dX11_letter_16 rfl ?_
      refine wm_iconst hC dX11_letter_17 (k := ?_)
      refine wm_icmp_le (tgt := 23) hC dX11_letter_18 (by decide) hw (fun hw => ?_) (fun hw => ?_)
      · refine wm_aload_n hC 0 dX11_letter_23 rfl (k_ne0 kk_1 (by decide)) ?_
        refine x_getRD hC 12 fl_X11_57 rfl kk_1 dX11_letter_24 hw (fun g2 hw => ?_)
        refine wm_iload_n hC 1 dX11_letter_27 rfl ?_
        refine wm_iload_n hC 2 dX11_letter_28 rfl ?_
        refine wm_iload_n hC 3 dX11_letter_29 rfl ?_
        refine y_callV_i_n hC hRm noS ml_X11_171 (ld_k0 g2) (c3_letterOf hRF g2 hw) (Nat.le_of_ble_eq_true rfl) (Nat.le_of_ble_eq_true rfl) ⟨Nat.zero_le _, Nat.zero_le _⟩ rfl (st := []) rfl (Nat.le_of_ble_eq_true rfl) dX11_letter_30 (fun r2 hw => ?_)
        exact wm_ireturn hC hE dX11_letter_33 ⟨⟨rfl, rfl, rfl⟩, hw⟩
      · refine wm_iconst hC dX11_letter_21 (k := ?_)
        exact wm_ireturn hC hE dX11_letter_22 ⟨⟨rfl, rfl, rfl⟩, hw⟩
def p2_take_b110_body (l3 : Int) (Q : Int → mI → Prop) (k110 : Int → mI → Prop) (l4 : Int) (I : mI) : Prop := (rg (3 * l3) ∧ (if (3 * l3) ≤ l4 then (wLet (up I 151 5 l3) (fun I1 => (Q 1 I1))) else (p9_byteAt l4 I (fun r6 => (((0 : Int) ≤ l4 ∧ l4 < (48 : Int)) ∧ wLet (up I 157 l4 r6) (fun I2 => (rg (l4 + 1) ∧ (k110 (l4 + 1) I2))))))))
def p2_take_b110 (l3 : Int) (Q : Int → mI → Prop) : Nat → Int → mI → Prop
  | 0 => fun _ _ => False
  | f + 1 => fun l4 I => p2_take_b110_body l3 Q (p2_take_b110 l3 Q f) l4 I
set_option maxRecDepth 20000 in
theorem w2_take_b110_body {C : wX} {ad : Nat → Nat} {n : Nat} {I J : mI} {R : mR} {Q : Int → mI → Prop} (hC : wOK C cX2_take 6 RX2) (hRm : wRm C 2 34 0 0) (hE : wEnd C (some .boolean) ad n (fun r I' J' R' => (J' = J ∧ R' = R) ∧ Q r I')) (hRF : RF R) {l3 : Int} {l4 : Int}     {k110 : Int → mI → Prop} (kk110 : ∀ (y4 : Int) (I' : mI), k110 y4 I' → WM C ad n I' J R 0 0 110 [(0, vr 151), (1, vr 2), (3, vi l3), (4, vi y4)] []) (hw : p2_take_b110_body l3 Q k110 l4 I) : WM C ad n I J R 0 0 110 [(0, vr 151), (1, vr 2), (3, vi l3), (4, vi l4)] [] := by
  unfold p2_take_b110_body at hw
  refine wm_iload hC 3 dX2_take_110 rfl ?_
  refine wm_iconst hC dX2_take_112 (k := ?_)
  refine wm_iload_n hC 2 dX2_take_113 rfl ?_
  refine x_imul hC dX2_take_114 hw (fun hw => ?_)
  refine wm_icmp_ge (tgt := 137) hC dX2_take_115 (by decide) hw (fun hw => ?_) (fun hw => ?_)
  · refine wm_aload_n hC 0 dX2_take_137 rfl (k_ne0 kk_151 (by decide)) ?_
    refine wm_iload_n hC 2 dX2_take_138 rfl ?_
    refine x_putI hC 5 fl_X2_25 rfl kk_151 dX2_take_139 hw (fun I1 hw => ?_)
    refine wm_iconst hC dX2_take_142 (k := ?_)
    exact wm_zreturn hC hE (Or.inr rfl) dX2_take_143 ⟨⟨rfl, rfl⟩, hw⟩
  · refine wm_aload_n hC 0 dX2_take_118 rfl (k_ne0 kk_151 (by decide)) ?_
    refine x_getR3 hC 3 fl_X2_18 rfl kk_151 (rf_151_3 hRF) dX2_take_119 ?_
    refine wm_iload hC 3 dX2_take_122 rfl ?_
    refine wm_aload_n hC 1 dX2_take_124 rfl (k_ne0 kk_2 (by decide)) ?_
    refine wm_iload hC 3 dX2_take_125 rfl ?_
    refine y_callV_i_n hC hRm noS ml_X2_51 kk_2 (c9_byteAt hRF  hw) (Nat.le_of_ble_eq_true rfl) (Nat.le_of_ble_eq_true rfl) ⟨Nat.zero_le _, Nat.zero_le _⟩ rfl (st := [vi l4, vr 157]) rfl (Nat.le_of_ble_eq_true rfl) dX2_take_127 (fun r6 hw => ?_)
    refine x_iast2 hC kk_157 kn_157 dX2_take_130 hw (fun I2 hw => ?_)
    refine x_iinc hC 3 dX2_take_131 rfl (by decide) (L2 := [(4, vi (l4 + 1)), (0, vr 151), (1, vr 2), (3, vi l3)]) rfl hw (fun hw => ?_)
    refine wm_goto (tgt := 110) hC dX2_take_134 (by decide) ?_
    refine wm_sub [1, 2, 3, 0] (L2 := [(0, vr 151), (1, vr 2), (3, vi l3), (4, vi (l4 + 1))]) rfl ?_
    exact kk110 _ _ hw
set_option maxRecDepth 20000 in
theorem w2_take_b110 {C : wX} {ad : Nat → Nat} {n : Nat} {J : mI} {R : mR} {Q : Int → mI → Prop} (hC : wOK C cX2_take 6 RX2) (hRm : wRm C 2 34 0 0) (hE : wEnd C (some .boolean) ad n (fun r I' J' R' => (J' = J ∧ R' = R) ∧ Q r I')) (hRF : RF R) {l3 : Int}     : ∀ (f : Nat) (l4 : Int) (I : mI), p2_take_b110 l3 Q f l4 I → WM C ad n I J R 0 0 110 [(0, vr 151), (1, vr 2), (3, vi l3), (4, vi l4)] [] := by
  intro f
  induction f with
  | zero => intro l4 I hw; exact hw.elim
  | succ f ih => intro l4 I hw; exact w2_take_b110_body hC hRm hE hRF  (fun a0 a1 aw => ih a0 a1 aw) hw
def p2_take_b32_body (l2 : Nat) (l3 : Int) (I : mI) (Q : Int → mI → Prop) (k32 : Int → Prop) (l4 : Int) : Prop := (if l3 ≤ l4 then (∃ f, p2_take_b110 l3 Q f 0 I) else (rg (3 * l4) ∧ (rg ((3 * l4) + 2) ∧ (p9_byteAt ((3 * l4) + 2) I (fun r1 => (rg (3 * l4) ∧ (p9_byteAt (3 * l4) I (fun r2 => (if (30 : Int) < r2 then (Q 0 I) else (rg (3 * l4) ∧ (rg ((3 * l4) + 1) ∧ (p9_byteAt ((3 * l4) + 1) I (fun r3 => (p3_isThere l2 2 r3 I (fun r4 => (if r4 = 0 then (Q 0 I) else (if r1 = 255 then (rg (l4 + 1) ∧ (k32 (l4 + 1))) else (p3_isThere l2 1 r1 I (fun r5 => (if r5 = 0 then (Q 0 I) else (rg (l4 + 1) ∧ (k32 (l4 + 1)))))))))))))))))))))))
def p2_take_b32 (l2 : Nat) (l3 : Int) (I : mI) (Q : Int → mI → Prop) : Nat → Int → Prop
  | 0 => fun _ => False
  | f + 1 => fun l4 => p2_take_b32_body l2 l3 I Q (p2_take_b32 l2 l3 I Q f) l4
set_option maxRecDepth 20000 in
theorem w2_take_b32_body {C : wX} {ad : Nat → Nat} {n : Nat} {I J : mI} {R : mR} {Q : Int → mI → Prop} (hC : wOK C cX2_take 6 RX2) (hRm : wRm C 2 34 0 0) (hE : wEnd C (some .boolean) ad n (fun r I' J' R' => (J' = J ∧ R' = R) ∧ Q r I')) (hRF : RF R) {l2 : Nat} {l3 : Int} {l4 : Int}   (h2 : isLd l2)  {k32 : Int → Prop} (kk32 : ∀ (y4 : Int), k32 y4 → WM C ad n I J R 0 0 32 [(0, vr 151), (1, vr 2), (2, vr l2), (3, vi l3), (4, vi y4)] []) (hw : p2_take_b32_body l2 l3 I Q k32 l4) : WM C ad n I J R 0 0 32 [(0, vr 151), (1, vr 2), (2, vr l2), (3, vi l3), (4, vi l4)] [] := by
  unfold p2_take_b32_body at hw
  refine wm_iload hC 4 dX2_take_32 rfl ?_
  refine wm_iload_n hC 3 dX2_take_34 rfl ?_
  refine wm_icmp_ge (tgt := 107) hC dX2_take_35 (by decide) hw (fun hw => ?_) (fun hw => ?_)
  · refine wm_iconst hC dX2_take_107 (k := ?_)
    refine wm_istore hC dX2_take_108 (by decide) (L2 := [(4, vi 0), (0, vr 151), (1, vr 2), (2, vr l2), (3, vi l3)]) rfl ?_
    obtain ⟨f, hw⟩ := hw
    refine wm_sub [1, 2, 4, 0] (L2 := [(0, vr 151), (1, vr 2), (3, vi l3), (4, vi 0)]) rfl ?_
    exact w2_take_b110 hC hRm hE hRF  f _ _ hw
  · refine wm_aload_n hC 1 dX2_take_38 rfl (k_ne0 kk_2 (by decide)) ?_
    refine wm_iconst hC dX2_take_39 (k := ?_)
    refine wm_iload hC 4 dX2_take_40 rfl ?_
    refine x_imul hC dX2_take_42 hw (fun hw => ?_)
    refine wm_iconst hC dX2_take_43 (k := ?_)
    refine x_iadd hC dX2_take_44 hw (fun hw => ?_)
    refine y_callV_i_n hC hRm noS ml_X2_51 kk_2 (c9_byteAt hRF  hw) (Nat.le_of_ble_eq_true rfl) (Nat.le_of_ble_eq_true rfl) ⟨Nat.zero_le _, Nat.zero_le _⟩ rfl (st := []) rfl (Nat.le_of_ble_eq_true rfl) dX2_take_45 (fun r1 hw => ?_)
    refine wm_istore hC dX2_take_48 (by decide) (L2 := [(5, vi r1), (0, vr 151), (1, vr 2), (2, vr l2), (3, vi l3), (4, vi l4)]) rfl ?_
    refine wm_aload_n hC 2 dX2_take_50 rfl (k_ne0 kk_2 (by decide)) ?_
    refine wm_iconst hC dX2_take_51 (k := ?_)
    refine wm_iload hC 5 dX2_take_52 rfl ?_
    refine x_imul hC dX2_take_54 hw (fun hw => ?_)
    refine y_callV_i_n hC hRm noS ml_X2_51 kk_2 (c9_byteAt hRF  hw) (Nat.le_of_ble_eq_true rfl) (Nat.le_of_ble_eq_true rfl) ⟨Nat.zero_le _, Nat.zero_le _⟩ rfl (st := []) rfl (Nat.le_of_ble_eq_true rfl) dX2_take_55 (fun r2 hw => ?_)
    refine wm_bipush hC dX2_take_58 (k := ?_)
    refine wm_icmp_gt (tgt := 99) hC dX2_take_60 (by decide) hw (fun hw => ?_) (fun hw => ?_)
    · refine wm_iconst hC dX2_take_99 (k := ?_)
      exact wm_zreturn hC hE (Or.inl rfl) dX2_take_100 ⟨⟨rfl, rfl⟩, hw⟩
    · refine wm_aload_n hC 3 dX2_take_63 rfl (k_ne0 (ld_k0 h2) (by decide)) ?_
      refine wm_iconst hC dX2_take_64 (k := ?_)
      refine wm_aload_n hC 2 dX2_take_65 rfl (k_ne0 kk_2 (by decide)) ?_
      refine wm_iconst hC dX2_take_66 (k := ?_)
      refine wm_iload hC 5 dX2_take_67 rfl ?_
      refine x_imul hC dX2_take_69 hw (fun hw => ?_)
      refine wm_iconst hC dX2_take_70 (k := ?_)
      refine x_iadd hC dX2_take_71 hw (fun hw => ?_)
      refine y_callV_i_n hC hRm noS ml_X2_51 kk_2 (c9_byteAt hRF  hw) (Nat.le_of_ble_eq_true rfl) (Nat.le_of_ble_eq_true rfl) ⟨Nat.zero_le _, Nat.zero_le _⟩ rfl (st := [vi 2, vr l2]) rfl (Nat.le_of_ble_eq_true rfl) dX2_take_72 (fun r3 hw => ?_)
      refine y_callV_z_n hC hRm noS ml_X2_57 (ld_k0 h2) (c3_isThere hRF h2 hw) (Nat.le_of_ble_eq_true rfl) (Nat.le_of_ble_eq_true rfl) ⟨Nat.zero_le _, Nat.zero_le _⟩ rfl (st := []) rfl (Nat.le_of_ble_eq_true rfl) dX2_take_75 (fun r4 hw => ?_)
      refine wm_if_eq (tgt := 99) hC dX2_take_78 (by decide) hw (fun hw => ?_) (fun hw => ?_)
      · refine wm_iconst hC dX2_take_99 (k := ?_)
        exact wm_zreturn hC hE (Or.inl rfl) dX2_take_100 ⟨⟨rfl, rfl⟩, hw⟩
      · refine wm_iload hC 0 dX2_take_81 rfl ?_
        refine wm_sipush hC dX2_take_83 (k := ?_)
        refine wm_icmp_eq (tgt := 101) hC dX2_take_86 (by decide) hw (fun hw => ?_) (fun hw => ?_)
        · refine x_iinc hC 5 dX2_take_101 rfl (by decide) (L2 := [(4, vi (l4 + 1)), (5, vi r1), (0, vr 151), (1, vr 2), (2, vr l2), (3, vi l3)]) rfl hw (fun hw => ?_)
          refine wm_goto (tgt := 32) hC dX2_take_104 (by decide) ?_
          refine wm_sub [2, 3, 4, 5, 0] (L2 := [(0, vr 151), (1, vr 2), (2, vr l2), (3, vi l3), (4, vi (l4 + 1))]) rfl ?_
          exact kk32 _ hw
        · refine wm_aload_n hC 3 dX2_take_89 rfl (k_ne0 (ld_k0 h2) (by decide)) ?_
          refine wm_iconst hC dX2_take_90 (k := ?_)
          refine wm_iload hC 0 dX2_take_91 rfl ?_
          refine y_callV_z_n hC hRm noS ml_X2_57 (ld_k0 h2) (c3_isThere hRF h2 hw) (Nat.le_of_ble_eq_true rfl) (Nat.le_of_ble_eq_true rfl) ⟨Nat.zero_le _, Nat.zero_le _⟩ rfl (st := []) rfl (Nat.le_of_ble_eq_true rfl) dX2_take_93 (fun r5 hw => ?_)
          refine wm_if_ne (tgt := 101) hC dX2_take_96 (by decide) hw (fun hw => ?_) (fun hw => ?_)
          · refine wm_iconst hC dX2_take_99 (k := ?_)
            exact wm_zreturn hC hE (Or.inl rfl) dX2_take_100 ⟨⟨rfl, rfl⟩, hw⟩
          · refine x_iinc hC 5 dX2_take_101 rfl (by decide) (L2 := [(4, vi (l4 + 1)), (5, vi r1), (0, vr 151), (1, vr 2), (2, vr l2), (3, vi l3)]) rfl hw (fun hw => ?_)
            refine wm_goto (tgt := 32) hC dX2_take_104 (by decide) ?_
            refine wm_sub [2, 3, 4, 5, 0] (L2 := [(0, vr 151), (1, vr 2), (2, vr l2), (3, vi l3), (4, vi (l4 + 1))]) rfl ?_
            exact kk32 _ hw
set_option maxRecDepth 20000 in
theorem w2_take_b32 {C : wX} {ad : Nat → Nat} {n : Nat} {I : mI} {J : mI} {R : mR} {Q : Int → mI → Prop} (hC : wOK C cX2_take 6 RX2) (hRm : wRm C 2 34 0 0) (hE : wEnd C (some .boolean) ad n (fun r I' J' R' => (J' = J ∧ R' = R) ∧ Q r I')) (hRF : RF R) {l2 : Nat} {l3 : Int}   (h2 : isLd l2)  : ∀ (f : Nat) (l4 : Int), p2_take_b32 l2 l3 I Q f l4 → WM C ad n I J R 0 0 32 [(0, vr 151), (1, vr 2), (2, vr l2), (3, vi l3), (4, vi l4)] [] := by
  intro f
  induction f with
  | zero => intro l4 hw; exact hw.elim
  | succ f ih => intro l4 hw; exact w2_take_b32_body hC hRm hE hRF h2 (fun a0 aw => ih a0 aw) hw
def p2_take (l2 : Nat) (I : mI) (Q : Int → mI → Prop) : Prop := (if (Int.tdiv (I 2 1) 3) < 1 then (Q 0 I) else (if (16 : Int) < (Int.tdiv (I 2 1) 3) then (Q 0 I) else (if (Int.tmod (I 2 1) 3) = 0 then (∃ f, p2_take_b32 l2 (Int.tdiv (I 2 1) 3) I Q f 0) else (Q 0 I))))
set_option maxRecDepth 20000 in
theorem c2_take {ad : Nat → Nat} {n : Nat} {I J : mI} {R : mR} {Q : Int → mI → Prop}  (hRF : RF R) {l2 : Nat}   (h2 : isLd l2) (hw : p2_take l2 I Q) : wMet yX2_take cX2_take 6 (some .boolean) 2 34 false ad n I J R [vr 151, vr 2, vr l2] (fun r I' J' R' => (J' = J ∧ R' = R) ∧ Q r I') := by
  refine wMet_of (by decide) (Nat.le_of_ble_eq_true rfl) (fun C hC hRm hE hS => ?_)
  refine (show WM C ad n I J R 0 0 0 [(0, vr 151), (1, vr 2), (2, vr l2)] [] from ?_)
  unfold p2_take at hw
  refine wm_aload_n hC 1 dX2_take_0 rfl (k_ne0 kk_2 (by decide)) ?_
  refine x_getI hC 1 fl_X2_46 rfl kk_2 dX2_take_1 ?_
  refine wm_iconst hC dX2_take_4 (k := ?_)
  refine x_idivP hC (by decide) dX2_take_5 ?_
  refine wm_istore_n hC dX2_take_6 (by decide) (L2 := [(3, vi (Int.tdiv (I 2 1) 3)), (0, vr 151), (1, vr 2), (2, vr l2)]) rfl ?_
  refine wm_iload_n hC 0 dX2_take_7 rfl ?_
  refine wm_iconst hC dX2_take_8 (k := ?_)
  refine wm_icmp_lt (tgt := 27) hC dX2_take_9 (by decide) hw (fun hw => ?_) (fun hw => ?_)
  · refine wm_iconst hC dX2_take_27 (k := ?_)
    exact wm_zreturn hC hE (Or.inl rfl) dX2_take_28 ⟨⟨rfl, rfl⟩, hw⟩
  · refine wm_iload_n hC 0 dX2_take_12 rfl ?_
    refine wm_bipush hC dX2_take_13 (k := ?_)
    refine wm_icmp_gt (tgt := 27) hC dX2_take_15 (by decide) hw (fun hw => ?_) (fun hw => ?_)
    · refine wm_iconst hC dX2_take_27 (k := ?_)
      exact wm_zreturn hC hE (Or.inl rfl) dX2_take_28 ⟨⟨rfl, rfl⟩, hw⟩
    · refine wm_aload_n hC 2 dX2_take_18 rfl (k_ne0 kk_2 (by decide)) ?_
      refine x_getI hC 1 fl_X2_46 rfl kk_2 dX2_take_19 ?_
      refine wm_iconst hC dX2_take_22 (k := ?_)
      refine x_iremP hC (by decide) dX2_take_23 ?_
      refine wm_if_eq (tgt := 29) hC dX2_take_24 (by decide) hw (fun hw => ?_) (fun hw => ?_)
      · refine wm_iconst hC dX2_take_29 (k := ?_)
        refine wm_istore hC dX2_take_30 (by decide) (L2 := [(4, vi 0), (3, vi (Int.tdiv (I 2 1) 3)), (0, vr 151), (1, vr 2), (2, vr l2)]) rfl ?_
        obtain ⟨f, hw⟩ := hw
        refine wm_sub [2, 3, 4, 1, 0] (L2 := [(0, vr 151), (1, vr 2), (2, vr l2), (3, vi (Int.tdiv (I 2 1) 3)), (4, vi 0)]) rfl ?_
        exact w2_take_b32 hC hRm hE hRF h2 f _ hw
      · refine wm_iconst hC dX2_take_27 (k := ?_)
        exact wm_zreturn hC hE (Or.inl rfl) dX2_take_28 ⟨⟨rfl, rfl⟩, hw⟩
def p11_meet (I : mI) (R : mR) (Q : Int → mI → Prop) : Prop := (isLd (R 1 12) ∧ (p2_take (R 1 12) I (fun r1 I1 => (wLet (up I1 2 1 0) (fun I2 => (if r1 = 0 then (p11_refuse 5 I2 (fun r2 I3 => (Q r2 I3))) else (Q (I2 151 5) I2)))))))
set_option maxRecDepth 20000 in
theorem c11_meet {ad : Nat → Nat} {n : Nat} {I J : mI} {R : mR} {Q : Int → mI → Prop}  (hRF : RF R)   (hw : p11_meet I R Q) : wMet yX11_meet cX11_meet 2 (some .int) 3 59 false ad n I J R [vr 1] (fun r I' J' R' => (J' = J ∧ R' = R) ∧ Q r I') := by
  refine wMet_of (by decide) (Nat.le_of_ble_eq_true rfl) (fun C hC hRm hE hS => ?_)
  refine (show WM C ad n I J R 0 0 0 [(0, vr 1)] [] from ?_)
  unfold p11_meet at hw
  refine wm_aload_n hC 0 dX11_meet_0 rfl (k_ne0 kk_1 (by decide)) ?_
  refine x_getR3 hC 11 fl_X11_106 rfl kk_1 (rf_1_11 hRF) dX11_meet_1 ?_
  refine wm_aload_n hC 0 dX11_meet_4 rfl (k_ne0 kk_1 (by decide)) ?_
  refine x_getR3 hC 0 fl_X11_10 rfl kk_1 (rf_1_0 hRF) dX11_meet_5 ?_
  refine wm_aload_n hC 0 dX11_meet_8 rfl (k_ne0 kk_1 (by decide)) ?_
  refine x_getRD hC 12 fl_X11_57 rfl kk_1 dX11_meet_9 hw (fun g1 hw => ?_)
  refine y_callV_z_I hC hRm noS ml_X11_250 kk_151 (c2_take hRF g1 hw) (Nat.le_of_ble_eq_true rfl) (Nat.le_of_ble_eq_true rfl) ⟨Nat.zero_le _, Nat.zero_le _⟩ rfl (st := []) rfl (Nat.le_of_ble_eq_true rfl) dX11_meet_12 (fun r1 I1 hw => ?_)
  refine wm_istore_n hC dX11_meet_15 (by decide) (L2 := [(1, vi r1), (0, vr 1)]) rfl ?_
  refine wm_aload_n hC 1 dX11_meet_16 rfl (k_ne0 kk_1 (by decide)) ?_
  refine x_getR3 hC 0 fl_X11_10 rfl kk_1 (rf_1_0 hRF) dX11_meet_17 ?_
  refine wm_iconst hC dX11_meet_20 (k := ?_)
  refine x_putI hC 1 fl_X11_114 rfl kk_2 dX11_meet_21 hw (fun I2 hw => ?_)
  refine wm_iload_n hC 0 dX11_meet_24 rfl ?_
  refine wm_if_eq (tgt := 38) hC dX11_meet_25 (by decide) hw (fun hw => ?_) (fun hw => ?_)
  · refine wm_aload_n hC 1 dX11_meet_38 rfl (k_ne0 kk_1 (by decide)) ?_
    refine wm_iconst hC dX11_meet_39 (k := ?_)
    refine y_callV_i_I hC hRm noS ml_X11_117 kk_1 (c11_refuse hRF  hw) (Nat.le_of_ble_eq_true rfl) (Nat.le_of_ble_eq_true rfl) ⟨Nat.zero_le _, Nat.zero_le _⟩ rfl (st := []) rfl (Nat.le_of_ble_eq_true rfl) dX11_meet_40 (fun r2 I3 hw => ?_)
    exact wm_ireturn hC hE dX11_meet_43 ⟨⟨rfl, rfl⟩, hw⟩
  · refine wm_aload_n hC 1 dX11_meet_28 rfl (k_ne0 kk_1 (by decide)) ?_
    refine x_getR3 hC 11 fl_X11_106 rfl kk_1 (rf_1_11 hRF) dX11_meet_29 ?_
    refine x_getI hC 5 fl_X11_142 rfl kk_151 dX11_meet_32 ?_
    refine wm_goto (tgt := 43) hC dX11_meet_35 (by decide) ?_
    exact wm_ireturn hC hE dX11_meet_43 ⟨⟨rfl, rfl⟩, hw⟩
def p11_mood (l1 : Int) (l2 : Int) (I : mI) (J : mI) (R : mR) (Q : Int → mI → mI → mR → Prop) : Prop := (isLd (R 1 12) ∧ (p3_isThere (R 1 12) 0 l1 I (fun r1 => (if r1 = 0 then (Q (-1) I J R) else (p11_canPass l2 I (fun r2 => (if r2 = 0 then (Q (-1) I J R) else (p11_lookAhead l2 I J R (fun I1 J1 R1 => (((0 : Int) ≤ l1 ∧ l1 < (6 : Int)) ∧ (Q (I1 14 l1) I1 J1 R1)))))))))))
set_option maxRecDepth 20000 in
theorem c11_mood {ad : Nat → Nat} {n : Nat} {I J : mI} {R : mR} {Q : Int → mI → mI → mR → Prop}  (hRF : RF R) {l1 : Int} {l2 : Int}    (hw : p11_mood l1 l2 I J R Q) : wMet yX11_mood cX11_mood 3 (some .int) 8 190 false ad n I J R [vr 1, vi l1, vi l2] (fun r I' J' R' => (True) ∧ (RF R' ∧ Q r I' J' R')) := by
  refine wMet_of (by decide) (Nat.le_of_ble_eq_true rfl) (fun C hC hRm hE hS => ?_)
  refine (show WM C ad n I J R 0 0 0 [(0, vr 1), (1, vi l1), (2, vi l2)] [] from ?_)
  unfold p11_mood at hw
  refine wm_aload_n hC 0 dX11_mood_0 rfl (k_ne0 kk_1 (by decide)) ?_
  refine x_getRD hC 12 fl_X11_57 rfl kk_1 dX11_mood_1 hw (fun g1 hw => ?_)
  refine wm_iconst hC dX11_mood_4 (k := ?_)
  refine wm_iload_n hC 1 dX11_mood_5 rfl ?_
  refine y_callV_z_n hC hRm noS ml_X11_167 (ld_k0 g1) (c3_isThere hRF g1 hw) (Nat.le_of_ble_eq_true rfl) (Nat.le_of_ble_eq_true rfl) ⟨Nat.zero_le _, Nat.zero_le _⟩ rfl (st := []) rfl (Nat.le_of_ble_eq_true rfl) dX11_mood_6 (fun r1 hw => ?_)
  refine wm_if_eq (tgt := 20) hC dX11_mood_9 (by decide) hw (fun hw => ?_) (fun hw => ?_)
  · refine wm_iconst hC dX11_mood_20 (k := ?_)
    exact wm_ireturn hC hE dX11_mood_21 ⟨trivial, ⟨hRF, hw⟩⟩
  · refine wm_aload_n hC 0 dX11_mood_12 rfl (k_ne0 kk_1 (by decide)) ?_
    refine wm_iload_n hC 2 dX11_mood_13 rfl ?_
    refine y_callV_z_n hC hRm noS ml_X11_227 kk_1 (c11_canPass hRF  hw) (Nat.le_of_ble_eq_true rfl) (Nat.le_of_ble_eq_true rfl) ⟨Nat.zero_le _, Nat.zero_le _⟩ rfl (st := []) rfl (Nat.le_of_ble_eq_true rfl) dX11_mood_14 (fun r2 hw => ?_)
    refine wm_if_ne (tgt := 22) hC dX11_mood_17 (by decide) hw (fun hw => ?_) (fun hw => ?_)
    · refine wm_iconst hC dX11_mood_20 (k := ?_)
      exact wm_ireturn hC hE dX11_mood_21 ⟨trivial, ⟨hRF, hw⟩⟩
    · refine wm_aload_n hC 0 dX11_mood_22 rfl (k_ne0 kk_1 (by decide)) ?_
      refine wm_iload_n hC 2 dX11_mood_23 rfl ?_
      refine y_callV_v_IJR hC hRm noS ml_X11_230 kk_1 (c11_lookAhead hRF  hw) (Nat.le_of_ble_eq_true rfl) (Nat.le_of_ble_eq_true rfl) ⟨Nat.zero_le _, Nat.zero_le _⟩ rfl (st := []) rfl (Nat.le_of_ble_eq_true rfl) dX11_mood_24 (fun I1 J1 R1 hw => ?_)
      obtain ⟨rf1, hw⟩ := hw
      refine wm_aload_n hC 0 dX11_mood_27 rfl (k_ne0 kk_1 (by decide)) ?_
      refine x_getR3 hC 3 fl_X11_30 rfl kk_1 (rf_1_3 rf1) dX11_mood_28 ?_
      refine x_getR3 hC 4 fl_X11_181 rfl kk_12 (rfs_4 rf1 isSt_12) dX11_mood_31 ?_
      refine wm_iload_n hC 1 dX11_mood_34 rfl ?_
      refine x_iald2 hC kk_14 kn_14 dX11_mood_35 hw (fun hw => ?_)
      exact wm_ireturn hC hE dX11_mood_36 ⟨trivial, ⟨rf1, hw⟩⟩
def p5_byteAt (l1 : Int) (I : mI) (Q : Int → Prop) : Prop := (if l1 < 0 then (Q (-1)) else (if (I 119 1) ≤ l1 then (Q (-1)) else (if (23 : Int) ≤ l1 then (Q (-1)) else (((0 : Int) ≤ l1 ∧ l1 < (23 : Int)) ∧ (Q (I 120 l1))))))
set_option maxRecDepth 20000 in
theorem c5_byteAt {ad : Nat → Nat} {n : Nat} {I J : mI} {R : mR} {Q : Int → Prop}  (hRF : RF R) {l1 : Int}   (hw : p5_byteAt l1 I Q) : wMet yX5_byteAt cX5_byteAt 2 (some .int) 1 12 false ad n I J R [vr 119, vi l1] (fun r I' J' R' => (I' = I ∧ J' = J ∧ R' = R) ∧ Q r) := by
  refine wMet_of (by decide) (Nat.le_of_ble_eq_true rfl) (fun C hC hRm hE hS => ?_)
  refine (show WM C ad n I J R 0 0 0 [(0, vr 119), (1, vi l1)] [] from ?_)
  unfold p5_byteAt at hw
  refine wm_iload_n hC 1 dX5_byteAt_0 rfl ?_
  refine wm_if_lt (tgt := 30) hC dX5_byteAt_1 (by decide) hw (fun hw => ?_) (fun hw => ?_)
  · refine wm_iconst hC dX5_byteAt_30 (k := ?_)
    exact wm_ireturn hC hE dX5_byteAt_31 ⟨⟨rfl, rfl, rfl⟩, hw⟩
  · refine wm_iload_n hC 1 dX5_byteAt_4 rfl ?_
    refine wm_aload_n hC 0 dX5_byteAt_5 rfl (k_ne0 kk_119 (by decide)) ?_
    refine x_getI hC 1 fl_X5_15 rfl kk_119 dX5_byteAt_6 ?_
    refine wm_icmp_ge (tgt := 30) hC dX5_byteAt_9 (by decide) hw (fun hw => ?_) (fun hw => ?_)
    · refine wm_iconst hC dX5_byteAt_30 (k := ?_)
      exact wm_ireturn hC hE dX5_byteAt_31 ⟨⟨rfl, rfl, rfl⟩, hw⟩
    · refine wm_iload_n hC 1 dX5_byteAt_12 rfl ?_
      refine wm_aload_n hC 0 dX5_byteAt_13 rfl (k_ne0 kk_119 (by decide)) ?_
      refine x_getR3 hC 0 fl_X5_9 rfl kk_119 (rf_119_0 hRF) dX5_byteAt_14 ?_
      refine x_alen2 hC kk_120 kn_120 (by decide) dX5_byteAt_17 ?_
      refine wm_icmp_ge (tgt := 30) hC dX5_byteAt_18 (by decide) hw (fun hw => ?_) (fun hw => ?_)
      · refine wm_iconst hC dX5_byteAt_30 (k := ?_)
        exact wm_ireturn hC hE dX5_byteAt_31 ⟨⟨rfl, rfl, rfl⟩, hw⟩
      · refine wm_aload_n hC 0 dX5_byteAt_21 rfl (k_ne0 kk_119 (by decide)) ?_
        refine x_getR3 hC 0 fl_X5_9 rfl kk_119 (rf_119_0 hRF) dX5_byteAt_22 ?_
        refine wm_iload_n hC 1 dX5_byteAt_25 rfl ?_
        refine x_iald2 hC kk_120 kn_120 dX5_byteAt_26 hw (fun hw => ?_)
        refine wm_goto (tgt := 31) hC dX5_byteAt_27 (by decide) ?_
        exact wm_ireturn hC hE dX5_byteAt_31 ⟨⟨rfl, rfl, rfl⟩, hw⟩
def p11_octet (l1 : Int) (I : mI) (Q : Int → Prop) : Prop := (p5_byteAt l1 I (fun r1 => (Q r1)))
set_option maxRecDepth 20000 in
theorem c11_octet {ad : Nat → Nat} {n : Nat} {I J : mI} {R : mR} {Q : Int → Prop}  (hRF : RF R) {l1 : Int}   (hw : p11_octet l1 I Q) : wMet yX11_octet cX11_octet 2 (some .int) 2 33 false ad n I J R [vr 1, vi l1] (fun r I' J' R' => (I' = I ∧ J' = J ∧ R' = R) ∧ Q r) := by
  refine wMet_of (by decide) (Nat.le_of_ble_eq_true rfl) (fun C hC hRm hE hS => ?_)
  refine (show WM C ad n I J R 0 0 0 [(0, vr 1), (1, vi l1)] [] from ?_)
  unfold p11_octet at hw
  refine wm_aload_n hC 0 dX11_octet_0 rfl (k_ne0 kk_1 (by decide)) ?_
  refine x_getR3 hC 5 fl_X11_43 rfl kk_1 (rf_1_5 hRF) dX11_octet_1 ?_
  refine wm_iload_n hC 1 dX11_octet_4 rfl ?_
  refine y_callV_i_n hC hRm noS ml_X11_298 kk_119 (c5_byteAt hRF  hw) (Nat.le_of_ble_eq_true rfl) (Nat.le_of_ble_eq_true rfl) ⟨Nat.zero_le _, Nat.zero_le _⟩ rfl (st := []) rfl (Nat.le_of_ble_eq_true rfl) dX11_octet_5 (fun r1 hw => ?_)
  exact wm_ireturn hC hE dX11_octet_8 ⟨⟨rfl, rfl, rfl⟩, hw⟩
def p11_odds_b19 (l1 : Int) (I : mI) (J : mI) (R : mR) (Q : Int → mI → mI → mR → Prop) : Prop := (isLd (R 1 12) ∧ (isLd (R 1 12) ∧ (if (I ((R 1 12) + 1) 0) = 0 then (Q (-1) I J R) else (if (I ((R 1 12) + 1) 2) = 0 then (Q (-1) I J R) else (if (I 7 0) < 999 then (if l1 = (-1) then (rg (100 * (I ((R 1 12) + 1) 0)) ∧ (Q (100 * (I ((R 1 12) + 1) 0)) I J R)) else (isLd (R 1 12) ∧ ((I ((R 1 12) + 1) 2) ≠ 0 ∧ (p1_sit (R 1 12) 7 (Int.tmod (I 7 0) (I ((R 1 12) + 1) 2)) I J R (fun I1 J1 R1 => (p1_oddsOf l1 I1 J1 R1 (fun r2 I2 J2 => (Q r2 I2 J2 R1)))))))) else (Q (-1) I J R))))))
set_option maxRecDepth 20000 in
theorem w11_odds_b19 {C : wX} {ad : Nat → Nat} {n : Nat} {I J : mI} {R : mR} {Q : Int → mI → mI → mR → Prop} (hC : wOK C cX11_odds 4 RX11) (hRm : wRm C 7 164 0 0) (hE : wEnd C (some .int) ad n (fun r I' J' R' => (True) ∧ (RF R' ∧ Q r I' J' R'))) (hRF : RF R) {l1 : Int}     (hw : p11_odds_b19 l1 I J R Q) : WM C ad n I J R 0 0 19 [(0, vr 1), (1, vi l1)] [] := by
  unfold p11_odds_b19 at hw
  refine wm_aload_n hC 0 dX11_odds_19 rfl (k_ne0 kk_1 (by decide)) ?_
  refine x_getRD hC 12 fl_X11_57 rfl kk_1 dX11_odds_20 hw (fun g2 hw => ?_)
  refine x_getR3 hC 0 fl_X11_145 rfl (ld_k0 g2) (rfd_0 hRF g2) dX11_odds_23 ?_
  refine wm_iconst hC dX11_odds_26 (k := ?_)
  refine x_ialdK hC (ld_k1 g2) (ld_n1 g2) (by decide) (by decide) dX11_odds_27 ?_
  refine wm_istore_n hC dX11_odds_28 (by decide) (L2 := [(2, vi (I ((R 1 12) + 1) 0)), (0, vr 1), (1, vi l1)]) rfl ?_
  refine wm_aload_n hC 1 dX11_odds_29 rfl (k_ne0 kk_1 (by decide)) ?_
  refine x_getRD hC 12 fl_X11_57 rfl kk_1 dX11_odds_30 hw (fun g3 hw => ?_)
  refine x_getR3 hC 0 fl_X11_145 rfl (ld_k0 g3) (rfd_0 hRF g3) dX11_odds_33 ?_
  refine wm_iconst hC dX11_odds_36 (k := ?_)
  refine x_ialdK hC (ld_k1 g3) (ld_n1 g3) (by decide) (by decide) dX11_odds_37 ?_
  refine wm_istore_n hC dX11_odds_38 (by decide) (L2 := [(3, vi (I ((R 1 12) + 1) 2)), (2, vi (I ((R 1 12) + 1) 0)), (0, vr 1), (1, vi l1)]) rfl ?_
  refine wm_iload_n hC 1 dX11_odds_39 rfl ?_
  refine wm_if_eq (tgt := 60) hC dX11_odds_40 (by decide) hw (fun hw => ?_) (fun hw => ?_)
  · refine wm_iconst hC dX11_odds_60 (k := ?_)
    exact wm_ireturn hC hE dX11_odds_61 ⟨trivial, ⟨hRF, hw⟩⟩
  · refine wm_iload_n hC 0 dX11_odds_43 rfl ?_
    refine wm_if_eq (tgt := 60) hC dX11_odds_44 (by decide) hw (fun hw => ?_) (fun hw => ?_)
    · refine wm_iconst hC dX11_odds_60 (k := ?_)
      exact wm_ireturn hC hE dX11_odds_61 ⟨trivial, ⟨hRF, hw⟩⟩
    · refine wm_aload_n hC 2 dX11_odds_47 rfl (k_ne0 kk_1 (by decide)) ?_
      refine x_getR3 hC 2 fl_X11_26 rfl kk_1 (rf_1_2 hRF) dX11_odds_48 ?_
      refine x_getI hC 0 fl_X11_147 rfl kk_7 dX11_odds_51 ?_
      refine wm_sipush hC dX11_odds_54 (k := ?_)
      refine wm_icmp_lt (tgt := 62) hC dX11_odds_57 (by decide) hw (fun hw => ?_) (fun hw => ?_)
      · refine wm_iload_n hC 3 dX11_odds_62 rfl ?_
        refine wm_iconst hC dX11_odds_63 (k := ?_)
        refine wm_icmp_ne (tgt := 72) hC dX11_odds_64 (by decide) hw (fun hw => ?_) (fun hw => ?_)
        · refine wm_bipush hC dX11_odds_67 (k := ?_)
          refine wm_iload_n hC 1 dX11_odds_69 rfl ?_
          refine x_imul hC dX11_odds_70 hw (fun hw => ?_)
          exact wm_ireturn hC hE dX11_odds_71 ⟨trivial, ⟨hRF, hw⟩⟩
        · refine wm_aload_n hC 2 dX11_odds_72 rfl (k_ne0 kk_1 (by decide)) ?_
          refine x_getR3 hC 9 fl_X11_88 rfl kk_1 (rf_1_9 hRF) dX11_odds_73 ?_
          refine wm_aload_n hC 2 dX11_odds_76 rfl (k_ne0 kk_1 (by decide)) ?_
          refine x_getRD hC 12 fl_X11_57 rfl kk_1 dX11_odds_77 hw (fun g4 hw => ?_)
          refine wm_aload_n hC 2 dX11_odds_80 rfl (k_ne0 kk_1 (by decide)) ?_
          refine x_getR3 hC 2 fl_X11_26 rfl kk_1 (rf_1_2 hRF) dX11_odds_81 ?_
          refine wm_aload_n hC 2 dX11_odds_84 rfl (k_ne0 kk_1 (by decide)) ?_
          refine x_getR3 hC 2 fl_X11_26 rfl kk_1 (rf_1_2 hRF) dX11_odds_85 ?_
          refine x_getI hC 0 fl_X11_147 rfl kk_7 dX11_odds_88 ?_
          refine wm_iload_n hC 0 dX11_odds_91 rfl ?_
          refine x_irem hC dX11_odds_92 hw (fun hw => ?_)
          refine y_callV_v_IJR hC hRm noS ml_X11_187 kk_146 (c1_sit hRF g4 isSt_7 hw) (Nat.le_of_ble_eq_true rfl) (Nat.le_of_ble_eq_true rfl) ⟨Nat.zero_le _, Nat.zero_le _⟩ rfl (st := []) rfl (Nat.le_of_ble_eq_true rfl) dX11_odds_93 (fun I1 J1 R1 hw => ?_)
          obtain ⟨rf1, hw⟩ := hw
          refine wm_aload_n hC 2 dX11_odds_96 rfl (k_ne0 kk_1 (by decide)) ?_
          refine x_getR3 hC 9 fl_X11_88 rfl kk_1 (rf_1_9 rf1) dX11_odds_97 ?_
          refine wm_iload_n hC 3 dX11_odds_100 rfl ?_
          refine y_callV_i_IJ hC hRm noS ml_X11_247 kk_146 (c1_oddsOf rf1  hw) (Nat.le_of_ble_eq_true rfl) (Nat.le_of_ble_eq_true rfl) ⟨Nat.zero_le _, Nat.zero_le _⟩ rfl (st := []) rfl (Nat.le_of_ble_eq_true rfl) dX11_odds_101 (fun r2 I2 J2 hw => ?_)
          exact wm_ireturn hC hE dX11_odds_104 ⟨trivial, ⟨rf1, hw⟩⟩
      · refine wm_iconst hC dX11_odds_60 (k := ?_)
        exact wm_ireturn hC hE dX11_odds_61 ⟨trivial, ⟨hRF, hw⟩⟩
def p11_odds (l1 : Int) (I : mI) (J : mI) (R : mR) (Q : Int → mI → mI → mR → Prop) : Prop := (if l1 = (-1) then (p11_odds_b19 l1 I J R Q) else (isLd (R 1 12) ∧ (p3_isThere (R 1 12) 1 l1 I (fun r1 => (if r1 = 0 then (Q (-1) I J R) else (p11_odds_b19 l1 I J R Q))))))
set_option maxRecDepth 20000 in
theorem c11_odds {ad : Nat → Nat} {n : Nat} {I J : mI} {R : mR} {Q : Int → mI → mI → mR → Prop}  (hRF : RF R) {l1 : Int}   (hw : p11_odds l1 I J R Q) : wMet yX11_odds cX11_odds 4 (some .int) 7 164 false ad n I J R [vr 1, vi l1] (fun r I' J' R' => (True) ∧ (RF R' ∧ Q r I' J' R')) := by
  refine wMet_of (by decide) (Nat.le_of_ble_eq_true rfl) (fun C hC hRm hE hS => ?_)
  refine (show WM C ad n I J R 0 0 0 [(0, vr 1), (1, vi l1)] [] from ?_)
  unfold p11_odds at hw
  refine wm_iload_n hC 1 dX11_odds_0 rfl ?_
  refine wm_iconst hC dX11_odds_1 (k := ?_)
  refine wm_icmp_eq (tgt := 19) hC dX11_odds_2 (by decide) hw (fun hw => ?_) (fun hw => ?_)
  · exact w11_odds_b19 hC hRm hE hRF  hw
  · refine wm_aload_n hC 0 dX11_odds_5 rfl (k_ne0 kk_1 (by decide)) ?_
    refine x_getRD hC 12 fl_X11_57 rfl kk_1 dX11_odds_6 hw (fun g1 hw => ?_)
    refine wm_iconst hC dX11_odds_9 (k := ?_)
    refine wm_iload_n hC 1 dX11_odds_10 rfl ?_
    refine y_callV_z_n hC hRm noS ml_X11_167 (ld_k0 g1) (c3_isThere hRF g1 hw) (Nat.le_of_ble_eq_true rfl) (Nat.le_of_ble_eq_true rfl) ⟨Nat.zero_le _, Nat.zero_le _⟩ rfl (st := []) rfl (Nat.le_of_ble_eq_true rfl) dX11_odds_11 (fun r1 hw => ?_)
    refine wm_if_ne (tgt := 19) hC dX11_odds_14 (by decide) hw (fun hw => ?_) (fun hw => ?_)
    · refine wm_iconst hC dX11_odds_17 (k := ?_)
      exact wm_ireturn hC hE dX11_odds_18 ⟨trivial, ⟨hRF, hw⟩⟩
    · exact w11_odds_b19 hC hRm hE hRF  hw
def p5_isChecked_b6_body (I : mI) (Q : Int → Prop) (k6 : Int → Int → Prop) (l1 : Int) (l2 : Int) : Prop := (rg ((I 2 1) - 1) ∧ (if ((I 2 1) - 1) ≤ l2 then (rg ((I 2 1) - 1) ∧ (p9_byteAt ((I 2 1) - 1) I (fun r1 => (if l1 = r1 then (Q 1) else (Q 0))))) else (rg (5 * l1) ∧ (p9_byteAt l2 I (fun r2 => (rg ((5 * l1) + r2) ∧ (wLet (Int.tmod ((5 * l1) + r2) 251) (fun x1 => (rg (l2 + 1) ∧ (k6 x1 (l2 + 1)))))))))))
def p5_isChecked_b6 (I : mI) (Q : Int → Prop) : Nat → Int → Int → Prop
  | 0 => fun _ _ => False
  | f + 1 => fun l1 l2 => p5_isChecked_b6_body I Q (p5_isChecked_b6 I Q f) l1 l2
set_option maxRecDepth 20000 in
theorem w5_isChecked_b6_body {C : wX} {ad : Nat → Nat} {n : Nat} {I J : mI} {R : mR} {Q : Int → Prop} (hC : wOK C cX5_isChecked 3 RX5) (hRm : wRm C 2 33 0 0) (hE : wEnd C (some .boolean) ad n (fun r I' J' R' => (I' = I ∧ J' = J ∧ R' = R) ∧ Q r)) (hRF : RF R)  {l1 : Int} {l2 : Int}     {k6 : Int → Int → Prop} (kk6 : ∀ (y1 : Int) (y2 : Int), k6 y1 y2 → WM C ad n I J R 0 0 6 [(0, vr 2), (1, vi y1), (2, vi y2)] []) (hw : p5_isChecked_b6_body I Q k6 l1 l2) : WM C ad n I J R 0 0 6 [(0, vr 2), (1, vi l1), (2, vi l2)] [] := by
  unfold p5_isChecked_b6_body at hw
  refine wm_iload_n hC 2 dX5_isChecked_6 rfl ?_
  refine wm_aload_n hC 0 dX5_isChecked_7 rfl (k_ne0 kk_2 (by decide)) ?_
  refine x_getI hC 1 fl_X5_45 rfl kk_2 dX5_isChecked_8 ?_
  refine wm_iconst hC dX5_isChecked_11 (k := ?_)
  refine x_isub hC dX5_isChecked_12 hw (fun hw => ?_)
  refine wm_icmp_ge (tgt := 36) hC dX5_isChecked_13 (by decide) hw (fun hw => ?_) (fun hw => ?_)
  · refine wm_iload_n hC 1 dX5_isChecked_36 rfl ?_
    refine wm_aload_n hC 0 dX5_isChecked_37 rfl (k_ne0 kk_2 (by decide)) ?_
    refine wm_aload_n hC 0 dX5_isChecked_38 rfl (k_ne0 kk_2 (by decide)) ?_
    refine x_getI hC 1 fl_X5_45 rfl kk_2 dX5_isChecked_39 ?_
    refine wm_iconst hC dX5_isChecked_42 (k := ?_)
    refine x_isub hC dX5_isChecked_43 hw (fun hw => ?_)
    refine y_callV_i_n hC hRm noS ml_X5_56 kk_2 (c9_byteAt hRF  hw) (Nat.le_of_ble_eq_true rfl) (Nat.le_of_ble_eq_true rfl) ⟨Nat.zero_le _, Nat.zero_le _⟩ rfl (st := [vi l1]) rfl (Nat.le_of_ble_eq_true rfl) dX5_isChecked_44 (fun r1 hw => ?_)
    refine wm_icmp_ne (tgt := 54) hC dX5_isChecked_47 (by decide) hw (fun hw => ?_) (fun hw => ?_)
    · refine wm_iconst hC dX5_isChecked_50 (k := ?_)
      refine wm_goto (tgt := 55) hC dX5_isChecked_51 (by decide) ?_
      exact wm_zreturn hC hE (Or.inr rfl) dX5_isChecked_55 ⟨⟨rfl, rfl, rfl⟩, hw⟩
    · refine wm_iconst hC dX5_isChecked_54 (k := ?_)
      exact wm_zreturn hC hE (Or.inl rfl) dX5_isChecked_55 ⟨⟨rfl, rfl, rfl⟩, hw⟩
  · refine wm_iconst hC dX5_isChecked_16 (k := ?_)
    refine wm_iload_n hC 1 dX5_isChecked_17 rfl ?_
    refine x_imul hC dX5_isChecked_18 hw (fun hw => ?_)
    refine wm_aload_n hC 0 dX5_isChecked_19 rfl (k_ne0 kk_2 (by decide)) ?_
    refine wm_iload_n hC 2 dX5_isChecked_20 rfl ?_
    refine y_callV_i_n hC hRm noS ml_X5_56 kk_2 (c9_byteAt hRF  hw) (Nat.le_of_ble_eq_true rfl) (Nat.le_of_ble_eq_true rfl) ⟨Nat.zero_le _, Nat.zero_le _⟩ rfl (st := [vi (5 * l1)]) rfl (Nat.le_of_ble_eq_true rfl) dX5_isChecked_21 (fun r2 hw => ?_)
    refine x_iadd hC dX5_isChecked_24 hw (fun hw => ?_)
    refine wm_sipush hC dX5_isChecked_25 (k := ?_)
    refine x_iremP hC (by decide) dX5_isChecked_28 ?_
    refine x_nameI hw (fun x1 hw => ?_)
    refine wm_istore_n hC dX5_isChecked_29 (by decide) (L2 := [(1, vi x1), (0, vr 2), (2, vi l2)]) rfl ?_
    refine x_iinc hC 2 dX5_isChecked_30 rfl (by decide) (L2 := [(2, vi (l2 + 1)), (1, vi x1), (0, vr 2)]) rfl hw (fun hw => ?_)
    refine wm_goto (tgt := 6) hC dX5_isChecked_33 (by decide) ?_
    refine wm_sub [2, 1, 0] (L2 := [(0, vr 2), (1, vi x1), (2, vi (l2 + 1))]) rfl ?_
    exact kk6 _ _ hw
set_option maxRecDepth 20000 in
theorem w5_isChecked_b6 {C : wX} {ad : Nat → Nat} {n : Nat} {I : mI} {J : mI} {R : mR} {Q : Int → Prop} (hC : wOK C cX5_isChecked 3 RX5) (hRm : wRm C 2 33 0 0) (hE : wEnd C (some .boolean) ad n (fun r I' J' R' => (I' = I ∧ J' = J ∧ R' = R) ∧ Q r)) (hRF : RF R)      : ∀ (f : Nat) (l1 : Int) (l2 : Int), p5_isChecked_b6 I Q f l1 l2 → WM C ad n I J R 0 0 6 [(0, vr 2), (1, vi l1), (2, vi l2)] [] := by
  intro f
  induction f with
  | zero => intro l1 l2 hw; exact hw.elim
  | succ f ih => intro l1 l2 hw; exact w5_isChecked_b6_body hC hRm hE hRF  (fun a0 a1 aw => ih a0 a1 aw) hw
def p5_isChecked (I : mI) (Q : Int → Prop) : Prop := (∃ f, p5_isChecked_b6 I Q f 229 0)
set_option maxRecDepth 20000 in
theorem c5_isChecked {ad : Nat → Nat} {n : Nat} {I J : mI} {R : mR} {Q : Int → Prop}  (hRF : RF R)   (hw : p5_isChecked I Q) : wMet yX5_isChecked cX5_isChecked 3 (some .boolean) 2 33 false ad n I J R [vr 2] (fun r I' J' R' => (I' = I ∧ J' = J ∧ R' = R) ∧ Q r) := by
  refine wMet_of (by decide) (Nat.le_of_ble_eq_true rfl) (fun C hC hRm hE hS => ?_)
  refine (show WM C ad n I J R 0 0 0 [(0, vr 2)] [] from ?_)
  unfold p5_isChecked at hw
  refine wm_sipush hC dX5_isChecked_0 (k := ?_)
  refine wm_istore_n hC dX5_isChecked_3 (by decide) (L2 := [(1, vi 229), (0, vr 2)]) rfl ?_
  refine wm_iconst hC dX5_isChecked_4 (k := ?_)
  refine wm_istore_n hC dX5_isChecked_5 (by decide) (L2 := [(2, vi 0), (1, vi 229), (0, vr 2)]) rfl ?_
  obtain ⟨f, hw⟩ := hw
  refine wm_sub [2, 1, 0] (L2 := [(0, vr 2), (1, vi 229), (2, vi 0)]) rfl ?_
  exact w5_isChecked_b6 hC hRm hE hRF  f _ _ hw
def p5_pairAt (l1 : Int) (I : mI) (Q : Int → Prop) : Prop := (p9_byteAt l1 I (fun r1 => (rg (r1 * 256) ∧ (rg (l1 + 1) ∧ (p9_byteAt (l1 + 1) I (fun r2 => (rg ((r1 * 256) + r2) ∧ (Q ((r1 * 256) + r2)))))))))
set_option maxRecDepth 20000 in
theorem c5_pairAt {ad : Nat → Nat} {n : Nat} {I J : mI} {R : mR} {Q : Int → Prop}  (hRF : RF R) {l1 : Int}   (hw : p5_pairAt l1 I Q) : wMet yX5_pairAt cX5_pairAt 2 (some .int) 2 33 false ad n I J R [vr 2, vi l1] (fun r I' J' R' => (I' = I ∧ J' = J ∧ R' = R) ∧ Q r) := by
  refine wMet_of (by decide) (Nat.le_of_ble_eq_true rfl) (fun C hC hRm hE hS => ?_)
  refine (show WM C ad n I J R 0 0 0 [(0, vr 2), (1, vi l1)] [] from ?_)
  unfold p5_pairAt at hw
  refine wm_aload_n hC 0 dX5_pairAt_0 rfl (k_ne0 kk_2 (by decide)) ?_
  refine wm_iload_n hC 1 dX5_pairAt_1 rfl ?_
  refine y_callV_i_n hC hRm noS ml_X5_56 kk_2 (c9_byteAt hRF  hw) (Nat.le_of_ble_eq_true rfl) (Nat.le_of_ble_eq_true rfl) ⟨Nat.zero_le _, Nat.zero_le _⟩ rfl (st := []) rfl (Nat.le_of_ble_eq_true rfl) dX5_pairAt_2 (fun r1 hw => ?_)
  refine wm_sipush hC dX5_pairAt_5 (k := ?_)
  refine x_imul hC dX5_pairAt_8 hw (fun hw => ?_)
  refine wm_aload_n hC 0 dX5_pairAt_9 rfl (k_ne0 kk_2 (by decide)) ?_
  refine wm_iload_n hC 1 dX5_pairAt_10 rfl ?_
  refine wm_iconst hC dX5_pairAt_11 (k := ?_)
  refine x_iadd hC dX5_pairAt_12 hw (fun hw => ?_)
  refine y_callV_i_n hC hRm noS ml_X5_56 kk_2 (c9_byteAt hRF  hw) (Nat.le_of_ble_eq_true rfl) (Nat.le_of_ble_eq_true rfl) ⟨Nat.zero_le _, Nat.zero_le _⟩ rfl (st := [vi (r1 * 256)]) rfl (Nat.le_of_ble_eq_true rfl) dX5_pairAt_13 (fun r2 hw => ?_)
  refine x_iadd hC dX5_pairAt_16 hw (fun hw => ?_)
  exact wm_ireturn hC hE dX5_pairAt_17 ⟨⟨rfl, rfl, rfl⟩, hw⟩
def p5_fits_b126_body (l1 : Nat) (l2 : Int) (l3 : Int) (l4 : Int) (I : mI) (Q : Int → Prop) (k126 : Int → Prop) (l5 : Int) : Prop := (if l3 ≤ l5 then (p3_everybody l1 I (fun r7 => (if l4 = r7 then (Q 1) else (Q 0)))) else (rg (2 * l2) ∧ (rg (4 + (2 * l2)) ∧ (rg ((4 + (2 * l2)) + l5) ∧ (p9_byteAt ((4 + (2 * l2)) + l5) I (fun r8 => (if r8 = 255 then (rg (l5 + 1) ∧ (k126 (l5 + 1))) else (p3_isThere l1 1 r8 I (fun r9 => (if r9 = 0 then (Q 0) else (rg (l5 + 1) ∧ (k126 (l5 + 1)))))))))))))
def p5_fits_b126 (l1 : Nat) (l2 : Int) (l3 : Int) (l4 : Int) (I : mI) (Q : Int → Prop) : Nat → Int → Prop
  | 0 => fun _ => False
  | f + 1 => fun l5 => p5_fits_b126_body l1 l2 l3 l4 I Q (p5_fits_b126 l1 l2 l3 l4 I Q f) l5
set_option maxRecDepth 20000 in
theorem w5_fits_b126_body {C : wX} {ad : Nat → Nat} {n : Nat} {I J : mI} {R : mR} {Q : Int → Prop} (hC : wOK C cX5_fits 7 RX5) (hRm : wRm C 3 55 0 0) (hE : wEnd C (some .boolean) ad n (fun r I' J' R' => (I' = I ∧ J' = J ∧ R' = R) ∧ Q r)) (hRF : RF R) {l1 : Nat} {l2 : Int} {l3 : Int} {l4 : Int} {l5 : Int}   (h1 : isLd l1)  {k126 : Int → Prop} (kk126 : ∀ (y5 : Int), k126 y5 → WM C ad n I J R 0 0 126 [(0, vr 2), (1, vr l1), (2, vi l2), (3, vi l3), (4, vi l4), (5, vi y5)] []) (hw : p5_fits_b126_body l1 l2 l3 l4 I Q k126 l5) : WM C ad n I J R 0 0 126 [(0, vr 2), (1, vr l1), (2, vi l2), (3, vi l3), (4, vi l4), (5, vi l5)] [] := by
  unfold p5_fits_b126_body at hw
  refine wm_iload hC 5 dX5_fits_126 rfl ?_
  refine wm_iload_n hC 3 dX5_fits_128 rfl ?_
  refine wm_icmp_ge (tgt := 172) hC dX5_fits_129 (by decide) hw (fun hw => ?_) (fun hw => ?_)
  · refine wm_iload hC 4 dX5_fits_172 rfl ?_
    refine wm_aload_n hC 1 dX5_fits_174 rfl (k_ne0 (ld_k0 h1) (by decide)) ?_
    refine y_callV_i_n hC hRm noS ml_X5_64 (ld_k0 h1) (c3_everybody hRF h1 hw) (Nat.le_of_ble_eq_true rfl) (Nat.le_of_ble_eq_true rfl) ⟨Nat.zero_le _, Nat.zero_le _⟩ rfl (st := [vi l4]) rfl (Nat.le_of_ble_eq_true rfl) dX5_fits_175 (fun r7 hw => ?_)
    refine wm_icmp_ne (tgt := 185) hC dX5_fits_178 (by decide) hw (fun hw => ?_) (fun hw => ?_)
    · refine wm_iconst hC dX5_fits_181 (k := ?_)
      refine wm_goto (tgt := 186) hC dX5_fits_182 (by decide) ?_
      exact wm_zreturn hC hE (Or.inr rfl) dX5_fits_186 ⟨⟨rfl, rfl, rfl⟩, hw⟩
    · refine wm_iconst hC dX5_fits_185 (k := ?_)
      exact wm_zreturn hC hE (Or.inl rfl) dX5_fits_186 ⟨⟨rfl, rfl, rfl⟩, hw⟩
  · refine wm_aload_n hC 0 dX5_fits_132 rfl (k_ne0 kk_2 (by decide)) ?_
    refine wm_iconst hC dX5_fits_133 (k := ?_)
    refine wm_iconst hC dX5_fits_134 (k := ?_)
    refine wm_iload_n hC 2 dX5_fits_135 rfl ?_
    refine x_imul hC dX5_fits_136 hw (fun hw => ?_)
    refine x_iadd hC dX5_fits_137 hw (fun hw => ?_)
    refine wm_iload hC 5 dX5_fits_138 rfl ?_
    refine x_iadd hC dX5_fits_140 hw (fun hw => ?_)
    refine y_callV_i_n hC hRm noS ml_X5_56 kk_2 (c9_byteAt hRF  hw) (Nat.le_of_ble_eq_true rfl) (Nat.le_of_ble_eq_true rfl) ⟨Nat.zero_le _, Nat.zero_le _⟩ rfl (st := []) rfl (Nat.le_of_ble_eq_true rfl) dX5_fits_141 (fun r8 hw => ?_)
    refine wm_istore hC dX5_fits_144 (by decide) (L2 := [(6, vi r8), (0, vr 2), (1, vr l1), (2, vi l2), (3, vi l3), (4, vi l4), (5, vi l5)]) rfl ?_
    refine wm_iload hC 0 dX5_fits_146 rfl ?_
    refine wm_sipush hC dX5_fits_148 (k := ?_)
    refine wm_icmp_eq (tgt := 166) hC dX5_fits_151 (by decide) hw (fun hw => ?_) (fun hw => ?_)
    · refine x_iinc hC 6 dX5_fits_166 rfl (by decide) (L2 := [(5, vi (l5 + 1)), (6, vi r8), (0, vr 2), (1, vr l1), (2, vi l2), (3, vi l3), (4, vi l4)]) rfl hw (fun hw => ?_)
      refine wm_goto (tgt := 126) hC dX5_fits_169 (by decide) ?_
      refine wm_sub [2, 3, 4, 5, 6, 0] (L2 := [(0, vr 2), (1, vr l1), (2, vi l2), (3, vi l3), (4, vi l4), (5, vi (l5 + 1))]) rfl ?_
      exact kk126 _ hw
    · refine wm_aload_n hC 2 dX5_fits_154 rfl (k_ne0 (ld_k0 h1) (by decide)) ?_
      refine wm_iconst hC dX5_fits_155 (k := ?_)
      refine wm_iload hC 0 dX5_fits_156 rfl ?_
      refine y_callV_z_n hC hRm noS ml_X5_60 (ld_k0 h1) (c3_isThere hRF h1 hw) (Nat.le_of_ble_eq_true rfl) (Nat.le_of_ble_eq_true rfl) ⟨Nat.zero_le _, Nat.zero_le _⟩ rfl (st := []) rfl (Nat.le_of_ble_eq_true rfl) dX5_fits_158 (fun r9 hw => ?_)
      refine wm_if_ne (tgt := 166) hC dX5_fits_161 (by decide) hw (fun hw => ?_) (fun hw => ?_)
      · refine wm_iconst hC dX5_fits_164 (k := ?_)
        exact wm_zreturn hC hE (Or.inl rfl) dX5_fits_165 ⟨⟨rfl, rfl, rfl⟩, hw⟩
      · refine x_iinc hC 6 dX5_fits_166 rfl (by decide) (L2 := [(5, vi (l5 + 1)), (6, vi r8), (0, vr 2), (1, vr l1), (2, vi l2), (3, vi l3), (4, vi l4)]) rfl hw (fun hw => ?_)
        refine wm_goto (tgt := 126) hC dX5_fits_169 (by decide) ?_
        refine wm_sub [2, 3, 4, 5, 6, 0] (L2 := [(0, vr 2), (1, vr l1), (2, vi l2), (3, vi l3), (4, vi l4), (5, vi (l5 + 1))]) rfl ?_
        exact kk126 _ hw
set_option maxRecDepth 20000 in
theorem w5_fits_b126 {C : wX} {ad : Nat → Nat} {n : Nat} {I : mI} {J : mI} {R : mR} {Q : Int → Prop} (hC : wOK C cX5_fits 7 RX5) (hRm : wRm C 3 55 0 0) (hE : wEnd C (some .boolean) ad n (fun r I' J' R' => (I' = I ∧ J' = J ∧ R' = R) ∧ Q r)) (hRF : RF R) {l1 : Nat} {l2 : Int} {l3 : Int} {l4 : Int}   (h1 : isLd l1)  : ∀ (f : Nat) (l5 : Int), p5_fits_b126 l1 l2 l3 l4 I Q f l5 → WM C ad n I J R 0 0 126 [(0, vr 2), (1, vr l1), (2, vi l2), (3, vi l3), (4, vi l4), (5, vi l5)] [] := by
  intro f
  induction f with
  | zero => intro l5 hw; exact hw.elim
  | succ f ih => intro l5 hw; exact w5_fits_b126_body hC hRm hE hRF h1 (fun a0 aw => ih a0 aw) hw
def p5_fits_b65_body (l1 : Nat) (l2 : Int) (l3 : Int) (I : mI) (Q : Int → Prop) (k65 : Int → Int → Prop) (l4 : Int) (l5 : Int) : Prop := (if l2 ≤ l5 then (∃ f, p5_fits_b126 l1 l2 l3 l4 I Q f 0) else (rg (4 + l5) ∧ (p9_byteAt (4 + l5) I (fun r4 => (p3_isThere l1 0 r4 I (fun r5 => (if r5 = 0 then (Q 0) else (rg (4 + l2) ∧ (rg ((4 + l2) + l5) ∧ (p9_byteAt ((4 + l2) + l5) I (fun r6 => (if r6 ≤ 9 then (rg (l5 + 1) ∧ (k65 (bOr l4 (bShl 1 r4)) (l5 + 1))) else (Q 0)))))))))))))
def p5_fits_b65 (l1 : Nat) (l2 : Int) (l3 : Int) (I : mI) (Q : Int → Prop) : Nat → Int → Int → Prop
  | 0 => fun _ _ => False
  | f + 1 => fun l4 l5 => p5_fits_b65_body l1 l2 l3 I Q (p5_fits_b65 l1 l2 l3 I Q f) l4 l5
set_option maxRecDepth 20000 in
theorem w5_fits_b65_body {C : wX} {ad : Nat → Nat} {n : Nat} {I J : mI} {R : mR} {Q : Int → Prop} (hC : wOK C cX5_fits 7 RX5) (hRm : wRm C 3 55 0 0) (hE : wEnd C (some .boolean) ad n (fun r I' J' R' => (I' = I ∧ J' = J ∧ R' = R) ∧ Q r)) (hRF : RF R) {l1 : Nat} {l2 : Int} {l3 : Int} {l4 : Int} {l5 : Int}   (h1 : isLd l1)  {k65 : Int → Int → Prop} (kk65 : ∀ (y4 : Int) (y5 : Int), k65 y4 y5 → WM C ad n I J R 0 0 65 [(0, vr 2), (1, vr l1), (2, vi l2), (3, vi l3), (4, vi y4), (5, vi y5)] []) (hw : p5_fits_b65_body l1 l2 l3 I Q k65 l4 l5) : WM C ad n I J R 0 0 65 [(0, vr 2), (1, vr l1), (2, vi l2), (3, vi l3), (4, vi l4), (5, vi l5)] [] := by
  unfold p5_fits_b65_body at hw
  refine wm_iload hC 5 dX5_fits_65 rfl ?_
  refine wm_iload_n hC 2 dX5_fits_67 rfl ?_
  refine wm_icmp_ge (tgt := 123) hC dX5_fits_68 (by decide) hw (fun hw => ?_) (fun hw => ?_)
  · refine wm_iconst hC dX5_fits_123 (k := ?_)
    refine wm_istore hC dX5_fits_124 (by decide) (L2 := [(5, vi 0), (0, vr 2), (1, vr l1), (2, vi l2), (3, vi l3), (4, vi l4)]) rfl ?_
    obtain ⟨f, hw⟩ := hw
    refine wm_sub [1, 2, 3, 4, 5, 0] (L2 := [(0, vr 2), (1, vr l1), (2, vi l2), (3, vi l3), (4, vi l4), (5, vi 0)]) rfl ?_
    exact w5_fits_b126 hC hRm hE hRF h1 f _ hw
  · refine wm_aload_n hC 0 dX5_fits_71 rfl (k_ne0 kk_2 (by decide)) ?_
    refine wm_iconst hC dX5_fits_72 (k := ?_)
    refine wm_iload hC 5 dX5_fits_73 rfl ?_
    refine x_iadd hC dX5_fits_75 hw (fun hw => ?_)
    refine y_callV_i_n hC hRm noS ml_X5_56 kk_2 (c9_byteAt hRF  hw) (Nat.le_of_ble_eq_true rfl) (Nat.le_of_ble_eq_true rfl) ⟨Nat.zero_le _, Nat.zero_le _⟩ rfl (st := []) rfl (Nat.le_of_ble_eq_true rfl) dX5_fits_76 (fun r4 hw => ?_)
    refine wm_istore hC dX5_fits_79 (by decide) (L2 := [(6, vi r4), (0, vr 2), (1, vr l1), (2, vi l2), (3, vi l3), (4, vi l4), (5, vi l5)]) rfl ?_
    refine wm_aload_n hC 2 dX5_fits_81 rfl (k_ne0 (ld_k0 h1) (by decide)) ?_
    refine wm_iconst hC dX5_fits_82 (k := ?_)
    refine wm_iload hC 0 dX5_fits_83 rfl ?_
    refine y_callV_z_n hC hRm noS ml_X5_60 (ld_k0 h1) (c3_isThere hRF h1 hw) (Nat.le_of_ble_eq_true rfl) (Nat.le_of_ble_eq_true rfl) ⟨Nat.zero_le _, Nat.zero_le _⟩ rfl (st := []) rfl (Nat.le_of_ble_eq_true rfl) dX5_fits_85 (fun r5 hw => ?_)
    refine wm_if_eq (tgt := 106) hC dX5_fits_88 (by decide) hw (fun hw => ?_) (fun hw => ?_)
    · refine wm_iconst hC dX5_fits_106 (k := ?_)
      exact wm_zreturn hC hE (Or.inl rfl) dX5_fits_107 ⟨⟨rfl, rfl, rfl⟩, hw⟩
    · refine wm_aload_n hC 1 dX5_fits_91 rfl (k_ne0 kk_2 (by decide)) ?_
      refine wm_iconst hC dX5_fits_92 (k := ?_)
      refine wm_iload_n hC 3 dX5_fits_93 rfl ?_
      refine x_iadd hC dX5_fits_94 hw (fun hw => ?_)
      refine wm_iload hC 6 dX5_fits_95 rfl ?_
      refine x_iadd hC dX5_fits_97 hw (fun hw => ?_)
      refine y_callV_i_n hC hRm noS ml_X5_56 kk_2 (c9_byteAt hRF  hw) (Nat.le_of_ble_eq_true rfl) (Nat.le_of_ble_eq_true rfl) ⟨Nat.zero_le _, Nat.zero_le _⟩ rfl (st := []) rfl (Nat.le_of_ble_eq_true rfl) dX5_fits_98 (fun r6 hw => ?_)
      refine wm_bipush hC dX5_fits_101 (k := ?_)
      refine wm_icmp_le (tgt := 108) hC dX5_fits_103 (by decide) hw (fun hw => ?_) (fun hw => ?_)
      · refine wm_iload hC 5 dX5_fits_108 rfl ?_
        refine wm_iconst hC dX5_fits_110 (k := ?_)
        refine wm_iload hC 0 dX5_fits_111 rfl ?_
        refine wm_ishl hC dX5_fits_113 ?_
        refine wm_ior hC dX5_fits_114 ?_
        refine wm_istore hC dX5_fits_115 (by decide) (L2 := [(4, vi (bOr l4 (bShl 1 r4))), (6, vi r4), (0, vr 2), (1, vr l1), (2, vi l2), (3, vi l3), (5, vi l5)]) rfl ?_
        refine x_iinc hC 6 dX5_fits_117 rfl (by decide) (L2 := [(5, vi (l5 + 1)), (4, vi (bOr l4 (bShl 1 r4))), (6, vi r4), (0, vr 2), (1, vr l1), (2, vi l2), (3, vi l3)]) rfl hw (fun hw => ?_)
        refine wm_goto (tgt := 65) hC dX5_fits_120 (by decide) ?_
        refine wm_sub [3, 4, 5, 6, 1, 0] (L2 := [(0, vr 2), (1, vr l1), (2, vi l2), (3, vi l3), (4, vi (bOr l4 (bShl 1 r4))), (5, vi (l5 + 1))]) rfl ?_
        exact kk65 _ _ hw
      · refine wm_iconst hC dX5_fits_106 (k := ?_)
        exact wm_zreturn hC hE (Or.inl rfl) dX5_fits_107 ⟨⟨rfl, rfl, rfl⟩, hw⟩
set_option maxRecDepth 20000 in
theorem w5_fits_b65 {C : wX} {ad : Nat → Nat} {n : Nat} {I : mI} {J : mI} {R : mR} {Q : Int → Prop} (hC : wOK C cX5_fits 7 RX5) (hRm : wRm C 3 55 0 0) (hE : wEnd C (some .boolean) ad n (fun r I' J' R' => (I' = I ∧ J' = J ∧ R' = R) ∧ Q r)) (hRF : RF R) {l1 : Nat} {l2 : Int} {l3 : Int}   (h1 : isLd l1)  : ∀ (f : Nat) (l4 : Int) (l5 : Int), p5_fits_b65 l1 l2 l3 I Q f l4 l5 → WM C ad n I J R 0 0 65 [(0, vr 2), (1, vr l1), (2, vi l2), (3, vi l3), (4, vi l4), (5, vi l5)] [] := by
  intro f
  induction f with
  | zero => intro l4 l5 hw; exact hw.elim
  | succ f ih => intro l4 l5 hw; exact w5_fits_b65_body hC hRm hE hRF h1 (fun a0 a1 aw => ih a0 a1 aw) hw
def p5_fits (l1 : Nat) (I : mI) (Q : Int → Prop) : Prop := (rg (2 * (I (l1 + 1) 0)) ∧ (rg (5 + (2 * (I (l1 + 1) 0))) ∧ (rg ((5 + (2 * (I (l1 + 1) 0))) + (I (l1 + 1) 2)) ∧ (if (I 2 1) = ((5 + (2 * (I (l1 + 1) 0))) + (I (l1 + 1) 2)) then (p5_isChecked I (fun r1 => (if r1 = 0 then (Q 0) else (p5_pairAt 0 I (fun r2 => (if (999 : Int) < r2 then (Q 0) else (p5_pairAt 2 I (fun r3 => (if r3 ≤ 9999 then (∃ f, p5_fits_b65 l1 (I (l1 + 1) 0) (I (l1 + 1) 2) I Q f 0 0) else (Q 0)))))))))) else (Q 0)))))
set_option maxRecDepth 20000 in
theorem c5_fits {ad : Nat → Nat} {n : Nat} {I J : mI} {R : mR} {Q : Int → Prop}  (hRF : RF R) {l1 : Nat}  (h1 : isLd l1) (hw : p5_fits l1 I Q) : wMet yX5_fits cX5_fits 7 (some .boolean) 3 55 false ad n I J R [vr 2, vr l1] (fun r I' J' R' => (I' = I ∧ J' = J ∧ R' = R) ∧ Q r) := by
  refine wMet_of (by decide) (Nat.le_of_ble_eq_true rfl) (fun C hC hRm hE hS => ?_)
  refine (show WM C ad n I J R 0 0 0 [(0, vr 2), (1, vr l1)] [] from ?_)
  unfold p5_fits at hw
  refine wm_aload_n hC 1 dX5_fits_0 rfl (k_ne0 (ld_k0 h1) (by decide)) ?_
  refine x_getR3 hC 0 fl_X5_31 rfl (ld_k0 h1) (rfd_0 hRF h1) dX5_fits_1 ?_
  refine wm_iconst hC dX5_fits_4 (k := ?_)
  refine x_ialdK hC (ld_k1 h1) (ld_n1 h1) (by decide) (by decide) dX5_fits_5 ?_
  refine wm_istore_n hC dX5_fits_6 (by decide) (L2 := [(2, vi (I (l1 + 1) 0)), (0, vr 2), (1, vr l1)]) rfl ?_
  refine wm_aload_n hC 2 dX5_fits_7 rfl (k_ne0 (ld_k0 h1) (by decide)) ?_
  refine x_getR3 hC 0 fl_X5_31 rfl (ld_k0 h1) (rfd_0 hRF h1) dX5_fits_8 ?_
  refine wm_iconst hC dX5_fits_11 (k := ?_)
  refine x_ialdK hC (ld_k1 h1) (ld_n1 h1) (by decide) (by decide) dX5_fits_12 ?_
  refine wm_istore_n hC dX5_fits_13 (by decide) (L2 := [(3, vi (I (l1 + 1) 2)), (2, vi (I (l1 + 1) 0)), (0, vr 2), (1, vr l1)]) rfl ?_
  refine wm_aload_n hC 2 dX5_fits_14 rfl (k_ne0 kk_2 (by decide)) ?_
  refine x_getI hC 1 fl_X5_45 rfl kk_2 dX5_fits_15 ?_
  refine wm_iconst hC dX5_fits_18 (k := ?_)
  refine wm_iconst hC dX5_fits_19 (k := ?_)
  refine wm_iload_n hC 1 dX5_fits_20 rfl ?_
  refine x_imul hC dX5_fits_21 hw (fun hw => ?_)
  refine x_iadd hC dX5_fits_22 hw (fun hw => ?_)
  refine wm_iload_n hC 0 dX5_fits_23 rfl ?_
  refine x_iadd hC dX5_fits_24 hw (fun hw => ?_)
  refine wm_icmp_ne (tgt := 57) hC dX5_fits_25 (by decide) hw (fun hw => ?_) (fun hw => ?_)
  · refine wm_aload_n hC 2 dX5_fits_28 rfl (k_ne0 kk_2 (by decide)) ?_
    refine y_callS_z_n hC hRm noS ml_X5_48 (c5_isChecked hRF  hw) (Nat.le_of_ble_eq_true rfl) (Nat.le_of_ble_eq_true rfl) ⟨Nat.zero_le _, Nat.zero_le _⟩ rfl (st := []) rfl (Nat.le_of_ble_eq_true rfl) dX5_fits_29 (fun r1 hw => ?_)
    refine wm_if_eq (tgt := 57) hC dX5_fits_32 (by decide) hw (fun hw => ?_) (fun hw => ?_)
    · refine wm_iconst hC dX5_fits_57 (k := ?_)
      exact wm_zreturn hC hE (Or.inl rfl) dX5_fits_58 ⟨⟨rfl, rfl, rfl⟩, hw⟩
    · refine wm_aload_n hC 2 dX5_fits_35 rfl (k_ne0 kk_2 (by decide)) ?_
      refine wm_iconst hC dX5_fits_36 (k := ?_)
      refine y_callS_i_n hC hRm noS ml_X5_52 (c5_pairAt hRF  hw) (Nat.le_of_ble_eq_true rfl) (Nat.le_of_ble_eq_true rfl) ⟨Nat.zero_le _, Nat.zero_le _⟩ rfl (st := []) rfl (Nat.le_of_ble_eq_true rfl) dX5_fits_37 (fun r2 hw => ?_)
      refine wm_sipush hC dX5_fits_40 (k := ?_)
      refine wm_icmp_gt (tgt := 57) hC dX5_fits_43 (by decide) hw (fun hw => ?_) (fun hw => ?_)
      · refine wm_iconst hC dX5_fits_57 (k := ?_)
        exact wm_zreturn hC hE (Or.inl rfl) dX5_fits_58 ⟨⟨rfl, rfl, rfl⟩, hw⟩
      · refine wm_aload_n hC 2 dX5_fits_46 rfl (k_ne0 kk_2 (by decide)) ?_
        refine wm_iconst hC dX5_fits_47 (k := ?_)
        refine y_callS_i_n hC hRm noS ml_X5_52 (c5_pairAt hRF  hw) (Nat.le_of_ble_eq_true rfl) (Nat.le_of_ble_eq_true rfl) ⟨Nat.zero_le _, Nat.zero_le _⟩ rfl (st := []) rfl (Nat.le_of_ble_eq_true rfl) dX5_fits_48 (fun r3 hw => ?_)
        refine wm_sipush hC dX5_fits_51 (k := ?_)
        refine wm_icmp_le (tgt := 59) hC dX5_fits_54 (by decide) hw (fun hw => ?_) (fun hw => ?_)
        · refine wm_iconst hC dX5_fits_59 (k := ?_)
          refine wm_istore hC dX5_fits_60 (by decide) (L2 := [(4, vi 0), (3, vi (I (l1 + 1) 2)), (2, vi (I (l1 + 1) 0)), (0, vr 2), (1, vr l1)]) rfl ?_
          refine wm_iconst hC dX5_fits_62 (k := ?_)
          refine wm_istore hC dX5_fits_63 (by decide) (L2 := [(5, vi 0), (4, vi 0), (3, vi (I (l1 + 1) 2)), (2, vi (I (l1 + 1) 0)), (0, vr 2), (1, vr l1)]) rfl ?_
          obtain ⟨f, hw⟩ := hw
          refine wm_sub [4, 5, 3, 2, 1, 0] (L2 := [(0, vr 2), (1, vr l1), (2, vi (I (l1 + 1) 0)), (3, vi (I (l1 + 1) 2)), (4, vi 0), (5, vi 0)]) rfl ?_
          exact w5_fits_b65 hC hRm hE hRF h1 f _ _ hw
        · refine wm_iconst hC dX5_fits_57 (k := ?_)
          exact wm_zreturn hC hE (Or.inl rfl) dX5_fits_58 ⟨⟨rfl, rfl, rfl⟩, hw⟩
  · refine wm_iconst hC dX5_fits_57 (k := ?_)
    exact wm_zreturn hC hE (Or.inl rfl) dX5_fits_58 ⟨⟨rfl, rfl, rfl⟩, hw⟩
