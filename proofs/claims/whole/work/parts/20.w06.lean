def P6_readFormula_b37 (l0 : Nat) (l1 : Int) (I : mI) (R : mR) (Q : mI → Prop) : Prop := (kK (R l0 2) = 3 ∧ (kK (R (R l0 2) 7) = 21 ∧ (kK (R l0 2) = 3 ∧ (((0 : Int) ≤ l1 ∧ l1 < (kN (R (R l0 2) 7) : Int)) ∧ wLet (up I (R (R l0 2) 7) l1 (I (R l0 2) 8)) (fun I5 => (Q I5))))))
set_option maxRecDepth 20000 in
theorem W6_readFormula_b37 {C : wX} {ad : Nat → Nat} {n : Nat} {I J : mI} {R : mR} {Q : mI → Prop} (hC : wOK C cX6_readFormula 2 RX6) (hRm : wRm C 103 4222 0 0) (hE : wEnd C none ad n (fun _ I' J' R' => (J' = J ∧ R' = R) ∧ Q I')) {l0 : Nat} {l1 : Int}   (hk0 : kK l0 = 6)  (hw : P6_readFormula_b37 l0 l1 I R Q) : WM C ad n I J R 0 0 37 [(0, vr l0), (1, vi l1)] [] := by
  unfold P6_readFormula_b37 at hw
  refine wm_aload_n hC 0 dX6_readFormula_37 rfl (k_ne0 hk0 (by decide)) ?_
  refine x_getR2 hC 2 fl_X6_38 rfl hk0 dX6_readFormula_38 hw (fun g4 hw => ?_)
  refine x_getR2 hC 7 fl_X6_189 rfl g4 dX6_readFormula_41 hw (fun g5 hw => ?_)
  refine wm_iload_n hC 1 dX6_readFormula_44 rfl ?_
  refine wm_aload_n hC 0 dX6_readFormula_45 rfl (k_ne0 hk0 (by decide)) ?_
  refine x_getR2 hC 2 fl_X6_38 rfl hk0 dX6_readFormula_46 hw (fun g6 hw => ?_)
  refine x_getI hC 8 fl_X6_180 rfl g6 dX6_readFormula_49 ?_
  refine x_iast hC g5 dX6_readFormula_52 hw (fun I5 hw => ?_)
  exact wm_return hC hE dX6_readFormula_53 ⟨⟨rfl, rfl⟩, hw⟩
def P6_readFormula (l0 : Nat) (l1 : Int) (I : mI) (R : mR) (Q : mI → Prop) : Prop := (wLet (up I l0 4 l1) (fun I1 => (kK (R l0 2) = 3 ∧ (kK (R (R l0 2) 6) = 21 ∧ (kK (R l0 2) = 3 ∧ (((0 : Int) ≤ l1 ∧ l1 < (kN (R (R l0 2) 6) : Int)) ∧ wLet (up I1 (R (R l0 2) 6) l1 (I1 (R l0 2) 8)) (fun I2 => (if l1 = 1 then (PGrd 90 0 l0 0 I2 R (fun I4 => (P6_readFormula_b37 l0 l1 I4 R Q))) else (PGrd 90 4 l0 0 I2 R (fun I3 => (P6_readFormula_b37 l0 l1 I3 R Q)))))))))))
set_option maxRecDepth 20000 in
theorem C6_readFormula {ad : Nat → Nat} {n : Nat} {I J : mI} {R : mR} {Q : mI → Prop}  {l0 : Nat} {l1 : Int} (hk0 : kK l0 = 6) (hw : P6_readFormula l0 l1 I R Q) : wMet yX6_readFormula cX6_readFormula 2 none 103 4222 false ad n I J R [vr l0, vi l1] (fun _ I' J' R' => (J' = J ∧ R' = R) ∧ Q I') := by
  refine wMet_of (by decide) (Nat.le_of_ble_eq_true rfl) (fun C hC hRm hE hS => ?_)
  refine (show WM C ad n I J R 0 0 0 [(0, vr l0), (1, vi l1)] [] from ?_)
  unfold P6_readFormula at hw
  refine wm_aload_n hC 0 dX6_readFormula_0 rfl (k_ne0 hk0 (by decide)) ?_
  refine wm_iload_n hC 1 dX6_readFormula_1 rfl ?_
  refine x_putI hC 4 fl_X6_22 rfl hk0 dX6_readFormula_2 hw (fun I1 hw => ?_)
  refine wm_aload_n hC 0 dX6_readFormula_5 rfl (k_ne0 hk0 (by decide)) ?_
  refine x_getR2 hC 2 fl_X6_38 rfl hk0 dX6_readFormula_6 hw (fun g1 hw => ?_)
  refine x_getR2 hC 6 fl_X6_177 rfl g1 dX6_readFormula_9 hw (fun g2 hw => ?_)
  refine wm_iload_n hC 1 dX6_readFormula_12 rfl ?_
  refine wm_aload_n hC 0 dX6_readFormula_13 rfl (k_ne0 hk0 (by decide)) ?_
  refine x_getR2 hC 2 fl_X6_38 rfl hk0 dX6_readFormula_14 hw (fun g3 hw => ?_)
  refine x_getI hC 8 fl_X6_180 rfl g3 dX6_readFormula_17 ?_
  refine x_iast hC g2 dX6_readFormula_20 hw (fun I2 hw => ?_)
  refine wm_iload_n hC 1 dX6_readFormula_21 rfl ?_
  refine wm_iconst hC dX6_readFormula_22 (k := ?_)
  refine wm_icmp_ne (tgt := 33) hC dX6_readFormula_23 (by decide) hw (fun hw => ?_) (fun hw => ?_)
  · refine wm_aload_n hC 0 dX6_readFormula_26 rfl (k_ne0 hk0 (by decide)) ?_
    refine y_callV_v_I hC hRm noS ml_X6_183 hk0 (CGrd_0 hk0 hw) (Nat.le_of_ble_eq_true rfl) (Nat.le_of_ble_eq_true rfl) ⟨Nat.zero_le _, Nat.zero_le _⟩ rfl (st := []) rfl (Nat.le_of_ble_eq_true rfl) dX6_readFormula_27 (fun I4 hw => ?_)
    refine wm_goto (tgt := 37) hC dX6_readFormula_30 (by decide) ?_
    exact W6_readFormula_b37 hC hRm hE hk0 hw
  · refine wm_aload_n hC 0 dX6_readFormula_33 rfl (k_ne0 hk0 (by decide)) ?_
    refine y_callV_v_I hC hRm noS ml_X6_186 hk0 (CGrd_4 hk0 hw) (Nat.le_of_ble_eq_true rfl) (Nat.le_of_ble_eq_true rfl) ⟨Nat.zero_le _, Nat.zero_le _⟩ rfl (st := []) rfl (Nat.le_of_ble_eq_true rfl) dX6_readFormula_34 (fun I3 hw => ?_)
    exact W6_readFormula_b37 hC hRm hE hk0 hw
def P6_isName (l0 : Nat) (I : mI) (R : mR) (Q : Int → mI → Prop) : Prop := (kK (R l0 1) = 10 ∧ (P10_sortHere (R l0 1) I R (fun r1 => (if r1 = 2 then (Q 1 I) else (P6_fail l0 1 I R (fun I1 => (Q 0 I1)))))))
set_option maxRecDepth 20000 in
theorem C6_isName {ad : Nat → Nat} {n : Nat} {I J : mI} {R : mR} {Q : Int → mI → Prop}  {l0 : Nat} (hk0 : kK l0 = 6) (hw : P6_isName l0 I R Q) : wMet yX6_isName cX6_isName 1 (some .boolean) 3 53 false ad n I J R [vr l0] (fun r I' J' R' => (J' = J ∧ R' = R) ∧ Q r I') := by
  refine wMet_of (by decide) (Nat.le_of_ble_eq_true rfl) (fun C hC hRm hE hS => ?_)
  refine (show WM C ad n I J R 0 0 0 [(0, vr l0)] [] from ?_)
  unfold P6_isName at hw
  refine wm_aload_n hC 0 dX6_isName_0 rfl (k_ne0 hk0 (by decide)) ?_
  refine x_getR2 hC 1 fl_X6_12 rfl hk0 dX6_isName_1 hw (fun g1 hw => ?_)
  refine y_callV_i_n hC hRm noS ml_X6_51 g1 (C10_sortHere g1 hw) (Nat.le_of_ble_eq_true rfl) (Nat.le_of_ble_eq_true rfl) ⟨Nat.zero_le _, Nat.zero_le _⟩ rfl (st := []) rfl (Nat.le_of_ble_eq_true rfl) dX6_isName_4 (fun r1 hw => ?_)
  refine wm_iconst hC dX6_isName_7 (k := ?_)
  refine wm_icmp_ne (tgt := 13) hC dX6_isName_8 (by decide) hw (fun hw => ?_) (fun hw => ?_)
  · refine wm_iconst hC dX6_isName_11 (k := ?_)
    exact wm_zreturn hC hE (Or.inr rfl) dX6_isName_12 ⟨⟨rfl, rfl⟩, hw⟩
  · refine wm_aload_n hC 0 dX6_isName_13 rfl (k_ne0 hk0 (by decide)) ?_
    refine wm_iconst hC dX6_isName_14 (k := ?_)
    refine y_callV_v_I hC hRm noS ml_X6_92 hk0 (C6_fail hk0 hw) (Nat.le_of_ble_eq_true rfl) (Nat.le_of_ble_eq_true rfl) ⟨Nat.zero_le _, Nat.zero_le _⟩ rfl (st := []) rfl (Nat.le_of_ble_eq_true rfl) dX6_isName_15 (fun I1 hw => ?_)
    refine wm_iconst hC dX6_isName_18 (k := ?_)
    exact wm_zreturn hC hE (Or.inl rfl) dX6_isName_19 ⟨⟨rfl, rfl⟩, hw⟩
def P6_findNamed (l0 : Nat) (l1 : Int) (I : mI) (R : mR) (Q : Int → mI → Prop) : Prop := (P6_isName l0 I R (fun r1 I1 => (if r1 = 0 then (Q (-1) I1) else (kK (R l0 2) = 3 ∧ (kK (R l0 1) = 10 ∧ (P10_valueHere (R l0 1) I1 R (fun r2 => (P3_find (R l0 2) l1 r2 I1 R (fun r3 => (if r3 = (-1) then (P6_fail l0 3 I1 R (fun I2 => (Q r3 I2))) else (Q r3 I1)))))))))))
set_option maxRecDepth 20000 in
theorem C6_findNamed {ad : Nat → Nat} {n : Nat} {I J : mI} {R : mR} {Q : Int → mI → Prop}  {l0 : Nat} {l1 : Int} (hk0 : kK l0 = 6) (hw : P6_findNamed l0 l1 I R Q) : wMet yX6_findNamed cX6_findNamed 3 (some .int) 4 73 false ad n I J R [vr l0, vi l1] (fun r I' J' R' => (J' = J ∧ R' = R) ∧ Q r I') := by
  refine wMet_of (by decide) (Nat.le_of_ble_eq_true rfl) (fun C hC hRm hE hS => ?_)
  refine (show WM C ad n I J R 0 0 0 [(0, vr l0), (1, vi l1)] [] from ?_)
  unfold P6_findNamed at hw
  refine wm_aload_n hC 0 dX6_findNamed_0 rfl (k_ne0 hk0 (by decide)) ?_
  refine y_callV_z_I hC hRm noS ml_X6_139 hk0 (C6_isName hk0 hw) (Nat.le_of_ble_eq_true rfl) (Nat.le_of_ble_eq_true rfl) ⟨Nat.zero_le _, Nat.zero_le _⟩ rfl (st := []) rfl (Nat.le_of_ble_eq_true rfl) dX6_findNamed_1 (fun r1 I1 hw => ?_)
  refine wm_if_ne (tgt := 9) hC dX6_findNamed_4 (by decide) hw (fun hw => ?_) (fun hw => ?_)
  · refine wm_iconst hC dX6_findNamed_7 (k := ?_)
    exact wm_ireturn hC hE dX6_findNamed_8 ⟨⟨rfl, rfl⟩, hw⟩
  · refine wm_aload_n hC 0 dX6_findNamed_9 rfl (k_ne0 hk0 (by decide)) ?_
    refine x_getR2 hC 2 fl_X6_38 rfl hk0 dX6_findNamed_10 hw (fun g1 hw => ?_)
    refine wm_iload_n hC 1 dX6_findNamed_13 rfl ?_
    refine wm_aload_n hC 0 dX6_findNamed_14 rfl (k_ne0 hk0 (by decide)) ?_
    refine x_getR2 hC 1 fl_X6_12 rfl hk0 dX6_findNamed_15 hw (fun g2 hw => ?_)
    refine y_callV_i_n hC hRm noS ml_X6_78 g2 (C10_valueHere g2 hw) (Nat.le_of_ble_eq_true rfl) (Nat.le_of_ble_eq_true rfl) ⟨Nat.zero_le _, Nat.zero_le _⟩ rfl (st := [vi l1, vr (R l0 2)]) rfl (Nat.le_of_ble_eq_true rfl) dX6_findNamed_18 (fun r2 hw => ?_)
    refine y_callV_i_n hC hRm noS ml_X6_174 g1 (C3_find g1 hw) (Nat.le_of_ble_eq_true rfl) (Nat.le_of_ble_eq_true rfl) ⟨Nat.zero_le _, Nat.zero_le _⟩ rfl (st := []) rfl (Nat.le_of_ble_eq_true rfl) dX6_findNamed_21 (fun r3 hw => ?_)
    refine wm_istore_n hC dX6_findNamed_24 (by decide) (L2 := [(2, vi r3), (0, vr l0), (1, vi l1)]) rfl ?_
    refine wm_iload_n hC 0 dX6_findNamed_25 rfl ?_
    refine wm_iconst hC dX6_findNamed_26 (k := ?_)
    refine wm_icmp_ne (tgt := 35) hC dX6_findNamed_27 (by decide) hw (fun hw => ?_) (fun hw => ?_)
    · refine wm_aload_n hC 1 dX6_findNamed_30 rfl (k_ne0 hk0 (by decide)) ?_
      refine wm_iconst hC dX6_findNamed_31 (k := ?_)
      refine y_callV_v_I hC hRm noS ml_X6_92 hk0 (C6_fail hk0 hw) (Nat.le_of_ble_eq_true rfl) (Nat.le_of_ble_eq_true rfl) ⟨Nat.zero_le _, Nat.zero_le _⟩ rfl (st := []) rfl (Nat.le_of_ble_eq_true rfl) dX6_findNamed_32 (fun I2 hw => ?_)
      refine wm_iload_n hC 0 dX6_findNamed_35 rfl ?_
      exact wm_ireturn hC hE dX6_findNamed_36 ⟨⟨rfl, rfl⟩, hw⟩
    · refine wm_iload_n hC 0 dX6_findNamed_35 rfl ?_
      exact wm_ireturn hC hE dX6_findNamed_36 ⟨⟨rfl, rfl⟩, hw⟩
def P6_readLate (l0 : Nat) (I : mI) (R : mR) (Q : mI → Prop) : Prop := (P6_findNamed l0 0 I R (fun r1 I1 => (if r1 = (-1) then (Q I1) else (kK (R l0 2) = 3 ∧ (P3_isLate (R l0 2) r1 I1 (fun r2 => (if r2 = 1 then (P6_fail l0 3 I1 R (fun I4 => (Q I4))) else (kK (R l0 2) = 3 ∧ (wLet (up I1 (R l0 2) 9 (bOr (I1 (R l0 2) 9) (bShl 1 r1))) (fun I2 => (kK (R l0 1) = 10 ∧ (P10_step (R l0 1) I2 (fun I3 => (Q I3))))))))))))))
set_option maxRecDepth 20000 in
theorem C6_readLate {ad : Nat → Nat} {n : Nat} {I J : mI} {R : mR} {Q : mI → Prop}  {l0 : Nat} (hk0 : kK l0 = 6) (hw : P6_readLate l0 I R Q) : wMet yX6_readLate cX6_readLate 2 none 5 95 false ad n I J R [vr l0] (fun _ I' J' R' => (J' = J ∧ R' = R) ∧ Q I') := by
  refine wMet_of (by decide) (Nat.le_of_ble_eq_true rfl) (fun C hC hRm hE hS => ?_)
  refine (show WM C ad n I J R 0 0 0 [(0, vr l0)] [] from ?_)
  unfold P6_readLate at hw
  refine wm_aload_n hC 0 dX6_readLate_0 rfl (k_ne0 hk0 (by decide)) ?_
  refine wm_iconst hC dX6_readLate_1 (k := ?_)
  refine y_callV_i_I hC hRm noS ml_X6_159 hk0 (C6_findNamed hk0 hw) (Nat.le_of_ble_eq_true rfl) (Nat.le_of_ble_eq_true rfl) ⟨Nat.zero_le _, Nat.zero_le _⟩ rfl (st := []) rfl (Nat.le_of_ble_eq_true rfl) dX6_readLate_2 (fun r1 I1 hw => ?_)
  refine wm_istore_n hC dX6_readLate_5 (by decide) (L2 := [(1, vi r1), (0, vr l0)]) rfl ?_
  refine wm_iload_n hC 0 dX6_readLate_6 rfl ?_
  refine wm_iconst hC dX6_readLate_7 (k := ?_)
  refine wm_icmp_ne (tgt := 12) hC dX6_readLate_8 (by decide) hw (fun hw => ?_) (fun hw => ?_)
  · exact wm_return hC hE dX6_readLate_11 ⟨⟨rfl, rfl⟩, hw⟩
  · refine wm_aload_n hC 1 dX6_readLate_12 rfl (k_ne0 hk0 (by decide)) ?_
    refine x_getR2 hC 2 fl_X6_38 rfl hk0 dX6_readLate_13 hw (fun g1 hw => ?_)
    refine wm_iload_n hC 0 dX6_readLate_16 rfl ?_
    refine y_callV_i_n hC hRm noS ml_X6_162 g1 (C3_isLate g1 hw) (Nat.le_of_ble_eq_true rfl) (Nat.le_of_ble_eq_true rfl) ⟨Nat.zero_le _, Nat.zero_le _⟩ rfl (st := []) rfl (Nat.le_of_ble_eq_true rfl) dX6_readLate_17 (fun r2 hw => ?_)
    refine wm_iconst hC dX6_readLate_20 (k := ?_)
    refine wm_icmp_ne (tgt := 30) hC dX6_readLate_21 (by decide) hw (fun hw => ?_) (fun hw => ?_)
    · refine wm_aload_n hC 1 dX6_readLate_24 rfl (k_ne0 hk0 (by decide)) ?_
      refine wm_iconst hC dX6_readLate_25 (k := ?_)
      refine y_callV_v_I hC hRm noS ml_X6_92 hk0 (C6_fail hk0 hw) (Nat.le_of_ble_eq_true rfl) (Nat.le_of_ble_eq_true rfl) ⟨Nat.zero_le _, Nat.zero_le _⟩ rfl (st := []) rfl (Nat.le_of_ble_eq_true rfl) dX6_readLate_26 (fun I4 hw => ?_)
      exact wm_return hC hE dX6_readLate_29 ⟨⟨rfl, rfl⟩, hw⟩
    · refine wm_aload_n hC 1 dX6_readLate_30 rfl (k_ne0 hk0 (by decide)) ?_
      refine x_getR2 hC 2 fl_X6_38 rfl hk0 dX6_readLate_31 hw (fun g2 hw => ?_)
      refine wm_dup hC dX6_readLate_34 (k := ?_)
      refine x_getI hC 9 fl_X6_165 rfl g2 dX6_readLate_35 ?_
      refine wm_iconst hC dX6_readLate_38 (k := ?_)
      refine wm_iload_n hC 0 dX6_readLate_39 rfl ?_
      refine wm_ishl hC dX6_readLate_40 ?_
      refine wm_ior hC dX6_readLate_41 ?_
      refine x_putI hC 9 fl_X6_165 rfl g2 dX6_readLate_42 hw (fun I2 hw => ?_)
      refine wm_aload_n hC 1 dX6_readLate_45 rfl (k_ne0 hk0 (by decide)) ?_
      refine x_getR2 hC 1 fl_X6_12 rfl hk0 dX6_readLate_46 hw (fun g3 hw => ?_)
      refine y_callV_v_I hC hRm noS ml_X6_89 g3 (C10_step g3 hw) (Nat.le_of_ble_eq_true rfl) (Nat.le_of_ble_eq_true rfl) ⟨Nat.zero_le _, Nat.zero_le _⟩ rfl (st := []) rfl (Nat.le_of_ble_eq_true rfl) dX6_readLate_49 (fun I3 hw => ?_)
      exact wm_return hC hE dX6_readLate_52 ⟨⟨rfl, rfl⟩, hw⟩
def P6_readNear (l0 : Nat) (I : mI) (R : mR) (Q : mI → Prop) : Prop := (P6_findNamed l0 2 I R (fun r1 I1 => (if r1 = (-1) then (Q I1) else (kK (R l0 1) = 10 ∧ (P10_step (R l0 1) I1 (fun I2 => (P6_findNamed l0 2 I2 R (fun r2 I3 => (if r2 = (-1) then (Q I3) else (if r1 = r2 then (P6_fail l0 3 I3 R (fun I4 => (Q I4))) else (kK (R l0 2) = 3 ∧ (kK (R (R l0 2) 3) = 21 ∧ (((0 : Int) ≤ r1 ∧ r1 < (kN (R (R l0 2) 3) : Int)) ∧ (if (bAnd (bShr (I3 (R (R l0 2) 3) r1) r2) 1) = 1 then (P6_fail l0 3 I3 R (fun I8 => (Q I8))) else (kK (R l0 2) = 3 ∧ (kK (R (R l0 2) 3) = 21 ∧ (((0 : Int) ≤ r1 ∧ r1 < (kN (R (R l0 2) 3) : Int)) ∧ (((0 : Int) ≤ r1 ∧ r1 < (kN (R (R l0 2) 3) : Int)) ∧ wLet (up I3 (R (R l0 2) 3) r1 (bOr (I3 (R (R l0 2) 3) r1) (bShl 1 r2))) (fun I5 => (kK (R l0 2) = 3 ∧ (kK (R (R l0 2) 3) = 21 ∧ (((0 : Int) ≤ r2 ∧ r2 < (kN (R (R l0 2) 3) : Int)) ∧ (((0 : Int) ≤ r2 ∧ r2 < (kN (R (R l0 2) 3) : Int)) ∧ wLet (up I5 (R (R l0 2) 3) r2 (bOr (I5 (R (R l0 2) 3) r2) (bShl 1 r1))) (fun I6 => (kK (R l0 1) = 10 ∧ (P10_step (R l0 1) I6 (fun I7 => (Q I7))))))))))))))))))))))))))))
set_option maxRecDepth 20000 in
theorem C6_readNear {ad : Nat → Nat} {n : Nat} {I J : mI} {R : mR} {Q : mI → Prop}  {l0 : Nat} (hk0 : kK l0 = 6) (hw : P6_readNear l0 I R Q) : wMet yX6_readNear cX6_readNear 3 none 5 95 false ad n I J R [vr l0] (fun _ I' J' R' => (J' = J ∧ R' = R) ∧ Q I') := by
  refine wMet_of (by decide) (Nat.le_of_ble_eq_true rfl) (fun C hC hRm hE hS => ?_)
  refine (show WM C ad n I J R 0 0 0 [(0, vr l0)] [] from ?_)
  unfold P6_readNear at hw
  refine wm_aload_n hC 0 dX6_readNear_0 rfl (k_ne0 hk0 (by decide)) ?_
  refine wm_iconst hC dX6_readNear_1 (k := ?_)
  refine y_callV_i_I hC hRm noS ml_X6_159 hk0 (C6_findNamed hk0 hw) (Nat.le_of_ble_eq_true rfl) (Nat.le_of_ble_eq_true rfl) ⟨Nat.zero_le _, Nat.zero_le _⟩ rfl (st := []) rfl (Nat.le_of_ble_eq_true rfl) dX6_readNear_2 (fun r1 I1 hw => ?_)
  refine wm_istore_n hC dX6_readNear_5 (by decide) (L2 := [(1, vi r1), (0, vr l0)]) rfl ?_
  refine wm_iload_n hC 0 dX6_readNear_6 rfl ?_
  refine wm_iconst hC dX6_readNear_7 (k := ?_)
  refine wm_icmp_ne (tgt := 12) hC dX6_readNear_8 (by decide) hw (fun hw => ?_) (fun hw => ?_)
  · exact wm_return hC hE dX6_readNear_11 ⟨⟨rfl, rfl⟩, hw⟩
  · refine wm_aload_n hC 1 dX6_readNear_12 rfl (k_ne0 hk0 (by decide)) ?_
    refine x_getR2 hC 1 fl_X6_12 rfl hk0 dX6_readNear_13 hw (fun g1 hw => ?_)
    refine y_callV_v_I hC hRm noS ml_X6_89 g1 (C10_step g1 hw) (Nat.le_of_ble_eq_true rfl) (Nat.le_of_ble_eq_true rfl) ⟨Nat.zero_le _, Nat.zero_le _⟩ rfl (st := []) rfl (Nat.le_of_ble_eq_true rfl) dX6_readNear_16 (fun I2 hw => ?_)
    refine wm_aload_n hC 1 dX6_readNear_19 rfl (k_ne0 hk0 (by decide)) ?_
    refine wm_iconst hC dX6_readNear_20 (k := ?_)
    refine y_callV_i_I hC hRm noS ml_X6_159 hk0 (C6_findNamed hk0 hw) (Nat.le_of_ble_eq_true rfl) (Nat.le_of_ble_eq_true rfl) ⟨Nat.zero_le _, Nat.zero_le _⟩ rfl (st := []) rfl (Nat.le_of_ble_eq_true rfl) dX6_readNear_21 (fun r2 I3 hw => ?_)
    refine wm_istore_n hC dX6_readNear_24 (by decide) (L2 := [(2, vi r2), (1, vi r1), (0, vr l0)]) rfl ?_
    refine wm_iload_n hC 0 dX6_readNear_25 rfl ?_
    refine wm_iconst hC dX6_readNear_26 (k := ?_)
    refine wm_icmp_ne (tgt := 31) hC dX6_readNear_27 (by decide) hw (fun hw => ?_) (fun hw => ?_)
    · exact wm_return hC hE dX6_readNear_30 ⟨⟨rfl, rfl⟩, hw⟩
    · refine wm_iload_n hC 1 dX6_readNear_31 rfl ?_
      refine wm_iload_n hC 0 dX6_readNear_32 rfl ?_
      refine wm_icmp_eq (tgt := 53) hC dX6_readNear_33 (by decide) hw (fun hw => ?_) (fun hw => ?_)
      · refine wm_aload_n hC 2 dX6_readNear_53 rfl (k_ne0 hk0 (by decide)) ?_
        refine wm_iconst hC dX6_readNear_54 (k := ?_)
        refine y_callV_v_I hC hRm noS ml_X6_92 hk0 (C6_fail hk0 hw) (Nat.le_of_ble_eq_true rfl) (Nat.le_of_ble_eq_true rfl) ⟨Nat.zero_le _, Nat.zero_le _⟩ rfl (st := []) rfl (Nat.le_of_ble_eq_true rfl) dX6_readNear_55 (fun I4 hw => ?_)
        exact wm_return hC hE dX6_readNear_58 ⟨⟨rfl, rfl⟩, hw⟩
      · refine wm_aload_n hC 2 dX6_readNear_36 rfl (k_ne0 hk0 (by decide)) ?_
        refine x_getR2 hC 2 fl_X6_38 rfl hk0 dX6_readNear_37 hw (fun g2 hw => ?_)
        refine x_getR2 hC 3 fl_X6_168 rfl g2 dX6_readNear_40 hw (fun g3 hw => ?_)
        refine wm_iload_n hC 1 dX6_readNear_43 rfl ?_
        refine x_iald hC g3 dX6_readNear_44 hw (fun hw => ?_)
        refine wm_iload_n hC 0 dX6_readNear_45 rfl ?_
        refine wm_ishr hC dX6_readNear_46 ?_
        refine wm_iconst hC dX6_readNear_47 (k := ?_)
        refine wm_iand hC dX6_readNear_48 ?_
        refine wm_iconst hC dX6_readNear_49 (k := ?_)
        refine wm_icmp_ne (tgt := 59) hC dX6_readNear_50 (by decide) hw (fun hw => ?_) (fun hw => ?_)
        · refine wm_aload_n hC 2 dX6_readNear_53 rfl (k_ne0 hk0 (by decide)) ?_
          refine wm_iconst hC dX6_readNear_54 (k := ?_)
          refine y_callV_v_I hC hRm noS ml_X6_92 hk0 (C6_fail hk0 hw) (Nat.le_of_ble_eq_true rfl) (Nat.le_of_ble_eq_true rfl) ⟨Nat.zero_le _, Nat.zero_le _⟩ rfl (st := []) rfl (Nat.le_of_ble_eq_true rfl) dX6_readNear_55 (fun I8 hw => ?_)
          exact wm_return hC hE dX6_readNear_58 ⟨⟨rfl, rfl⟩, hw⟩
        · refine wm_aload_n hC 2 dX6_readNear_59 rfl (k_ne0 hk0 (by decide)) ?_
          refine x_getR2 hC 2 fl_X6_38 rfl hk0 dX6_readNear_60 hw (fun g4 hw => ?_)
          refine x_getR2 hC 3 fl_X6_168 rfl g4 dX6_readNear_63 hw (fun g5 hw => ?_)
          refine wm_iload_n hC 1 dX6_readNear_66 rfl ?_
          refine wm_dup2_11 hC dX6_readNear_67 (k := ?_)
          refine x_iald hC g5 dX6_readNear_68 hw (fun hw => ?_)
          refine wm_iconst hC dX6_readNear_69 (k := ?_)
          refine wm_iload_n hC 0 dX6_readNear_70 rfl ?_
          refine wm_ishl hC dX6_readNear_71 ?_
          refine wm_ior hC dX6_readNear_72 ?_
          refine x_iast hC g5 dX6_readNear_73 hw (fun I5 hw => ?_)
          refine wm_aload_n hC 2 dX6_readNear_74 rfl (k_ne0 hk0 (by decide)) ?_
          refine x_getR2 hC 2 fl_X6_38 rfl hk0 dX6_readNear_75 hw (fun g6 hw => ?_)
          refine x_getR2 hC 3 fl_X6_168 rfl g6 dX6_readNear_78 hw (fun g7 hw => ?_)
          refine wm_iload_n hC 0 dX6_readNear_81 rfl ?_
          refine wm_dup2_11 hC dX6_readNear_82 (k := ?_)
          refine x_iald hC g7 dX6_readNear_83 hw (fun hw => ?_)
          refine wm_iconst hC dX6_readNear_84 (k := ?_)
          refine wm_iload_n hC 1 dX6_readNear_85 rfl ?_
          refine wm_ishl hC dX6_readNear_86 ?_
          refine wm_ior hC dX6_readNear_87 ?_
          refine x_iast hC g7 dX6_readNear_88 hw (fun I6 hw => ?_)
          refine wm_aload_n hC 2 dX6_readNear_89 rfl (k_ne0 hk0 (by decide)) ?_
          refine x_getR2 hC 1 fl_X6_12 rfl hk0 dX6_readNear_90 hw (fun g8 hw => ?_)
          refine y_callV_v_I hC hRm noS ml_X6_89 g8 (C10_step g8 hw) (Nat.le_of_ble_eq_true rfl) (Nat.le_of_ble_eq_true rfl) ⟨Nat.zero_le _, Nat.zero_le _⟩ rfl (st := []) rfl (Nat.le_of_ble_eq_true rfl) dX6_readNear_93 (fun I7 hw => ?_)
          exact wm_return hC hE dX6_readNear_96 ⟨⟨rfl, rfl⟩, hw⟩
def P6_isTaken (l0 : Nat) (l1 : Int) (I : mI) (R : mR) (Q : Int → Prop) : Prop := (kK (R l0 2) = 3 ∧ (P3_find (R l0 2) 0 l1 I R (fun r1 => (if r1 = (-1) then (kK (R l0 2) = 3 ∧ (P3_find (R l0 2) 1 l1 I R (fun r2 => (if r2 = (-1) then (kK (R l0 2) = 3 ∧ (P3_find (R l0 2) 2 l1 I R (fun r3 => (if r3 = (-1) then (Q 0) else (Q 1))))) else (Q 1))))) else (Q 1)))))
set_option maxRecDepth 20000 in
theorem C6_isTaken {ad : Nat → Nat} {n : Nat} {I J : mI} {R : mR} {Q : Int → Prop}  {l0 : Nat} {l1 : Int} (hk0 : kK l0 = 6) (hw : P6_isTaken l0 l1 I R Q) : wMet yX6_isTaken cX6_isTaken 2 (some .boolean) 2 35 false ad n I J R [vr l0, vi l1] (fun r I' J' R' => (I' = I ∧ J' = J ∧ R' = R) ∧ Q r) := by
  refine wMet_of (by decide) (Nat.le_of_ble_eq_true rfl) (fun C hC hRm hE hS => ?_)
  refine (show WM C ad n I J R 0 0 0 [(0, vr l0), (1, vi l1)] [] from ?_)
  unfold P6_isTaken at hw
  refine wm_aload_n hC 0 dX6_isTaken_0 rfl (k_ne0 hk0 (by decide)) ?_
  refine x_getR2 hC 2 fl_X6_38 rfl hk0 dX6_isTaken_1 hw (fun g1 hw => ?_)
  refine wm_iconst hC dX6_isTaken_4 (k := ?_)
  refine wm_iload_n hC 1 dX6_isTaken_5 rfl ?_
  refine y_callV_i_n hC hRm noS ml_X6_174 g1 (C3_find g1 hw) (Nat.le_of_ble_eq_true rfl) (Nat.le_of_ble_eq_true rfl) ⟨Nat.zero_le _, Nat.zero_le _⟩ rfl (st := []) rfl (Nat.le_of_ble_eq_true rfl) dX6_isTaken_6 (fun r1 hw => ?_)
  refine wm_iconst hC dX6_isTaken_9 (k := ?_)
  refine wm_icmp_ne (tgt := 39) hC dX6_isTaken_10 (by decide) hw (fun hw => ?_) (fun hw => ?_)
  · refine wm_aload_n hC 0 dX6_isTaken_13 rfl (k_ne0 hk0 (by decide)) ?_
    refine x_getR2 hC 2 fl_X6_38 rfl hk0 dX6_isTaken_14 hw (fun g2 hw => ?_)
    refine wm_iconst hC dX6_isTaken_17 (k := ?_)
    refine wm_iload_n hC 1 dX6_isTaken_18 rfl ?_
    refine y_callV_i_n hC hRm noS ml_X6_174 g2 (C3_find g2 hw) (Nat.le_of_ble_eq_true rfl) (Nat.le_of_ble_eq_true rfl) ⟨Nat.zero_le _, Nat.zero_le _⟩ rfl (st := []) rfl (Nat.le_of_ble_eq_true rfl) dX6_isTaken_19 (fun r2 hw => ?_)
    refine wm_iconst hC dX6_isTaken_22 (k := ?_)
    refine wm_icmp_ne (tgt := 39) hC dX6_isTaken_23 (by decide) hw (fun hw => ?_) (fun hw => ?_)
    · refine wm_aload_n hC 0 dX6_isTaken_26 rfl (k_ne0 hk0 (by decide)) ?_
      refine x_getR2 hC 2 fl_X6_38 rfl hk0 dX6_isTaken_27 hw (fun g3 hw => ?_)
      refine wm_iconst hC dX6_isTaken_30 (k := ?_)
      refine wm_iload_n hC 1 dX6_isTaken_31 rfl ?_
      refine y_callV_i_n hC hRm noS ml_X6_174 g3 (C3_find g3 hw) (Nat.le_of_ble_eq_true rfl) (Nat.le_of_ble_eq_true rfl) ⟨Nat.zero_le _, Nat.zero_le _⟩ rfl (st := []) rfl (Nat.le_of_ble_eq_true rfl) dX6_isTaken_32 (fun r3 hw => ?_)
      refine wm_iconst hC dX6_isTaken_35 (k := ?_)
      refine wm_icmp_eq (tgt := 43) hC dX6_isTaken_36 (by decide) hw (fun hw => ?_) (fun hw => ?_)
      · refine wm_iconst hC dX6_isTaken_43 (k := ?_)
        exact wm_zreturn hC hE (Or.inl rfl) dX6_isTaken_44 ⟨⟨rfl, rfl, rfl⟩, hw⟩
      · refine wm_iconst hC dX6_isTaken_39 (k := ?_)
        refine wm_goto (tgt := 44) hC dX6_isTaken_40 (by decide) ?_
        exact wm_zreturn hC hE (Or.inr rfl) dX6_isTaken_44 ⟨⟨rfl, rfl, rfl⟩, hw⟩
    · refine wm_iconst hC dX6_isTaken_39 (k := ?_)
      refine wm_goto (tgt := 44) hC dX6_isTaken_40 (by decide) ?_
      exact wm_zreturn hC hE (Or.inr rfl) dX6_isTaken_44 ⟨⟨rfl, rfl, rfl⟩, hw⟩
  · refine wm_iconst hC dX6_isTaken_39 (k := ?_)
    refine wm_goto (tgt := 44) hC dX6_isTaken_40 (by decide) ?_
    exact wm_zreturn hC hE (Or.inr rfl) dX6_isTaken_44 ⟨⟨rfl, rfl, rfl⟩, hw⟩
def P6_takeUpTo (l0 : Nat) (l1 : Int) (I : mI) (R : mR) (Q : Int → mI → Prop) : Prop := (kK (R l0 1) = 10 ∧ (P10_valueHere (R l0 1) I R (fun r1 => (kK (R l0 1) = 10 ∧ (P10_sortHere (R l0 1) I R (fun r2 => (if r2 = 3 then (if r1 ≤ l1 then (kK (R l0 1) = 10 ∧ (P10_step (R l0 1) I (fun I1 => (Q r1 I1)))) else (P6_fail l0 4 I R (fun I2 => (Q 0 I2)))) else (P6_fail l0 1 I R (fun I3 => (Q 0 I3))))))))))
set_option maxRecDepth 20000 in
theorem C6_takeUpTo {ad : Nat → Nat} {n : Nat} {I J : mI} {R : mR} {Q : Int → mI → Prop}  {l0 : Nat} {l1 : Int} (hk0 : kK l0 = 6) (hw : P6_takeUpTo l0 l1 I R Q) : wMet yX6_takeUpTo cX6_takeUpTo 3 (some .int) 3 53 false ad n I J R [vr l0, vi l1] (fun r I' J' R' => (J' = J ∧ R' = R) ∧ Q r I') := by
  refine wMet_of (by decide) (Nat.le_of_ble_eq_true rfl) (fun C hC hRm hE hS => ?_)
  refine (show WM C ad n I J R 0 0 0 [(0, vr l0), (1, vi l1)] [] from ?_)
  unfold P6_takeUpTo at hw
  refine wm_aload_n hC 0 dX6_takeUpTo_0 rfl (k_ne0 hk0 (by decide)) ?_
  refine x_getR2 hC 1 fl_X6_12 rfl hk0 dX6_takeUpTo_1 hw (fun g1 hw => ?_)
  refine y_callV_i_n hC hRm noS ml_X6_78 g1 (C10_valueHere g1 hw) (Nat.le_of_ble_eq_true rfl) (Nat.le_of_ble_eq_true rfl) ⟨Nat.zero_le _, Nat.zero_le _⟩ rfl (st := []) rfl (Nat.le_of_ble_eq_true rfl) dX6_takeUpTo_4 (fun r1 hw => ?_)
  refine wm_istore_n hC dX6_takeUpTo_7 (by decide) (L2 := [(2, vi r1), (0, vr l0), (1, vi l1)]) rfl ?_
  refine wm_aload_n hC 1 dX6_takeUpTo_8 rfl (k_ne0 hk0 (by decide)) ?_
  refine x_getR2 hC 1 fl_X6_12 rfl hk0 dX6_takeUpTo_9 hw (fun g2 hw => ?_)
  refine y_callV_i_n hC hRm noS ml_X6_51 g2 (C10_sortHere g2 hw) (Nat.le_of_ble_eq_true rfl) (Nat.le_of_ble_eq_true rfl) ⟨Nat.zero_le _, Nat.zero_le _⟩ rfl (st := []) rfl (Nat.le_of_ble_eq_true rfl) dX6_takeUpTo_12 (fun r2 hw => ?_)
  refine wm_iconst hC dX6_takeUpTo_15 (k := ?_)
  refine wm_icmp_eq (tgt := 26) hC dX6_takeUpTo_16 (by decide) hw (fun hw => ?_) (fun hw => ?_)
  · refine wm_iload_n hC 0 dX6_takeUpTo_26 rfl ?_
    refine wm_iload_n hC 2 dX6_takeUpTo_27 rfl ?_
    refine wm_icmp_le (tgt := 38) hC dX6_takeUpTo_28 (by decide) hw (fun hw => ?_) (fun hw => ?_)
    · refine wm_aload_n hC 1 dX6_takeUpTo_38 rfl (k_ne0 hk0 (by decide)) ?_
      refine x_getR2 hC 1 fl_X6_12 rfl hk0 dX6_takeUpTo_39 hw (fun g3 hw => ?_)
      refine y_callV_v_I hC hRm noS ml_X6_89 g3 (C10_step g3 hw) (Nat.le_of_ble_eq_true rfl) (Nat.le_of_ble_eq_true rfl) ⟨Nat.zero_le _, Nat.zero_le _⟩ rfl (st := []) rfl (Nat.le_of_ble_eq_true rfl) dX6_takeUpTo_42 (fun I1 hw => ?_)
      refine wm_iload_n hC 0 dX6_takeUpTo_45 rfl ?_
      exact wm_ireturn hC hE dX6_takeUpTo_46 ⟨⟨rfl, rfl⟩, hw⟩
    · refine wm_aload_n hC 1 dX6_takeUpTo_31 rfl (k_ne0 hk0 (by decide)) ?_
      refine wm_iconst hC dX6_takeUpTo_32 (k := ?_)
      refine y_callV_v_I hC hRm noS ml_X6_92 hk0 (C6_fail hk0 hw) (Nat.le_of_ble_eq_true rfl) (Nat.le_of_ble_eq_true rfl) ⟨Nat.zero_le _, Nat.zero_le _⟩ rfl (st := []) rfl (Nat.le_of_ble_eq_true rfl) dX6_takeUpTo_33 (fun I2 hw => ?_)
      refine wm_iconst hC dX6_takeUpTo_36 (k := ?_)
      exact wm_ireturn hC hE dX6_takeUpTo_37 ⟨⟨rfl, rfl⟩, hw⟩
  · refine wm_aload_n hC 1 dX6_takeUpTo_19 rfl (k_ne0 hk0 (by decide)) ?_
    refine wm_iconst hC dX6_takeUpTo_20 (k := ?_)
    refine y_callV_v_I hC hRm noS ml_X6_92 hk0 (C6_fail hk0 hw) (Nat.le_of_ble_eq_true rfl) (Nat.le_of_ble_eq_true rfl) ⟨Nat.zero_le _, Nat.zero_le _⟩ rfl (st := []) rfl (Nat.le_of_ble_eq_true rfl) dX6_takeUpTo_21 (fun I3 hw => ?_)
    refine wm_iconst hC dX6_takeUpTo_24 (k := ?_)
    exact wm_ireturn hC hE dX6_takeUpTo_25 ⟨⟨rfl, rfl⟩, hw⟩
def P6_takeTrait (l0 : Nat) (l1 : Int) (l2 : Int) (I : mI) (R : mR) (Q : Int → mI → Prop) : Prop := (P6_isOwn l0 l1 I R (fun r1 => (if r1 = 0 then (P6_fail l0 1 I R (fun I3 => (Q 0 I3))) else (kK (R l0 1) = 10 ∧ (P10_step (R l0 1) I (fun I1 => (P6_takeUpTo l0 l2 I1 R (fun r2 I2 => (Q r2 I2)))))))))
set_option maxRecDepth 20000 in
theorem C6_takeTrait {ad : Nat → Nat} {n : Nat} {I J : mI} {R : mR} {Q : Int → mI → Prop}  {l0 : Nat} {l1 : Int} {l2 : Int} (hk0 : kK l0 = 6) (hw : P6_takeTrait l0 l1 l2 I R Q) : wMet yX6_takeTrait cX6_takeTrait 3 (some .int) 4 75 false ad n I J R [vr l0, vi l1, vi l2] (fun r I' J' R' => (J' = J ∧ R' = R) ∧ Q r I') := by
  refine wMet_of (by decide) (Nat.le_of_ble_eq_true rfl) (fun C hC hRm hE hS => ?_)
  refine (show WM C ad n I J R 0 0 0 [(0, vr l0), (1, vi l1), (2, vi l2)] [] from ?_)
  unfold P6_takeTrait at hw
  refine wm_aload_n hC 0 dX6_takeTrait_0 rfl (k_ne0 hk0 (by decide)) ?_
  refine wm_iload_n hC 1 dX6_takeTrait_1 rfl ?_
  refine y_callV_z_n hC hRm noS ml_X6_156 hk0 (C6_isOwn hk0 hw) (Nat.le_of_ble_eq_true rfl) (Nat.le_of_ble_eq_true rfl) ⟨Nat.zero_le _, Nat.zero_le _⟩ rfl (st := []) rfl (Nat.le_of_ble_eq_true rfl) dX6_takeTrait_2 (fun r1 hw => ?_)
  refine wm_if_ne (tgt := 15) hC dX6_takeTrait_5 (by decide) hw (fun hw => ?_) (fun hw => ?_)
  · refine wm_aload_n hC 0 dX6_takeTrait_8 rfl (k_ne0 hk0 (by decide)) ?_
    refine wm_iconst hC dX6_takeTrait_9 (k := ?_)
    refine y_callV_v_I hC hRm noS ml_X6_92 hk0 (C6_fail hk0 hw) (Nat.le_of_ble_eq_true rfl) (Nat.le_of_ble_eq_true rfl) ⟨Nat.zero_le _, Nat.zero_le _⟩ rfl (st := []) rfl (Nat.le_of_ble_eq_true rfl) dX6_takeTrait_10 (fun I3 hw => ?_)
    refine wm_iconst hC dX6_takeTrait_13 (k := ?_)
    exact wm_ireturn hC hE dX6_takeTrait_14 ⟨⟨rfl, rfl⟩, hw⟩
  · refine wm_aload_n hC 0 dX6_takeTrait_15 rfl (k_ne0 hk0 (by decide)) ?_
    refine x_getR2 hC 1 fl_X6_12 rfl hk0 dX6_takeTrait_16 hw (fun g1 hw => ?_)
    refine y_callV_v_I hC hRm noS ml_X6_89 g1 (C10_step g1 hw) (Nat.le_of_ble_eq_true rfl) (Nat.le_of_ble_eq_true rfl) ⟨Nat.zero_le _, Nat.zero_le _⟩ rfl (st := []) rfl (Nat.le_of_ble_eq_true rfl) dX6_takeTrait_19 (fun I1 hw => ?_)
    refine wm_aload_n hC 0 dX6_takeTrait_22 rfl (k_ne0 hk0 (by decide)) ?_
    refine wm_iload_n hC 2 dX6_takeTrait_23 rfl ?_
    refine y_callV_i_I hC hRm noS ml_X6_115 hk0 (C6_takeUpTo hk0 hw) (Nat.le_of_ble_eq_true rfl) (Nat.le_of_ble_eq_true rfl) ⟨Nat.zero_le _, Nat.zero_le _⟩ rfl (st := []) rfl (Nat.le_of_ble_eq_true rfl) dX6_takeTrait_24 (fun r2 I2 hw => ?_)
    exact wm_ireturn hC hE dX6_takeTrait_27 ⟨⟨rfl, rfl⟩, hw⟩
def P6_readOne_b128 (l0 : Nat) (l1 : Int) (I : mI) (R : mR) (Q : mI → Prop) : Prop := (kK (R l0 2) = 3 ∧ (kK (R (R l0 2) 0) = 21 ∧ (((0 : Int) ≤ l1 ∧ l1 < (kN (R (R l0 2) 0) : Int)) ∧ (rg ((I (R (R l0 2) 0) l1) + 1) ∧ (((0 : Int) ≤ l1 ∧ l1 < (kN (R (R l0 2) 0) : Int)) ∧ wLet (up I (R (R l0 2) 0) l1 ((I (R (R l0 2) 0) l1) + 1)) (fun I9 => (Q I9)))))))
set_option maxRecDepth 20000 in
theorem W6_readOne_b128 {C : wX} {ad : Nat → Nat} {n : Nat} {I J : mI} {R : mR} {Q : mI → Prop} (hC : wOK C cX6_readOne 4 RX6) (hRm : wRm C 5 97 0 0) (hE : wEnd C none ad n (fun _ I' J' R' => (J' = J ∧ R' = R) ∧ Q I')) {l0 : Nat} {l1 : Int}   (hk0 : kK l0 = 6)  (hw : P6_readOne_b128 l0 l1 I R Q) : WM C ad n I J R 0 0 128 [(0, vr l0), (1, vi l1)] [] := by
  unfold P6_readOne_b128 at hw
  refine wm_aload_n hC 0 dX6_readOne_128 rfl (k_ne0 hk0 (by decide)) ?_
  refine x_getR2 hC 2 fl_X6_38 rfl hk0 dX6_readOne_129 hw (fun g12 hw => ?_)
  refine x_getR2 hC 0 fl_X6_132 rfl g12 dX6_readOne_132 hw (fun g13 hw => ?_)
  refine wm_iload_n hC 1 dX6_readOne_135 rfl ?_
  refine wm_dup2_11 hC dX6_readOne_136 (k := ?_)
  refine x_iald hC g13 dX6_readOne_137 hw (fun hw => ?_)
  refine wm_iconst hC dX6_readOne_138 (k := ?_)
  refine x_iadd hC dX6_readOne_139 hw (fun hw => ?_)
  refine x_iast hC g13 dX6_readOne_140 hw (fun I9 hw => ?_)
  exact wm_return hC hE dX6_readOne_141 ⟨⟨rfl, rfl⟩, hw⟩
def P6_readOne_b68_body (l0 : Nat) (l1 : Int) (l2 : Int) (R : mR) (Q : mI → Prop) (k68 : Int → mI → Prop) (l3 : Int) (I : mI) : Prop := (if (3 : Int) ≤ l3 then (if l1 = 1 then (kK (R l0 2) = 3 ∧ (kK (R (R l0 2) 2) = 21 ∧ (rg (l2 * 4) ∧ (rg ((l2 * 4) + 3) ∧ (P6_takeTrait l0 14 99 I R (fun r5 I5 => (((0 : Int) ≤ ((l2 * 4) + 3) ∧ ((l2 * 4) + 3) < (kN (R (R l0 2) 2) : Int)) ∧ wLet (up I5 (R (R l0 2) 2) ((l2 * 4) + 3) r5) (fun I6 => (P6_readOne_b128 l0 l1 I6 R Q))))))))) else (P6_readOne_b128 l0 l1 I R Q)) else (kK (R l0 2) = 3 ∧ (kK (R (R l0 2) 2) = 21 ∧ (rg (l2 * 4) ∧ (rg ((l2 * 4) + l3) ∧ (rg (11 + l3) ∧ (P6_takeTrait l0 (11 + l3) 9 I R (fun r6 I7 => (((0 : Int) ≤ ((l2 * 4) + l3) ∧ ((l2 * 4) + l3) < (kN (R (R l0 2) 2) : Int)) ∧ wLet (up I7 (R (R l0 2) 2) ((l2 * 4) + l3) r6) (fun I8 => (rg (l3 + 1) ∧ (k68 (l3 + 1) I8))))))))))))
def P6_readOne_b68 (l0 : Nat) (l1 : Int) (l2 : Int) (R : mR) (Q : mI → Prop) : Nat → Int → mI → Prop
  | 0 => fun _ _ => False
  | f + 1 => fun l3 I => P6_readOne_b68_body l0 l1 l2 R Q (P6_readOne_b68 l0 l1 l2 R Q f) l3 I
set_option maxRecDepth 20000 in
theorem W6_readOne_b68_body {C : wX} {ad : Nat → Nat} {n : Nat} {I J : mI} {R : mR} {Q : mI → Prop} (hC : wOK C cX6_readOne 4 RX6) (hRm : wRm C 5 97 0 0) (hE : wEnd C none ad n (fun _ I' J' R' => (J' = J ∧ R' = R) ∧ Q I')) {l0 : Nat} {l1 : Int} {l2 : Int} {l3 : Int}   (hk0 : kK l0 = 6)  {k68 : Int → mI → Prop} (kk68 : ∀ (y3 : Int) (I' : mI), k68 y3 I' → WM C ad n I' J R 0 0 68 [(0, vr l0), (1, vi l1), (2, vi l2), (3, vi y3)] []) (hw : P6_readOne_b68_body l0 l1 l2 R Q k68 l3 I) : WM C ad n I J R 0 0 68 [(0, vr l0), (1, vi l1), (2, vi l2), (3, vi l3)] [] := by
  unfold P6_readOne_b68_body at hw
  refine wm_iload_n hC 3 dX6_readOne_68 rfl ?_
  refine wm_iconst hC dX6_readOne_69 (k := ?_)
  refine wm_icmp_ge (tgt := 102) hC dX6_readOne_70 (by decide) hw (fun hw => ?_) (fun hw => ?_)
  · refine wm_iload_n hC 1 dX6_readOne_102 rfl ?_
    refine wm_iconst hC dX6_readOne_103 (k := ?_)
    refine wm_icmp_ne (tgt := 128) hC dX6_readOne_104 (by decide) hw (fun hw => ?_) (fun hw => ?_)
    · refine wm_aload_n hC 0 dX6_readOne_107 rfl (k_ne0 hk0 (by decide)) ?_
      refine x_getR2 hC 2 fl_X6_38 rfl hk0 dX6_readOne_108 hw (fun g8 hw => ?_)
      refine x_getR2 hC 2 fl_X6_149 rfl g8 dX6_readOne_111 hw (fun g9 hw => ?_)
      refine wm_iload_n hC 2 dX6_readOne_114 rfl ?_
      refine wm_iconst hC dX6_readOne_115 (k := ?_)
      refine x_imul hC dX6_readOne_116 hw (fun hw => ?_)
      refine wm_iconst hC dX6_readOne_117 (k := ?_)
      refine x_iadd hC dX6_readOne_118 hw (fun hw => ?_)
      refine wm_aload_n hC 0 dX6_readOne_119 rfl (k_ne0 hk0 (by decide)) ?_
      refine wm_bipush hC dX6_readOne_120 (k := ?_)
      refine wm_bipush hC dX6_readOne_122 (k := ?_)
      refine y_callV_i_I hC hRm noS ml_X6_152 hk0 (C6_takeTrait hk0 hw) (Nat.le_of_ble_eq_true rfl) (Nat.le_of_ble_eq_true rfl) ⟨Nat.zero_le _, Nat.zero_le _⟩ rfl (st := [vi ((l2 * 4) + 3), vr (R (R l0 2) 2)]) rfl (Nat.le_of_ble_eq_true rfl) dX6_readOne_124 (fun r5 I5 hw => ?_)
      refine x_iast hC g9 dX6_readOne_127 hw (fun I6 hw => ?_)
      refine wm_sub [0, 1] (L2 := [(0, vr l0), (1, vi l1)]) rfl ?_
      exact W6_readOne_b128 hC hRm hE hk0 hw
    · refine wm_sub [0, 1] (L2 := [(0, vr l0), (1, vi l1)]) rfl ?_
      exact W6_readOne_b128 hC hRm hE hk0 hw
  · refine wm_aload_n hC 0 dX6_readOne_73 rfl (k_ne0 hk0 (by decide)) ?_
    refine x_getR2 hC 2 fl_X6_38 rfl hk0 dX6_readOne_74 hw (fun g10 hw => ?_)
    refine x_getR2 hC 2 fl_X6_149 rfl g10 dX6_readOne_77 hw (fun g11 hw => ?_)
    refine wm_iload_n hC 2 dX6_readOne_80 rfl ?_
    refine wm_iconst hC dX6_readOne_81 (k := ?_)
    refine x_imul hC dX6_readOne_82 hw (fun hw => ?_)
    refine wm_iload_n hC 3 dX6_readOne_83 rfl ?_
    refine x_iadd hC dX6_readOne_84 hw (fun hw => ?_)
    refine wm_aload_n hC 0 dX6_readOne_85 rfl (k_ne0 hk0 (by decide)) ?_
    refine wm_bipush hC dX6_readOne_86 (k := ?_)
    refine wm_iload_n hC 3 dX6_readOne_88 rfl ?_
    refine x_iadd hC dX6_readOne_89 hw (fun hw => ?_)
    refine wm_bipush hC dX6_readOne_90 (k := ?_)
    refine y_callV_i_I hC hRm noS ml_X6_152 hk0 (C6_takeTrait hk0 hw) (Nat.le_of_ble_eq_true rfl) (Nat.le_of_ble_eq_true rfl) ⟨Nat.zero_le _, Nat.zero_le _⟩ rfl (st := [vi ((l2 * 4) + l3), vr (R (R l0 2) 2)]) rfl (Nat.le_of_ble_eq_true rfl) dX6_readOne_92 (fun r6 I7 hw => ?_)
    refine x_iast hC g11 dX6_readOne_95 hw (fun I8 hw => ?_)
    refine x_iinc hC 3 dX6_readOne_96 rfl (by decide) (L2 := [(3, vi (l3 + 1)), (0, vr l0), (1, vi l1), (2, vi l2)]) rfl hw (fun hw => ?_)
    refine wm_goto (tgt := 68) hC dX6_readOne_99 (by decide) ?_
    refine wm_sub [1, 2, 3, 0] (L2 := [(0, vr l0), (1, vi l1), (2, vi l2), (3, vi (l3 + 1))]) rfl ?_
    exact kk68 _ _ hw
set_option maxRecDepth 20000 in
theorem W6_readOne_b68 {C : wX} {ad : Nat → Nat} {n : Nat} {J : mI} {R : mR} {Q : mI → Prop} (hC : wOK C cX6_readOne 4 RX6) (hRm : wRm C 5 97 0 0) (hE : wEnd C none ad n (fun _ I' J' R' => (J' = J ∧ R' = R) ∧ Q I')) {l0 : Nat} {l1 : Int} {l2 : Int}   (hk0 : kK l0 = 6)  : ∀ (f : Nat) (l3 : Int) (I : mI), P6_readOne_b68 l0 l1 l2 R Q f l3 I → WM C ad n I J R 0 0 68 [(0, vr l0), (1, vi l1), (2, vi l2), (3, vi l3)] [] := by
  intro f
  induction f with
  | zero => intro l3 I hw; exact hw.elim
  | succ f ih => intro l3 I hw; exact W6_readOne_b68_body hC hRm hE hk0 (fun a0 a1 hw => ih a0 a1 hw) hw
def P6_readOne (l0 : Nat) (l1 : Int) (I : mI) (R : mR) (Q : mI → Prop) : Prop := (P6_isName l0 I R (fun r1 I1 => (if r1 = 0 then (Q I1) else (kK (R l0 1) = 10 ∧ (P10_valueHere (R l0 1) I1 R (fun r2 => (P6_isTaken l0 r2 I1 R (fun r3 => (if r3 = 0 then (rg (l1 * 6) ∧ (kK (R l0 2) = 3 ∧ (kK (R (R l0 2) 0) = 21 ∧ (((0 : Int) ≤ l1 ∧ l1 < (kN (R (R l0 2) 0) : Int)) ∧ (rg ((l1 * 6) + (I1 (R (R l0 2) 0) l1)) ∧ (wLet ((l1 * 6) + (I1 (R (R l0 2) 0) l1)) (fun x1 => (kK (R l0 2) = 3 ∧ (kK (R (R l0 2) 1) = 21 ∧ (kK (R l0 1) = 10 ∧ (P10_valueHere (R l0 1) I1 R (fun r4 => (((0 : Int) ≤ x1 ∧ x1 < (kN (R (R l0 2) 1) : Int)) ∧ wLet (up I1 (R (R l0 2) 1) x1 r4) (fun I2 => (kK (R l0 1) = 10 ∧ (P10_step (R l0 1) I2 (fun I3 => (∃ f, P6_readOne_b68 l0 l1 x1 R Q f 0 I3)))))))))))))))))) else (P6_fail l0 2 I1 R (fun I4 => (Q I4))))))))))))
set_option maxRecDepth 20000 in
theorem C6_readOne {ad : Nat → Nat} {n : Nat} {I J : mI} {R : mR} {Q : mI → Prop}  {l0 : Nat} {l1 : Int} (hk0 : kK l0 = 6) (hw : P6_readOne l0 l1 I R Q) : wMet yX6_readOne cX6_readOne 4 none 5 97 false ad n I J R [vr l0, vi l1] (fun _ I' J' R' => (J' = J ∧ R' = R) ∧ Q I') := by
  refine wMet_of (by decide) (Nat.le_of_ble_eq_true rfl) (fun C hC hRm hE hS => ?_)
  refine (show WM C ad n I J R 0 0 0 [(0, vr l0), (1, vi l1)] [] from ?_)
  unfold P6_readOne at hw
  refine wm_aload_n hC 0 dX6_readOne_0 rfl (k_ne0 hk0 (by decide)) ?_
  refine y_callV_z_I hC hRm noS ml_X6_139 hk0 (C6_isName hk0 hw) (Nat.le_of_ble_eq_true rfl) (Nat.le_of_ble_eq_true rfl) ⟨Nat.zero_le _, Nat.zero_le _⟩ rfl (st := []) rfl (Nat.le_of_ble_eq_true rfl) dX6_readOne_1 (fun r1 I1 hw => ?_)
  refine wm_if_ne (tgt := 8) hC dX6_readOne_4 (by decide) hw (fun hw => ?_) (fun hw => ?_)
  · exact wm_return hC hE dX6_readOne_7 ⟨⟨rfl, rfl⟩, hw⟩
  · refine wm_aload_n hC 0 dX6_readOne_8 rfl (k_ne0 hk0 (by decide)) ?_
    refine wm_aload_n hC 0 dX6_readOne_9 rfl (k_ne0 hk0 (by decide)) ?_
    refine x_getR2 hC 1 fl_X6_12 rfl hk0 dX6_readOne_10 hw (fun g1 hw => ?_)
    refine y_callV_i_n hC hRm noS ml_X6_78 g1 (C10_valueHere g1 hw) (Nat.le_of_ble_eq_true rfl) (Nat.le_of_ble_eq_true rfl) ⟨Nat.zero_le _, Nat.zero_le _⟩ rfl (st := [vr l0]) rfl (Nat.le_of_ble_eq_true rfl) dX6_readOne_13 (fun r2 hw => ?_)
    refine y_callV_z_n hC hRm noS ml_X6_143 hk0 (C6_isTaken hk0 hw) (Nat.le_of_ble_eq_true rfl) (Nat.le_of_ble_eq_true rfl) ⟨Nat.zero_le _, Nat.zero_le _⟩ rfl (st := []) rfl (Nat.le_of_ble_eq_true rfl) dX6_readOne_16 (fun r3 hw => ?_)
    refine wm_if_eq (tgt := 28) hC dX6_readOne_19 (by decide) hw (fun hw => ?_) (fun hw => ?_)
    · refine wm_iload_n hC 1 dX6_readOne_28 rfl ?_
      refine wm_bipush hC dX6_readOne_29 (k := ?_)
      refine x_imul hC dX6_readOne_31 hw (fun hw => ?_)
      refine wm_aload_n hC 0 dX6_readOne_32 rfl (k_ne0 hk0 (by decide)) ?_
      refine x_getR2 hC 2 fl_X6_38 rfl hk0 dX6_readOne_33 hw (fun g2 hw => ?_)
      refine x_getR2 hC 0 fl_X6_132 rfl g2 dX6_readOne_36 hw (fun g3 hw => ?_)
      refine wm_iload_n hC 1 dX6_readOne_39 rfl ?_
      refine x_iald hC g3 dX6_readOne_40 hw (fun hw => ?_)
      refine x_iadd hC dX6_readOne_41 hw (fun hw => ?_)
      refine x_nameI hw (fun x1 hw => ?_)
      refine wm_istore_n hC dX6_readOne_42 (by decide) (L2 := [(2, vi x1), (0, vr l0), (1, vi l1)]) rfl ?_
      refine wm_aload_n hC 1 dX6_readOne_43 rfl (k_ne0 hk0 (by decide)) ?_
      refine x_getR2 hC 2 fl_X6_38 rfl hk0 dX6_readOne_44 hw (fun g4 hw => ?_)
      refine x_getR2 hC 1 fl_X6_146 rfl g4 dX6_readOne_47 hw (fun g5 hw => ?_)
      refine wm_iload_n hC 0 dX6_readOne_50 rfl ?_
      refine wm_aload_n hC 1 dX6_readOne_51 rfl (k_ne0 hk0 (by decide)) ?_
      refine x_getR2 hC 1 fl_X6_12 rfl hk0 dX6_readOne_52 hw (fun g6 hw => ?_)
      refine y_callV_i_n hC hRm noS ml_X6_78 g6 (C10_valueHere g6 hw) (Nat.le_of_ble_eq_true rfl) (Nat.le_of_ble_eq_true rfl) ⟨Nat.zero_le _, Nat.zero_le _⟩ rfl (st := [vi x1, vr (R (R l0 2) 1)]) rfl (Nat.le_of_ble_eq_true rfl) dX6_readOne_55 (fun r4 hw => ?_)
      refine x_iast hC g5 dX6_readOne_58 hw (fun I2 hw => ?_)
      refine wm_aload_n hC 1 dX6_readOne_59 rfl (k_ne0 hk0 (by decide)) ?_
      refine x_getR2 hC 1 fl_X6_12 rfl hk0 dX6_readOne_60 hw (fun g7 hw => ?_)
      refine y_callV_v_I hC hRm noS ml_X6_89 g7 (C10_step g7 hw) (Nat.le_of_ble_eq_true rfl) (Nat.le_of_ble_eq_true rfl) ⟨Nat.zero_le _, Nat.zero_le _⟩ rfl (st := []) rfl (Nat.le_of_ble_eq_true rfl) dX6_readOne_63 (fun I3 hw => ?_)
      refine wm_iconst hC dX6_readOne_66 (k := ?_)
      refine wm_istore_n hC dX6_readOne_67 (by decide) (L2 := [(3, vi 0), (2, vi x1), (0, vr l0), (1, vi l1)]) rfl ?_
      obtain ⟨f, hw⟩ := hw
      refine wm_sub [2, 3, 1, 0] (L2 := [(0, vr l0), (1, vi l1), (2, vi x1), (3, vi 0)]) rfl ?_
      exact W6_readOne_b68 hC hRm hE hk0 f _ _ hw
    · refine wm_aload_n hC 0 dX6_readOne_22 rfl (k_ne0 hk0 (by decide)) ?_
      refine wm_iconst hC dX6_readOne_23 (k := ?_)
      refine y_callV_v_I hC hRm noS ml_X6_92 hk0 (C6_fail hk0 hw) (Nat.le_of_ble_eq_true rfl) (Nat.le_of_ble_eq_true rfl) ⟨Nat.zero_le _, Nat.zero_le _⟩ rfl (st := []) rfl (Nat.le_of_ble_eq_true rfl) dX6_readOne_24 (fun I4 hw => ?_)
      exact wm_return hC hE dX6_readOne_27 ⟨⟨rfl, rfl⟩, hw⟩
def P6_readWears (l0 : Nat) (I : mI) (R : mR) (Q : mI → Prop) : Prop := (P6_findNamed l0 2 I R (fun r1 I1 => (if r1 = (-1) then (Q I1) else (kK (R l0 1) = 10 ∧ (P10_step (R l0 1) I1 (fun I2 => (P6_findNamed l0 1 I2 R (fun r2 I3 => (if r2 = (-1) then (Q I3) else (kK (R l0 2) = 3 ∧ (kK (R (R l0 2) 4) = 21 ∧ (((0 : Int) ≤ r1 ∧ r1 < (kN (R (R l0 2) 4) : Int)) ∧ wLet (up I3 (R (R l0 2) 4) r1 r2) (fun I4 => (kK (R l0 1) = 10 ∧ (P10_step (R l0 1) I4 (fun I5 => (Q I5)))))))))))))))))
set_option maxRecDepth 20000 in
theorem C6_readWears {ad : Nat → Nat} {n : Nat} {I J : mI} {R : mR} {Q : mI → Prop}  {l0 : Nat} (hk0 : kK l0 = 6) (hw : P6_readWears l0 I R Q) : wMet yX6_readWears cX6_readWears 3 none 5 95 false ad n I J R [vr l0] (fun _ I' J' R' => (J' = J ∧ R' = R) ∧ Q I') := by
  refine wMet_of (by decide) (Nat.le_of_ble_eq_true rfl) (fun C hC hRm hE hS => ?_)
  refine (show WM C ad n I J R 0 0 0 [(0, vr l0)] [] from ?_)
  unfold P6_readWears at hw
  refine wm_aload_n hC 0 dX6_readWears_0 rfl (k_ne0 hk0 (by decide)) ?_
  refine wm_iconst hC dX6_readWears_1 (k := ?_)
  refine y_callV_i_I hC hRm noS ml_X6_159 hk0 (C6_findNamed hk0 hw) (Nat.le_of_ble_eq_true rfl) (Nat.le_of_ble_eq_true rfl) ⟨Nat.zero_le _, Nat.zero_le _⟩ rfl (st := []) rfl (Nat.le_of_ble_eq_true rfl) dX6_readWears_2 (fun r1 I1 hw => ?_)
  refine wm_istore_n hC dX6_readWears_5 (by decide) (L2 := [(1, vi r1), (0, vr l0)]) rfl ?_
  refine wm_iload_n hC 0 dX6_readWears_6 rfl ?_
  refine wm_iconst hC dX6_readWears_7 (k := ?_)
  refine wm_icmp_ne (tgt := 12) hC dX6_readWears_8 (by decide) hw (fun hw => ?_) (fun hw => ?_)
  · exact wm_return hC hE dX6_readWears_11 ⟨⟨rfl, rfl⟩, hw⟩
  · refine wm_aload_n hC 1 dX6_readWears_12 rfl (k_ne0 hk0 (by decide)) ?_
    refine x_getR2 hC 1 fl_X6_12 rfl hk0 dX6_readWears_13 hw (fun g1 hw => ?_)
    refine y_callV_v_I hC hRm noS ml_X6_89 g1 (C10_step g1 hw) (Nat.le_of_ble_eq_true rfl) (Nat.le_of_ble_eq_true rfl) ⟨Nat.zero_le _, Nat.zero_le _⟩ rfl (st := []) rfl (Nat.le_of_ble_eq_true rfl) dX6_readWears_16 (fun I2 hw => ?_)
    refine wm_aload_n hC 1 dX6_readWears_19 rfl (k_ne0 hk0 (by decide)) ?_
    refine wm_iconst hC dX6_readWears_20 (k := ?_)
    refine y_callV_i_I hC hRm noS ml_X6_159 hk0 (C6_findNamed hk0 hw) (Nat.le_of_ble_eq_true rfl) (Nat.le_of_ble_eq_true rfl) ⟨Nat.zero_le _, Nat.zero_le _⟩ rfl (st := []) rfl (Nat.le_of_ble_eq_true rfl) dX6_readWears_21 (fun r2 I3 hw => ?_)
    refine wm_istore_n hC dX6_readWears_24 (by decide) (L2 := [(2, vi r2), (1, vi r1), (0, vr l0)]) rfl ?_
    refine wm_iload_n hC 0 dX6_readWears_25 rfl ?_
    refine wm_iconst hC dX6_readWears_26 (k := ?_)
    refine wm_icmp_ne (tgt := 31) hC dX6_readWears_27 (by decide) hw (fun hw => ?_) (fun hw => ?_)
    · exact wm_return hC hE dX6_readWears_30 ⟨⟨rfl, rfl⟩, hw⟩
    · refine wm_aload_n hC 2 dX6_readWears_31 rfl (k_ne0 hk0 (by decide)) ?_
      refine x_getR2 hC 2 fl_X6_38 rfl hk0 dX6_readWears_32 hw (fun g2 hw => ?_)
      refine x_getR2 hC 4 fl_X6_171 rfl g2 dX6_readWears_35 hw (fun g3 hw => ?_)
      refine wm_iload_n hC 1 dX6_readWears_38 rfl ?_
      refine wm_iload_n hC 0 dX6_readWears_39 rfl ?_
      refine x_iast hC g3 dX6_readWears_40 hw (fun I4 hw => ?_)
      refine wm_aload_n hC 2 dX6_readWears_41 rfl (k_ne0 hk0 (by decide)) ?_
      refine x_getR2 hC 1 fl_X6_12 rfl hk0 dX6_readWears_42 hw (fun g4 hw => ?_)
      refine y_callV_v_I hC hRm noS ml_X6_89 g4 (C10_step g4 hw) (Nat.le_of_ble_eq_true rfl) (Nat.le_of_ble_eq_true rfl) ⟨Nat.zero_le _, Nat.zero_le _⟩ rfl (st := []) rfl (Nat.le_of_ble_eq_true rfl) dX6_readWears_45 (fun I5 hw => ?_)
      exact wm_return hC hE dX6_readWears_48 ⟨⟨rfl, rfl⟩, hw⟩
def P6_readStatement (l0 : Nat) (I : mI) (R : mR) (Q : mI → Prop) : Prop := (P6_ownHere l0 I R (fun r1 => (if (I l0 5) = 60 then (P6_fail l0 6 I R (fun I26 => (Q I26))) else (if r1 < 0 then (P6_fail l0 1 I R (fun I1 => (Q I1))) else (if r1 ≤ 10 then (P6_isFull l0 r1 I R (fun r2 => (if r2 = 0 then (rg ((I l0 5) + 1) ∧ (wLet (up I l0 5 ((I l0 5) + 1)) (fun I2 => (kK (R l0 1) = 10 ∧ (P10_step (R l0 1) I2 (fun I3 => (if r1 = 0 then (P6_readOne l0 r1 I3 R (fun I4 => (P6_expect l0 59 I4 R (fun I5 => (Q I5))))) else (if r1 = 1 then (P6_readOne l0 r1 I3 R (fun I6 => (P6_expect l0 59 I6 R (fun I7 => (Q I7))))) else (if r1 = 2 then (P6_readOne l0 r1 I3 R (fun I8 => (P6_expect l0 59 I8 R (fun I9 => (Q I9))))) else (if r1 = 3 then (P6_readLate l0 I3 R (fun I10 => (P6_expect l0 59 I10 R (fun I11 => (Q I11))))) else (if r1 = 4 then (P6_readNear l0 I3 R (fun I12 => (P6_expect l0 59 I12 R (fun I13 => (Q I13))))) else (if r1 = 5 then (P6_readWears l0 I3 R (fun I14 => (P6_expect l0 59 I14 R (fun I15 => (Q I15))))) else (if r1 = 6 then (kK (R l0 2) = 3 ∧ (P6_takeUpTo l0 999 I3 R (fun r3 I16 => (wLet (up I16 (R l0 2) 10 r3) (fun I17 => (P6_expect l0 59 I17 R (fun I18 => (Q I18)))))))) else (if r1 = 7 then (kK (R l0 2) = 3 ∧ (P6_takeUpTo l0 100 I3 R (fun r4 I19 => (wLet (up I19 (R l0 2) 11 r4) (fun I20 => (P6_expect l0 59 I20 R (fun I21 => (Q I21)))))))) else (rg (r1 - 8) ∧ (P6_readFormula l0 (r1 - 8) I3 R (fun I22 => (P6_expect l0 59 I22 R (fun I23 => (Q I23)))))))))))))))))))) else (P6_fail l0 6 I R (fun I24 => (Q I24)))))) else (P6_fail l0 1 I R (fun I25 => (Q I25))))))))
set_option maxRecDepth 20000 in
theorem C6_readStatement {ad : Nat → Nat} {n : Nat} {I J : mI} {R : mR} {Q : mI → Prop}  {l0 : Nat} (hk0 : kK l0 = 6) (hw : P6_readStatement l0 I R Q) : wMet yX6_readStatement cX6_readStatement 2 none 104 4243 false ad n I J R [vr l0] (fun _ I' J' R' => (J' = J ∧ R' = R) ∧ Q I') := by
  refine wMet_of (by decide) (Nat.le_of_ble_eq_true rfl) (fun C hC hRm hE hS => ?_)
  refine (show WM C ad n I J R 0 0 0 [(0, vr l0)] [] from ?_)
  unfold P6_readStatement at hw
  refine wm_aload_n hC 0 dX6_readStatement_0 rfl (k_ne0 hk0 (by decide)) ?_
  refine y_callV_i_n hC hRm noS ml_X6_96 hk0 (C6_ownHere hk0 hw) (Nat.le_of_ble_eq_true rfl) (Nat.le_of_ble_eq_true rfl) ⟨Nat.zero_le _, Nat.zero_le _⟩ rfl (st := []) rfl (Nat.le_of_ble_eq_true rfl) dX6_readStatement_1 (fun r1 hw => ?_)
  refine wm_istore_n hC dX6_readStatement_4 (by decide) (L2 := [(1, vi r1), (0, vr l0)]) rfl ?_
  refine wm_aload_n hC 1 dX6_readStatement_5 rfl (k_ne0 hk0 (by decide)) ?_
  refine x_getI hC 5 fl_X6_25 rfl hk0 dX6_readStatement_6 ?_
  refine wm_bipush hC dX6_readStatement_9 (k := ?_)
  refine wm_icmp_ne (tgt := 21) hC dX6_readStatement_11 (by decide) hw (fun hw => ?_) (fun hw => ?_)
  · refine wm_aload_n hC 1 dX6_readStatement_14 rfl (k_ne0 hk0 (by decide)) ?_
    refine wm_bipush hC dX6_readStatement_15 (k := ?_)
    refine y_callV_v_I hC hRm noS ml_X6_92 hk0 (C6_fail hk0 hw) (Nat.le_of_ble_eq_true rfl) (Nat.le_of_ble_eq_true rfl) ⟨Nat.zero_le _, Nat.zero_le _⟩ rfl (st := []) rfl (Nat.le_of_ble_eq_true rfl) dX6_readStatement_17 (fun I26 hw => ?_)
    exact wm_return hC hE dX6_readStatement_20 ⟨⟨rfl, rfl⟩, hw⟩
  · refine wm_iload_n hC 0 dX6_readStatement_21 rfl ?_
    refine wm_if_lt (tgt := 31) hC dX6_readStatement_22 (by decide) hw (fun hw => ?_) (fun hw => ?_)
    · refine wm_aload_n hC 1 dX6_readStatement_31 rfl (k_ne0 hk0 (by decide)) ?_
      refine wm_iconst hC dX6_readStatement_32 (k := ?_)
      refine y_callV_v_I hC hRm noS ml_X6_92 hk0 (C6_fail hk0 hw) (Nat.le_of_ble_eq_true rfl) (Nat.le_of_ble_eq_true rfl) ⟨Nat.zero_le _, Nat.zero_le _⟩ rfl (st := []) rfl (Nat.le_of_ble_eq_true rfl) dX6_readStatement_33 (fun I1 hw => ?_)
      exact wm_return hC hE dX6_readStatement_36 ⟨⟨rfl, rfl⟩, hw⟩
    · refine wm_iload_n hC 0 dX6_readStatement_25 rfl ?_
      refine wm_bipush hC dX6_readStatement_26 (k := ?_)
      refine wm_icmp_le (tgt := 37) hC dX6_readStatement_28 (by decide) hw (fun hw => ?_) (fun hw => ?_)
      · refine wm_aload_n hC 1 dX6_readStatement_37 rfl (k_ne0 hk0 (by decide)) ?_
        refine wm_iload_n hC 0 dX6_readStatement_38 rfl ?_
        refine y_callV_z_n hC hRm noS ml_X6_99 hk0 (C6_isFull hk0 hw) (Nat.le_of_ble_eq_true rfl) (Nat.le_of_ble_eq_true rfl) ⟨Nat.zero_le _, Nat.zero_le _⟩ rfl (st := []) rfl (Nat.le_of_ble_eq_true rfl) dX6_readStatement_39 (fun r2 hw => ?_)
        refine wm_if_eq (tgt := 52) hC dX6_readStatement_42 (by decide) hw (fun hw => ?_) (fun hw => ?_)
        · refine wm_aload_n hC 1 dX6_readStatement_52 rfl (k_ne0 hk0 (by decide)) ?_
          refine wm_dup hC dX6_readStatement_53 (k := ?_)
          refine x_getI hC 5 fl_X6_25 rfl hk0 dX6_readStatement_54 ?_
          refine wm_iconst hC dX6_readStatement_57 (k := ?_)
          refine x_iadd hC dX6_readStatement_58 hw (fun hw => ?_)
          refine x_putI hC 5 fl_X6_25 rfl hk0 dX6_readStatement_59 hw (fun I2 hw => ?_)
          refine wm_aload_n hC 1 dX6_readStatement_62 rfl (k_ne0 hk0 (by decide)) ?_
          refine x_getR2 hC 1 fl_X6_12 rfl hk0 dX6_readStatement_63 hw (fun g1 hw => ?_)
          refine y_callV_v_I hC hRm noS ml_X6_89 g1 (C10_step g1 hw) (Nat.le_of_ble_eq_true rfl) (Nat.le_of_ble_eq_true rfl) ⟨Nat.zero_le _, Nat.zero_le _⟩ rfl (st := []) rfl (Nat.le_of_ble_eq_true rfl) dX6_readStatement_66 (fun I3 hw => ?_)
          refine wm_iload_n hC 0 dX6_readStatement_69 rfl ?_
          by_cases hc1 : r1 = 0
          · rw [if_pos hc1] at hw
            refine wm_tableIn (v := 0) (tgt := 116) hC dX6_readStatement_70 hc1 (by decide) (by decide) rfl rfl ?_
            refine wm_aload_n hC 1 dX6_readStatement_116 rfl (k_ne0 hk0 (by decide)) ?_
            refine wm_iload_n hC 0 dX6_readStatement_117 rfl ?_
            refine y_callV_v_I hC hRm noS ml_X6_103 hk0 (C6_readOne hk0 hw) (Nat.le_of_ble_eq_true rfl) (Nat.le_of_ble_eq_true rfl) ⟨Nat.zero_le _, Nat.zero_le _⟩ rfl (st := []) rfl (Nat.le_of_ble_eq_true rfl) dX6_readStatement_118 (fun I4 hw => ?_)
            refine wm_goto (tgt := 186) hC dX6_readStatement_121 (by decide) ?_
            refine wm_aload_n hC 1 dX6_readStatement_186 rfl (k_ne0 hk0 (by decide)) ?_
            refine wm_bipush hC dX6_readStatement_187 (k := ?_)
            refine y_callV_v_I hC hRm noS ml_X6_128 hk0 (C6_expect hk0 hw) (Nat.le_of_ble_eq_true rfl) (Nat.le_of_ble_eq_true rfl) ⟨Nat.zero_le _, Nat.zero_le _⟩ rfl (st := []) rfl (Nat.le_of_ble_eq_true rfl) dX6_readStatement_189 (fun I5 hw => ?_)
            exact wm_return hC hE dX6_readStatement_192 ⟨⟨rfl, rfl⟩, hw⟩
          rw [if_neg hc1] at hw
          by_cases hc2 : r1 = 1
          · rw [if_pos hc2] at hw
            refine wm_tableIn (v := 1) (tgt := 116) hC dX6_readStatement_70 hc2 (by decide) (by decide) rfl rfl ?_
            refine wm_aload_n hC 1 dX6_readStatement_116 rfl (k_ne0 hk0 (by decide)) ?_
            refine wm_iload_n hC 0 dX6_readStatement_117 rfl ?_
            refine y_callV_v_I hC hRm noS ml_X6_103 hk0 (C6_readOne hk0 hw) (Nat.le_of_ble_eq_true rfl) (Nat.le_of_ble_eq_true rfl) ⟨Nat.zero_le _, Nat.zero_le _⟩ rfl (st := []) rfl (Nat.le_of_ble_eq_true rfl) dX6_readStatement_118 (fun I6 hw => ?_)
            refine wm_goto (tgt := 186) hC dX6_readStatement_121 (by decide) ?_
            refine wm_aload_n hC 1 dX6_readStatement_186 rfl (k_ne0 hk0 (by decide)) ?_
            refine wm_bipush hC dX6_readStatement_187 (k := ?_)
            refine y_callV_v_I hC hRm noS ml_X6_128 hk0 (C6_expect hk0 hw) (Nat.le_of_ble_eq_true rfl) (Nat.le_of_ble_eq_true rfl) ⟨Nat.zero_le _, Nat.zero_le _⟩ rfl (st := []) rfl (Nat.le_of_ble_eq_true rfl) dX6_readStatement_189 (fun I7 hw => ?_)
            exact wm_return hC hE dX6_readStatement_192 ⟨⟨rfl, rfl⟩, hw⟩
          rw [if_neg hc2] at hw
          by_cases hc3 : r1 = 2
          · rw [if_pos hc3] at hw
            refine wm_tableIn (v := 2) (tgt := 116) hC dX6_readStatement_70 hc3 (by decide) (by decide) rfl rfl ?_
            refine wm_aload_n hC 1 dX6_readStatement_116 rfl (k_ne0 hk0 (by decide)) ?_
            refine wm_iload_n hC 0 dX6_readStatement_117 rfl ?_
            refine y_callV_v_I hC hRm noS ml_X6_103 hk0 (C6_readOne hk0 hw) (Nat.le_of_ble_eq_true rfl) (Nat.le_of_ble_eq_true rfl) ⟨Nat.zero_le _, Nat.zero_le _⟩ rfl (st := []) rfl (Nat.le_of_ble_eq_true rfl) dX6_readStatement_118 (fun I8 hw => ?_)
            refine wm_goto (tgt := 186) hC dX6_readStatement_121 (by decide) ?_
            refine wm_aload_n hC 1 dX6_readStatement_186 rfl (k_ne0 hk0 (by decide)) ?_
            refine wm_bipush hC dX6_readStatement_187 (k := ?_)
            refine y_callV_v_I hC hRm noS ml_X6_128 hk0 (C6_expect hk0 hw) (Nat.le_of_ble_eq_true rfl) (Nat.le_of_ble_eq_true rfl) ⟨Nat.zero_le _, Nat.zero_le _⟩ rfl (st := []) rfl (Nat.le_of_ble_eq_true rfl) dX6_readStatement_189 (fun I9 hw => ?_)
            exact wm_return hC hE dX6_readStatement_192 ⟨⟨rfl, rfl⟩, hw⟩
          rw [if_neg hc3] at hw
          by_cases hc4 : r1 = 3
          · rw [if_pos hc4] at hw
            refine wm_tableIn (v := 3) (tgt := 124) hC dX6_readStatement_70 hc4 (by decide) (by decide) rfl rfl ?_
            refine wm_aload_n hC 1 dX6_readStatement_124 rfl (k_ne0 hk0 (by decide)) ?_
            refine y_callV_v_I hC hRm noS ml_X6_106 hk0 (C6_readLate hk0 hw) (Nat.le_of_ble_eq_true rfl) (Nat.le_of_ble_eq_true rfl) ⟨Nat.zero_le _, Nat.zero_le _⟩ rfl (st := []) rfl (Nat.le_of_ble_eq_true rfl) dX6_readStatement_125 (fun I10 hw => ?_)
            refine wm_goto (tgt := 186) hC dX6_readStatement_128 (by decide) ?_
            refine wm_aload_n hC 1 dX6_readStatement_186 rfl (k_ne0 hk0 (by decide)) ?_
            refine wm_bipush hC dX6_readStatement_187 (k := ?_)
            refine y_callV_v_I hC hRm noS ml_X6_128 hk0 (C6_expect hk0 hw) (Nat.le_of_ble_eq_true rfl) (Nat.le_of_ble_eq_true rfl) ⟨Nat.zero_le _, Nat.zero_le _⟩ rfl (st := []) rfl (Nat.le_of_ble_eq_true rfl) dX6_readStatement_189 (fun I11 hw => ?_)
            exact wm_return hC hE dX6_readStatement_192 ⟨⟨rfl, rfl⟩, hw⟩
          rw [if_neg hc4] at hw
          by_cases hc5 : r1 = 4
          · rw [if_pos hc5] at hw
            refine wm_tableIn (v := 4) (tgt := 131) hC dX6_readStatement_70 hc5 (by decide) (by decide) rfl rfl ?_
            refine wm_aload_n hC 1 dX6_readStatement_131 rfl (k_ne0 hk0 (by decide)) ?_
            refine y_callV_v_I hC hRm noS ml_X6_109 hk0 (C6_readNear hk0 hw) (Nat.le_of_ble_eq_true rfl) (Nat.le_of_ble_eq_true rfl) ⟨Nat.zero_le _, Nat.zero_le _⟩ rfl (st := []) rfl (Nat.le_of_ble_eq_true rfl) dX6_readStatement_132 (fun I12 hw => ?_)
            refine wm_goto (tgt := 186) hC dX6_readStatement_135 (by decide) ?_
            refine wm_aload_n hC 1 dX6_readStatement_186 rfl (k_ne0 hk0 (by decide)) ?_
            refine wm_bipush hC dX6_readStatement_187 (k := ?_)
            refine y_callV_v_I hC hRm noS ml_X6_128 hk0 (C6_expect hk0 hw) (Nat.le_of_ble_eq_true rfl) (Nat.le_of_ble_eq_true rfl) ⟨Nat.zero_le _, Nat.zero_le _⟩ rfl (st := []) rfl (Nat.le_of_ble_eq_true rfl) dX6_readStatement_189 (fun I13 hw => ?_)
            exact wm_return hC hE dX6_readStatement_192 ⟨⟨rfl, rfl⟩, hw⟩
          rw [if_neg hc5] at hw
          by_cases hc6 : r1 = 5
          · rw [if_pos hc6] at hw
            refine wm_tableIn (v := 5) (tgt := 138) hC dX6_readStatement_70 hc6 (by decide) (by decide) rfl rfl ?_
            refine wm_aload_n hC 1 dX6_readStatement_138 rfl (k_ne0 hk0 (by decide)) ?_
            refine y_callV_v_I hC hRm noS ml_X6_112 hk0 (C6_readWears hk0 hw) (Nat.le_of_ble_eq_true rfl) (Nat.le_of_ble_eq_true rfl) ⟨Nat.zero_le _, Nat.zero_le _⟩ rfl (st := []) rfl (Nat.le_of_ble_eq_true rfl) dX6_readStatement_139 (fun I14 hw => ?_)
            refine wm_goto (tgt := 186) hC dX6_readStatement_142 (by decide) ?_
            refine wm_aload_n hC 1 dX6_readStatement_186 rfl (k_ne0 hk0 (by decide)) ?_
            refine wm_bipush hC dX6_readStatement_187 (k := ?_)
            refine y_callV_v_I hC hRm noS ml_X6_128 hk0 (C6_expect hk0 hw) (Nat.le_of_ble_eq_true rfl) (Nat.le_of_ble_eq_true rfl) ⟨Nat.zero_le _, Nat.zero_le _⟩ rfl (st := []) rfl (Nat.le_of_ble_eq_true rfl) dX6_readStatement_189 (fun I15 hw => ?_)
            exact wm_return hC hE dX6_readStatement_192 ⟨⟨rfl, rfl⟩, hw⟩
          rw [if_neg hc6] at hw
          by_cases hc7 : r1 = 6
          · rw [if_pos hc7] at hw
            refine wm_tableIn (v := 6) (tgt := 145) hC dX6_readStatement_70 hc7 (by decide) (by decide) rfl rfl ?_
            refine wm_aload_n hC 1 dX6_readStatement_145 rfl (k_ne0 hk0 (by decide)) ?_
            refine x_getR2 hC 2 fl_X6_38 rfl hk0 dX6_readStatement_146 hw (fun g2 hw => ?_)
            refine wm_aload_n hC 1 dX6_readStatement_149 rfl (k_ne0 hk0 (by decide)) ?_
            refine wm_sipush hC dX6_readStatement_150 (k := ?_)
            refine y_callV_i_I hC hRm noS ml_X6_115 hk0 (C6_takeUpTo hk0 hw) (Nat.le_of_ble_eq_true rfl) (Nat.le_of_ble_eq_true rfl) ⟨Nat.zero_le _, Nat.zero_le _⟩ rfl (st := [vr (R l0 2)]) rfl (Nat.le_of_ble_eq_true rfl) dX6_readStatement_153 (fun r3 I16 hw => ?_)
            refine x_putI hC 10 fl_X6_119 rfl g2 dX6_readStatement_156 hw (fun I17 hw => ?_)
            refine wm_goto (tgt := 186) hC dX6_readStatement_159 (by decide) ?_
            refine wm_aload_n hC 1 dX6_readStatement_186 rfl (k_ne0 hk0 (by decide)) ?_
            refine wm_bipush hC dX6_readStatement_187 (k := ?_)
            refine y_callV_v_I hC hRm noS ml_X6_128 hk0 (C6_expect hk0 hw) (Nat.le_of_ble_eq_true rfl) (Nat.le_of_ble_eq_true rfl) ⟨Nat.zero_le _, Nat.zero_le _⟩ rfl (st := []) rfl (Nat.le_of_ble_eq_true rfl) dX6_readStatement_189 (fun I18 hw => ?_)
            exact wm_return hC hE dX6_readStatement_192 ⟨⟨rfl, rfl⟩, hw⟩
          rw [if_neg hc7] at hw
          by_cases hc8 : r1 = 7
          · rw [if_pos hc8] at hw
            refine wm_tableIn (v := 7) (tgt := 162) hC dX6_readStatement_70 hc8 (by decide) (by decide) rfl rfl ?_
            refine wm_aload_n hC 1 dX6_readStatement_162 rfl (k_ne0 hk0 (by decide)) ?_
            refine x_getR2 hC 2 fl_X6_38 rfl hk0 dX6_readStatement_163 hw (fun g3 hw => ?_)
            refine wm_aload_n hC 1 dX6_readStatement_166 rfl (k_ne0 hk0 (by decide)) ?_
            refine wm_bipush hC dX6_readStatement_167 (k := ?_)
            refine y_callV_i_I hC hRm noS ml_X6_115 hk0 (C6_takeUpTo hk0 hw) (Nat.le_of_ble_eq_true rfl) (Nat.le_of_ble_eq_true rfl) ⟨Nat.zero_le _, Nat.zero_le _⟩ rfl (st := [vr (R l0 2)]) rfl (Nat.le_of_ble_eq_true rfl) dX6_readStatement_169 (fun r4 I19 hw => ?_)
            refine x_putI hC 11 fl_X6_122 rfl g3 dX6_readStatement_172 hw (fun I20 hw => ?_)
            refine wm_goto (tgt := 186) hC dX6_readStatement_175 (by decide) ?_
            refine wm_aload_n hC 1 dX6_readStatement_186 rfl (k_ne0 hk0 (by decide)) ?_
            refine wm_bipush hC dX6_readStatement_187 (k := ?_)
            refine y_callV_v_I hC hRm noS ml_X6_128 hk0 (C6_expect hk0 hw) (Nat.le_of_ble_eq_true rfl) (Nat.le_of_ble_eq_true rfl) ⟨Nat.zero_le _, Nat.zero_le _⟩ rfl (st := []) rfl (Nat.le_of_ble_eq_true rfl) dX6_readStatement_189 (fun I21 hw => ?_)
            exact wm_return hC hE dX6_readStatement_192 ⟨⟨rfl, rfl⟩, hw⟩
          rw [if_neg hc8] at hw
          refine wm_tableOut (tgt := 178) hC dX6_readStatement_70 (by omega) rfl ?_
          refine wm_aload_n hC 1 dX6_readStatement_178 rfl (k_ne0 hk0 (by decide)) ?_
          refine wm_iload_n hC 0 dX6_readStatement_179 rfl ?_
          refine wm_bipush hC dX6_readStatement_180 (k := ?_)
          refine x_isub hC dX6_readStatement_182 hw (fun hw => ?_)
          refine y_callV_v_I hC hRm noS ml_X6_125 hk0 (C6_readFormula hk0 hw) (Nat.le_of_ble_eq_true rfl) (Nat.le_of_ble_eq_true rfl) ⟨Nat.zero_le _, Nat.zero_le _⟩ rfl (st := []) rfl (Nat.le_of_ble_eq_true rfl) dX6_readStatement_183 (fun I22 hw => ?_)
          refine wm_aload_n hC 1 dX6_readStatement_186 rfl (k_ne0 hk0 (by decide)) ?_
          refine wm_bipush hC dX6_readStatement_187 (k := ?_)
          refine y_callV_v_I hC hRm noS ml_X6_128 hk0 (C6_expect hk0 hw) (Nat.le_of_ble_eq_true rfl) (Nat.le_of_ble_eq_true rfl) ⟨Nat.zero_le _, Nat.zero_le _⟩ rfl (st := []) rfl (Nat.le_of_ble_eq_true rfl) dX6_readStatement_189 (fun I23 hw => ?_)
          exact wm_return hC hE dX6_readStatement_192 ⟨⟨rfl, rfl⟩, hw⟩
        · refine wm_aload_n hC 1 dX6_readStatement_45 rfl (k_ne0 hk0 (by decide)) ?_
          refine wm_bipush hC dX6_readStatement_46 (k := ?_)
          refine y_callV_v_I hC hRm noS ml_X6_92 hk0 (C6_fail hk0 hw) (Nat.le_of_ble_eq_true rfl) (Nat.le_of_ble_eq_true rfl) ⟨Nat.zero_le _, Nat.zero_le _⟩ rfl (st := []) rfl (Nat.le_of_ble_eq_true rfl) dX6_readStatement_48 (fun I24 hw => ?_)
          exact wm_return hC hE dX6_readStatement_51 ⟨⟨rfl, rfl⟩, hw⟩
      · refine wm_aload_n hC 1 dX6_readStatement_31 rfl (k_ne0 hk0 (by decide)) ?_
        refine wm_iconst hC dX6_readStatement_32 (k := ?_)
        refine y_callV_v_I hC hRm noS ml_X6_92 hk0 (C6_fail hk0 hw) (Nat.le_of_ble_eq_true rfl) (Nat.le_of_ble_eq_true rfl) ⟨Nat.zero_le _, Nat.zero_le _⟩ rfl (st := []) rfl (Nat.le_of_ble_eq_true rfl) dX6_readStatement_33 (fun I25 hw => ?_)
        exact wm_return hC hE dX6_readStatement_36 ⟨⟨rfl, rfl⟩, hw⟩
def P6_read_b45_body (l0 : Nat) (R : mR) (Q : Int → mI → mR → Prop) (k45 : Int → mI → Prop) (l2 : Int) (I : mI) : Prop := (if (60 : Int) < l2 then (Q (I l0 5) I R) else (if (I l0 6) = 0 then (kK (R l0 1) = 10 ∧ (P10_sortHere (R l0 1) I R (fun r1 => (if r1 = 0 then (Q (I l0 5) I R) else (P6_readStatement l0 I R (fun I7 => (rg (l2 + 1) ∧ (k45 (l2 + 1) I7)))))))) else (Q (I l0 5) I R)))
def P6_read_b45 (l0 : Nat) (R : mR) (Q : Int → mI → mR → Prop) : Nat → Int → mI → Prop
  | 0 => fun _ _ => False
  | f + 1 => fun l2 I => P6_read_b45_body l0 R Q (P6_read_b45 l0 R Q f) l2 I
set_option maxRecDepth 20000 in
theorem W6_read_b45_body {C : wX} {ad : Nat → Nat} {n : Nat} {I J : mI} {R : mR} {Q : Int → mI → mR → Prop} (hC : wOK C cX6_read 3 RX6) (hRm : wRm C 105 4264 0 0) (hE : wEnd C (some .int) ad n (fun r I' J' R' => (J' = J) ∧ Q r I' R')) (hStr : wStrC C ad) {l0 : Nat} {l2 : Int}   (hk0 : kK l0 = 6)  {k45 : Int → mI → Prop} (kk45 : ∀ (y2 : Int) (I' : mI), k45 y2 I' → WM C ad n I' J R 0 0 45 [(0, vr l0), (2, vi y2)] []) (hw : P6_read_b45_body l0 R Q k45 l2 I) : WM C ad n I J R 0 0 45 [(0, vr l0), (2, vi l2)] [] := by
  unfold P6_read_b45_body at hw
  refine wm_iload_n hC 1 dX6_read_45 rfl ?_
  refine wm_bipush hC dX6_read_46 (k := ?_)
  refine wm_icmp_gt (tgt := 78) hC dX6_read_48 (by decide) hw (fun hw => ?_) (fun hw => ?_)
  · refine wm_aload_n hC 0 dX6_read_78 rfl (k_ne0 hk0 (by decide)) ?_
    refine x_getI hC 5 fl_X6_25 rfl hk0 dX6_read_79 ?_
    exact wm_ireturn hC hE dX6_read_82 ⟨rfl, hw⟩
  · refine wm_aload_n hC 0 dX6_read_51 rfl (k_ne0 hk0 (by decide)) ?_
    refine x_getI hC 6 fl_X6_28 rfl hk0 dX6_read_52 ?_
    refine wm_if_ne (tgt := 78) hC dX6_read_55 (by decide) hw (fun hw => ?_) (fun hw => ?_)
    · refine wm_aload_n hC 0 dX6_read_58 rfl (k_ne0 hk0 (by decide)) ?_
      refine x_getR2 hC 1 fl_X6_12 rfl hk0 dX6_read_59 hw (fun g4 hw => ?_)
      refine y_callV_i_n hC hRm noS ml_X6_51 g4 (C10_sortHere g4 hw) (Nat.le_of_ble_eq_true rfl) (Nat.le_of_ble_eq_true rfl) ⟨Nat.zero_le _, Nat.zero_le _⟩ rfl (st := []) rfl (Nat.le_of_ble_eq_true rfl) dX6_read_62 (fun r1 hw => ?_)
      refine wm_if_eq (tgt := 78) hC dX6_read_65 (by decide) hw (fun hw => ?_) (fun hw => ?_)
      · refine wm_aload_n hC 0 dX6_read_78 rfl (k_ne0 hk0 (by decide)) ?_
        refine x_getI hC 5 fl_X6_25 rfl hk0 dX6_read_79 ?_
        exact wm_ireturn hC hE dX6_read_82 ⟨rfl, hw⟩
      · refine wm_aload_n hC 0 dX6_read_68 rfl (k_ne0 hk0 (by decide)) ?_
        refine y_callV_v_I hC hRm noS ml_X6_55 hk0 (C6_readStatement hk0 hw) (Nat.le_of_ble_eq_true rfl) (Nat.le_of_ble_eq_true rfl) ⟨Nat.zero_le _, Nat.zero_le _⟩ rfl (st := []) rfl (Nat.le_of_ble_eq_true rfl) dX6_read_69 (fun I7 hw => ?_)
        refine x_iinc hC 1 dX6_read_72 rfl (by decide) (L2 := [(2, vi (l2 + 1)), (0, vr l0)]) rfl hw (fun hw => ?_)
        refine wm_goto (tgt := 45) hC dX6_read_75 (by decide) ?_
        refine wm_sub [1, 0] (L2 := [(0, vr l0), (2, vi (l2 + 1))]) rfl ?_
        exact kk45 _ _ hw
    · refine wm_aload_n hC 0 dX6_read_78 rfl (k_ne0 hk0 (by decide)) ?_
      refine x_getI hC 5 fl_X6_25 rfl hk0 dX6_read_79 ?_
      exact wm_ireturn hC hE dX6_read_82 ⟨rfl, hw⟩
set_option maxRecDepth 20000 in
theorem W6_read_b45 {C : wX} {ad : Nat → Nat} {n : Nat} {J : mI} {R : mR} {Q : Int → mI → mR → Prop} (hC : wOK C cX6_read 3 RX6) (hRm : wRm C 105 4264 0 0) (hE : wEnd C (some .int) ad n (fun r I' J' R' => (J' = J) ∧ Q r I' R')) (hStr : wStrC C ad) {l0 : Nat}   (hk0 : kK l0 = 6)  : ∀ (f : Nat) (l2 : Int) (I : mI), P6_read_b45 l0 R Q f l2 I → WM C ad n I J R 0 0 45 [(0, vr l0), (2, vi l2)] [] := by
  intro f
  induction f with
  | zero => intro l2 I hw; exact hw.elim
  | succ f ih => intro l2 I hw; exact W6_read_b45_body hC hRm hE hStr hk0 (fun a0 a1 hw => ih a0 a1 hw) hw
def P6_read (l0 : Nat) (l1 : Nat) (I : mI) (R : mR) (Q : Int → mI → mR → Prop) : Prop := (wLet (up R l0 2 l1) (fun R1 => (kK (R1 l0 2) = 3 ∧ (P3_empty (R1 l0 2) I R1 (fun I1 => (wLet (up I1 l0 3 0) (fun I2 => (wLet (up I2 l0 5 0) (fun I3 => (wLet (up I3 l0 6 0) (fun I4 => (wLet (up I4 l0 7 (-1)) (fun I5 => (kK (R1 l0 1) = 10 ∧ (kK (R1 l0 0) = 9 ∧ (P10_cut (R1 l0 1) (R1 l0 0) I5 R1 (fun I6 => (∃ f, P6_read_b45 l0 R1 Q f 0 I6))))))))))))))))))
set_option maxRecDepth 20000 in
theorem C6_read {ad : Nat → Nat} {n : Nat} {I J : mI} {R : mR} {Q : Int → mI → mR → Prop}  {l0 : Nat} {l1 : Nat} (hk0 : kK l0 = 6) (hk1 : kK l1 = 3) (hw : P6_read l0 l1 I R Q) : wMet yX6_read cX6_read 3 (some .int) 105 4264 true ad n I J R [vr l0, vr l1] (fun r I' J' R' => (J' = J) ∧ Q r I' R') := by
  refine wMet_of (by decide) (Nat.le_of_ble_eq_true rfl) (fun C hC hRm hE hS => ?_)
  have hStr := hS rfl
  refine (show WM C ad n I J R 0 0 0 [(0, vr l0), (1, vr l1)] [] from ?_)
  unfold P6_read at hw
  refine wm_aload_n hC 0 dX6_read_0 rfl (k_ne0 hk0 (by decide)) ?_
  refine wm_aload_n hC 1 dX6_read_1 rfl (k_ne0 hk1 (by decide)) ?_
  refine x_putR hC 2 fl_X6_38 rfl hk0 (Or.inl ⟨_, rfl⟩) (k_lt hk1 (by decide)) dX6_read_2 hw (fun R1 hw => ?_)
  refine wm_aload_n hC 0 dX6_read_5 rfl (k_ne0 hk0 (by decide)) ?_
  refine x_getR2 hC 2 fl_X6_38 rfl hk0 dX6_read_6 hw (fun g1 hw => ?_)
  refine y_callV_v_I hC hRm noS ml_X6_42 g1 (C3_empty g1 hw) (Nat.le_of_ble_eq_true rfl) (Nat.le_of_ble_eq_true rfl) ⟨Nat.zero_le _, Nat.zero_le _⟩ rfl (st := []) rfl (Nat.le_of_ble_eq_true rfl) dX6_read_9 (fun I1 hw => ?_)
  refine wm_aload_n hC 0 dX6_read_12 rfl (k_ne0 hk0 (by decide)) ?_
  refine wm_iconst hC dX6_read_13 (k := ?_)
  refine x_putI hC 3 fl_X6_18 rfl hk0 dX6_read_14 hw (fun I2 hw => ?_)
  refine wm_aload_n hC 0 dX6_read_17 rfl (k_ne0 hk0 (by decide)) ?_
  refine wm_iconst hC dX6_read_18 (k := ?_)
  refine x_putI hC 5 fl_X6_25 rfl hk0 dX6_read_19 hw (fun I3 hw => ?_)
  refine wm_aload_n hC 0 dX6_read_22 rfl (k_ne0 hk0 (by decide)) ?_
  refine wm_iconst hC dX6_read_23 (k := ?_)
  refine x_putI hC 6 fl_X6_28 rfl hk0 dX6_read_24 hw (fun I4 hw => ?_)
  refine wm_aload_n hC 0 dX6_read_27 rfl (k_ne0 hk0 (by decide)) ?_
  refine wm_iconst hC dX6_read_28 (k := ?_)
  refine x_putI hC 7 fl_X6_31 rfl hk0 dX6_read_29 hw (fun I5 hw => ?_)
  refine wm_aload_n hC 0 dX6_read_32 rfl (k_ne0 hk0 (by decide)) ?_
  refine x_getR2 hC 1 fl_X6_12 rfl hk0 dX6_read_33 hw (fun g2 hw => ?_)
  refine wm_aload_n hC 0 dX6_read_36 rfl (k_ne0 hk0 (by decide)) ?_
  refine x_getR2 hC 0 fl_X6_34 rfl hk0 dX6_read_37 hw (fun g3 hw => ?_)
  refine y_callV_v_I hC hRm (fun _ => hStr) ml_X6_47 g2 (C10_cut g2 g3 hw) (Nat.le_of_ble_eq_true rfl) (Nat.le_of_ble_eq_true rfl) ⟨Nat.zero_le _, Nat.zero_le _⟩ rfl (st := []) rfl (Nat.le_of_ble_eq_true rfl) dX6_read_40 (fun I6 hw => ?_)
  refine wm_iconst hC dX6_read_43 (k := ?_)
  refine wm_istore_n hC dX6_read_44 (by decide) (L2 := [(2, vi 0), (0, vr l0), (1, vr l1)]) rfl ?_
  obtain ⟨f, hw⟩ := hw
  refine wm_sub [1, 0] (L2 := [(0, vr l0), (2, vi 0)]) rfl ?_
  exact W6_read_b45 hC hRm hE hStr hk0 f _ _ hw
def P7_begin_b20_body (l0 : Nat) (l1 : Nat) (R : mR) (Q : mI → Prop) (k20 : Int → mI → Prop) (l2 : Int) (I : mI) : Prop := (if (6 : Int) ≤ l2 then (Q I) else (kK (R l0 3) = 21 ∧ (((0 : Int) ≤ l2 ∧ l2 < (kN (R l0 3) : Int)) ∧ wLet (up I (R l0 3) l2 l2) (fun I4 => (kK (R l0 4) = 21 ∧ (((0 : Int) ≤ l2 ∧ l2 < (kN (R l0 4) : Int)) ∧ wLet (up I4 (R l0 4) l2 5) (fun I5 => (kK (R l0 5) = 21 ∧ (kK (R l1 4) = 21 ∧ (((0 : Int) ≤ l2 ∧ l2 < (kN (R l1 4) : Int)) ∧ (((0 : Int) ≤ l2 ∧ l2 < (kN (R l0 5) : Int)) ∧ wLet (up I5 (R l0 5) l2 (I5 (R l1 4) l2)) (fun I6 => (rg (l2 + 1) ∧ (k20 (l2 + 1) I6))))))))))))))
def P7_begin_b20 (l0 : Nat) (l1 : Nat) (R : mR) (Q : mI → Prop) : Nat → Int → mI → Prop
  | 0 => fun _ _ => False
  | f + 1 => fun l2 I => P7_begin_b20_body l0 l1 R Q (P7_begin_b20 l0 l1 R Q f) l2 I
set_option maxRecDepth 20000 in
theorem W7_begin_b20_body {C : wX} {ad : Nat → Nat} {n : Nat} {I J : mI} {R : mR} {Q : mI → Prop} (hC : wOK C cX7_begin 3 RX7) (hRm : wRm C 1 12 0 0) (hE : wEnd C none ad n (fun _ I' J' R' => (J' = J ∧ R' = R) ∧ Q I')) {l0 : Nat} {l1 : Nat} {l2 : Int}   (hk0 : kK l0 = 7) (hk1 : kK l1 = 3)  {k20 : Int → mI → Prop} (kk20 : ∀ (y2 : Int) (I' : mI), k20 y2 I' → WM C ad n I' J R 0 0 20 [(0, vr l0), (1, vr l1), (2, vi y2)] []) (hw : P7_begin_b20_body l0 l1 R Q k20 l2 I) : WM C ad n I J R 0 0 20 [(0, vr l0), (1, vr l1), (2, vi l2)] [] := by
  unfold P7_begin_b20_body at hw
  refine wm_iload_n hC 2 dX7_begin_20 rfl ?_
  refine wm_bipush hC dX7_begin_21 (k := ?_)
  refine wm_icmp_ge (tgt := 58) hC dX7_begin_23 (by decide) hw (fun hw => ?_) (fun hw => ?_)
  · exact wm_return hC hE dX7_begin_58 ⟨⟨rfl, rfl⟩, hw⟩
  · refine wm_aload_n hC 0 dX7_begin_26 rfl (k_ne0 hk0 (by decide)) ?_
    refine x_getR2 hC 3 fl_X7_21 rfl hk0 dX7_begin_27 hw (fun g1 hw => ?_)
    refine wm_iload_n hC 2 dX7_begin_30 rfl ?_
    refine wm_iload_n hC 2 dX7_begin_31 rfl ?_
    refine x_iast hC g1 dX7_begin_32 hw (fun I4 hw => ?_)
    refine wm_aload_n hC 0 dX7_begin_33 rfl (k_ne0 hk0 (by decide)) ?_
    refine x_getR2 hC 4 fl_X7_25 rfl hk0 dX7_begin_34 hw (fun g2 hw => ?_)
    refine wm_iload_n hC 2 dX7_begin_37 rfl ?_
    refine wm_iconst hC dX7_begin_38 (k := ?_)
    refine x_iast hC g2 dX7_begin_39 hw (fun I5 hw => ?_)
    refine wm_aload_n hC 0 dX7_begin_40 rfl (k_ne0 hk0 (by decide)) ?_
    refine x_getR2 hC 5 fl_X7_28 rfl hk0 dX7_begin_41 hw (fun g3 hw => ?_)
    refine wm_iload_n hC 2 dX7_begin_44 rfl ?_
    refine wm_aload_n hC 1 dX7_begin_45 rfl (k_ne0 hk1 (by decide)) ?_
    refine x_getR2 hC 4 fl_X7_39 rfl hk1 dX7_begin_46 hw (fun g4 hw => ?_)
    refine wm_iload_n hC 2 dX7_begin_49 rfl ?_
    refine x_iald hC g4 dX7_begin_50 hw (fun hw => ?_)
    refine x_iast hC g3 dX7_begin_51 hw (fun I6 hw => ?_)
    refine x_iinc hC 2 dX7_begin_52 rfl (by decide) (L2 := [(2, vi (l2 + 1)), (0, vr l0), (1, vr l1)]) rfl hw (fun hw => ?_)
    refine wm_goto (tgt := 20) hC dX7_begin_55 (by decide) ?_
    refine wm_sub [1, 2, 0] (L2 := [(0, vr l0), (1, vr l1), (2, vi (l2 + 1))]) rfl ?_
    exact kk20 _ _ hw
set_option maxRecDepth 20000 in
theorem W7_begin_b20 {C : wX} {ad : Nat → Nat} {n : Nat} {J : mI} {R : mR} {Q : mI → Prop} (hC : wOK C cX7_begin 3 RX7) (hRm : wRm C 1 12 0 0) (hE : wEnd C none ad n (fun _ I' J' R' => (J' = J ∧ R' = R) ∧ Q I')) {l0 : Nat} {l1 : Nat}   (hk0 : kK l0 = 7) (hk1 : kK l1 = 3)  : ∀ (f : Nat) (l2 : Int) (I : mI), P7_begin_b20 l0 l1 R Q f l2 I → WM C ad n I J R 0 0 20 [(0, vr l0), (1, vr l1), (2, vi l2)] [] := by
  intro f
  induction f with
  | zero => intro l2 I hw; exact hw.elim
  | succ f ih => intro l2 I hw; exact W7_begin_b20_body hC hRm hE hk0 hk1 (fun a0 a1 hw => ih a0 a1 hw) hw
def P7_begin (l0 : Nat) (l1 : Nat) (I : mI) (R : mR) (Q : mI → Prop) : Prop := (wLet (up I l0 0 0) (fun I1 => (wLet (up I1 l0 1 (I1 l1 10)) (fun I2 => (wLet (up I2 l0 2 0) (fun I3 => (∃ f, P7_begin_b20 l0 l1 R Q f 0 I3)))))))
set_option maxRecDepth 20000 in
theorem C7_begin {ad : Nat → Nat} {n : Nat} {I J : mI} {R : mR} {Q : mI → Prop}  {l0 : Nat} {l1 : Nat} (hk0 : kK l0 = 7) (hk1 : kK l1 = 3) (hw : P7_begin l0 l1 I R Q) : wMet yX7_begin cX7_begin 3 none 1 12 false ad n I J R [vr l0, vr l1] (fun _ I' J' R' => (J' = J ∧ R' = R) ∧ Q I') := by
  refine wMet_of (by decide) (Nat.le_of_ble_eq_true rfl) (fun C hC hRm hE hS => ?_)
  refine (show WM C ad n I J R 0 0 0 [(0, vr l0), (1, vr l1)] [] from ?_)
  unfold P7_begin at hw
  refine wm_aload_n hC 0 dX7_begin_0 rfl (k_ne0 hk0 (by decide)) ?_
  refine wm_iconst hC dX7_begin_1 (k := ?_)
  refine x_putI hC 0 fl_X7_9 rfl hk0 dX7_begin_2 hw (fun I1 hw => ?_)
  refine wm_aload_n hC 0 dX7_begin_5 rfl (k_ne0 hk0 (by decide)) ?_
  refine wm_aload_n hC 1 dX7_begin_6 rfl (k_ne0 hk1 (by decide)) ?_
  refine x_getI hC 10 fl_X7_34 rfl hk1 dX7_begin_7 ?_
  refine x_putI hC 1 fl_X7_15 rfl hk0 dX7_begin_10 hw (fun I2 hw => ?_)
  refine wm_aload_n hC 0 dX7_begin_13 rfl (k_ne0 hk0 (by decide)) ?_
  refine wm_iconst hC dX7_begin_14 (k := ?_)
  refine x_putI hC 2 fl_X7_18 rfl hk0 dX7_begin_15 hw (fun I3 hw => ?_)
  refine wm_iconst hC dX7_begin_18 (k := ?_)
  refine wm_istore_n hC dX7_begin_19 (by decide) (L2 := [(2, vi 0), (0, vr l0), (1, vr l1)]) rfl ?_
  obtain ⟨f, hw⟩ := hw
  refine wm_sub [1, 2, 0] (L2 := [(0, vr l0), (1, vr l1), (2, vi 0)]) rfl ?_
  exact W7_begin_b20 hC hRm hE hk0 hk1 f _ _ hw
def P7_placeOf_b2_body (l0 : Nat) (l1 : Int) (l2 : Int) (I : mI) (R : mR) (Q : Int → Prop) (k2 : Int → Prop) (l3 : Int) : Prop := (if l2 ≤ l3 then (Q (-1)) else (kK (R l0 3) = 21 ∧ (if (kN (R l0 3) : Int) ≤ l3 then (Q (-1)) else (kK (R l0 3) = 21 ∧ (((0 : Int) ≤ l3 ∧ l3 < (kN (R l0 3) : Int)) ∧ (if (I (R l0 3) l3) = l1 then (Q l3) else (rg (l3 + 1) ∧ (k2 (l3 + 1)))))))))
def P7_placeOf_b2 (l0 : Nat) (l1 : Int) (l2 : Int) (I : mI) (R : mR) (Q : Int → Prop) : Nat → Int → Prop
  | 0 => fun _ => False
  | f + 1 => fun l3 => P7_placeOf_b2_body l0 l1 l2 I R Q (P7_placeOf_b2 l0 l1 l2 I R Q f) l3
set_option maxRecDepth 20000 in
theorem W7_placeOf_b2_body {C : wX} {ad : Nat → Nat} {n : Nat} {I J : mI} {R : mR} {Q : Int → Prop} (hC : wOK C cX7_placeOf 4 RX7) (hRm : wRm C 1 12 0 0) (hE : wEnd C (some .int) ad n (fun r I' J' R' => (I' = I ∧ J' = J ∧ R' = R) ∧ Q r)) {l0 : Nat} {l1 : Int} {l2 : Int} {l3 : Int}   (hk0 : kK l0 = 7)  {k2 : Int → Prop} (kk2 : ∀ (y3 : Int), k2 y3 → WM C ad n I J R 0 0 2 [(0, vr l0), (1, vi l1), (2, vi l2), (3, vi y3)] []) (hw : P7_placeOf_b2_body l0 l1 l2 I R Q k2 l3) : WM C ad n I J R 0 0 2 [(0, vr l0), (1, vi l1), (2, vi l2), (3, vi l3)] [] := by
  unfold P7_placeOf_b2_body at hw
  refine wm_iload_n hC 3 dX7_placeOf_2 rfl ?_
  refine wm_iload_n hC 2 dX7_placeOf_3 rfl ?_
  refine wm_icmp_ge (tgt := 34) hC dX7_placeOf_4 (by decide) hw (fun hw => ?_) (fun hw => ?_)
  · refine wm_iconst hC dX7_placeOf_34 (k := ?_)
    exact wm_ireturn hC hE dX7_placeOf_35 ⟨⟨rfl, rfl, rfl⟩, hw⟩
  · refine wm_iload_n hC 3 dX7_placeOf_7 rfl ?_
    refine wm_aload_n hC 0 dX7_placeOf_8 rfl (k_ne0 hk0 (by decide)) ?_
    refine x_getR2 hC 3 fl_X7_21 rfl hk0 dX7_placeOf_9 hw (fun g1 hw => ?_)
    refine x_alen hC g1 (by decide) dX7_placeOf_12 ?_
    refine wm_icmp_ge (tgt := 34) hC dX7_placeOf_13 (by decide) hw (fun hw => ?_) (fun hw => ?_)
    · refine wm_iconst hC dX7_placeOf_34 (k := ?_)
      exact wm_ireturn hC hE dX7_placeOf_35 ⟨⟨rfl, rfl, rfl⟩, hw⟩
    · refine wm_aload_n hC 0 dX7_placeOf_16 rfl (k_ne0 hk0 (by decide)) ?_
      refine x_getR2 hC 3 fl_X7_21 rfl hk0 dX7_placeOf_17 hw (fun g2 hw => ?_)
      refine wm_iload_n hC 3 dX7_placeOf_20 rfl ?_
      refine x_iald hC g2 dX7_placeOf_21 hw (fun hw => ?_)
      refine wm_iload_n hC 1 dX7_placeOf_22 rfl ?_
      refine wm_icmp_ne (tgt := 28) hC dX7_placeOf_23 (by decide) hw (fun hw => ?_) (fun hw => ?_)
      · refine wm_iload_n hC 3 dX7_placeOf_26 rfl ?_
        exact wm_ireturn hC hE dX7_placeOf_27 ⟨⟨rfl, rfl, rfl⟩, hw⟩
      · refine x_iinc hC 3 dX7_placeOf_28 rfl (by decide) (L2 := [(3, vi (l3 + 1)), (0, vr l0), (1, vi l1), (2, vi l2)]) rfl hw (fun hw => ?_)
        refine wm_goto (tgt := 2) hC dX7_placeOf_31 (by decide) ?_
        refine wm_sub [1, 2, 3, 0] (L2 := [(0, vr l0), (1, vi l1), (2, vi l2), (3, vi (l3 + 1))]) rfl ?_
        exact kk2 _ hw
set_option maxRecDepth 20000 in
theorem W7_placeOf_b2 {C : wX} {ad : Nat → Nat} {n : Nat} {I J : mI} {R : mR} {Q : Int → Prop} (hC : wOK C cX7_placeOf 4 RX7) (hRm : wRm C 1 12 0 0) (hE : wEnd C (some .int) ad n (fun r I' J' R' => (I' = I ∧ J' = J ∧ R' = R) ∧ Q r)) {l0 : Nat} {l1 : Int} {l2 : Int}   (hk0 : kK l0 = 7)  : ∀ (f : Nat) (l3 : Int), P7_placeOf_b2 l0 l1 l2 I R Q f l3 → WM C ad n I J R 0 0 2 [(0, vr l0), (1, vi l1), (2, vi l2), (3, vi l3)] [] := by
  intro f
  induction f with
  | zero => intro l3 hw; exact hw.elim
  | succ f ih => intro l3 hw; exact W7_placeOf_b2_body hC hRm hE hk0 (fun a0 hw => ih a0 hw) hw
def P7_placeOf (l0 : Nat) (l1 : Int) (l2 : Int) (I : mI) (R : mR) (Q : Int → Prop) : Prop := (∃ f, P7_placeOf_b2 l0 l1 l2 I R Q f 0)
set_option maxRecDepth 20000 in
theorem C7_placeOf {ad : Nat → Nat} {n : Nat} {I J : mI} {R : mR} {Q : Int → Prop}  {l0 : Nat} {l1 : Int} {l2 : Int} (hk0 : kK l0 = 7) (hw : P7_placeOf l0 l1 l2 I R Q) : wMet yX7_placeOf cX7_placeOf 4 (some .int) 1 12 false ad n I J R [vr l0, vi l1, vi l2] (fun r I' J' R' => (I' = I ∧ J' = J ∧ R' = R) ∧ Q r) := by
  refine wMet_of (by decide) (Nat.le_of_ble_eq_true rfl) (fun C hC hRm hE hS => ?_)
  refine (show WM C ad n I J R 0 0 0 [(0, vr l0), (1, vi l1), (2, vi l2)] [] from ?_)
  unfold P7_placeOf at hw
  refine wm_iconst hC dX7_placeOf_0 (k := ?_)
  refine wm_istore_n hC dX7_placeOf_1 (by decide) (L2 := [(3, vi 0), (0, vr l0), (1, vi l1), (2, vi l2)]) rfl ?_
  obtain ⟨f, hw⟩ := hw
  refine wm_sub [1, 2, 3, 0] (L2 := [(0, vr l0), (1, vi l1), (2, vi l2), (3, vi 0)]) rfl ?_
  exact W7_placeOf_b2 hC hRm hE hk0 f _ hw
def P7_keptOf (l0 : Nat) (l1 : Int) (l2 : Int) (I : mI) (R : mR) (Q : Int → Prop) : Prop := (if l1 < 0 then (Q (-1)) else (if (I l0 2) ≤ l1 then (Q (-1)) else (if l2 < 0 then (Q (-1)) else (if l2 ≤ 2 then (kK (R l0 6) = 21 ∧ (rg (3 * l1) ∧ (rg ((3 * l1) + l2) ∧ (((0 : Int) ≤ ((3 * l1) + l2) ∧ ((3 * l1) + l2) < (kN (R l0 6) : Int)) ∧ (Q (I (R l0 6) ((3 * l1) + l2))))))) else (Q (-1))))))
set_option maxRecDepth 20000 in
theorem C7_keptOf {ad : Nat → Nat} {n : Nat} {I J : mI} {R : mR} {Q : Int → Prop}  {l0 : Nat} {l1 : Int} {l2 : Int} (hk0 : kK l0 = 7) (hw : P7_keptOf l0 l1 l2 I R Q) : wMet yX7_keptOf cX7_keptOf 3 (some .int) 1 12 false ad n I J R [vr l0, vi l1, vi l2] (fun r I' J' R' => (I' = I ∧ J' = J ∧ R' = R) ∧ Q r) := by
  refine wMet_of (by decide) (Nat.le_of_ble_eq_true rfl) (fun C hC hRm hE hS => ?_)
  refine (show WM C ad n I J R 0 0 0 [(0, vr l0), (1, vi l1), (2, vi l2)] [] from ?_)
  unfold P7_keptOf at hw
  refine wm_iload_n hC 1 dX7_keptOf_0 rfl ?_
  refine wm_if_lt (tgt := 21) hC dX7_keptOf_1 (by decide) hw (fun hw => ?_) (fun hw => ?_)
  · refine wm_iconst hC dX7_keptOf_21 (k := ?_)
    exact wm_ireturn hC hE dX7_keptOf_22 ⟨⟨rfl, rfl, rfl⟩, hw⟩
  · refine wm_iload_n hC 1 dX7_keptOf_4 rfl ?_
    refine wm_aload_n hC 0 dX7_keptOf_5 rfl (k_ne0 hk0 (by decide)) ?_
    refine x_getI hC 2 fl_X7_18 rfl hk0 dX7_keptOf_6 ?_
    refine wm_icmp_ge (tgt := 21) hC dX7_keptOf_9 (by decide) hw (fun hw => ?_) (fun hw => ?_)
    · refine wm_iconst hC dX7_keptOf_21 (k := ?_)
      exact wm_ireturn hC hE dX7_keptOf_22 ⟨⟨rfl, rfl, rfl⟩, hw⟩
    · refine wm_iload_n hC 2 dX7_keptOf_12 rfl ?_
      refine wm_if_lt (tgt := 21) hC dX7_keptOf_13 (by decide) hw (fun hw => ?_) (fun hw => ?_)
      · refine wm_iconst hC dX7_keptOf_21 (k := ?_)
        exact wm_ireturn hC hE dX7_keptOf_22 ⟨⟨rfl, rfl, rfl⟩, hw⟩
      · refine wm_iload_n hC 2 dX7_keptOf_16 rfl ?_
        refine wm_iconst hC dX7_keptOf_17 (k := ?_)
        refine wm_icmp_le (tgt := 23) hC dX7_keptOf_18 (by decide) hw (fun hw => ?_) (fun hw => ?_)
        · refine wm_aload_n hC 0 dX7_keptOf_23 rfl (k_ne0 hk0 (by decide)) ?_
          refine x_getR2 hC 6 fl_X7_31 rfl hk0 dX7_keptOf_24 hw (fun g1 hw => ?_)
          refine wm_iconst hC dX7_keptOf_27 (k := ?_)
          refine wm_iload_n hC 1 dX7_keptOf_28 rfl ?_
          refine x_imul hC dX7_keptOf_29 hw (fun hw => ?_)
          refine wm_iload_n hC 2 dX7_keptOf_30 rfl ?_
          refine x_iadd hC dX7_keptOf_31 hw (fun hw => ?_)
          refine x_iald hC g1 dX7_keptOf_32 hw (fun hw => ?_)
          exact wm_ireturn hC hE dX7_keptOf_33 ⟨⟨rfl, rfl, rfl⟩, hw⟩
        · refine wm_iconst hC dX7_keptOf_21 (k := ?_)
          exact wm_ireturn hC hE dX7_keptOf_22 ⟨⟨rfl, rfl, rfl⟩, hw⟩
def P9_addNumber_b18_body (l0 : Nat) (l1 : Int) (R : mR) (Q : mI → Prop) (k18 : Int → mI → Prop) (l2 : Int) (I : mI) : Prop := (if l2 < 0 then (Q I) else (kK (R l0 0) = 20 ∧ (((0 : Int) ≤ (I l0 1) ∧ (I l0 1) < (kN (R l0 0) : Int)) ∧ wLet (up I (R l0 0) (I l0 1) (nB (bShr l1 l2))) (fun I1 => (rg ((I1 l0 1) + 1) ∧ (wLet (up I1 l0 1 ((I1 l0 1) + 1)) (fun I2 => (rg (l2 + (-8)) ∧ (k18 (l2 + (-8)) I2)))))))))
def P9_addNumber_b18 (l0 : Nat) (l1 : Int) (R : mR) (Q : mI → Prop) : Nat → Int → mI → Prop
  | 0 => fun _ _ => False
  | f + 1 => fun l2 I => P9_addNumber_b18_body l0 l1 R Q (P9_addNumber_b18 l0 l1 R Q f) l2 I
set_option maxRecDepth 20000 in
theorem W9_addNumber_b18_body {C : wX} {ad : Nat → Nat} {n : Nat} {I J : mI} {R : mR} {Q : mI → Prop} (hC : wOK C cX9_addNumber 3 RX9) (hRm : wRm C 1 12 0 0) (hE : wEnd C none ad n (fun _ I' J' R' => (J' = J ∧ R' = R) ∧ Q I')) {l0 : Nat} {l1 : Int} {l2 : Int}   (hk0 : kK l0 = 9)  {k18 : Int → mI → Prop} (kk18 : ∀ (y2 : Int) (I' : mI), k18 y2 I' → WM C ad n I' J R 0 0 18 [(0, vr l0), (1, vi l1), (2, vi y2)] []) (hw : P9_addNumber_b18_body l0 l1 R Q k18 l2 I) : WM C ad n I J R 0 0 18 [(0, vr l0), (1, vi l1), (2, vi l2)] [] := by
  unfold P9_addNumber_b18_body at hw
  refine wm_iload_n hC 2 dX9_addNumber_18 rfl ?_
  refine wm_if_lt (tgt := 51) hC dX9_addNumber_19 (by decide) hw (fun hw => ?_) (fun hw => ?_)
  · exact wm_return hC hE dX9_addNumber_51 ⟨⟨rfl, rfl⟩, hw⟩
  · refine wm_aload_n hC 0 dX9_addNumber_22 rfl (k_ne0 hk0 (by decide)) ?_
    refine x_getR2 hC 0 fl_X9_9 rfl hk0 dX9_addNumber_23 hw (fun g2 hw => ?_)
    refine wm_aload_n hC 0 dX9_addNumber_26 rfl (k_ne0 hk0 (by decide)) ?_
    refine x_getI hC 1 fl_X9_15 rfl hk0 dX9_addNumber_27 ?_
    refine wm_iload_n hC 1 dX9_addNumber_30 rfl ?_
    refine wm_iload_n hC 2 dX9_addNumber_31 rfl ?_
    refine wm_ishr hC dX9_addNumber_32 ?_
    refine wm_i2b hC dX9_addNumber_33 ?_
    refine x_bast hC g2 (nB_lo _) (nB_hi _) dX9_addNumber_34 hw (fun I1 hw => ?_)
    refine wm_aload_n hC 0 dX9_addNumber_35 rfl (k_ne0 hk0 (by decide)) ?_
    refine wm_dup hC dX9_addNumber_36 (k := ?_)
    refine x_getI hC 1 fl_X9_15 rfl hk0 dX9_addNumber_37 ?_
    refine wm_iconst hC dX9_addNumber_40 (k := ?_)
    refine x_iadd hC dX9_addNumber_41 hw (fun hw => ?_)
    refine x_putI hC 1 fl_X9_15 rfl hk0 dX9_addNumber_42 hw (fun I2 hw => ?_)
    refine x_iinc hC 2 dX9_addNumber_45 rfl (by decide) (L2 := [(2, vi (l2 + (-8))), (0, vr l0), (1, vi l1)]) rfl hw (fun hw => ?_)
    refine wm_goto (tgt := 18) hC dX9_addNumber_48 (by decide) ?_
    refine wm_sub [1, 2, 0] (L2 := [(0, vr l0), (1, vi l1), (2, vi (l2 + (-8)))]) rfl ?_
    exact kk18 _ _ hw
set_option maxRecDepth 20000 in
theorem W9_addNumber_b18 {C : wX} {ad : Nat → Nat} {n : Nat} {J : mI} {R : mR} {Q : mI → Prop} (hC : wOK C cX9_addNumber 3 RX9) (hRm : wRm C 1 12 0 0) (hE : wEnd C none ad n (fun _ I' J' R' => (J' = J ∧ R' = R) ∧ Q I')) {l0 : Nat} {l1 : Int}   (hk0 : kK l0 = 9)  : ∀ (f : Nat) (l2 : Int) (I : mI), P9_addNumber_b18 l0 l1 R Q f l2 I → WM C ad n I J R 0 0 18 [(0, vr l0), (1, vi l1), (2, vi l2)] [] := by
  intro f
  induction f with
  | zero => intro l2 I hw; exact hw.elim
  | succ f ih => intro l2 I hw; exact W9_addNumber_b18_body hC hRm hE hk0 (fun a0 a1 hw => ih a0 a1 hw) hw
def P9_addNumber (l0 : Nat) (l1 : Int) (I : mI) (R : mR) (Q : mI → Prop) : Prop := (rg ((I l0 1) + 4) ∧ (kK (R l0 0) = 20 ∧ (if ((I l0 1) + 4) ≤ (kN (R l0 0) : Int) then (∃ f, P9_addNumber_b18 l0 l1 R Q f 24 I) else (Q I))))
set_option maxRecDepth 20000 in
theorem C9_addNumber {ad : Nat → Nat} {n : Nat} {I J : mI} {R : mR} {Q : mI → Prop}  {l0 : Nat} {l1 : Int} (hk0 : kK l0 = 9) (hw : P9_addNumber l0 l1 I R Q) : wMet yX9_addNumber cX9_addNumber 3 none 1 12 false ad n I J R [vr l0, vi l1] (fun _ I' J' R' => (J' = J ∧ R' = R) ∧ Q I') := by
  refine wMet_of (by decide) (Nat.le_of_ble_eq_true rfl) (fun C hC hRm hE hS => ?_)
  refine (show WM C ad n I J R 0 0 0 [(0, vr l0), (1, vi l1)] [] from ?_)
  unfold P9_addNumber at hw
  refine wm_aload_n hC 0 dX9_addNumber_0 rfl (k_ne0 hk0 (by decide)) ?_
  refine x_getI hC 1 fl_X9_15 rfl hk0 dX9_addNumber_1 ?_
  refine wm_iconst hC dX9_addNumber_4 (k := ?_)
  refine x_iadd hC dX9_addNumber_5 hw (fun hw => ?_)
  refine wm_aload_n hC 0 dX9_addNumber_6 rfl (k_ne0 hk0 (by decide)) ?_
  refine x_getR2 hC 0 fl_X9_9 rfl hk0 dX9_addNumber_7 hw (fun g1 hw => ?_)
  refine x_alen hC g1 (by decide) dX9_addNumber_10 ?_
  refine wm_icmp_le (tgt := 15) hC dX9_addNumber_11 (by decide) hw (fun hw => ?_) (fun hw => ?_)
  · refine wm_bipush hC dX9_addNumber_15 (k := ?_)
    refine wm_istore_n hC dX9_addNumber_17 (by decide) (L2 := [(2, vi 24), (0, vr l0), (1, vi l1)]) rfl ?_
    obtain ⟨f, hw⟩ := hw
    refine wm_sub [1, 2, 0] (L2 := [(0, vr l0), (1, vi l1), (2, vi 24)]) rfl ?_
    exact W9_addNumber_b18 hC hRm hE hk0 f _ _ hw
  · exact wm_return hC hE dX9_addNumber_14 ⟨⟨rfl, rfl⟩, hw⟩
def P11_refuse (l0 : Nat) (l1 : Int) (I : mI) (R : mR) (Q : Int → mI → Prop) : Prop := (if l1 < 0 then (Q (-1) I) else (kK (R l0 7) = 21 ∧ (if (kN (R l0 7) : Int) ≤ l1 then (Q (-1) I) else (kK (R l0 7) = 21 ∧ (((0 : Int) ≤ l1 ∧ l1 < (kN (R l0 7) : Int)) ∧ (rg ((I (R l0 7) l1) + 1) ∧ (((0 : Int) ≤ l1 ∧ l1 < (kN (R l0 7) : Int)) ∧ wLet (up I (R l0 7) l1 ((I (R l0 7) l1) + 1)) (fun I1 => (Q (-1) I1)))))))))
set_option maxRecDepth 20000 in
theorem C11_refuse {ad : Nat → Nat} {n : Nat} {I J : mI} {R : mR} {Q : Int → mI → Prop}  {l0 : Nat} {l1 : Int} (hk0 : kK l0 = 11) (hw : P11_refuse l0 l1 I R Q) : wMet yX11_refuse cX11_refuse 2 (some .int) 1 12 false ad n I J R [vr l0, vi l1] (fun r I' J' R' => (J' = J ∧ R' = R) ∧ Q r I') := by
  refine wMet_of (by decide) (Nat.le_of_ble_eq_true rfl) (fun C hC hRm hE hS => ?_)
  refine (show WM C ad n I J R 0 0 0 [(0, vr l0), (1, vi l1)] [] from ?_)
  unfold P11_refuse at hw
  refine wm_iload_n hC 1 dX11_refuse_0 rfl ?_
  refine wm_if_lt (tgt := 23) hC dX11_refuse_1 (by decide) hw (fun hw => ?_) (fun hw => ?_)
  · refine wm_iconst hC dX11_refuse_23 (k := ?_)
    exact wm_ireturn hC hE dX11_refuse_24 ⟨⟨rfl, rfl⟩, hw⟩
  · refine wm_iload_n hC 1 dX11_refuse_4 rfl ?_
    refine wm_aload_n hC 0 dX11_refuse_5 rfl (k_ne0 hk0 (by decide)) ?_
    refine x_getR2 hC 7 fl_X11_51 rfl hk0 dX11_refuse_6 hw (fun g1 hw => ?_)
    refine x_alen hC g1 (by decide) dX11_refuse_9 ?_
    refine wm_icmp_ge (tgt := 23) hC dX11_refuse_10 (by decide) hw (fun hw => ?_) (fun hw => ?_)
    · refine wm_iconst hC dX11_refuse_23 (k := ?_)
      exact wm_ireturn hC hE dX11_refuse_24 ⟨⟨rfl, rfl⟩, hw⟩
    · refine wm_aload_n hC 0 dX11_refuse_13 rfl (k_ne0 hk0 (by decide)) ?_
      refine x_getR2 hC 7 fl_X11_51 rfl hk0 dX11_refuse_14 hw (fun g2 hw => ?_)
      refine wm_iload_n hC 1 dX11_refuse_17 rfl ?_
      refine wm_dup2_11 hC dX11_refuse_18 (k := ?_)
      refine x_iald hC g2 dX11_refuse_19 hw (fun hw => ?_)
      refine wm_iconst hC dX11_refuse_20 (k := ?_)
      refine x_iadd hC dX11_refuse_21 hw (fun hw => ?_)
      refine x_iast hC g2 dX11_refuse_22 hw (fun I1 hw => ?_)
      refine wm_iconst hC dX11_refuse_23 (k := ?_)
      exact wm_ireturn hC hE dX11_refuse_24 ⟨⟨rfl, rfl⟩, hw⟩
def P11_feed (l0 : Nat) (l1 : Int) (l2 : Int) (l3 : Int) (l4 : Int) (l5 : Int) (I : mI) (R : mR) (Q : Int → mI → Prop) : Prop := (kK (R l0 0) = 9 ∧ (rg ((I (R l0 0) 1) + 20) ∧ (if ((I (R l0 0) 1) + 20) ≤ 1600 then (kK (R l0 0) = 9 ∧ (P9_addNumber (R l0 0) l1 I R (fun I1 => (kK (R l0 0) = 9 ∧ (P9_addNumber (R l0 0) l2 I1 R (fun I2 => (kK (R l0 0) = 9 ∧ (P9_addNumber (R l0 0) l3 I2 R (fun I3 => (kK (R l0 0) = 9 ∧ (P9_addNumber (R l0 0) l4 I3 R (fun I4 => (kK (R l0 0) = 9 ∧ (P9_addNumber (R l0 0) l5 I4 R (fun I5 => (kK (R l0 0) = 9 ∧ (Q (I5 (R l0 0) 1) I5))))))))))))))))) else (P11_refuse l0 0 I R (fun r1 I6 => (Q r1 I6))))))
set_option maxRecDepth 20000 in
theorem C11_feed {ad : Nat → Nat} {n : Nat} {I J : mI} {R : mR} {Q : Int → mI → Prop}  {l0 : Nat} {l1 : Int} {l2 : Int} {l3 : Int} {l4 : Int} {l5 : Int} (hk0 : kK l0 = 11) (hw : P11_feed l0 l1 l2 l3 l4 l5 I R Q) : wMet yX11_feed cX11_feed 6 (some .int) 2 34 false ad n I J R [vr l0, vi l1, vi l2, vi l3, vi l4, vi l5] (fun r I' J' R' => (J' = J ∧ R' = R) ∧ Q r I') := by
  refine wMet_of (by decide) (Nat.le_of_ble_eq_true rfl) (fun C hC hRm hE hS => ?_)
  refine (show WM C ad n I J R 0 0 0 [(0, vr l0), (1, vi l1), (2, vi l2), (3, vi l3), (4, vi l4), (5, vi l5)] [] from ?_)
  unfold P11_feed at hw
  refine wm_aload_n hC 0 dX11_feed_0 rfl (k_ne0 hk0 (by decide)) ?_
  refine x_getR2 hC 0 fl_X11_10 rfl hk0 dX11_feed_1 hw (fun g1 hw => ?_)
  refine x_getI hC 1 fl_X11_114 rfl g1 dX11_feed_4 ?_
  refine wm_bipush hC dX11_feed_7 (k := ?_)
  refine x_iadd hC dX11_feed_9 hw (fun hw => ?_)
  refine wm_sipush hC dX11_feed_10 (k := ?_)
  refine wm_icmp_le (tgt := 22) hC dX11_feed_13 (by decide) hw (fun hw => ?_) (fun hw => ?_)
  · refine wm_aload_n hC 0 dX11_feed_22 rfl (k_ne0 hk0 (by decide)) ?_
    refine x_getR2 hC 0 fl_X11_10 rfl hk0 dX11_feed_23 hw (fun g2 hw => ?_)
    refine wm_iload_n hC 1 dX11_feed_26 rfl ?_
    refine y_callV_v_I hC hRm noS ml_X11_121 g2 (C9_addNumber g2 hw) (Nat.le_of_ble_eq_true rfl) (Nat.le_of_ble_eq_true rfl) ⟨Nat.zero_le _, Nat.zero_le _⟩ rfl (st := []) rfl (Nat.le_of_ble_eq_true rfl) dX11_feed_27 (fun I1 hw => ?_)
    refine wm_aload_n hC 0 dX11_feed_30 rfl (k_ne0 hk0 (by decide)) ?_
    refine x_getR2 hC 0 fl_X11_10 rfl hk0 dX11_feed_31 hw (fun g3 hw => ?_)
    refine wm_iload_n hC 2 dX11_feed_34 rfl ?_
    refine y_callV_v_I hC hRm noS ml_X11_121 g3 (C9_addNumber g3 hw) (Nat.le_of_ble_eq_true rfl) (Nat.le_of_ble_eq_true rfl) ⟨Nat.zero_le _, Nat.zero_le _⟩ rfl (st := []) rfl (Nat.le_of_ble_eq_true rfl) dX11_feed_35 (fun I2 hw => ?_)
    refine wm_aload_n hC 0 dX11_feed_38 rfl (k_ne0 hk0 (by decide)) ?_
    refine x_getR2 hC 0 fl_X11_10 rfl hk0 dX11_feed_39 hw (fun g4 hw => ?_)
    refine wm_iload_n hC 3 dX11_feed_42 rfl ?_
    refine y_callV_v_I hC hRm noS ml_X11_121 g4 (C9_addNumber g4 hw) (Nat.le_of_ble_eq_true rfl) (Nat.le_of_ble_eq_true rfl) ⟨Nat.zero_le _, Nat.zero_le _⟩ rfl (st := []) rfl (Nat.le_of_ble_eq_true rfl) dX11_feed_43 (fun I3 hw => ?_)
    refine wm_aload_n hC 0 dX11_feed_46 rfl (k_ne0 hk0 (by decide)) ?_
    refine x_getR2 hC 0 fl_X11_10 rfl hk0 dX11_feed_47 hw (fun g5 hw => ?_)
    refine wm_iload hC 4 dX11_feed_50 rfl ?_
    refine y_callV_v_I hC hRm noS ml_X11_121 g5 (C9_addNumber g5 hw) (Nat.le_of_ble_eq_true rfl) (Nat.le_of_ble_eq_true rfl) ⟨Nat.zero_le _, Nat.zero_le _⟩ rfl (st := []) rfl (Nat.le_of_ble_eq_true rfl) dX11_feed_52 (fun I4 hw => ?_)
    refine wm_aload_n hC 0 dX11_feed_55 rfl (k_ne0 hk0 (by decide)) ?_
    refine x_getR2 hC 0 fl_X11_10 rfl hk0 dX11_feed_56 hw (fun g6 hw => ?_)
    refine wm_iload hC 5 dX11_feed_59 rfl ?_
    refine y_callV_v_I hC hRm noS ml_X11_121 g6 (C9_addNumber g6 hw) (Nat.le_of_ble_eq_true rfl) (Nat.le_of_ble_eq_true rfl) ⟨Nat.zero_le _, Nat.zero_le _⟩ rfl (st := []) rfl (Nat.le_of_ble_eq_true rfl) dX11_feed_61 (fun I5 hw => ?_)
    refine wm_aload_n hC 0 dX11_feed_64 rfl (k_ne0 hk0 (by decide)) ?_
    refine x_getR2 hC 0 fl_X11_10 rfl hk0 dX11_feed_65 hw (fun g7 hw => ?_)
    refine x_getI hC 1 fl_X11_114 rfl g7 dX11_feed_68 ?_
    exact wm_ireturn hC hE dX11_feed_71 ⟨⟨rfl, rfl⟩, hw⟩
  · refine wm_aload_n hC 0 dX11_feed_16 rfl (k_ne0 hk0 (by decide)) ?_
    refine wm_iconst hC dX11_feed_17 (k := ?_)
    refine y_callV_i_I hC hRm noS ml_X11_117 hk0 (C11_refuse hk0 hw) (Nat.le_of_ble_eq_true rfl) (Nat.le_of_ble_eq_true rfl) ⟨Nat.zero_le _, Nat.zero_le _⟩ rfl (st := []) rfl (Nat.le_of_ble_eq_true rfl) dX11_feed_18 (fun r1 I6 hw => ?_)
    exact wm_ireturn hC hE dX11_feed_21 ⟨⟨rfl, rfl⟩, hw⟩
def P11_refuseIt (l0 : Nat) (l1 : Int) (I : mI) (R : mR) (Q : Int → mI → Prop) : Prop := (P11_refuse l0 l1 I R (fun r1 I1 => (Q 0 I1)))
set_option maxRecDepth 20000 in
theorem C11_refuseIt {ad : Nat → Nat} {n : Nat} {I J : mI} {R : mR} {Q : Int → mI → Prop}  {l0 : Nat} {l1 : Int} (hk0 : kK l0 = 11) (hw : P11_refuseIt l0 l1 I R Q) : wMet yX11_refuseIt cX11_refuseIt 2 (some .boolean) 2 33 false ad n I J R [vr l0, vi l1] (fun r I' J' R' => (J' = J ∧ R' = R) ∧ Q r I') := by
  refine wMet_of (by decide) (Nat.le_of_ble_eq_true rfl) (fun C hC hRm hE hS => ?_)
  refine (show WM C ad n I J R 0 0 0 [(0, vr l0), (1, vi l1)] [] from ?_)
  unfold P11_refuseIt at hw
  refine wm_aload_n hC 0 dX11_refuseIt_0 rfl (k_ne0 hk0 (by decide)) ?_
  refine wm_iload_n hC 1 dX11_refuseIt_1 rfl ?_
  refine y_callV_i_I hC hRm noS ml_X11_117 hk0 (C11_refuse hk0 hw) (Nat.le_of_ble_eq_true rfl) (Nat.le_of_ble_eq_true rfl) ⟨Nat.zero_le _, Nat.zero_le _⟩ rfl (st := []) rfl (Nat.le_of_ble_eq_true rfl) dX11_refuseIt_2 (fun r1 I1 hw => ?_)
  refine wm_pop hC dX11_refuseIt_5 (k := ?_)
  refine wm_iconst hC dX11_refuseIt_6 (k := ?_)
  exact wm_zreturn hC hE (Or.inl rfl) dX11_refuseIt_7 ⟨⟨rfl, rfl⟩, hw⟩
def P11_end (l0 : Nat) (l1 : Int) (I : mI) (R : mR) (Q : Int → mI → Prop) : Prop := (if l1 < 0 then (P11_refuseIt l0 0 I R (fun r1 I1 => ((r1 = 0 ∨ r1 = 1) ∧ (Q r1 I1)))) else (kK (R l0 0) = 9 ∧ (if l1 ≤ (I (R l0 0) 1) then (kK (R l0 0) = 9 ∧ (wLet (up I (R l0 0) 1 l1) (fun I2 => (Q 1 I2)))) else (P11_refuseIt l0 0 I R (fun r2 I3 => ((r2 = 0 ∨ r2 = 1) ∧ (Q r2 I3)))))))
set_option maxRecDepth 20000 in
theorem C11_end {ad : Nat → Nat} {n : Nat} {I J : mI} {R : mR} {Q : Int → mI → Prop}  {l0 : Nat} {l1 : Int} (hk0 : kK l0 = 11) (hw : P11_end l0 l1 I R Q) : wMet yX11_end cX11_end 2 (some .boolean) 3 54 false ad n I J R [vr l0, vi l1] (fun r I' J' R' => (J' = J ∧ R' = R) ∧ Q r I') := by
  refine wMet_of (by decide) (Nat.le_of_ble_eq_true rfl) (fun C hC hRm hE hS => ?_)
  refine (show WM C ad n I J R 0 0 0 [(0, vr l0), (1, vi l1)] [] from ?_)
  unfold P11_end at hw
  refine wm_iload_n hC 1 dX11_end_0 rfl ?_
  refine wm_if_lt (tgt := 15) hC dX11_end_1 (by decide) hw (fun hw => ?_) (fun hw => ?_)
  · refine wm_aload_n hC 0 dX11_end_15 rfl (k_ne0 hk0 (by decide)) ?_
    refine wm_iconst hC dX11_end_16 (k := ?_)
    refine y_callV_z_I hC hRm noS ml_X11_125 hk0 (C11_refuseIt hk0 hw) (Nat.le_of_ble_eq_true rfl) (Nat.le_of_ble_eq_true rfl) ⟨Nat.zero_le _, Nat.zero_le _⟩ rfl (st := []) rfl (Nat.le_of_ble_eq_true rfl) dX11_end_17 (fun r1 I1 hw => ?_)
    obtain ⟨z01, hw⟩ := hw
    exact wm_zreturn hC hE z01 dX11_end_20 ⟨⟨rfl, rfl⟩, hw⟩
  · refine wm_iload_n hC 1 dX11_end_4 rfl ?_
    refine wm_aload_n hC 0 dX11_end_5 rfl (k_ne0 hk0 (by decide)) ?_
    refine x_getR2 hC 0 fl_X11_10 rfl hk0 dX11_end_6 hw (fun g1 hw => ?_)
    refine x_getI hC 1 fl_X11_114 rfl g1 dX11_end_9 ?_
    refine wm_icmp_le (tgt := 21) hC dX11_end_12 (by decide) hw (fun hw => ?_) (fun hw => ?_)
    · refine wm_aload_n hC 0 dX11_end_21 rfl (k_ne0 hk0 (by decide)) ?_
      refine x_getR2 hC 0 fl_X11_10 rfl hk0 dX11_end_22 hw (fun g2 hw => ?_)
      refine wm_iload_n hC 1 dX11_end_25 rfl ?_
      refine x_putI hC 1 fl_X11_114 rfl g2 dX11_end_26 hw (fun I2 hw => ?_)
      refine wm_iconst hC dX11_end_29 (k := ?_)
      exact wm_zreturn hC hE (Or.inr rfl) dX11_end_30 ⟨⟨rfl, rfl⟩, hw⟩
    · refine wm_aload_n hC 0 dX11_end_15 rfl (k_ne0 hk0 (by decide)) ?_
      refine wm_iconst hC dX11_end_16 (k := ?_)
      refine y_callV_z_I hC hRm noS ml_X11_125 hk0 (C11_refuseIt hk0 hw) (Nat.le_of_ble_eq_true rfl) (Nat.le_of_ble_eq_true rfl) ⟨Nat.zero_le _, Nat.zero_le _⟩ rfl (st := []) rfl (Nat.le_of_ble_eq_true rfl) dX11_end_17 (fun r2 I3 hw => ?_)
      obtain ⟨z01, hw⟩ := hw
      exact wm_zreturn hC hE z01 dX11_end_20 ⟨⟨rfl, rfl⟩, hw⟩
def P11_land (l0 : Nat) (I : mI) (R : mR) (Q : Int → mI → mR → Prop) : Prop := (kK (R l0 8) = 6 ∧ (kK (R l0 13) = 3 ∧ (P6_read (R l0 8) (R l0 13) I R (fun r1 I1 R1 => (kK (R1 l0 0) = 9 ∧ (wLet (up I1 (R1 l0 0) 1 0) (fun I2 => (kK (R1 l0 8) = 6 ∧ (wLet (up I2 l0 14 (I2 (R1 l0 8) 6)) (fun I3 => (kK (R1 l0 8) = 6 ∧ (wLet (up I3 l0 15 (I3 (R1 l0 8) 7)) (fun I4 => (if (I4 l0 14) = 0 then (kK (R1 l0 13) = 3 ∧ (kK (R1 l0 12) = 3 ∧ (wLet (up R1 l0 13 (R1 l0 12)) (fun R2 => (wLet (up R2 l0 12 (R1 l0 13)) (fun R3 => (kK (R3 l0 2) = 7 ∧ (kK (R3 l0 12) = 3 ∧ (P7_begin (R3 l0 2) (R3 l0 12) I4 R3 (fun I5 => (kK (R3 l0 4) = 4 ∧ (wLet (up I5 (R3 l0 4) 2 0) (fun I6 => (kK (R3 l0 11) = 2 ∧ (wLet (up I6 (R3 l0 11) 5 0) (fun I7 => (Q r1 I7 R3))))))))))))))))) else (P11_refuse l0 1 I4 R1 (fun r2 I8 => (Q r2 I8 R1)))))))))))))))))
set_option maxRecDepth 20000 in
theorem C11_land {ad : Nat → Nat} {n : Nat} {I J : mI} {R : mR} {Q : Int → mI → mR → Prop}  {l0 : Nat} (hk0 : kK l0 = 11) (hw : P11_land l0 I R Q) : wMet yX11_land cX11_land 3 (some .int) 106 4286 true ad n I J R [vr l0] (fun r I' J' R' => (J' = J) ∧ Q r I' R') := by
  refine wMet_of (by decide) (Nat.le_of_ble_eq_true rfl) (fun C hC hRm hE hS => ?_)
  have hStr := hS rfl
  refine (show WM C ad n I J R 0 0 0 [(0, vr l0)] [] from ?_)
  unfold P11_land at hw
  refine wm_aload_n hC 0 dX11_land_0 rfl (k_ne0 hk0 (by decide)) ?_
  refine x_getR2 hC 8 fl_X11_79 rfl hk0 dX11_land_1 hw (fun g1 hw => ?_)
  refine wm_aload_n hC 0 dX11_land_4 rfl (k_ne0 hk0 (by decide)) ?_
  refine x_getR2 hC 13 fl_X11_61 rfl hk0 dX11_land_5 hw (fun g2 hw => ?_)
  refine y_callV_i_IR hC hRm (fun _ => hStr) ml_X11_129 g1 (C6_read g1 g2 hw) (Nat.le_of_ble_eq_true rfl) (Nat.le_of_ble_eq_true rfl) ⟨Nat.zero_le _, Nat.zero_le _⟩ rfl (st := []) rfl (Nat.le_of_ble_eq_true rfl) dX11_land_8 (fun r1 I1 R1 hw => ?_)
  refine wm_istore_n hC dX11_land_11 (by decide) (L2 := [(1, vi r1), (0, vr l0)]) rfl ?_
  refine wm_aload_n hC 1 dX11_land_12 rfl (k_ne0 hk0 (by decide)) ?_
  refine x_getR2 hC 0 fl_X11_10 rfl hk0 dX11_land_13 hw (fun g3 hw => ?_)
  refine wm_iconst hC dX11_land_16 (k := ?_)
  refine x_putI hC 1 fl_X11_114 rfl g3 dX11_land_17 hw (fun I2 hw => ?_)
  refine wm_aload_n hC 1 dX11_land_20 rfl (k_ne0 hk0 (by decide)) ?_
  refine wm_aload_n hC 1 dX11_land_21 rfl (k_ne0 hk0 (by decide)) ?_
  refine x_getR2 hC 8 fl_X11_79 rfl hk0 dX11_land_22 hw (fun g4 hw => ?_)
  refine x_getI hC 6 fl_X11_133 rfl g4 dX11_land_25 ?_
  refine x_putI hC 14 fl_X11_64 rfl hk0 dX11_land_28 hw (fun I3 hw => ?_)
  refine wm_aload_n hC 1 dX11_land_31 rfl (k_ne0 hk0 (by decide)) ?_
  refine wm_aload_n hC 1 dX11_land_32 rfl (k_ne0 hk0 (by decide)) ?_
  refine x_getR2 hC 8 fl_X11_79 rfl hk0 dX11_land_33 hw (fun g5 hw => ?_)
  refine x_getI hC 7 fl_X11_136 rfl g5 dX11_land_36 ?_
  refine x_putI hC 15 fl_X11_68 rfl hk0 dX11_land_39 hw (fun I4 hw => ?_)
  refine wm_aload_n hC 1 dX11_land_42 rfl (k_ne0 hk0 (by decide)) ?_
  refine x_getI hC 14 fl_X11_64 rfl hk0 dX11_land_43 ?_
  refine wm_if_eq (tgt := 55) hC dX11_land_46 (by decide) hw (fun hw => ?_) (fun hw => ?_)
  · refine wm_aload_n hC 1 dX11_land_55 rfl (k_ne0 hk0 (by decide)) ?_
    refine x_getR2 hC 13 fl_X11_61 rfl hk0 dX11_land_56 hw (fun g6 hw => ?_)
    refine wm_astore_n hC dX11_land_59 (k_ne0 g6 (by decide)) (by decide) (L2 := [(2, vr (R1 l0 13)), (1, vi r1), (0, vr l0)]) rfl ?_
    refine wm_aload_n hC 2 dX11_land_60 rfl (k_ne0 hk0 (by decide)) ?_
    refine wm_aload_n hC 2 dX11_land_61 rfl (k_ne0 hk0 (by decide)) ?_
    refine x_getR2 hC 12 fl_X11_57 rfl hk0 dX11_land_62 hw (fun g7 hw => ?_)
    refine x_putR hC 13 fl_X11_61 rfl hk0 (Or.inl ⟨_, rfl⟩) (k_lt g7 (by decide)) dX11_land_65 hw (fun R2 hw => ?_)
    refine wm_aload_n hC 2 dX11_land_68 rfl (k_ne0 hk0 (by decide)) ?_
    refine wm_aload_n hC 0 dX11_land_69 rfl (k_ne0 g6 (by decide)) ?_
    refine x_putR hC 12 fl_X11_57 rfl hk0 (Or.inl ⟨_, rfl⟩) (k_lt g6 (by decide)) dX11_land_70 hw (fun R3 hw => ?_)
    refine wm_aload_n hC 2 dX11_land_73 rfl (k_ne0 hk0 (by decide)) ?_
    refine x_getR2 hC 2 fl_X11_26 rfl hk0 dX11_land_74 hw (fun g8 hw => ?_)
    refine wm_aload_n hC 2 dX11_land_77 rfl (k_ne0 hk0 (by decide)) ?_
    refine x_getR2 hC 12 fl_X11_57 rfl hk0 dX11_land_78 hw (fun g9 hw => ?_)
    refine y_callV_v_I hC hRm noS ml_X11_110 g8 (C7_begin g8 g9 hw) (Nat.le_of_ble_eq_true rfl) (Nat.le_of_ble_eq_true rfl) ⟨Nat.zero_le _, Nat.zero_le _⟩ rfl (st := []) rfl (Nat.le_of_ble_eq_true rfl) dX11_land_81 (fun I5 hw => ?_)
    refine wm_aload_n hC 2 dX11_land_84 rfl (k_ne0 hk0 (by decide)) ?_
    refine x_getR2 hC 4 fl_X11_36 rfl hk0 dX11_land_85 hw (fun g10 hw => ?_)
    refine wm_iconst hC dX11_land_88 (k := ?_)
    refine x_putI hC 2 fl_X11_139 rfl g10 dX11_land_89 hw (fun I6 hw => ?_)
    refine wm_aload_n hC 2 dX11_land_92 rfl (k_ne0 hk0 (by decide)) ?_
    refine x_getR2 hC 11 fl_X11_106 rfl hk0 dX11_land_93 hw (fun g11 hw => ?_)
    refine wm_iconst hC dX11_land_96 (k := ?_)
    refine x_putI hC 5 fl_X11_142 rfl g11 dX11_land_97 hw (fun I7 hw => ?_)
    refine wm_iload_n hC 1 dX11_land_100 rfl ?_
    exact wm_ireturn hC hE dX11_land_101 ⟨rfl, hw⟩
  · refine wm_aload_n hC 1 dX11_land_49 rfl (k_ne0 hk0 (by decide)) ?_
    refine wm_iconst hC dX11_land_50 (k := ?_)
    refine y_callV_i_I hC hRm noS ml_X11_117 hk0 (C11_refuse hk0 hw) (Nat.le_of_ble_eq_true rfl) (Nat.le_of_ble_eq_true rfl) ⟨Nat.zero_le _, Nat.zero_le _⟩ rfl (st := []) rfl (Nat.le_of_ble_eq_true rfl) dX11_land_51 (fun r2 I8 hw => ?_)
    exact wm_ireturn hC hE dX11_land_54 ⟨rfl, hw⟩
def P11_fault (l0 : Nat) (l1 : Int) (I : mI) (Q : Int → Prop) : Prop := (if l1 = 0 then (Q (I l0 14)) else (if l1 = 1 then (Q (I l0 15)) else (Q (-1))))
set_option maxRecDepth 20000 in
theorem C11_fault {ad : Nat → Nat} {n : Nat} {I J : mI} {R : mR} {Q : Int → Prop}  {l0 : Nat} {l1 : Int} (hk0 : kK l0 = 11) (hw : P11_fault l0 l1 I Q) : wMet yX11_fault cX11_fault 2 (some .int) 1 12 false ad n I J R [vr l0, vi l1] (fun r I' J' R' => (I' = I ∧ J' = J ∧ R' = R) ∧ Q r) := by
  refine wMet_of (by decide) (Nat.le_of_ble_eq_true rfl) (fun C hC hRm hE hS => ?_)
  refine (show WM C ad n I J R 0 0 0 [(0, vr l0), (1, vi l1)] [] from ?_)
  unfold P11_fault at hw
  refine wm_iload_n hC 1 dX11_fault_0 rfl ?_
  refine wm_if_ne (tgt := 11) hC dX11_fault_1 (by decide) hw (fun hw => ?_) (fun hw => ?_)
  · refine wm_aload_n hC 0 dX11_fault_4 rfl (k_ne0 hk0 (by decide)) ?_
    refine x_getI hC 14 fl_X11_64 rfl hk0 dX11_fault_5 ?_
    refine wm_goto (tgt := 24) hC dX11_fault_8 (by decide) ?_
    exact wm_ireturn hC hE dX11_fault_24 ⟨⟨rfl, rfl, rfl⟩, hw⟩
  · refine wm_iload_n hC 1 dX11_fault_11 rfl ?_
    refine wm_iconst hC dX11_fault_12 (k := ?_)
    refine wm_icmp_ne (tgt := 23) hC dX11_fault_13 (by decide) hw (fun hw => ?_) (fun hw => ?_)
    · refine wm_aload_n hC 0 dX11_fault_16 rfl (k_ne0 hk0 (by decide)) ?_
      refine x_getI hC 15 fl_X11_68 rfl hk0 dX11_fault_17 ?_
      refine wm_goto (tgt := 24) hC dX11_fault_20 (by decide) ?_
      exact wm_ireturn hC hE dX11_fault_24 ⟨⟨rfl, rfl, rfl⟩, hw⟩
    · refine wm_iconst hC dX11_fault_23 (k := ?_)
      exact wm_ireturn hC hE dX11_fault_24 ⟨⟨rfl, rfl, rfl⟩, hw⟩
def P11_has (l0 : Nat) (l1 : Int) (I : mI) (R : mR) (Q : Int → Prop) : Prop := (if l1 = 0 then (kK (R l0 12) = 3 ∧ (kK (R (R l0 12) 0) = 21 ∧ (((0 : Int) ≤ l1 ∧ l1 < (kN (R (R l0 12) 0) : Int)) ∧ (Q (I (R (R l0 12) 0) l1))))) else (if l1 = 1 then (kK (R l0 12) = 3 ∧ (kK (R (R l0 12) 0) = 21 ∧ (((0 : Int) ≤ l1 ∧ l1 < (kN (R (R l0 12) 0) : Int)) ∧ (Q (I (R (R l0 12) 0) l1))))) else (if l1 = 2 then (kK (R l0 12) = 3 ∧ (kK (R (R l0 12) 0) = 21 ∧ (((0 : Int) ≤ l1 ∧ l1 < (kN (R (R l0 12) 0) : Int)) ∧ (Q (I (R (R l0 12) 0) l1))))) else (if l1 = 3 then (kK (R l0 2) = 7 ∧ (Q (I (R l0 2) 0))) else (if l1 = 4 then (kK (R l0 2) = 7 ∧ (Q (I (R l0 2) 1))) else (if l1 = 5 then (kK (R l0 2) = 7 ∧ (kK (R l0 12) = 3 ∧ (kK (R (R l0 12) 0) = 21 ∧ (((0 : Int) ≤ (2 : Int) ∧ (2 : Int) < (kN (R (R l0 12) 0) : Int)) ∧ (P7_wornBy (R l0 2) (I (R (R l0 12) 0) (2 : Int)) (-1) I R (fun r1 => (Q r1))))))) else (if l1 = 6 then (kK (R l0 12) = 3 ∧ (kK (R l0 2) = 7 ∧ (kK (R (R l0 2) 5) = 21 ∧ (P3_clashes (R l0 12) (R (R l0 2) 5) I R (fun r2 => (Q r2)))))) else (if l1 = 7 then (kK (R l0 2) = 7 ∧ (Q (I (R l0 2) 2))) else (if l1 = 8 then (kK (R l0 11) = 2 ∧ (Q (I (R l0 11) 5))) else (if l1 = 9 then (kK (R l0 4) = 4 ∧ (Q (I (R l0 4) 2))) else (if l1 = 10 then (Q (I l0 16)) else (Q (-1)))))))))))))
set_option maxRecDepth 20000 in
theorem C11_has {ad : Nat → Nat} {n : Nat} {I J : mI} {R : mR} {Q : Int → Prop}  {l0 : Nat} {l1 : Int} (hk0 : kK l0 = 11) (hw : P11_has l0 l1 I R Q) : wMet yX11_has cX11_has 2 (some .int) 3 59 false ad n I J R [vr l0, vi l1] (fun r I' J' R' => (I' = I ∧ J' = J ∧ R' = R) ∧ Q r) := by
  refine wMet_of (by decide) (Nat.le_of_ble_eq_true rfl) (fun C hC hRm hE hS => ?_)
  refine (show WM C ad n I J R 0 0 0 [(0, vr l0), (1, vi l1)] [] from ?_)
  unfold P11_has at hw
  refine wm_iload_n hC 1 dX11_has_0 rfl ?_
  by_cases hc1 : l1 = 0
  · rw [if_pos hc1] at hw
    refine wm_tableIn (v := 0) (tgt := 60) hC dX11_has_1 hc1 (by decide) (by decide) rfl rfl ?_
    refine wm_aload_n hC 0 dX11_has_60 rfl (k_ne0 hk0 (by decide)) ?_
    refine x_getR2 hC 12 fl_X11_57 rfl hk0 dX11_has_61 hw (fun g1 hw => ?_)
    refine x_getR2 hC 0 fl_X11_145 rfl g1 dX11_has_64 hw (fun g2 hw => ?_)
    refine wm_iload_n hC 1 dX11_has_67 rfl ?_
    refine x_iald hC g2 dX11_has_68 hw (fun hw => ?_)
    exact wm_ireturn hC hE dX11_has_69 ⟨⟨rfl, rfl, rfl⟩, hw⟩
  rw [if_neg hc1] at hw
  by_cases hc2 : l1 = 1
  · rw [if_pos hc2] at hw
    refine wm_tableIn (v := 1) (tgt := 60) hC dX11_has_1 hc2 (by decide) (by decide) rfl rfl ?_
    refine wm_aload_n hC 0 dX11_has_60 rfl (k_ne0 hk0 (by decide)) ?_
    refine x_getR2 hC 12 fl_X11_57 rfl hk0 dX11_has_61 hw (fun g3 hw => ?_)
    refine x_getR2 hC 0 fl_X11_145 rfl g3 dX11_has_64 hw (fun g4 hw => ?_)
    refine wm_iload_n hC 1 dX11_has_67 rfl ?_
    refine x_iald hC g4 dX11_has_68 hw (fun hw => ?_)
    exact wm_ireturn hC hE dX11_has_69 ⟨⟨rfl, rfl, rfl⟩, hw⟩
  rw [if_neg hc2] at hw
  by_cases hc3 : l1 = 2
  · rw [if_pos hc3] at hw
    refine wm_tableIn (v := 2) (tgt := 60) hC dX11_has_1 hc3 (by decide) (by decide) rfl rfl ?_
    refine wm_aload_n hC 0 dX11_has_60 rfl (k_ne0 hk0 (by decide)) ?_
    refine x_getR2 hC 12 fl_X11_57 rfl hk0 dX11_has_61 hw (fun g5 hw => ?_)
    refine x_getR2 hC 0 fl_X11_145 rfl g5 dX11_has_64 hw (fun g6 hw => ?_)
    refine wm_iload_n hC 1 dX11_has_67 rfl ?_
    refine x_iald hC g6 dX11_has_68 hw (fun hw => ?_)
    exact wm_ireturn hC hE dX11_has_69 ⟨⟨rfl, rfl, rfl⟩, hw⟩
  rw [if_neg hc3] at hw
  by_cases hc4 : l1 = 3
  · rw [if_pos hc4] at hw
    refine wm_tableIn (v := 3) (tgt := 70) hC dX11_has_1 hc4 (by decide) (by decide) rfl rfl ?_
    refine wm_aload_n hC 0 dX11_has_70 rfl (k_ne0 hk0 (by decide)) ?_
    refine x_getR2 hC 2 fl_X11_26 rfl hk0 dX11_has_71 hw (fun g7 hw => ?_)
    refine x_getI hC 0 fl_X11_147 rfl g7 dX11_has_74 ?_
    exact wm_ireturn hC hE dX11_has_77 ⟨⟨rfl, rfl, rfl⟩, hw⟩
  rw [if_neg hc4] at hw
  by_cases hc5 : l1 = 4
  · rw [if_pos hc5] at hw
    refine wm_tableIn (v := 4) (tgt := 78) hC dX11_has_1 hc5 (by decide) (by decide) rfl rfl ?_
    refine wm_aload_n hC 0 dX11_has_78 rfl (k_ne0 hk0 (by decide)) ?_
    refine x_getR2 hC 2 fl_X11_26 rfl hk0 dX11_has_79 hw (fun g8 hw => ?_)
    refine x_getI hC 1 fl_X11_150 rfl g8 dX11_has_82 ?_
    exact wm_ireturn hC hE dX11_has_85 ⟨⟨rfl, rfl, rfl⟩, hw⟩
  rw [if_neg hc5] at hw
  by_cases hc6 : l1 = 5
  · rw [if_pos hc6] at hw
    refine wm_tableIn (v := 5) (tgt := 86) hC dX11_has_1 hc6 (by decide) (by decide) rfl rfl ?_
    refine wm_aload_n hC 0 dX11_has_86 rfl (k_ne0 hk0 (by decide)) ?_
    refine x_getR2 hC 2 fl_X11_26 rfl hk0 dX11_has_87 hw (fun g9 hw => ?_)
    refine wm_aload_n hC 0 dX11_has_90 rfl (k_ne0 hk0 (by decide)) ?_
    refine x_getR2 hC 12 fl_X11_57 rfl hk0 dX11_has_91 hw (fun g10 hw => ?_)
    refine x_getR2 hC 0 fl_X11_145 rfl g10 dX11_has_94 hw (fun g11 hw => ?_)
    refine wm_iconst hC dX11_has_97 (k := ?_)
    refine x_iald hC g11 dX11_has_98 hw (fun hw => ?_)
    refine wm_iconst hC dX11_has_99 (k := ?_)
    refine y_callV_i_n hC hRm noS ml_X11_153 g9 (C7_wornBy g9 hw) (Nat.le_of_ble_eq_true rfl) (Nat.le_of_ble_eq_true rfl) ⟨Nat.zero_le _, Nat.zero_le _⟩ rfl (st := []) rfl (Nat.le_of_ble_eq_true rfl) dX11_has_100 (fun r1 hw => ?_)
    exact wm_ireturn hC hE dX11_has_103 ⟨⟨rfl, rfl, rfl⟩, hw⟩
  rw [if_neg hc6] at hw
  by_cases hc7 : l1 = 6
  · rw [if_pos hc7] at hw
    refine wm_tableIn (v := 6) (tgt := 104) hC dX11_has_1 hc7 (by decide) (by decide) rfl rfl ?_
    refine wm_aload_n hC 0 dX11_has_104 rfl (k_ne0 hk0 (by decide)) ?_
    refine x_getR2 hC 12 fl_X11_57 rfl hk0 dX11_has_105 hw (fun g12 hw => ?_)
    refine wm_aload_n hC 0 dX11_has_108 rfl (k_ne0 hk0 (by decide)) ?_
    refine x_getR2 hC 2 fl_X11_26 rfl hk0 dX11_has_109 hw (fun g13 hw => ?_)
    refine x_getR2 hC 5 fl_X11_157 rfl g13 dX11_has_112 hw (fun g14 hw => ?_)
    refine y_callV_i_n hC hRm noS ml_X11_160 g12 (C3_clashes g12 g14 hw) (Nat.le_of_ble_eq_true rfl) (Nat.le_of_ble_eq_true rfl) ⟨Nat.zero_le _, Nat.zero_le _⟩ rfl (st := []) rfl (Nat.le_of_ble_eq_true rfl) dX11_has_115 (fun r2 hw => ?_)
    exact wm_ireturn hC hE dX11_has_118 ⟨⟨rfl, rfl, rfl⟩, hw⟩
  rw [if_neg hc7] at hw
  by_cases hc8 : l1 = 7
  · rw [if_pos hc8] at hw
    refine wm_tableIn (v := 7) (tgt := 119) hC dX11_has_1 hc8 (by decide) (by decide) rfl rfl ?_
    refine wm_aload_n hC 0 dX11_has_119 rfl (k_ne0 hk0 (by decide)) ?_
    refine x_getR2 hC 2 fl_X11_26 rfl hk0 dX11_has_120 hw (fun g15 hw => ?_)
    refine x_getI hC 2 fl_X11_164 rfl g15 dX11_has_123 ?_
    exact wm_ireturn hC hE dX11_has_126 ⟨⟨rfl, rfl, rfl⟩, hw⟩
  rw [if_neg hc8] at hw
  by_cases hc9 : l1 = 8
  · rw [if_pos hc9] at hw
    refine wm_tableIn (v := 8) (tgt := 127) hC dX11_has_1 hc9 (by decide) (by decide) rfl rfl ?_
    refine wm_aload_n hC 0 dX11_has_127 rfl (k_ne0 hk0 (by decide)) ?_
    refine x_getR2 hC 11 fl_X11_106 rfl hk0 dX11_has_128 hw (fun g16 hw => ?_)
    refine x_getI hC 5 fl_X11_142 rfl g16 dX11_has_131 ?_
    exact wm_ireturn hC hE dX11_has_134 ⟨⟨rfl, rfl, rfl⟩, hw⟩
  rw [if_neg hc9] at hw
  by_cases hc10 : l1 = 9
  · rw [if_pos hc10] at hw
    refine wm_tableIn (v := 9) (tgt := 135) hC dX11_has_1 hc10 (by decide) (by decide) rfl rfl ?_
    refine wm_aload_n hC 0 dX11_has_135 rfl (k_ne0 hk0 (by decide)) ?_
    refine x_getR2 hC 4 fl_X11_36 rfl hk0 dX11_has_136 hw (fun g17 hw => ?_)
    refine x_getI hC 2 fl_X11_139 rfl g17 dX11_has_139 ?_
    exact wm_ireturn hC hE dX11_has_142 ⟨⟨rfl, rfl, rfl⟩, hw⟩
  rw [if_neg hc10] at hw
  by_cases hc11 : l1 = 10
  · rw [if_pos hc11] at hw
    refine wm_tableIn (v := 10) (tgt := 143) hC dX11_has_1 hc11 (by decide) (by decide) rfl rfl ?_
    refine wm_aload_n hC 0 dX11_has_143 rfl (k_ne0 hk0 (by decide)) ?_
    refine x_getI hC 16 fl_X11_71 rfl hk0 dX11_has_144 ?_
    exact wm_ireturn hC hE dX11_has_147 ⟨⟨rfl, rfl, rfl⟩, hw⟩
  rw [if_neg hc11] at hw
  refine wm_tableOut (tgt := 148) hC dX11_has_1 (by omega) rfl ?_
  refine wm_iconst hC dX11_has_148 (k := ?_)
  exact wm_ireturn hC hE dX11_has_149 ⟨⟨rfl, rfl, rfl⟩, hw⟩
def P11_letter (l0 : Nat) (l1 : Int) (l2 : Int) (l3 : Int) (I : mI) (R : mR) (Q : Int → Prop) : Prop := (kK (R l0 12) = 3 ∧ (P3_isThere (R l0 12) l1 l2 I R (fun r1 => (if r1 = 0 then (Q (-1)) else (if l3 < 0 then (Q (-1)) else (if l3 ≤ 5 then (kK (R l0 12) = 3 ∧ (P3_letterOf (R l0 12) l1 l2 l3 I R (fun r2 => (Q r2)))) else (Q (-1))))))))
set_option maxRecDepth 20000 in
theorem C11_letter {ad : Nat → Nat} {n : Nat} {I J : mI} {R : mR} {Q : Int → Prop}  {l0 : Nat} {l1 : Int} {l2 : Int} {l3 : Int} (hk0 : kK l0 = 11) (hw : P11_letter l0 l1 l2 l3 I R Q) : wMet yX11_letter cX11_letter 4 (some .int) 3 60 false ad n I J R [vr l0, vi l1, vi l2, vi l3] (fun r I' J' R' => (I' = I ∧ J' = J ∧ R' = R) ∧ Q r) := by
  refine wMet_of (by decide) (Nat.le_of_ble_eq_true rfl) (fun C hC hRm hE hS => ?_)
  refine (show WM C ad n I J R 0 0 0 [(0, vr l0), (1, vi l1), (2, vi l2), (3, vi l3)] [] from ?_)
  unfold P11_letter at hw
  refine wm_aload_n hC 0 dX11_letter_0 rfl (k_ne0 hk0 (by decide)) ?_
  refine x_getR2 hC 12 fl_X11_57 rfl hk0 dX11_letter_1 hw (fun g1 hw => ?_)
  refine wm_iload_n hC 1 dX11_letter_4 rfl ?_
  refine wm_iload_n hC 2 dX11_letter_5 rfl ?_
  refine y_callV_z_n hC hRm noS ml_X11_167 g1 (C3_isThere g1 hw) (Nat.le_of_ble_eq_true rfl) (Nat.le_of_ble_eq_true rfl) ⟨Nat.zero_le _, Nat.zero_le _⟩ rfl (st := []) rfl (Nat.le_of_ble_eq_true rfl) dX11_letter_6 (fun r1 hw => ?_)
  refine wm_if_eq (tgt := 21) hC dX11_letter_9 (by decide) hw (fun hw => ?_) (fun hw => ?_)
  · refine wm_iconst hC dX11_letter_21 (k := ?_)
    exact wm_ireturn hC hE dX11_letter_22 ⟨⟨rfl, rfl, rfl⟩, hw⟩
  · refine wm_iload_n hC 3 dX11_letter_12 rfl ?_
    refine wm_if_lt (tgt := 21) hC dX11_letter_13 (by decide) hw (fun hw => ?_) (fun hw => ?_)
    · refine wm_iconst hC dX11_letter_21 (k := ?_)
      exact wm_ireturn hC hE dX11_letter_22 ⟨⟨rfl, rfl, rfl⟩, hw⟩
    · refine wm_iload_n hC 3 dX11_letter_16 rfl ?_
      refine wm_iconst hC dX11_letter_17 (k := ?_)
      refine wm_icmp_le (tgt := 23) hC dX11_letter_18 (by decide) hw (fun hw => ?_) (fun hw => ?_)
      · refine wm_aload_n hC 0 dX11_letter_23 rfl (k_ne0 hk0 (by decide)) ?_
        refine x_getR2 hC 12 fl_X11_57 rfl hk0 dX11_letter_24 hw (fun g2 hw => ?_)
        refine wm_iload_n hC 1 dX11_letter_27 rfl ?_
        refine wm_iload_n hC 2 dX11_letter_28 rfl ?_
        refine wm_iload_n hC 3 dX11_letter_29 rfl ?_
        refine y_callV_i_n hC hRm noS ml_X11_171 g2 (C3_letterOf g2 hw) (Nat.le_of_ble_eq_true rfl) (Nat.le_of_ble_eq_true rfl) ⟨Nat.zero_le _, Nat.zero_le _⟩ rfl (st := []) rfl (Nat.le_of_ble_eq_true rfl) dX11_letter_30 (fun r2 hw => ?_)
        exact wm_ireturn hC hE dX11_letter_33 ⟨⟨rfl, rfl, rfl⟩, hw⟩
      · refine wm_iconst hC dX11_letter_21 (k := ?_)
        exact wm_ireturn hC hE dX11_letter_22 ⟨⟨rfl, rfl, rfl⟩, hw⟩
def P11_blind (l0 : Nat) (l1 : Int) (l2 : Int) (I : mI) (J : mI) (R : mR) (Q : Int → mI → mI → mR → Prop) : Prop := (kK (R l0 12) = 3 ∧ (P3_isThere (R l0 12) 0 l1 I R (fun r1 => (if r1 = 0 then (Q (-1) I J R) else (if l2 = 0 then (kK (R l0 12) = 3 ∧ (P3_traitOf (R l0 12) 0 l1 l2 I R (fun r2 => (Q r2 I J R)))) else (if l2 = 1 then (kK (R l0 12) = 3 ∧ (P3_traitOf (R l0 12) 0 l1 l2 I R (fun r3 => (Q r3 I J R)))) else (if l2 = 2 then (kK (R l0 12) = 3 ∧ (P3_traitOf (R l0 12) 0 l1 l2 I R (fun r4 => (Q r4 I J R)))) else (if l2 = 3 then (kK (R l0 12) = 3 ∧ (P3_isLate (R l0 12) l1 I (fun r5 => (Q r5 I J R)))) else (if l2 = 4 then (kK (R l0 2) = 7 ∧ (kK (R (R l0 2) 4) = 21 ∧ (((0 : Int) ≤ l1 ∧ l1 < (kN (R (R l0 2) 4) : Int)) ∧ (Q (I (R (R l0 2) 4) l1) I J R)))) else (if l2 = 5 then (kK (R l0 2) = 7 ∧ (kK (R l0 12) = 3 ∧ (kK (R (R l0 12) 0) = 21 ∧ (((0 : Int) ≤ (0 : Int) ∧ (0 : Int) < (kN (R (R l0 12) 0) : Int)) ∧ (P7_placeOf (R l0 2) l1 (I (R (R l0 12) 0) (0 : Int)) I R (fun r6 => (Q r6 I J R))))))) else (if l2 = 6 then (kK (R l0 9) = 1 ∧ (kK (R l0 12) = 3 ∧ (kK (R l0 2) = 7 ∧ (P1_sit (R l0 9) (R l0 12) (R l0 2) 0 I J R (fun I1 J1 R1 => (kK (R1 l0 9) = 1 ∧ (P1_isCounting (R1 l0 9) l1 I1 (fun r7 => (if r7 = 0 then (Q 0 I1 J1 R1) else (Q 1 I1 J1 R1)))))))))) else (Q (-1) I J R))))))))))))
set_option maxRecDepth 20000 in
theorem C11_blind {ad : Nat → Nat} {n : Nat} {I J : mI} {R : mR} {Q : Int → mI → mI → mR → Prop}  {l0 : Nat} {l1 : Int} {l2 : Int} (hk0 : kK l0 = 11) (hw : P11_blind l0 l1 l2 I J R Q) : wMet yX11_blind cX11_blind 3 (some .int) 4 86 false ad n I J R [vr l0, vi l1, vi l2] (fun r I' J' R' => (True) ∧ Q r I' J' R') := by
  refine wMet_of (by decide) (Nat.le_of_ble_eq_true rfl) (fun C hC hRm hE hS => ?_)
  refine (show WM C ad n I J R 0 0 0 [(0, vr l0), (1, vi l1), (2, vi l2)] [] from ?_)
  unfold P11_blind at hw
  refine wm_aload_n hC 0 dX11_blind_0 rfl (k_ne0 hk0 (by decide)) ?_
  refine x_getR2 hC 12 fl_X11_57 rfl hk0 dX11_blind_1 hw (fun g1 hw => ?_)
  refine wm_iconst hC dX11_blind_4 (k := ?_)
  refine wm_iload_n hC 1 dX11_blind_5 rfl ?_
  refine y_callV_z_n hC hRm noS ml_X11_167 g1 (C3_isThere g1 hw) (Nat.le_of_ble_eq_true rfl) (Nat.le_of_ble_eq_true rfl) ⟨Nat.zero_le _, Nat.zero_le _⟩ rfl (st := []) rfl (Nat.le_of_ble_eq_true rfl) dX11_blind_6 (fun r1 hw => ?_)
  refine wm_if_ne (tgt := 14) hC dX11_blind_9 (by decide) hw (fun hw => ?_) (fun hw => ?_)
  · refine wm_iconst hC dX11_blind_12 (k := ?_)
    exact wm_ireturn hC hE dX11_blind_13 ⟨trivial, hw⟩
  · refine wm_iload_n hC 2 dX11_blind_14 rfl ?_
    by_cases hc1 : l2 = 0
    · rw [if_pos hc1] at hw
      refine wm_tableIn (v := 0) (tgt := 56) hC dX11_blind_15 hc1 (by decide) (by decide) rfl rfl ?_
      refine wm_aload_n hC 0 dX11_blind_56 rfl (k_ne0 hk0 (by decide)) ?_
      refine x_getR2 hC 12 fl_X11_57 rfl hk0 dX11_blind_57 hw (fun g2 hw => ?_)
      refine wm_iconst hC dX11_blind_60 (k := ?_)
      refine wm_iload_n hC 1 dX11_blind_61 rfl ?_
      refine wm_iload_n hC 2 dX11_blind_62 rfl ?_
      refine y_callV_i_n hC hRm noS ml_X11_175 g2 (C3_traitOf g2 hw) (Nat.le_of_ble_eq_true rfl) (Nat.le_of_ble_eq_true rfl) ⟨Nat.zero_le _, Nat.zero_le _⟩ rfl (st := []) rfl (Nat.le_of_ble_eq_true rfl) dX11_blind_63 (fun r2 hw => ?_)
      exact wm_ireturn hC hE dX11_blind_66 ⟨trivial, hw⟩
    rw [if_neg hc1] at hw
    by_cases hc2 : l2 = 1
    · rw [if_pos hc2] at hw
      refine wm_tableIn (v := 1) (tgt := 56) hC dX11_blind_15 hc2 (by decide) (by decide) rfl rfl ?_
      refine wm_aload_n hC 0 dX11_blind_56 rfl (k_ne0 hk0 (by decide)) ?_
      refine x_getR2 hC 12 fl_X11_57 rfl hk0 dX11_blind_57 hw (fun g3 hw => ?_)
      refine wm_iconst hC dX11_blind_60 (k := ?_)
      refine wm_iload_n hC 1 dX11_blind_61 rfl ?_
      refine wm_iload_n hC 2 dX11_blind_62 rfl ?_
      refine y_callV_i_n hC hRm noS ml_X11_175 g3 (C3_traitOf g3 hw) (Nat.le_of_ble_eq_true rfl) (Nat.le_of_ble_eq_true rfl) ⟨Nat.zero_le _, Nat.zero_le _⟩ rfl (st := []) rfl (Nat.le_of_ble_eq_true rfl) dX11_blind_63 (fun r3 hw => ?_)
      exact wm_ireturn hC hE dX11_blind_66 ⟨trivial, hw⟩
    rw [if_neg hc2] at hw
    by_cases hc3 : l2 = 2
    · rw [if_pos hc3] at hw
      refine wm_tableIn (v := 2) (tgt := 56) hC dX11_blind_15 hc3 (by decide) (by decide) rfl rfl ?_
      refine wm_aload_n hC 0 dX11_blind_56 rfl (k_ne0 hk0 (by decide)) ?_
      refine x_getR2 hC 12 fl_X11_57 rfl hk0 dX11_blind_57 hw (fun g4 hw => ?_)
      refine wm_iconst hC dX11_blind_60 (k := ?_)
      refine wm_iload_n hC 1 dX11_blind_61 rfl ?_
      refine wm_iload_n hC 2 dX11_blind_62 rfl ?_
      refine y_callV_i_n hC hRm noS ml_X11_175 g4 (C3_traitOf g4 hw) (Nat.le_of_ble_eq_true rfl) (Nat.le_of_ble_eq_true rfl) ⟨Nat.zero_le _, Nat.zero_le _⟩ rfl (st := []) rfl (Nat.le_of_ble_eq_true rfl) dX11_blind_63 (fun r4 hw => ?_)
      exact wm_ireturn hC hE dX11_blind_66 ⟨trivial, hw⟩
    rw [if_neg hc3] at hw
    by_cases hc4 : l2 = 3
    · rw [if_pos hc4] at hw
      refine wm_tableIn (v := 3) (tgt := 67) hC dX11_blind_15 hc4 (by decide) (by decide) rfl rfl ?_
      refine wm_aload_n hC 0 dX11_blind_67 rfl (k_ne0 hk0 (by decide)) ?_
      refine x_getR2 hC 12 fl_X11_57 rfl hk0 dX11_blind_68 hw (fun g5 hw => ?_)
      refine wm_iload_n hC 1 dX11_blind_71 rfl ?_
      refine y_callV_i_n hC hRm noS ml_X11_178 g5 (C3_isLate g5 hw) (Nat.le_of_ble_eq_true rfl) (Nat.le_of_ble_eq_true rfl) ⟨Nat.zero_le _, Nat.zero_le _⟩ rfl (st := []) rfl (Nat.le_of_ble_eq_true rfl) dX11_blind_72 (fun r5 hw => ?_)
      exact wm_ireturn hC hE dX11_blind_75 ⟨trivial, hw⟩
    rw [if_neg hc4] at hw
    by_cases hc5 : l2 = 4
    · rw [if_pos hc5] at hw
      refine wm_tableIn (v := 4) (tgt := 76) hC dX11_blind_15 hc5 (by decide) (by decide) rfl rfl ?_
      refine wm_aload_n hC 0 dX11_blind_76 rfl (k_ne0 hk0 (by decide)) ?_
      refine x_getR2 hC 2 fl_X11_26 rfl hk0 dX11_blind_77 hw (fun g6 hw => ?_)
      refine x_getR2 hC 4 fl_X11_181 rfl g6 dX11_blind_80 hw (fun g7 hw => ?_)
      refine wm_iload_n hC 1 dX11_blind_83 rfl ?_
      refine x_iald hC g7 dX11_blind_84 hw (fun hw => ?_)
      exact wm_ireturn hC hE dX11_blind_85 ⟨trivial, hw⟩
    rw [if_neg hc5] at hw
    by_cases hc6 : l2 = 5
    · rw [if_pos hc6] at hw
      refine wm_tableIn (v := 5) (tgt := 86) hC dX11_blind_15 hc6 (by decide) (by decide) rfl rfl ?_
      refine wm_aload_n hC 0 dX11_blind_86 rfl (k_ne0 hk0 (by decide)) ?_
      refine x_getR2 hC 2 fl_X11_26 rfl hk0 dX11_blind_87 hw (fun g8 hw => ?_)
      refine wm_iload_n hC 1 dX11_blind_90 rfl ?_
      refine wm_aload_n hC 0 dX11_blind_91 rfl (k_ne0 hk0 (by decide)) ?_
      refine x_getR2 hC 12 fl_X11_57 rfl hk0 dX11_blind_92 hw (fun g9 hw => ?_)
      refine x_getR2 hC 0 fl_X11_145 rfl g9 dX11_blind_95 hw (fun g10 hw => ?_)
      refine wm_iconst hC dX11_blind_98 (k := ?_)
      refine x_iald hC g10 dX11_blind_99 hw (fun hw => ?_)
      refine y_callV_i_n hC hRm noS ml_X11_184 g8 (C7_placeOf g8 hw) (Nat.le_of_ble_eq_true rfl) (Nat.le_of_ble_eq_true rfl) ⟨Nat.zero_le _, Nat.zero_le _⟩ rfl (st := []) rfl (Nat.le_of_ble_eq_true rfl) dX11_blind_100 (fun r6 hw => ?_)
      exact wm_ireturn hC hE dX11_blind_103 ⟨trivial, hw⟩
    rw [if_neg hc6] at hw
    by_cases hc7 : l2 = 6
    · rw [if_pos hc7] at hw
      refine wm_tableIn (v := 6) (tgt := 104) hC dX11_blind_15 hc7 (by decide) (by decide) rfl rfl ?_
      refine wm_aload_n hC 0 dX11_blind_104 rfl (k_ne0 hk0 (by decide)) ?_
      refine x_getR2 hC 9 fl_X11_88 rfl hk0 dX11_blind_105 hw (fun g11 hw => ?_)
      refine wm_aload_n hC 0 dX11_blind_108 rfl (k_ne0 hk0 (by decide)) ?_
      refine x_getR2 hC 12 fl_X11_57 rfl hk0 dX11_blind_109 hw (fun g12 hw => ?_)
      refine wm_aload_n hC 0 dX11_blind_112 rfl (k_ne0 hk0 (by decide)) ?_
      refine x_getR2 hC 2 fl_X11_26 rfl hk0 dX11_blind_113 hw (fun g13 hw => ?_)
      refine wm_iconst hC dX11_blind_116 (k := ?_)
      refine y_callV_v_IJR hC hRm noS ml_X11_187 g11 (C1_sit g11 g12 g13 hw) (Nat.le_of_ble_eq_true rfl) (Nat.le_of_ble_eq_true rfl) ⟨Nat.zero_le _, Nat.zero_le _⟩ rfl (st := []) rfl (Nat.le_of_ble_eq_true rfl) dX11_blind_117 (fun I1 J1 R1 hw => ?_)
      refine wm_aload_n hC 0 dX11_blind_120 rfl (k_ne0 hk0 (by decide)) ?_
      refine x_getR2 hC 9 fl_X11_88 rfl hk0 dX11_blind_121 hw (fun g14 hw => ?_)
      refine wm_iload_n hC 1 dX11_blind_124 rfl ?_
      refine y_callV_z_n hC hRm noS ml_X11_191 g14 (C1_isCounting g14 hw) (Nat.le_of_ble_eq_true rfl) (Nat.le_of_ble_eq_true rfl) ⟨Nat.zero_le _, Nat.zero_le _⟩ rfl (st := []) rfl (Nat.le_of_ble_eq_true rfl) dX11_blind_125 (fun r7 hw => ?_)
      refine wm_if_eq (tgt := 135) hC dX11_blind_128 (by decide) hw (fun hw => ?_) (fun hw => ?_)
      · refine wm_iconst hC dX11_blind_135 (k := ?_)
        exact wm_ireturn hC hE dX11_blind_136 ⟨trivial, hw⟩
      · refine wm_iconst hC dX11_blind_131 (k := ?_)
        refine wm_goto (tgt := 136) hC dX11_blind_132 (by decide) ?_
        exact wm_ireturn hC hE dX11_blind_136 ⟨trivial, hw⟩
    rw [if_neg hc7] at hw
    refine wm_tableOut (tgt := 137) hC dX11_blind_15 (by omega) rfl ?_
    refine wm_iconst hC dX11_blind_137 (k := ?_)
    exact wm_ireturn hC hE dX11_blind_138 ⟨trivial, hw⟩
def P11_colour (l0 : Nat) (l1 : Int) (l2 : Int) (I : mI) (R : mR) (Q : Int → Prop) : Prop := (kK (R l0 12) = 3 ∧ (P3_isThere (R l0 12) 1 l1 I R (fun r1 => (if r1 = 0 then (Q (-1)) else (if l2 < 0 then (Q (-1)) else (if l2 ≤ 4 then (if l2 = 4 then (kK (R l0 2) = 7 ∧ (kK (R l0 12) = 3 ∧ (kK (R (R l0 12) 0) = 21 ∧ (((0 : Int) ≤ (2 : Int) ∧ (2 : Int) < (kN (R (R l0 12) 0) : Int)) ∧ (P7_wornBy (R l0 2) (I (R (R l0 12) 0) (2 : Int)) l1 I R (fun r3 => (Q r3))))))) else (kK (R l0 12) = 3 ∧ (P3_traitOf (R l0 12) 1 l1 l2 I R (fun r2 => (Q r2))))) else (Q (-1))))))))
set_option maxRecDepth 20000 in
theorem C11_colour {ad : Nat → Nat} {n : Nat} {I J : mI} {R : mR} {Q : Int → Prop}  {l0 : Nat} {l1 : Int} {l2 : Int} (hk0 : kK l0 = 11) (hw : P11_colour l0 l1 l2 I R Q) : wMet yX11_colour cX11_colour 3 (some .int) 2 36 false ad n I J R [vr l0, vi l1, vi l2] (fun r I' J' R' => (I' = I ∧ J' = J ∧ R' = R) ∧ Q r) := by
  refine wMet_of (by decide) (Nat.le_of_ble_eq_true rfl) (fun C hC hRm hE hS => ?_)
  refine (show WM C ad n I J R 0 0 0 [(0, vr l0), (1, vi l1), (2, vi l2)] [] from ?_)
  unfold P11_colour at hw
  refine wm_aload_n hC 0 dX11_colour_0 rfl (k_ne0 hk0 (by decide)) ?_
  refine x_getR2 hC 12 fl_X11_57 rfl hk0 dX11_colour_1 hw (fun g1 hw => ?_)
  refine wm_iconst hC dX11_colour_4 (k := ?_)
  refine wm_iload_n hC 1 dX11_colour_5 rfl ?_
  refine y_callV_z_n hC hRm noS ml_X11_167 g1 (C3_isThere g1 hw) (Nat.le_of_ble_eq_true rfl) (Nat.le_of_ble_eq_true rfl) ⟨Nat.zero_le _, Nat.zero_le _⟩ rfl (st := []) rfl (Nat.le_of_ble_eq_true rfl) dX11_colour_6 (fun r1 hw => ?_)
  refine wm_if_eq (tgt := 21) hC dX11_colour_9 (by decide) hw (fun hw => ?_) (fun hw => ?_)
  · refine wm_iconst hC dX11_colour_21 (k := ?_)
    exact wm_ireturn hC hE dX11_colour_22 ⟨⟨rfl, rfl, rfl⟩, hw⟩
  · refine wm_iload_n hC 2 dX11_colour_12 rfl ?_
    refine wm_if_lt (tgt := 21) hC dX11_colour_13 (by decide) hw (fun hw => ?_) (fun hw => ?_)
    · refine wm_iconst hC dX11_colour_21 (k := ?_)
      exact wm_ireturn hC hE dX11_colour_22 ⟨⟨rfl, rfl, rfl⟩, hw⟩
    · refine wm_iload_n hC 2 dX11_colour_16 rfl ?_
      refine wm_iconst hC dX11_colour_17 (k := ?_)
      refine wm_icmp_le (tgt := 23) hC dX11_colour_18 (by decide) hw (fun hw => ?_) (fun hw => ?_)
      · refine wm_iload_n hC 2 dX11_colour_23 rfl ?_
        refine wm_iconst hC dX11_colour_24 (k := ?_)
        refine wm_icmp_ne (tgt := 46) hC dX11_colour_25 (by decide) hw (fun hw => ?_) (fun hw => ?_)
        · refine wm_aload_n hC 0 dX11_colour_28 rfl (k_ne0 hk0 (by decide)) ?_
          refine x_getR2 hC 2 fl_X11_26 rfl hk0 dX11_colour_29 hw (fun g3 hw => ?_)
          refine wm_aload_n hC 0 dX11_colour_32 rfl (k_ne0 hk0 (by decide)) ?_
          refine x_getR2 hC 12 fl_X11_57 rfl hk0 dX11_colour_33 hw (fun g4 hw => ?_)
          refine x_getR2 hC 0 fl_X11_145 rfl g4 dX11_colour_36 hw (fun g5 hw => ?_)
          refine wm_iconst hC dX11_colour_39 (k := ?_)
          refine x_iald hC g5 dX11_colour_40 hw (fun hw => ?_)
          refine wm_iload_n hC 1 dX11_colour_41 rfl ?_
          refine y_callV_i_n hC hRm noS ml_X11_153 g3 (C7_wornBy g3 hw) (Nat.le_of_ble_eq_true rfl) (Nat.le_of_ble_eq_true rfl) ⟨Nat.zero_le _, Nat.zero_le _⟩ rfl (st := []) rfl (Nat.le_of_ble_eq_true rfl) dX11_colour_42 (fun r3 hw => ?_)
          exact wm_ireturn hC hE dX11_colour_45 ⟨⟨rfl, rfl, rfl⟩, hw⟩
        · refine wm_aload_n hC 0 dX11_colour_46 rfl (k_ne0 hk0 (by decide)) ?_
          refine x_getR2 hC 12 fl_X11_57 rfl hk0 dX11_colour_47 hw (fun g2 hw => ?_)
          refine wm_iconst hC dX11_colour_50 (k := ?_)
          refine wm_iload_n hC 1 dX11_colour_51 rfl ?_
          refine wm_iload_n hC 2 dX11_colour_52 rfl ?_
          refine y_callV_i_n hC hRm noS ml_X11_175 g2 (C3_traitOf g2 hw) (Nat.le_of_ble_eq_true rfl) (Nat.le_of_ble_eq_true rfl) ⟨Nat.zero_le _, Nat.zero_le _⟩ rfl (st := []) rfl (Nat.le_of_ble_eq_true rfl) dX11_colour_53 (fun r2 hw => ?_)
          exact wm_ireturn hC hE dX11_colour_56 ⟨⟨rfl, rfl, rfl⟩, hw⟩
      · refine wm_iconst hC dX11_colour_21 (k := ?_)
        exact wm_ireturn hC hE dX11_colour_22 ⟨⟨rfl, rfl, rfl⟩, hw⟩
def P11_thing (l0 : Nat) (l1 : Int) (l2 : Int) (I : mI) (R : mR) (Q : Int → Prop) : Prop := (kK (R l0 12) = 3 ∧ (P3_isThere (R l0 12) 2 l1 I R (fun r1 => (if r1 = 0 then (Q (-1)) else (if l2 < 0 then (Q (-1)) else (if l2 ≤ 4 then (if l2 = 3 then (kK (R l0 2) = 7 ∧ (kK (R (R l0 2) 5) = 21 ∧ (((0 : Int) ≤ l1 ∧ l1 < (kN (R (R l0 2) 5) : Int)) ∧ (Q (I (R (R l0 2) 5) l1))))) else (if l2 = 4 then (kK (R l0 12) = 3 ∧ (kK (R (R l0 12) 3) = 21 ∧ (((0 : Int) ≤ l1 ∧ l1 < (kN (R (R l0 12) 3) : Int)) ∧ (PJ6_bitCount_0f7a4 (I (R (R l0 12) 3) l1) (fun r3 => (Q r3)))))) else (kK (R l0 12) = 3 ∧ (P3_traitOf (R l0 12) 2 l1 l2 I R (fun r2 => (Q r2)))))) else (Q (-1))))))))
set_option maxRecDepth 20000 in
theorem C11_thing {ad : Nat → Nat} {n : Nat} {I J : mI} {R : mR} {Q : Int → Prop}  {l0 : Nat} {l1 : Int} {l2 : Int} (hk0 : kK l0 = 11) (hw : P11_thing l0 l1 l2 I R Q) : wMet yX11_thing cX11_thing 3 (some .int) 2 36 false ad n I J R [vr l0, vi l1, vi l2] (fun r I' J' R' => (I' = I ∧ J' = J ∧ R' = R) ∧ Q r) := by
  refine wMet_of (by decide) (Nat.le_of_ble_eq_true rfl) (fun C hC hRm hE hS => ?_)
  refine (show WM C ad n I J R 0 0 0 [(0, vr l0), (1, vi l1), (2, vi l2)] [] from ?_)
  unfold P11_thing at hw
  refine wm_aload_n hC 0 dX11_thing_0 rfl (k_ne0 hk0 (by decide)) ?_
  refine x_getR2 hC 12 fl_X11_57 rfl hk0 dX11_thing_1 hw (fun g1 hw => ?_)
  refine wm_iconst hC dX11_thing_4 (k := ?_)
  refine wm_iload_n hC 1 dX11_thing_5 rfl ?_
  refine y_callV_z_n hC hRm noS ml_X11_167 g1 (C3_isThere g1 hw) (Nat.le_of_ble_eq_true rfl) (Nat.le_of_ble_eq_true rfl) ⟨Nat.zero_le _, Nat.zero_le _⟩ rfl (st := []) rfl (Nat.le_of_ble_eq_true rfl) dX11_thing_6 (fun r1 hw => ?_)
  refine wm_if_eq (tgt := 21) hC dX11_thing_9 (by decide) hw (fun hw => ?_) (fun hw => ?_)
  · refine wm_iconst hC dX11_thing_21 (k := ?_)
    exact wm_ireturn hC hE dX11_thing_22 ⟨⟨rfl, rfl, rfl⟩, hw⟩
  · refine wm_iload_n hC 2 dX11_thing_12 rfl ?_
    refine wm_if_lt (tgt := 21) hC dX11_thing_13 (by decide) hw (fun hw => ?_) (fun hw => ?_)
    · refine wm_iconst hC dX11_thing_21 (k := ?_)
      exact wm_ireturn hC hE dX11_thing_22 ⟨⟨rfl, rfl, rfl⟩, hw⟩
    · refine wm_iload_n hC 2 dX11_thing_16 rfl ?_
      refine wm_iconst hC dX11_thing_17 (k := ?_)
      refine wm_icmp_le (tgt := 23) hC dX11_thing_18 (by decide) hw (fun hw => ?_) (fun hw => ?_)
      · refine wm_iload_n hC 2 dX11_thing_23 rfl ?_
        refine wm_iconst hC dX11_thing_24 (k := ?_)
        refine wm_icmp_ne (tgt := 38) hC dX11_thing_25 (by decide) hw (fun hw => ?_) (fun hw => ?_)
        · refine wm_aload_n hC 0 dX11_thing_28 rfl (k_ne0 hk0 (by decide)) ?_
          refine x_getR2 hC 2 fl_X11_26 rfl hk0 dX11_thing_29 hw (fun g5 hw => ?_)
          refine x_getR2 hC 5 fl_X11_157 rfl g5 dX11_thing_32 hw (fun g6 hw => ?_)
          refine wm_iload_n hC 1 dX11_thing_35 rfl ?_
          refine x_iald hC g6 dX11_thing_36 hw (fun hw => ?_)
          exact wm_ireturn hC hE dX11_thing_37 ⟨⟨rfl, rfl, rfl⟩, hw⟩
        · refine wm_iload_n hC 2 dX11_thing_38 rfl ?_
          refine wm_iconst hC dX11_thing_39 (k := ?_)
          refine wm_icmp_ne (tgt := 56) hC dX11_thing_40 (by decide) hw (fun hw => ?_) (fun hw => ?_)
          · refine wm_aload_n hC 0 dX11_thing_43 rfl (k_ne0 hk0 (by decide)) ?_
            refine x_getR2 hC 12 fl_X11_57 rfl hk0 dX11_thing_44 hw (fun g3 hw => ?_)
            refine x_getR2 hC 3 fl_X11_194 rfl g3 dX11_thing_47 hw (fun g4 hw => ?_)
            refine wm_iload_n hC 1 dX11_thing_50 rfl ?_
            refine x_iald hC g4 dX11_thing_51 hw (fun hw => ?_)
            refine y_callS_i_n hC hRm noS ml_X11_197 (CJ6_bitCount_0f7a4  hw) (Nat.le_of_ble_eq_true rfl) (Nat.le_of_ble_eq_true rfl) ⟨Nat.zero_le _, Nat.zero_le _⟩ rfl (st := []) rfl (Nat.le_of_ble_eq_true rfl) dX11_thing_52 (fun r3 hw => ?_)
            exact wm_ireturn hC hE dX11_thing_55 ⟨⟨rfl, rfl, rfl⟩, hw⟩
          · refine wm_aload_n hC 0 dX11_thing_56 rfl (k_ne0 hk0 (by decide)) ?_
            refine x_getR2 hC 12 fl_X11_57 rfl hk0 dX11_thing_57 hw (fun g2 hw => ?_)
            refine wm_iconst hC dX11_thing_60 (k := ?_)
            refine wm_iload_n hC 1 dX11_thing_61 rfl ?_
            refine wm_iload_n hC 2 dX11_thing_62 rfl ?_
            refine y_callV_i_n hC hRm noS ml_X11_175 g2 (C3_traitOf g2 hw) (Nat.le_of_ble_eq_true rfl) (Nat.le_of_ble_eq_true rfl) ⟨Nat.zero_le _, Nat.zero_le _⟩ rfl (st := []) rfl (Nat.le_of_ble_eq_true rfl) dX11_thing_63 (fun r2 hw => ?_)
            exact wm_ireturn hC hE dX11_thing_66 ⟨⟨rfl, rfl, rfl⟩, hw⟩
      · refine wm_iconst hC dX11_thing_21 (k := ?_)
        exact wm_ireturn hC hE dX11_thing_22 ⟨⟨rfl, rfl, rfl⟩, hw⟩
def P11_areThere (l0 : Nat) (l1 : Int) (l2 : Int) (I : mI) (R : mR) (Q : Int → Prop) : Prop := (kK (R l0 12) = 3 ∧ (P3_isThere (R l0 12) 0 l1 I R (fun r1 => (if r1 = 0 then (Q 0) else (kK (R l0 12) = 3 ∧ (P3_isThere (R l0 12) 2 l2 I R (fun r2 => (if r2 = 0 then (Q 0) else (Q 1)))))))))
set_option maxRecDepth 20000 in
theorem C11_areThere {ad : Nat → Nat} {n : Nat} {I J : mI} {R : mR} {Q : Int → Prop}  {l0 : Nat} {l1 : Int} {l2 : Int} (hk0 : kK l0 = 11) (hw : P11_areThere l0 l1 l2 I R Q) : wMet yX11_areThere cX11_areThere 3 (some .boolean) 2 34 false ad n I J R [vr l0, vi l1, vi l2] (fun r I' J' R' => (I' = I ∧ J' = J ∧ R' = R) ∧ Q r) := by
  refine wMet_of (by decide) (Nat.le_of_ble_eq_true rfl) (fun C hC hRm hE hS => ?_)
  refine (show WM C ad n I J R 0 0 0 [(0, vr l0), (1, vi l1), (2, vi l2)] [] from ?_)
  unfold P11_areThere at hw
  refine wm_aload_n hC 0 dX11_areThere_0 rfl (k_ne0 hk0 (by decide)) ?_
  refine x_getR2 hC 12 fl_X11_57 rfl hk0 dX11_areThere_1 hw (fun g1 hw => ?_)
  refine wm_iconst hC dX11_areThere_4 (k := ?_)
  refine wm_iload_n hC 1 dX11_areThere_5 rfl ?_
  refine y_callV_z_n hC hRm noS ml_X11_167 g1 (C3_isThere g1 hw) (Nat.le_of_ble_eq_true rfl) (Nat.le_of_ble_eq_true rfl) ⟨Nat.zero_le _, Nat.zero_le _⟩ rfl (st := []) rfl (Nat.le_of_ble_eq_true rfl) dX11_areThere_6 (fun r1 hw => ?_)
  refine wm_if_eq (tgt := 28) hC dX11_areThere_9 (by decide) hw (fun hw => ?_) (fun hw => ?_)
  · refine wm_iconst hC dX11_areThere_28 (k := ?_)
    exact wm_zreturn hC hE (Or.inl rfl) dX11_areThere_29 ⟨⟨rfl, rfl, rfl⟩, hw⟩
  · refine wm_aload_n hC 0 dX11_areThere_12 rfl (k_ne0 hk0 (by decide)) ?_
    refine x_getR2 hC 12 fl_X11_57 rfl hk0 dX11_areThere_13 hw (fun g2 hw => ?_)
    refine wm_iconst hC dX11_areThere_16 (k := ?_)
    refine wm_iload_n hC 2 dX11_areThere_17 rfl ?_
    refine y_callV_z_n hC hRm noS ml_X11_167 g2 (C3_isThere g2 hw) (Nat.le_of_ble_eq_true rfl) (Nat.le_of_ble_eq_true rfl) ⟨Nat.zero_le _, Nat.zero_le _⟩ rfl (st := []) rfl (Nat.le_of_ble_eq_true rfl) dX11_areThere_18 (fun r2 hw => ?_)
    refine wm_if_eq (tgt := 28) hC dX11_areThere_21 (by decide) hw (fun hw => ?_) (fun hw => ?_)
    · refine wm_iconst hC dX11_areThere_28 (k := ?_)
      exact wm_zreturn hC hE (Or.inl rfl) dX11_areThere_29 ⟨⟨rfl, rfl, rfl⟩, hw⟩
    · refine wm_iconst hC dX11_areThere_24 (k := ?_)
      refine wm_goto (tgt := 29) hC dX11_areThere_25 (by decide) ?_
      exact wm_zreturn hC hE (Or.inr rfl) dX11_areThere_29 ⟨⟨rfl, rfl, rfl⟩, hw⟩
def P11_score (l0 : Nat) (l1 : Int) (l2 : Int) (l3 : Int) (I : mI) (J : mI) (R : mR) (Q : Int → mI → mI → mR → Prop) : Prop := (P11_areThere l0 l1 l2 I R (fun r1 => (if r1 = 0 then (Q (-1000000000000000) I J R) else (kK (R l0 12) = 3 ∧ (P3_isThere (R l0 12) 1 l3 I R (fun r2 => (if r2 = 0 then (Q (-1000000000000000) I J R) else (kK (R l0 9) = 1 ∧ (kK (R l0 12) = 3 ∧ (kK (R l0 2) = 7 ∧ (P1_sit (R l0 9) (R l0 12) (R l0 2) l2 I J R (fun I1 J1 R1 => (kK (R1 l0 9) = 1 ∧ (P1_scoreOf (R1 l0 9) l1 l3 0 I1 J1 R1 (fun r3 I2 J2 => (Q r3 I2 J2 R1))))))))))))))))
set_option maxRecDepth 20000 in
theorem C11_score {ad : Nat → Nat} {n : Nat} {I J : mI} {R : mR} {Q : Int → mI → mI → mR → Prop}  {l0 : Nat} {l1 : Int} {l2 : Int} {l3 : Int} (hk0 : kK l0 = 11) (hw : P11_score l0 l1 l2 l3 I J R Q) : wMet yX11_score cX11_score 4 (some .long) 4 89 false ad n I J R [vr l0, vi l1, vi l2, vi l3] (fun r I' J' R' => (True) ∧ Q r I' J' R') := by
  refine wMet_of (by decide) (Nat.le_of_ble_eq_true rfl) (fun C hC hRm hE hS => ?_)
  refine (show WM C ad n I J R 0 0 0 [(0, vr l0), (1, vi l1), (2, vi l2), (3, vi l3)] [] from ?_)
  unfold P11_score at hw
  refine wm_aload_n hC 0 dX11_score_0 rfl (k_ne0 hk0 (by decide)) ?_
  refine wm_iload_n hC 1 dX11_score_1 rfl ?_
  refine wm_iload_n hC 2 dX11_score_2 rfl ?_
  refine y_callV_z_n hC hRm noS ml_X11_202 hk0 (C11_areThere hk0 hw) (Nat.le_of_ble_eq_true rfl) (Nat.le_of_ble_eq_true rfl) ⟨Nat.zero_le _, Nat.zero_le _⟩ rfl (st := []) rfl (Nat.le_of_ble_eq_true rfl) dX11_score_3 (fun r1 hw => ?_)
  refine wm_if_eq (tgt := 21) hC dX11_score_6 (by decide) hw (fun hw => ?_) (fun hw => ?_)
  · refine wm_ldc2 hC (x := (-1000000000000000)) tc_X11_205 rfl dX11_score_21 (k := ?_)
    exact wm_lreturn hC hE dX11_score_24 ⟨trivial, hw⟩
  · refine wm_aload_n hC 0 dX11_score_9 rfl (k_ne0 hk0 (by decide)) ?_
    refine x_getR2 hC 12 fl_X11_57 rfl hk0 dX11_score_10 hw (fun g1 hw => ?_)
    refine wm_iconst hC dX11_score_13 (k := ?_)
    refine wm_iload_n hC 3 dX11_score_14 rfl ?_
    refine y_callV_z_n hC hRm noS ml_X11_167 g1 (C3_isThere g1 hw) (Nat.le_of_ble_eq_true rfl) (Nat.le_of_ble_eq_true rfl) ⟨Nat.zero_le _, Nat.zero_le _⟩ rfl (st := []) rfl (Nat.le_of_ble_eq_true rfl) dX11_score_15 (fun r2 hw => ?_)
    refine wm_if_ne (tgt := 25) hC dX11_score_18 (by decide) hw (fun hw => ?_) (fun hw => ?_)
    · refine wm_ldc2 hC (x := (-1000000000000000)) tc_X11_205 rfl dX11_score_21 (k := ?_)
      exact wm_lreturn hC hE dX11_score_24 ⟨trivial, hw⟩
    · refine wm_aload_n hC 0 dX11_score_25 rfl (k_ne0 hk0 (by decide)) ?_
      refine x_getR2 hC 9 fl_X11_88 rfl hk0 dX11_score_26 hw (fun g2 hw => ?_)
      refine wm_aload_n hC 0 dX11_score_29 rfl (k_ne0 hk0 (by decide)) ?_
      refine x_getR2 hC 12 fl_X11_57 rfl hk0 dX11_score_30 hw (fun g3 hw => ?_)
      refine wm_aload_n hC 0 dX11_score_33 rfl (k_ne0 hk0 (by decide)) ?_
      refine x_getR2 hC 2 fl_X11_26 rfl hk0 dX11_score_34 hw (fun g4 hw => ?_)
      refine wm_iload_n hC 2 dX11_score_37 rfl ?_
      refine y_callV_v_IJR hC hRm noS ml_X11_187 g2 (C1_sit g2 g3 g4 hw) (Nat.le_of_ble_eq_true rfl) (Nat.le_of_ble_eq_true rfl) ⟨Nat.zero_le _, Nat.zero_le _⟩ rfl (st := []) rfl (Nat.le_of_ble_eq_true rfl) dX11_score_38 (fun I1 J1 R1 hw => ?_)
      refine wm_aload_n hC 0 dX11_score_41 rfl (k_ne0 hk0 (by decide)) ?_
      refine x_getR2 hC 9 fl_X11_88 rfl hk0 dX11_score_42 hw (fun g5 hw => ?_)
      refine wm_iload_n hC 1 dX11_score_45 rfl ?_
      refine wm_iload_n hC 3 dX11_score_46 rfl ?_
      refine wm_iconst hC dX11_score_47 (k := ?_)
      refine y_callV_i_IJ hC hRm noS ml_X11_207 g5 (C1_scoreOf g5 hw) (Nat.le_of_ble_eq_true rfl) (Nat.le_of_ble_eq_true rfl) ⟨Nat.zero_le _, Nat.zero_le _⟩ rfl (st := []) rfl (Nat.le_of_ble_eq_true rfl) dX11_score_48 (fun r3 I2 J2 hw => ?_)
      refine wm_i2l hC dX11_score_51 ?_
      exact wm_lreturn hC hE dX11_score_52 ⟨trivial, hw⟩
def P11_word (l0 : Nat) (l1 : Int) (l2 : Int) (I : mI) (J : mI) (R : mR) (Q : Int → mI → mI → mR → Prop) : Prop := (P11_areThere l0 l1 l2 I R (fun r1 => (if r1 = 0 then (Q (-1) I J R) else (kK (R l0 9) = 1 ∧ (kK (R l0 12) = 3 ∧ (kK (R l0 2) = 7 ∧ (P1_sit (R l0 9) (R l0 12) (R l0 2) l2 I J R (fun I1 J1 R1 => (kK (R1 l0 9) = 1 ∧ (P1_wordOf (R1 l0 9) l1 I1 J1 R1 (fun r2 I2 J2 => (Q r2 I2 J2 R1))))))))))))
set_option maxRecDepth 20000 in
theorem C11_word {ad : Nat → Nat} {n : Nat} {I J : mI} {R : mR} {Q : Int → mI → mI → mR → Prop}  {l0 : Nat} {l1 : Int} {l2 : Int} (hk0 : kK l0 = 11) (hw : P11_word l0 l1 l2 I J R Q) : wMet yX11_word cX11_word 3 (some .int) 5 114 false ad n I J R [vr l0, vi l1, vi l2] (fun r I' J' R' => (True) ∧ Q r I' J' R') := by
  refine wMet_of (by decide) (Nat.le_of_ble_eq_true rfl) (fun C hC hRm hE hS => ?_)
  refine (show WM C ad n I J R 0 0 0 [(0, vr l0), (1, vi l1), (2, vi l2)] [] from ?_)
  unfold P11_word at hw
  refine wm_aload_n hC 0 dX11_word_0 rfl (k_ne0 hk0 (by decide)) ?_
  refine wm_iload_n hC 1 dX11_word_1 rfl ?_
  refine wm_iload_n hC 2 dX11_word_2 rfl ?_
  refine y_callV_z_n hC hRm noS ml_X11_202 hk0 (C11_areThere hk0 hw) (Nat.le_of_ble_eq_true rfl) (Nat.le_of_ble_eq_true rfl) ⟨Nat.zero_le _, Nat.zero_le _⟩ rfl (st := []) rfl (Nat.le_of_ble_eq_true rfl) dX11_word_3 (fun r1 hw => ?_)
  refine wm_if_ne (tgt := 11) hC dX11_word_6 (by decide) hw (fun hw => ?_) (fun hw => ?_)
  · refine wm_iconst hC dX11_word_9 (k := ?_)
    exact wm_ireturn hC hE dX11_word_10 ⟨trivial, hw⟩
  · refine wm_aload_n hC 0 dX11_word_11 rfl (k_ne0 hk0 (by decide)) ?_
    refine x_getR2 hC 9 fl_X11_88 rfl hk0 dX11_word_12 hw (fun g1 hw => ?_)
    refine wm_aload_n hC 0 dX11_word_15 rfl (k_ne0 hk0 (by decide)) ?_
    refine x_getR2 hC 12 fl_X11_57 rfl hk0 dX11_word_16 hw (fun g2 hw => ?_)
    refine wm_aload_n hC 0 dX11_word_19 rfl (k_ne0 hk0 (by decide)) ?_
    refine x_getR2 hC 2 fl_X11_26 rfl hk0 dX11_word_20 hw (fun g3 hw => ?_)
    refine wm_iload_n hC 2 dX11_word_23 rfl ?_
    refine y_callV_v_IJR hC hRm noS ml_X11_187 g1 (C1_sit g1 g2 g3 hw) (Nat.le_of_ble_eq_true rfl) (Nat.le_of_ble_eq_true rfl) ⟨Nat.zero_le _, Nat.zero_le _⟩ rfl (st := []) rfl (Nat.le_of_ble_eq_true rfl) dX11_word_24 (fun I1 J1 R1 hw => ?_)
    refine wm_aload_n hC 0 dX11_word_27 rfl (k_ne0 hk0 (by decide)) ?_
    refine x_getR2 hC 9 fl_X11_88 rfl hk0 dX11_word_28 hw (fun g4 hw => ?_)
    refine wm_iload_n hC 1 dX11_word_31 rfl ?_
    refine y_callV_i_IJ hC hRm noS ml_X11_210 g4 (C1_wordOf g4 hw) (Nat.le_of_ble_eq_true rfl) (Nat.le_of_ble_eq_true rfl) ⟨Nat.zero_le _, Nat.zero_le _⟩ rfl (st := []) rfl (Nat.le_of_ble_eq_true rfl) dX11_word_32 (fun r2 I2 J2 hw => ?_)
    exact wm_ireturn hC hE dX11_word_35 ⟨trivial, hw⟩
def P11_choice (l0 : Nat) (l1 : Int) (l2 : Int) (I : mI) (J : mI) (R : mR) (Q : Int → mI → mI → mR → Prop) : Prop := (kK (R l0 12) = 3 ∧ (P3_isThere (R l0 12) 2 l1 I R (fun r1 => (if r1 = 0 then (Q (-1) I J R) else (if l2 < 0 then (Q (-1) I J R) else (if l2 ≤ 1 then (kK (R l0 9) = 1 ∧ (kK (R l0 12) = 3 ∧ (kK (R l0 2) = 7 ∧ (P1_sit (R l0 9) (R l0 12) (R l0 2) l1 I J R (fun I1 J1 R1 => (kK (R1 l0 9) = 1 ∧ (kK (R1 l0 2) = 7 ∧ (kK (R1 (R1 l0 2) 3) = 21 ∧ (kK (R1 l0 12) = 3 ∧ (P3_everybody (R1 l0 12) I1 R1 (fun r2 => (P1_ask (R1 l0 9) (R1 (R1 l0 2) 3) r2 I1 J1 R1 (fun r3 I2 J2 => (if l2 = 0 then (Q r3 I2 J2 R1) else (kK (R1 l0 9) = 1 ∧ (P1_votesFor (R1 l0 9) r3 I2 R1 (fun r4 => (Q r4 I2 J2 R1)))))))))))))))))) else (Q (-1) I J R)))))))
set_option maxRecDepth 20000 in
theorem C11_choice {ad : Nat → Nat} {n : Nat} {I J : mI} {R : mR} {Q : Int → mI → mI → mR → Prop}  {l0 : Nat} {l1 : Int} {l2 : Int} (hk0 : kK l0 = 11) (hw : P11_choice l0 l1 l2 I J R Q) : wMet yX11_choice cX11_choice 4 (some .int) 6 139 false ad n I J R [vr l0, vi l1, vi l2] (fun r I' J' R' => (True) ∧ Q r I' J' R') := by
  refine wMet_of (by decide) (Nat.le_of_ble_eq_true rfl) (fun C hC hRm hE hS => ?_)
  refine (show WM C ad n I J R 0 0 0 [(0, vr l0), (1, vi l1), (2, vi l2)] [] from ?_)
  unfold P11_choice at hw
  refine wm_aload_n hC 0 dX11_choice_0 rfl (k_ne0 hk0 (by decide)) ?_
  refine x_getR2 hC 12 fl_X11_57 rfl hk0 dX11_choice_1 hw (fun g1 hw => ?_)
  refine wm_iconst hC dX11_choice_4 (k := ?_)
  refine wm_iload_n hC 1 dX11_choice_5 rfl ?_
  refine y_callV_z_n hC hRm noS ml_X11_167 g1 (C3_isThere g1 hw) (Nat.le_of_ble_eq_true rfl) (Nat.le_of_ble_eq_true rfl) ⟨Nat.zero_le _, Nat.zero_le _⟩ rfl (st := []) rfl (Nat.le_of_ble_eq_true rfl) dX11_choice_6 (fun r1 hw => ?_)
  refine wm_if_eq (tgt := 21) hC dX11_choice_9 (by decide) hw (fun hw => ?_) (fun hw => ?_)
  · refine wm_iconst hC dX11_choice_21 (k := ?_)
    exact wm_ireturn hC hE dX11_choice_22 ⟨trivial, hw⟩
  · refine wm_iload_n hC 2 dX11_choice_12 rfl ?_
    refine wm_if_lt (tgt := 21) hC dX11_choice_13 (by decide) hw (fun hw => ?_) (fun hw => ?_)
    · refine wm_iconst hC dX11_choice_21 (k := ?_)
      exact wm_ireturn hC hE dX11_choice_22 ⟨trivial, hw⟩
    · refine wm_iload_n hC 2 dX11_choice_16 rfl ?_
      refine wm_iconst hC dX11_choice_17 (k := ?_)
      refine wm_icmp_le (tgt := 23) hC dX11_choice_18 (by decide) hw (fun hw => ?_) (fun hw => ?_)
      · refine wm_aload_n hC 0 dX11_choice_23 rfl (k_ne0 hk0 (by decide)) ?_
        refine x_getR2 hC 9 fl_X11_88 rfl hk0 dX11_choice_24 hw (fun g2 hw => ?_)
        refine wm_aload_n hC 0 dX11_choice_27 rfl (k_ne0 hk0 (by decide)) ?_
        refine x_getR2 hC 12 fl_X11_57 rfl hk0 dX11_choice_28 hw (fun g3 hw => ?_)
        refine wm_aload_n hC 0 dX11_choice_31 rfl (k_ne0 hk0 (by decide)) ?_
        refine x_getR2 hC 2 fl_X11_26 rfl hk0 dX11_choice_32 hw (fun g4 hw => ?_)
        refine wm_iload_n hC 1 dX11_choice_35 rfl ?_
        refine y_callV_v_IJR hC hRm noS ml_X11_187 g2 (C1_sit g2 g3 g4 hw) (Nat.le_of_ble_eq_true rfl) (Nat.le_of_ble_eq_true rfl) ⟨Nat.zero_le _, Nat.zero_le _⟩ rfl (st := []) rfl (Nat.le_of_ble_eq_true rfl) dX11_choice_36 (fun I1 J1 R1 hw => ?_)
        refine wm_aload_n hC 0 dX11_choice_39 rfl (k_ne0 hk0 (by decide)) ?_
        refine x_getR2 hC 9 fl_X11_88 rfl hk0 dX11_choice_40 hw (fun g5 hw => ?_)
        refine wm_aload_n hC 0 dX11_choice_43 rfl (k_ne0 hk0 (by decide)) ?_
        refine x_getR2 hC 2 fl_X11_26 rfl hk0 dX11_choice_44 hw (fun g6 hw => ?_)
        refine x_getR2 hC 3 fl_X11_213 rfl g6 dX11_choice_47 hw (fun g7 hw => ?_)
        refine wm_aload_n hC 0 dX11_choice_50 rfl (k_ne0 hk0 (by decide)) ?_
        refine x_getR2 hC 12 fl_X11_57 rfl hk0 dX11_choice_51 hw (fun g8 hw => ?_)
        refine y_callV_i_n hC hRm noS ml_X11_216 g8 (C3_everybody g8 hw) (Nat.le_of_ble_eq_true rfl) (Nat.le_of_ble_eq_true rfl) ⟨Nat.zero_le _, Nat.zero_le _⟩ rfl (st := [vr (R1 (R1 l0 2) 3), vr (R1 l0 9)]) rfl (Nat.le_of_ble_eq_true rfl) dX11_choice_54 (fun r2 hw => ?_)
        refine y_callV_i_IJ hC hRm noS ml_X11_220 g5 (C1_ask g5 g7 hw) (Nat.le_of_ble_eq_true rfl) (Nat.le_of_ble_eq_true rfl) ⟨Nat.zero_le _, Nat.zero_le _⟩ rfl (st := []) rfl (Nat.le_of_ble_eq_true rfl) dX11_choice_57 (fun r3 I2 J2 hw => ?_)
        refine wm_istore_n hC dX11_choice_60 (by decide) (L2 := [(3, vi r3), (0, vr l0), (1, vi l1), (2, vi l2)]) rfl ?_
        refine wm_iload_n hC 3 dX11_choice_61 rfl ?_
        refine wm_if_ne (tgt := 69) hC dX11_choice_62 (by decide) hw (fun hw => ?_) (fun hw => ?_)
        · refine wm_iload_n hC 0 dX11_choice_65 rfl ?_
          refine wm_goto (tgt := 77) hC dX11_choice_66 (by decide) ?_
          exact wm_ireturn hC hE dX11_choice_77 ⟨trivial, hw⟩
        · refine wm_aload_n hC 1 dX11_choice_69 rfl (k_ne0 hk0 (by decide)) ?_
          refine x_getR2 hC 9 fl_X11_88 rfl hk0 dX11_choice_70 hw (fun g9 hw => ?_)
          refine wm_iload_n hC 0 dX11_choice_73 rfl ?_
          refine y_callV_i_n hC hRm noS ml_X11_224 g9 (C1_votesFor g9 hw) (Nat.le_of_ble_eq_true rfl) (Nat.le_of_ble_eq_true rfl) ⟨Nat.zero_le _, Nat.zero_le _⟩ rfl (st := []) rfl (Nat.le_of_ble_eq_true rfl) dX11_choice_74 (fun r4 hw => ?_)
          exact wm_ireturn hC hE dX11_choice_77 ⟨trivial, hw⟩
      · refine wm_iconst hC dX11_choice_21 (k := ?_)
        exact wm_ireturn hC hE dX11_choice_22 ⟨trivial, hw⟩
def P11_canPass (l0 : Nat) (l1 : Int) (I : mI) (R : mR) (Q : Int → Prop) : Prop := (if l1 < 0 then (Q 0) else (if (40 : Int) < l1 then (Q 0) else (kK (R l0 2) = 7 ∧ (rg ((I (R l0 2) 0) + l1) ∧ (if (999 : Int) < ((I (R l0 2) 0) + l1) then (Q 0) else (Q 1))))))
set_option maxRecDepth 20000 in
theorem C11_canPass {ad : Nat → Nat} {n : Nat} {I J : mI} {R : mR} {Q : Int → Prop}  {l0 : Nat} {l1 : Int} (hk0 : kK l0 = 11) (hw : P11_canPass l0 l1 I R Q) : wMet yX11_canPass cX11_canPass 2 (some .boolean) 1 12 false ad n I J R [vr l0, vi l1] (fun r I' J' R' => (I' = I ∧ J' = J ∧ R' = R) ∧ Q r) := by
  refine wMet_of (by decide) (Nat.le_of_ble_eq_true rfl) (fun C hC hRm hE hS => ?_)
  refine (show WM C ad n I J R 0 0 0 [(0, vr l0), (1, vi l1)] [] from ?_)
  unfold P11_canPass at hw
  refine wm_iload_n hC 1 dX11_canPass_0 rfl ?_
  refine wm_if_lt (tgt := 29) hC dX11_canPass_1 (by decide) hw (fun hw => ?_) (fun hw => ?_)
  · refine wm_iconst hC dX11_canPass_29 (k := ?_)
    exact wm_zreturn hC hE (Or.inl rfl) dX11_canPass_30 ⟨⟨rfl, rfl, rfl⟩, hw⟩
  · refine wm_iload_n hC 1 dX11_canPass_4 rfl ?_
    refine wm_bipush hC dX11_canPass_5 (k := ?_)
    refine wm_icmp_gt (tgt := 29) hC dX11_canPass_7 (by decide) hw (fun hw => ?_) (fun hw => ?_)
    · refine wm_iconst hC dX11_canPass_29 (k := ?_)
      exact wm_zreturn hC hE (Or.inl rfl) dX11_canPass_30 ⟨⟨rfl, rfl, rfl⟩, hw⟩
    · refine wm_aload_n hC 0 dX11_canPass_10 rfl (k_ne0 hk0 (by decide)) ?_
      refine x_getR2 hC 2 fl_X11_26 rfl hk0 dX11_canPass_11 hw (fun g1 hw => ?_)
      refine x_getI hC 0 fl_X11_147 rfl g1 dX11_canPass_14 ?_
      refine wm_iload_n hC 1 dX11_canPass_17 rfl ?_
      refine x_iadd hC dX11_canPass_18 hw (fun hw => ?_)
      refine wm_sipush hC dX11_canPass_19 (k := ?_)
      refine wm_icmp_gt (tgt := 29) hC dX11_canPass_22 (by decide) hw (fun hw => ?_) (fun hw => ?_)
      · refine wm_iconst hC dX11_canPass_29 (k := ?_)
        exact wm_zreturn hC hE (Or.inl rfl) dX11_canPass_30 ⟨⟨rfl, rfl, rfl⟩, hw⟩
      · refine wm_iconst hC dX11_canPass_25 (k := ?_)
        refine wm_goto (tgt := 30) hC dX11_canPass_26 (by decide) ?_
        exact wm_zreturn hC hE (Or.inr rfl) dX11_canPass_30 ⟨⟨rfl, rfl, rfl⟩, hw⟩
def P11_lookAhead_b13_body (l0 : Nat) (l1 : Int) (Q : mI → mI → mR → Prop) (k13 : Int → mI → mI → mR → Prop) (l2 : Int) (I : mI) (J : mI) (R : mR) : Prop := (if l1 ≤ l2 then (Q I J R) else (kK (R l0 10) = 0 ∧ (kK (R l0 12) = 3 ∧ (kK (R l0 3) = 7 ∧ (P0_pass (R l0 10) (R l0 12) (R l0 3) (-1) I J R (fun r1 I2 J1 R1 => (rg (l2 + 1) ∧ (k13 (l2 + 1) I2 J1 R1))))))))
def P11_lookAhead_b13 (l0 : Nat) (l1 : Int) (Q : mI → mI → mR → Prop) : Nat → Int → mI → mI → mR → Prop
  | 0 => fun _ _ _ _ => False
  | f + 1 => fun l2 I J R => P11_lookAhead_b13_body l0 l1 Q (P11_lookAhead_b13 l0 l1 Q f) l2 I J R
set_option maxRecDepth 20000 in
theorem W11_lookAhead_b13_body {C : wX} {ad : Nat → Nat} {n : Nat} {I J : mI} {R : mR} {Q : mI → mI → mR → Prop} (hC : wOK C cX11_lookAhead 3 RX11) (hRm : wRm C 7 168 0 0) (hE : wEnd C none ad n (fun _ I' J' R' => (True) ∧ Q I' J' R')) {l0 : Nat} {l1 : Int} {l2 : Int}   (hk0 : kK l0 = 11)  {k13 : Int → mI → mI → mR → Prop} (kk13 : ∀ (y2 : Int) (I' : mI) (J' : mI) (R' : mR), k13 y2 I' J' R' → WM C ad n I' J' R' 0 0 13 [(0, vr l0), (1, vi l1), (2, vi y2)] []) (hw : P11_lookAhead_b13_body l0 l1 Q k13 l2 I J R) : WM C ad n I J R 0 0 13 [(0, vr l0), (1, vi l1), (2, vi l2)] [] := by
  unfold P11_lookAhead_b13_body at hw
  refine wm_iload_n hC 2 dX11_lookAhead_13 rfl ?_
  refine wm_iload_n hC 1 dX11_lookAhead_14 rfl ?_
  refine wm_icmp_ge (tgt := 41) hC dX11_lookAhead_15 (by decide) hw (fun hw => ?_) (fun hw => ?_)
  · exact wm_return hC hE dX11_lookAhead_41 ⟨trivial, hw⟩
  · refine wm_aload_n hC 0 dX11_lookAhead_18 rfl (k_ne0 hk0 (by decide)) ?_
    refine x_getR2 hC 10 fl_X11_97 rfl hk0 dX11_lookAhead_19 hw (fun g3 hw => ?_)
    refine wm_aload_n hC 0 dX11_lookAhead_22 rfl (k_ne0 hk0 (by decide)) ?_
    refine x_getR2 hC 12 fl_X11_57 rfl hk0 dX11_lookAhead_23 hw (fun g4 hw => ?_)
    refine wm_aload_n hC 0 dX11_lookAhead_26 rfl (k_ne0 hk0 (by decide)) ?_
    refine x_getR2 hC 3 fl_X11_30 rfl hk0 dX11_lookAhead_27 hw (fun g5 hw => ?_)
    refine wm_iconst hC dX11_lookAhead_30 (k := ?_)
    refine y_callV_z_IJR hC hRm noS ml_X11_278 g3 (C0_pass g3 g4 g5 hw) (Nat.le_of_ble_eq_true rfl) (Nat.le_of_ble_eq_true rfl) ⟨Nat.zero_le _, Nat.zero_le _⟩ rfl (st := []) rfl (Nat.le_of_ble_eq_true rfl) dX11_lookAhead_31 (fun r1 I2 J1 R1 hw => ?_)
    refine wm_pop hC dX11_lookAhead_34 (k := ?_)
    refine x_iinc hC 2 dX11_lookAhead_35 rfl (by decide) (L2 := [(2, vi (l2 + 1)), (0, vr l0), (1, vi l1)]) rfl hw (fun hw => ?_)
    refine wm_goto (tgt := 13) hC dX11_lookAhead_38 (by decide) ?_
    refine wm_sub [1, 2, 0] (L2 := [(0, vr l0), (1, vi l1), (2, vi (l2 + 1))]) rfl ?_
    exact kk13 _ _ _ _ hw
set_option maxRecDepth 20000 in
theorem W11_lookAhead_b13 {C : wX} {ad : Nat → Nat} {n : Nat}  {Q : mI → mI → mR → Prop} (hC : wOK C cX11_lookAhead 3 RX11) (hRm : wRm C 7 168 0 0) (hE : wEnd C none ad n (fun _ I' J' R' => (True) ∧ Q I' J' R')) {l0 : Nat} {l1 : Int}   (hk0 : kK l0 = 11)  : ∀ (f : Nat) (l2 : Int) (I : mI) (J : mI) (R : mR), P11_lookAhead_b13 l0 l1 Q f l2 I J R → WM C ad n I J R 0 0 13 [(0, vr l0), (1, vi l1), (2, vi l2)] [] := by
  intro f
  induction f with
  | zero => intro l2 I J R hw; exact hw.elim
  | succ f ih => intro l2 I J R hw; exact W11_lookAhead_b13_body hC hRm hE hk0 (fun a0 a1 a2 a3 hw => ih a0 a1 a2 a3 hw) hw
def P11_lookAhead (l0 : Nat) (l1 : Int) (I : mI) (J : mI) (R : mR) (Q : mI → mI → mR → Prop) : Prop := (kK (R l0 3) = 7 ∧ (kK (R l0 2) = 7 ∧ (P7_take (R l0 3) (R l0 2) I R (fun I1 => (∃ f, P11_lookAhead_b13 l0 l1 Q f 0 I1 J R)))))
set_option maxRecDepth 20000 in
theorem C11_lookAhead {ad : Nat → Nat} {n : Nat} {I J : mI} {R : mR} {Q : mI → mI → mR → Prop}  {l0 : Nat} {l1 : Int} (hk0 : kK l0 = 11) (hw : P11_lookAhead l0 l1 I J R Q) : wMet yX11_lookAhead cX11_lookAhead 3 none 7 168 false ad n I J R [vr l0, vi l1] (fun _ I' J' R' => (True) ∧ Q I' J' R') := by
  refine wMet_of (by decide) (Nat.le_of_ble_eq_true rfl) (fun C hC hRm hE hS => ?_)
  refine (show WM C ad n I J R 0 0 0 [(0, vr l0), (1, vi l1)] [] from ?_)
  unfold P11_lookAhead at hw
  refine wm_aload_n hC 0 dX11_lookAhead_0 rfl (k_ne0 hk0 (by decide)) ?_
  refine x_getR2 hC 3 fl_X11_30 rfl hk0 dX11_lookAhead_1 hw (fun g1 hw => ?_)
  refine wm_aload_n hC 0 dX11_lookAhead_4 rfl (k_ne0 hk0 (by decide)) ?_
  refine x_getR2 hC 2 fl_X11_26 rfl hk0 dX11_lookAhead_5 hw (fun g2 hw => ?_)
  refine y_callV_v_I hC hRm noS ml_X11_308 g1 (C7_take g1 g2 hw) (Nat.le_of_ble_eq_true rfl) (Nat.le_of_ble_eq_true rfl) ⟨Nat.zero_le _, Nat.zero_le _⟩ rfl (st := []) rfl (Nat.le_of_ble_eq_true rfl) dX11_lookAhead_8 (fun I1 hw => ?_)
  refine wm_iconst hC dX11_lookAhead_11 (k := ?_)
  refine wm_istore_n hC dX11_lookAhead_12 (by decide) (L2 := [(2, vi 0), (0, vr l0), (1, vi l1)]) rfl ?_
  obtain ⟨f, hw⟩ := hw
  refine wm_sub [1, 2, 0] (L2 := [(0, vr l0), (1, vi l1), (2, vi 0)]) rfl ?_
  exact W11_lookAhead_b13 hC hRm hE hk0 f _ _ _ _ hw
