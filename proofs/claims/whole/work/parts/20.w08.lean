def p12_number_b58 (I : mI) (J : mI) (Q : Int → mI → mI → Prop) : Prop := (if (I 159 8) = 0 then (p12_ahead I J (fun I4 J1 => (Q (I 159 6) I4 J1))) else (Q (I 159 6) I J))
set_option maxRecDepth 20000 in
theorem w12_number_b58 {C : wX} {ad : Nat → Nat} {n : Nat} {I J : mI} {R : mR} {Q : Int → mI → mI → Prop} (hC : wOK C cX12_number 4 RX12) (hRm : wRm C 3 57 0 0) (hE : wEnd C (some .int) ad n (fun r I' J' R' => (R' = R) ∧ Q r I' J')) (hRF : RF R)      (hw : p12_number_b58 I J Q) : WM C ad n I J R 0 0 58 [(0, vr 159)] [] := by
  unfold p12_number_b58 at hw
  refine wm_aload_n hC 0 dX12_number_58 rfl (k_ne0 kk_159 (by decide)) ?_
  refine x_getI hC 6 fl_X12_29 rfl kk_159 dX12_number_59 ?_
  refine wm_istore_n hC dX12_number_62 (by decide) (L2 := [(3, vi (I 159 6)), (0, vr 159)]) rfl ?_
  refine wm_aload_n hC 1 dX12_number_63 rfl (k_ne0 kk_159 (by decide)) ?_
  refine x_getI hC 8 fl_X12_36 rfl kk_159 dX12_number_64 ?_
  refine wm_if_ne (tgt := 74) hC dX12_number_67 (by decide) hw (fun hw => ?_) (fun hw => ?_)
  · refine wm_aload_n hC 1 dX12_number_70 rfl (k_ne0 kk_159 (by decide)) ?_
    refine y_callV_v_IJ hC hRm noS ml_X12_247 kk_159 (c12_ahead hRF  hw) (Nat.le_of_ble_eq_true rfl) (Nat.le_of_ble_eq_true rfl) ⟨Nat.zero_le _, Nat.zero_le _⟩ rfl (st := []) rfl (Nat.le_of_ble_eq_true rfl) dX12_number_71 (fun I4 J1 hw => ?_)
    refine wm_iload_n hC 0 dX12_number_74 rfl ?_
    exact wm_ireturn hC hE dX12_number_75 ⟨rfl, hw⟩
  · refine wm_iload_n hC 0 dX12_number_74 rfl ?_
    exact wm_ireturn hC hE dX12_number_75 ⟨rfl, hw⟩
def p12_number_b30 (l1 : Int) (l2 : Int) (I : mI) (J : mI) (Q : Int → mI → mI → Prop) : Prop := (if (I 159 8) = 0 then (p12_is (I 159 6) l1 l2 (fun r1 => (if r1 = 0 then (p12_blame 4 (I 159 4) I (fun I3 => (p12_number_b58 I3 J Q))) else (p12_number_b58 I J Q)))) else (p12_number_b58 I J Q))
set_option maxRecDepth 20000 in
theorem w12_number_b30 {C : wX} {ad : Nat → Nat} {n : Nat} {I J : mI} {R : mR} {Q : Int → mI → mI → Prop} (hC : wOK C cX12_number 4 RX12) (hRm : wRm C 3 57 0 0) (hE : wEnd C (some .int) ad n (fun r I' J' R' => (R' = R) ∧ Q r I' J')) (hRF : RF R) {l1 : Int} {l2 : Int}     (hw : p12_number_b30 l1 l2 I J Q) : WM C ad n I J R 0 0 30 [(0, vr 159), (1, vi l1), (2, vi l2)] [] := by
  unfold p12_number_b30 at hw
  refine wm_aload_n hC 0 dX12_number_30 rfl (k_ne0 kk_159 (by decide)) ?_
  refine x_getI hC 8 fl_X12_36 rfl kk_159 dX12_number_31 ?_
  refine wm_if_ne (tgt := 58) hC dX12_number_34 (by decide) hw (fun hw => ?_) (fun hw => ?_)
  · refine wm_aload_n hC 0 dX12_number_37 rfl (k_ne0 kk_159 (by decide)) ?_
    refine x_getI hC 6 fl_X12_29 rfl kk_159 dX12_number_38 ?_
    refine wm_iload_n hC 1 dX12_number_41 rfl ?_
    refine wm_iload_n hC 2 dX12_number_42 rfl ?_
    refine y_callS_z_n hC hRm noS ml_X12_309 (c12_is hRF  hw) (Nat.le_of_ble_eq_true rfl) (Nat.le_of_ble_eq_true rfl) ⟨Nat.zero_le _, Nat.zero_le _⟩ rfl (st := []) rfl (Nat.le_of_ble_eq_true rfl) dX12_number_43 (fun r1 hw => ?_)
    refine wm_if_ne (tgt := 58) hC dX12_number_46 (by decide) hw (fun hw => ?_) (fun hw => ?_)
    · refine wm_aload_n hC 0 dX12_number_49 rfl (k_ne0 kk_159 (by decide)) ?_
      refine wm_iconst hC dX12_number_50 (k := ?_)
      refine wm_aload_n hC 0 dX12_number_51 rfl (k_ne0 kk_159 (by decide)) ?_
      refine x_getI hC 4 fl_X12_23 rfl kk_159 dX12_number_52 ?_
      refine y_callV_v_I hC hRm noS ml_X12_230 kk_159 (c12_blame hRF  hw) (Nat.le_of_ble_eq_true rfl) (Nat.le_of_ble_eq_true rfl) ⟨Nat.zero_le _, Nat.zero_le _⟩ rfl (st := []) rfl (Nat.le_of_ble_eq_true rfl) dX12_number_55 (fun I3 hw => ?_)
      refine wm_sub [0] (L2 := [(0, vr 159)]) rfl ?_
      exact w12_number_b58 hC hRm hE hRF  hw
    · refine wm_sub [0] (L2 := [(0, vr 159)]) rfl ?_
      exact w12_number_b58 hC hRm hE hRF  hw
  · refine wm_sub [0] (L2 := [(0, vr 159)]) rfl ?_
    exact w12_number_b58 hC hRm hE hRF  hw
def p12_number (l1 : Int) (l2 : Int) (I : mI) (J : mI) (Q : Int → mI → mI → Prop) : Prop := (p12_lex I (fun I1 => (if (I1 159 8) ≤ 0 then (if (I1 159 3) = 2 then (p12_number_b30 l1 l2 I1 J Q) else (p12_blame 1 (I1 159 4) I1 (fun I2 => (p12_number_b30 l1 l2 I2 J Q)))) else (Q 0 I1 J))))
set_option maxRecDepth 20000 in
theorem c12_number {ad : Nat → Nat} {n : Nat} {I J : mI} {R : mR} {Q : Int → mI → mI → Prop}  (hRF : RF R) {l1 : Int} {l2 : Int}    (hw : p12_number l1 l2 I J Q) : wMet yX12_number cX12_number 4 (some .int) 3 57 false ad n I J R [vr 159, vi l1, vi l2] (fun r I' J' R' => (R' = R) ∧ Q r I' J') := by
  refine wMet_of (by decide) (Nat.le_of_ble_eq_true rfl) (fun C hC hRm hE hS => ?_)
  refine (show WM C ad n I J R 0 0 0 [(0, vr 159), (1, vi l1), (2, vi l2)] [] from ?_)
  unfold p12_number at hw
  refine wm_aload_n hC 0 dX12_number_0 rfl (k_ne0 kk_159 (by decide)) ?_
  refine y_callV_v_I hC hRm noS ml_X12_241 kk_159 (c12_lex hRF  hw) (Nat.le_of_ble_eq_true rfl) (Nat.le_of_ble_eq_true rfl) ⟨Nat.zero_le _, Nat.zero_le _⟩ rfl (st := []) rfl (Nat.le_of_ble_eq_true rfl) dX12_number_1 (fun I1 hw => ?_)
  refine wm_aload_n hC 0 dX12_number_4 rfl (k_ne0 kk_159 (by decide)) ?_
  refine x_getI hC 8 fl_X12_36 rfl kk_159 dX12_number_5 ?_
  refine wm_if_le (tgt := 13) hC dX12_number_8 (by decide) hw (fun hw => ?_) (fun hw => ?_)
  · refine wm_aload_n hC 0 dX12_number_13 rfl (k_ne0 kk_159 (by decide)) ?_
    refine x_getI hC 3 fl_X12_20 rfl kk_159 dX12_number_14 ?_
    refine wm_iconst hC dX12_number_17 (k := ?_)
    refine wm_icmp_eq (tgt := 30) hC dX12_number_18 (by decide) hw (fun hw => ?_) (fun hw => ?_)
    · exact w12_number_b30 hC hRm hE hRF  hw
    · refine wm_aload_n hC 0 dX12_number_21 rfl (k_ne0 kk_159 (by decide)) ?_
      refine wm_iconst hC dX12_number_22 (k := ?_)
      refine wm_aload_n hC 0 dX12_number_23 rfl (k_ne0 kk_159 (by decide)) ?_
      refine x_getI hC 4 fl_X12_23 rfl kk_159 dX12_number_24 ?_
      refine y_callV_v_I hC hRm noS ml_X12_230 kk_159 (c12_blame hRF  hw) (Nat.le_of_ble_eq_true rfl) (Nat.le_of_ble_eq_true rfl) ⟨Nat.zero_le _, Nat.zero_le _⟩ rfl (st := []) rfl (Nat.le_of_ble_eq_true rfl) dX12_number_27 (fun I2 hw => ?_)
      exact w12_number_b30 hC hRm hE hRF  hw
  · refine wm_iconst hC dX12_number_11 (k := ?_)
    exact wm_ireturn hC hE dX12_number_12 ⟨rfl, hw⟩
def p12_shapes (l0 : Nat) (l1 : Int) (l2 : Int) (l3 : Int) (l4 : Int) (I : mI) (Q : mI → Prop) : Prop := (((0 : Int) ≤ l1 ∧ l1 < (36 : Int)) ∧ wLet (up I l0 l1 l2) (fun I1 => (rg (l1 + 1) ∧ (((0 : Int) ≤ (l1 + 1) ∧ (l1 + 1) < (36 : Int)) ∧ wLet (up I1 l0 (l1 + 1) l3) (fun I2 => (rg (l1 + 2) ∧ (((0 : Int) ≤ (l1 + 2) ∧ (l1 + 2) < (36 : Int)) ∧ wLet (up I2 l0 (l1 + 2) l4) (fun I3 => (Q I3)))))))))
set_option maxRecDepth 20000 in
theorem c12_shapes {ad : Nat → Nat} {n : Nat} {I J : mI} {R : mR} {Q : mI → Prop}  (hRF : RF R) {l0 : Nat} {l1 : Int} {l2 : Int} {l3 : Int} {l4 : Int} (h0 : isA 36 l0)     (hw : p12_shapes l0 l1 l2 l3 l4 I Q) : wMet yX12_shapes cX12_shapes 5 none 1 12 false ad n I J R [vr l0, vi l1, vi l2, vi l3, vi l4] (fun _ I' J' R' => (J' = J ∧ R' = R) ∧ Q I') := by
  refine wMet_of (by decide) (Nat.le_of_ble_eq_true rfl) (fun C hC hRm hE hS => ?_)
  refine (show WM C ad n I J R 0 0 0 [(0, vr l0), (1, vi l1), (2, vi l2), (3, vi l3), (4, vi l4)] [] from ?_)
  unfold p12_shapes at hw
  refine wm_aload_n hC 0 dX12_shapes_0 rfl (k_ne0 h0.1 (by decide)) ?_
  refine wm_iload_n hC 1 dX12_shapes_1 rfl ?_
  refine wm_iload_n hC 2 dX12_shapes_2 rfl ?_
  refine x_iast2 hC h0.1 h0.2 dX12_shapes_3 hw (fun I1 hw => ?_)
  refine wm_aload_n hC 0 dX12_shapes_4 rfl (k_ne0 h0.1 (by decide)) ?_
  refine wm_iload_n hC 1 dX12_shapes_5 rfl ?_
  refine wm_iconst hC dX12_shapes_6 (k := ?_)
  refine x_iadd hC dX12_shapes_7 hw (fun hw => ?_)
  refine wm_iload_n hC 3 dX12_shapes_8 rfl ?_
  refine x_iast2 hC h0.1 h0.2 dX12_shapes_9 hw (fun I2 hw => ?_)
  refine wm_aload_n hC 0 dX12_shapes_10 rfl (k_ne0 h0.1 (by decide)) ?_
  refine wm_iload_n hC 1 dX12_shapes_11 rfl ?_
  refine wm_iconst hC dX12_shapes_12 (k := ?_)
  refine x_iadd hC dX12_shapes_13 hw (fun hw => ?_)
  refine wm_iload hC 4 dX12_shapes_14 rfl ?_
  refine x_iast2 hC h0.1 h0.2 dX12_shapes_16 hw (fun I3 hw => ?_)
  exact wm_return hC hE dX12_shapes_17 ⟨⟨rfl, rfl⟩, hw⟩
def p12_isShaped_b16 (l1 : Int) (s1 : Int) (I : mI) (J : mI) (Q : Int → mI → mI → Prop) : Prop := (p12_isCounted s1 I J (fun r2 I1 J1 => (if r2 = 0 then (Q 0 I1 J1) else (p12_manyOf l1 I1 (fun r3 => (p12_fresh I1 J1 (fun r4 I2 J2 => (p12_mustWord 2002874989 I2 J2 (fun I3 J3 => (p12_number 0 9 I3 J3 (fun r5 I4 J4 => (p12_mustWord 1819243876 I4 J4 (fun I5 J5 => (p12_number 0 9 I5 J5 (fun r6 I6 J6 => (p12_mustWord 1684366704 I6 J6 (fun I7 J7 => (p12_number 0 9 I7 J7 (fun r7 I8 J8 => (if (I8 159 8) ≤ 0 then (rg (18 * (I8 159 32)) ∧ (rg (3 * r3) ∧ (rg ((18 * (I8 159 32)) + (3 * r3)) ∧ (wLet ((18 * (I8 159 32)) + (3 * r3)) (fun x1 => (rg (18 * (I8 159 32)) ∧ (rg (6 * l1) ∧ (rg ((18 * (I8 159 32)) + (6 * l1)) ∧ (rg (((18 * (I8 159 32)) + (6 * l1)) + r3) ∧ (((0 : Int) ≤ (((18 * (I8 159 32)) + (6 * l1)) + r3) ∧ (((18 * (I8 159 32)) + (6 * l1)) + r3) < (36 : Int)) ∧ wLet (up J8 177 (((18 * (I8 159 32)) + (6 * l1)) + r3) r4) (fun J9 => (if l1 = 0 then (p12_shapes 162 x1 r5 r6 r7 I8 (fun I11 => (Q 1 I11 J9))) else (if l1 = 1 then (p12_shapes 165 x1 r5 r6 r7 I8 (fun I10 => (Q 1 I10 J9))) else (p12_shapes 168 x1 r5 r6 r7 I8 (fun I9 => (Q 1 I9 J9)))))))))))))))) else (Q 0 I8 J8)))))))))))))))))))))
set_option maxRecDepth 20000 in
theorem w12_isShaped_b16 {C : wX} {ad : Nat → Nat} {n : Nat} {I J : mI} {R : mR} {Q : Int → mI → mI → Prop} (hC : wOK C cX12_isShaped 9 RX12) (hRm : wRm C 4 80 0 0) (hE : wEnd C (some .boolean) ad n (fun r I' J' R' => (R' = R) ∧ Q r I' J')) (hRF : RF R) {l1 : Int} {s1 : Int}     (hw : p12_isShaped_b16 l1 s1 I J Q) : WM C ad n I J R 0 0 16 [(0, vr 159), (1, vi l1)] [vi s1, vr 159] := by
  unfold p12_isShaped_b16 at hw
  refine y_callV_z_IJ hC hRm noS ml_X12_355 kk_159 (c12_isCounted hRF  hw) (Nat.le_of_ble_eq_true rfl) (Nat.le_of_ble_eq_true rfl) ⟨Nat.zero_le _, Nat.zero_le _⟩ rfl (st := []) rfl (Nat.le_of_ble_eq_true rfl) dX12_isShaped_16 (fun r2 I1 J1 hw => ?_)
  refine wm_if_ne (tgt := 24) hC dX12_isShaped_19 (by decide) hw (fun hw => ?_) (fun hw => ?_)
  · refine wm_iconst hC dX12_isShaped_22 (k := ?_)
    exact wm_zreturn hC hE (Or.inl rfl) dX12_isShaped_23 ⟨rfl, hw⟩
  · refine wm_aload_n hC 0 dX12_isShaped_24 rfl (k_ne0 kk_159 (by decide)) ?_
    refine wm_iload_n hC 1 dX12_isShaped_25 rfl ?_
    refine y_callV_i_n hC hRm noS ml_X12_306 kk_159 (c12_manyOf hRF  hw) (Nat.le_of_ble_eq_true rfl) (Nat.le_of_ble_eq_true rfl) ⟨Nat.zero_le _, Nat.zero_le _⟩ rfl (st := []) rfl (Nat.le_of_ble_eq_true rfl) dX12_isShaped_26 (fun r3 hw => ?_)
    refine wm_istore_n hC dX12_isShaped_29 (by decide) (L2 := [(2, vi r3), (0, vr 159), (1, vi l1)]) rfl ?_
    refine wm_aload_n hC 1 dX12_isShaped_30 rfl (k_ne0 kk_159 (by decide)) ?_
    refine y_callV_l_IJ hC hRm noS ml_X12_363 kk_159 (c12_fresh hRF  hw) (Nat.le_of_ble_eq_true rfl) (Nat.le_of_ble_eq_true rfl) ⟨Nat.zero_le _, Nat.zero_le _⟩ rfl (st := []) rfl (Nat.le_of_ble_eq_true rfl) dX12_isShaped_31 (fun r4 I2 J2 hw => ?_)
    refine wm_lstore_n hC dX12_isShaped_34 (by decide) (L2 := [(3, vl r4), (2, vi r3), (0, vr 159), (1, vi l1)]) rfl ?_
    refine wm_aload_n hC 2 dX12_isShaped_35 rfl (k_ne0 kk_159 (by decide)) ?_
    refine wm_ldc2 hC (x := 2002874989) tc_X12_252 rfl dX12_isShaped_36 (k := ?_)
    refine y_callV_v_IJ hC hRm noS ml_X12_367 kk_159 (c12_mustWord hRF  hw) (Nat.le_of_ble_eq_true rfl) (Nat.le_of_ble_eq_true rfl) ⟨Nat.zero_le _, Nat.zero_le _⟩ rfl (st := []) rfl (Nat.le_of_ble_eq_true rfl) dX12_isShaped_39 (fun I3 J3 hw => ?_)
    refine wm_aload_n hC 2 dX12_isShaped_42 rfl (k_ne0 kk_159 (by decide)) ?_
    refine wm_iconst hC dX12_isShaped_43 (k := ?_)
    refine wm_bipush hC dX12_isShaped_44 (k := ?_)
    refine y_callV_i_IJ hC hRm noS ml_X12_359 kk_159 (c12_number hRF  hw) (Nat.le_of_ble_eq_true rfl) (Nat.le_of_ble_eq_true rfl) ⟨Nat.zero_le _, Nat.zero_le _⟩ rfl (st := []) rfl (Nat.le_of_ble_eq_true rfl) dX12_isShaped_46 (fun r5 I4 J4 hw => ?_)
    refine wm_istore hC dX12_isShaped_49 (by decide) (L2 := [(5, vi r5), (3, vl r4), (2, vi r3), (0, vr 159), (1, vi l1)]) rfl ?_
    refine wm_aload_n hC 3 dX12_isShaped_51 rfl (k_ne0 kk_159 (by decide)) ?_
    refine wm_ldc2 hC (x := 1819243876) tc_X12_254 rfl dX12_isShaped_52 (k := ?_)
    refine y_callV_v_IJ hC hRm noS ml_X12_367 kk_159 (c12_mustWord hRF  hw) (Nat.le_of_ble_eq_true rfl) (Nat.le_of_ble_eq_true rfl) ⟨Nat.zero_le _, Nat.zero_le _⟩ rfl (st := []) rfl (Nat.le_of_ble_eq_true rfl) dX12_isShaped_55 (fun I5 J5 hw => ?_)
    refine wm_aload_n hC 3 dX12_isShaped_58 rfl (k_ne0 kk_159 (by decide)) ?_
    refine wm_iconst hC dX12_isShaped_59 (k := ?_)
    refine wm_bipush hC dX12_isShaped_60 (k := ?_)
    refine y_callV_i_IJ hC hRm noS ml_X12_359 kk_159 (c12_number hRF  hw) (Nat.le_of_ble_eq_true rfl) (Nat.le_of_ble_eq_true rfl) ⟨Nat.zero_le _, Nat.zero_le _⟩ rfl (st := []) rfl (Nat.le_of_ble_eq_true rfl) dX12_isShaped_62 (fun r6 I6 J6 hw => ?_)
    refine wm_istore hC dX12_isShaped_65 (by decide) (L2 := [(6, vi r6), (5, vi r5), (3, vl r4), (2, vi r3), (0, vr 159), (1, vi l1)]) rfl ?_
    refine wm_aload_n hC 4 dX12_isShaped_67 rfl (k_ne0 kk_159 (by decide)) ?_
    refine wm_ldc2 hC (x := 1684366704) tc_X12_256 rfl dX12_isShaped_68 (k := ?_)
    refine y_callV_v_IJ hC hRm noS ml_X12_367 kk_159 (c12_mustWord hRF  hw) (Nat.le_of_ble_eq_true rfl) (Nat.le_of_ble_eq_true rfl) ⟨Nat.zero_le _, Nat.zero_le _⟩ rfl (st := []) rfl (Nat.le_of_ble_eq_true rfl) dX12_isShaped_71 (fun I7 J7 hw => ?_)
    refine wm_aload_n hC 4 dX12_isShaped_74 rfl (k_ne0 kk_159 (by decide)) ?_
    refine wm_iconst hC dX12_isShaped_75 (k := ?_)
    refine wm_bipush hC dX12_isShaped_76 (k := ?_)
    refine y_callV_i_IJ hC hRm noS ml_X12_359 kk_159 (c12_number hRF  hw) (Nat.le_of_ble_eq_true rfl) (Nat.le_of_ble_eq_true rfl) ⟨Nat.zero_le _, Nat.zero_le _⟩ rfl (st := []) rfl (Nat.le_of_ble_eq_true rfl) dX12_isShaped_78 (fun r7 I8 J8 hw => ?_)
    refine wm_istore hC dX12_isShaped_81 (by decide) (L2 := [(7, vi r7), (6, vi r6), (5, vi r5), (3, vl r4), (2, vi r3), (0, vr 159), (1, vi l1)]) rfl ?_
    refine wm_aload_n hC 5 dX12_isShaped_83 rfl (k_ne0 kk_159 (by decide)) ?_
    refine x_getI hC 8 fl_X12_36 rfl kk_159 dX12_isShaped_84 ?_
    refine wm_if_le (tgt := 92) hC dX12_isShaped_87 (by decide) hw (fun hw => ?_) (fun hw => ?_)
    · refine wm_bipush hC dX12_isShaped_92 (k := ?_)
      refine wm_aload_n hC 5 dX12_isShaped_94 rfl (k_ne0 kk_159 (by decide)) ?_
      refine x_getI hC 32 fl_X12_109 rfl kk_159 dX12_isShaped_95 ?_
      refine x_imul hC dX12_isShaped_98 hw (fun hw => ?_)
      refine wm_iconst hC dX12_isShaped_99 (k := ?_)
      refine wm_iload_n hC 4 dX12_isShaped_100 rfl ?_
      refine x_imul hC dX12_isShaped_101 hw (fun hw => ?_)
      refine x_iadd hC dX12_isShaped_102 hw (fun hw => ?_)
      refine x_nameI hw (fun x1 hw => ?_)
      refine wm_istore hC dX12_isShaped_103 (by decide) (L2 := [(8, vi x1), (7, vi r7), (6, vi r6), (5, vi r5), (3, vl r4), (2, vi r3), (0, vr 159), (1, vi l1)]) rfl ?_
      refine wm_aload_n hC 6 dX12_isShaped_105 rfl (k_ne0 kk_159 (by decide)) ?_
      refine x_getR3 hC 30 fl_X12_102 rfl kk_159 (rf_159_30 hRF) dX12_isShaped_106 ?_
      refine wm_bipush hC dX12_isShaped_109 (k := ?_)
      refine wm_aload_n hC 6 dX12_isShaped_111 rfl (k_ne0 kk_159 (by decide)) ?_
      refine x_getI hC 32 fl_X12_109 rfl kk_159 dX12_isShaped_112 ?_
      refine x_imul hC dX12_isShaped_115 hw (fun hw => ?_)
      refine wm_bipush hC dX12_isShaped_116 (k := ?_)
      refine wm_iload_n hC 7 dX12_isShaped_118 rfl ?_
      refine x_imul hC dX12_isShaped_119 hw (fun hw => ?_)
      refine x_iadd hC dX12_isShaped_120 hw (fun hw => ?_)
      refine wm_iload_n hC 5 dX12_isShaped_121 rfl ?_
      refine x_iadd hC dX12_isShaped_122 hw (fun hw => ?_)
      refine wm_lload_n hC 4 dX12_isShaped_123 rfl ?_
      refine x_last2 hC kk_177 kn_177 dX12_isShaped_124 hw (fun J9 hw => ?_)
      refine wm_iload_n hC 7 dX12_isShaped_125 rfl ?_
      refine wm_if_ne (tgt := 147) hC dX12_isShaped_126 (by decide) hw (fun hw => ?_) (fun hw => ?_)
      · refine wm_aload_n hC 6 dX12_isShaped_129 rfl (k_ne0 kk_159 (by decide)) ?_
        refine x_getR3 hC 15 fl_X12_57 rfl kk_159 (rf_159_15 hRF) dX12_isShaped_130 ?_
        refine wm_iload hC 0 dX12_isShaped_133 rfl ?_
        refine wm_iload hC 3 dX12_isShaped_135 rfl ?_
        refine wm_iload hC 2 dX12_isShaped_137 rfl ?_
        refine wm_iload hC 1 dX12_isShaped_139 rfl ?_
        refine y_callS_v_I hC hRm noS ml_X12_371 (c12_shapes hRF ⟨kk_162, kn_162⟩ hw) (Nat.le_of_ble_eq_true rfl) (Nat.le_of_ble_eq_true rfl) ⟨Nat.zero_le _, Nat.zero_le _⟩ rfl (st := []) rfl (Nat.le_of_ble_eq_true rfl) dX12_isShaped_141 (fun I11 hw => ?_)
        refine wm_goto (tgt := 185) hC dX12_isShaped_144 (by decide) ?_
        refine wm_iconst hC dX12_isShaped_185 (k := ?_)
        exact wm_zreturn hC hE (Or.inr rfl) dX12_isShaped_186 ⟨rfl, hw⟩
      · refine wm_iload_n hC 7 dX12_isShaped_147 rfl ?_
        refine wm_iconst hC dX12_isShaped_148 (k := ?_)
        refine wm_icmp_ne (tgt := 170) hC dX12_isShaped_149 (by decide) hw (fun hw => ?_) (fun hw => ?_)
        · refine wm_aload_n hC 6 dX12_isShaped_152 rfl (k_ne0 kk_159 (by decide)) ?_
          refine x_getR3 hC 18 fl_X12_66 rfl kk_159 (rf_159_18 hRF) dX12_isShaped_153 ?_
          refine wm_iload hC 0 dX12_isShaped_156 rfl ?_
          refine wm_iload hC 3 dX12_isShaped_158 rfl ?_
          refine wm_iload hC 2 dX12_isShaped_160 rfl ?_
          refine wm_iload hC 1 dX12_isShaped_162 rfl ?_
          refine y_callS_v_I hC hRm noS ml_X12_371 (c12_shapes hRF ⟨kk_165, kn_165⟩ hw) (Nat.le_of_ble_eq_true rfl) (Nat.le_of_ble_eq_true rfl) ⟨Nat.zero_le _, Nat.zero_le _⟩ rfl (st := []) rfl (Nat.le_of_ble_eq_true rfl) dX12_isShaped_164 (fun I10 hw => ?_)
          refine wm_goto (tgt := 185) hC dX12_isShaped_167 (by decide) ?_
          refine wm_iconst hC dX12_isShaped_185 (k := ?_)
          exact wm_zreturn hC hE (Or.inr rfl) dX12_isShaped_186 ⟨rfl, hw⟩
        · refine wm_aload_n hC 6 dX12_isShaped_170 rfl (k_ne0 kk_159 (by decide)) ?_
          refine x_getR3 hC 21 fl_X12_75 rfl kk_159 (rf_159_21 hRF) dX12_isShaped_171 ?_
          refine wm_iload hC 0 dX12_isShaped_174 rfl ?_
          refine wm_iload hC 3 dX12_isShaped_176 rfl ?_
          refine wm_iload hC 2 dX12_isShaped_178 rfl ?_
          refine wm_iload hC 1 dX12_isShaped_180 rfl ?_
          refine y_callS_v_I hC hRm noS ml_X12_371 (c12_shapes hRF ⟨kk_168, kn_168⟩ hw) (Nat.le_of_ble_eq_true rfl) (Nat.le_of_ble_eq_true rfl) ⟨Nat.zero_le _, Nat.zero_le _⟩ rfl (st := []) rfl (Nat.le_of_ble_eq_true rfl) dX12_isShaped_182 (fun I9 hw => ?_)
          refine wm_iconst hC dX12_isShaped_185 (k := ?_)
          exact wm_zreturn hC hE (Or.inr rfl) dX12_isShaped_186 ⟨rfl, hw⟩
    · refine wm_iconst hC dX12_isShaped_90 (k := ?_)
      exact wm_zreturn hC hE (Or.inl rfl) dX12_isShaped_91 ⟨rfl, hw⟩
def p12_isShaped (l1 : Int) (I : mI) (J : mI) (Q : Int → mI → mI → Prop) : Prop := (p12_manyOf l1 I (fun r1 => (if r1 = 6 then (p12_isShaped_b16 l1 1 I J Q) else (p12_isShaped_b16 l1 0 I J Q))))
set_option maxRecDepth 20000 in
theorem c12_isShaped {ad : Nat → Nat} {n : Nat} {I J : mI} {R : mR} {Q : Int → mI → mI → Prop}  (hRF : RF R) {l1 : Int}   (hw : p12_isShaped l1 I J Q) : wMet yX12_isShaped cX12_isShaped 9 (some .boolean) 4 80 false ad n I J R [vr 159, vi l1] (fun r I' J' R' => (R' = R) ∧ Q r I' J') := by
  refine wMet_of (by decide) (Nat.le_of_ble_eq_true rfl) (fun C hC hRm hE hS => ?_)
  refine (show WM C ad n I J R 0 0 0 [(0, vr 159), (1, vi l1)] [] from ?_)
  unfold p12_isShaped at hw
  refine wm_aload_n hC 0 dX12_isShaped_0 rfl (k_ne0 kk_159 (by decide)) ?_
  refine wm_aload_n hC 0 dX12_isShaped_1 rfl (k_ne0 kk_159 (by decide)) ?_
  refine wm_iload_n hC 1 dX12_isShaped_2 rfl ?_
  refine y_callV_i_n hC hRm noS ml_X12_306 kk_159 (c12_manyOf hRF  hw) (Nat.le_of_ble_eq_true rfl) (Nat.le_of_ble_eq_true rfl) ⟨Nat.zero_le _, Nat.zero_le _⟩ rfl (st := [vr 159]) rfl (Nat.le_of_ble_eq_true rfl) dX12_isShaped_3 (fun r1 hw => ?_)
  refine wm_bipush hC dX12_isShaped_6 (k := ?_)
  refine wm_icmp_ne (tgt := 15) hC dX12_isShaped_8 (by decide) hw (fun hw => ?_) (fun hw => ?_)
  · refine wm_iconst hC dX12_isShaped_11 (k := ?_)
    refine wm_goto (tgt := 16) hC dX12_isShaped_12 (by decide) ?_
    exact w12_isShaped_b16 hC hRm hE hRF  hw
  · refine wm_iconst hC dX12_isShaped_15 (k := ?_)
    exact w12_isShaped_b16 hC hRm hE hRF  hw
def p12_blinding (I : mI) (J : mI) (Q : mI → mI → Prop) : Prop := (p12_isShaped 0 I J (fun r1 I1 J1 => (if r1 = 0 then (Q I1 J1) else (((0 : Int) ≤ (I1 159 32) ∧ (I1 159 32) < (2 : Int)) ∧ (rg ((I1 161 (I1 159 32)) + 1) ∧ (((0 : Int) ≤ (I1 159 32) ∧ (I1 159 32) < (2 : Int)) ∧ wLet (up I1 161 (I1 159 32) ((I1 161 (I1 159 32)) + 1)) (fun I2 => (Q I2 J1))))))))
set_option maxRecDepth 20000 in
theorem c12_blinding {ad : Nat → Nat} {n : Nat} {I J : mI} {R : mR} {Q : mI → mI → Prop}  (hRF : RF R)   (hw : p12_blinding I J Q) : wMet yX12_blinding cX12_blinding 1 none 5 108 false ad n I J R [vr 159] (fun _ I' J' R' => (R' = R) ∧ Q I' J') := by
  refine wMet_of (by decide) (Nat.le_of_ble_eq_true rfl) (fun C hC hRm hE hS => ?_)
  refine (show WM C ad n I J R 0 0 0 [(0, vr 159)] [] from ?_)
  unfold p12_blinding at hw
  refine wm_aload_n hC 0 dX12_blinding_0 rfl (k_ne0 kk_159 (by decide)) ?_
  refine wm_iconst hC dX12_blinding_1 (k := ?_)
  refine y_callV_z_IJ hC hRm noS ml_X12_375 kk_159 (c12_isShaped hRF  hw) (Nat.le_of_ble_eq_true rfl) (Nat.le_of_ble_eq_true rfl) ⟨Nat.zero_le _, Nat.zero_le _⟩ rfl (st := []) rfl (Nat.le_of_ble_eq_true rfl) dX12_blinding_2 (fun r1 I1 J1 hw => ?_)
  refine wm_if_eq (tgt := 21) hC dX12_blinding_5 (by decide) hw (fun hw => ?_) (fun hw => ?_)
  · exact wm_return hC hE dX12_blinding_21 ⟨rfl, hw⟩
  · refine wm_aload_n hC 0 dX12_blinding_8 rfl (k_ne0 kk_159 (by decide)) ?_
    refine x_getR3 hC 14 fl_X12_54 rfl kk_159 (rf_159_14 hRF) dX12_blinding_9 ?_
    refine wm_aload_n hC 0 dX12_blinding_12 rfl (k_ne0 kk_159 (by decide)) ?_
    refine x_getI hC 32 fl_X12_109 rfl kk_159 dX12_blinding_13 ?_
    refine wm_dup2_11 hC dX12_blinding_16 (k := ?_)
    refine x_iald2 hC kk_161 kn_161 dX12_blinding_17 hw (fun hw => ?_)
    refine wm_iconst hC dX12_blinding_18 (k := ?_)
    refine x_iadd hC dX12_blinding_19 hw (fun hw => ?_)
    refine x_iast2 hC kk_161 kn_161 dX12_blinding_20 hw (fun I2 hw => ?_)
    exact wm_return hC hE dX12_blinding_21 ⟨rfl, hw⟩
def p12_draw (l1 : Int) (J : mI) (Q : Int → mI → Prop) : Prop := (rl (1103515245 * (J 159 54)) ∧ (rl ((1103515245 * (J 159 54)) + 12345) ∧ (wLet (up J 159 54 (Int.tmod ((1103515245 * (J 159 54)) + 12345) 2147483648)) (fun J1 => (l1 ≠ 0 ∧ (rg (Int.tmod (Int.tdiv (J1 159 54) 64) l1) ∧ (Q (Int.tmod (Int.tdiv (J1 159 54) 64) l1) J1)))))))
set_option maxRecDepth 20000 in
theorem c12_draw {ad : Nat → Nat} {n : Nat} {I J : mI} {R : mR} {Q : Int → mI → Prop}  (hRF : RF R) {l1 : Int}   (hw : p12_draw l1 J Q) : wMet yX12_draw cX12_draw 2 (some .int) 1 12 false ad n I J R [vr 159, vi l1] (fun r I' J' R' => (I' = I ∧ R' = R) ∧ Q r J') := by
  refine wMet_of (by decide) (Nat.le_of_ble_eq_true rfl) (fun C hC hRm hE hS => ?_)
  refine (show WM C ad n I J R 0 0 0 [(0, vr 159), (1, vi l1)] [] from ?_)
  unfold p12_draw at hw
  refine wm_aload_n hC 0 dX12_draw_0 rfl (k_ne0 kk_159 (by decide)) ?_
  refine wm_ldc2 hC (x := 1103515245) tc_X12_557 rfl dX12_draw_1 (k := ?_)
  refine wm_aload_n hC 0 dX12_draw_4 rfl (k_ne0 kk_159 (by decide)) ?_
  refine x_getJ hC 54 fl_X12_177 rfl kk_159 dX12_draw_5 ?_
  refine x_lmul hC dX12_draw_8 hw (fun hw => ?_)
  refine wm_ldc2 hC (x := 12345) tc_X12_559 rfl dX12_draw_9 (k := ?_)
  refine x_ladd hC dX12_draw_12 hw (fun hw => ?_)
  refine wm_ldc2 hC (x := 2147483648) tc_X12_561 rfl dX12_draw_13 (k := ?_)
  refine x_lremP hC (by decide) dX12_draw_16 ?_
  refine x_putJ hC 54 fl_X12_177 rfl kk_159 dX12_draw_17 hw (fun J1 hw => ?_)
  refine wm_aload_n hC 0 dX12_draw_20 rfl (k_ne0 kk_159 (by decide)) ?_
  refine x_getJ hC 54 fl_X12_177 rfl kk_159 dX12_draw_21 ?_
  refine wm_ldc2 hC (x := 64) tc_X12_563 rfl dX12_draw_24 (k := ?_)
  refine x_ldivP hC (by decide) dX12_draw_27 ?_
  refine wm_iload_n hC 1 dX12_draw_28 rfl ?_
  refine wm_i2l hC dX12_draw_29 ?_
  refine x_lrem hC dX12_draw_30 hw (fun hw => ?_)
  refine x_l2i hC dX12_draw_31 hw (fun hw => ?_)
  exact wm_ireturn hC hE dX12_draw_32 ⟨⟨rfl, rfl⟩, hw⟩
def p12_isAhead (l1 : Int) (l2 : Int) (l3 : Int) (I : mI) (Q : Int → Prop) : Prop := (p12_is l1 l2 l3 (fun r1 => (if r1 = 0 then (Q 0) else (rg (999 - l1) ∧ (if (999 - l1) < (I 185 0) then (Q 0) else (Q 1))))))
set_option maxRecDepth 20000 in
theorem c12_isAhead {ad : Nat → Nat} {n : Nat} {I J : mI} {R : mR} {Q : Int → Prop}  (hRF : RF R) {l1 : Int} {l2 : Int} {l3 : Int}     (hw : p12_isAhead l1 l2 l3 I Q) : wMet yX12_isAhead cX12_isAhead 4 (some .boolean) 2 34 false ad n I J R [vr 159, vi l1, vi l2, vi l3] (fun r I' J' R' => (I' = I ∧ J' = J ∧ R' = R) ∧ Q r) := by
  refine wMet_of (by decide) (Nat.le_of_ble_eq_true rfl) (fun C hC hRm hE hS => ?_)
  refine (show WM C ad n I J R 0 0 0 [(0, vr 159), (1, vi l1), (2, vi l2), (3, vi l3)] [] from ?_)
  unfold p12_isAhead at hw
  refine wm_iload_n hC 1 dX12_isAhead_0 rfl ?_
  refine wm_iload_n hC 2 dX12_isAhead_1 rfl ?_
  refine wm_iload_n hC 3 dX12_isAhead_2 rfl ?_
  refine y_callS_z_n hC hRm noS ml_X12_309 (c12_is hRF  hw) (Nat.le_of_ble_eq_true rfl) (Nat.le_of_ble_eq_true rfl) ⟨Nat.zero_le _, Nat.zero_le _⟩ rfl (st := []) rfl (Nat.le_of_ble_eq_true rfl) dX12_isAhead_3 (fun r1 hw => ?_)
  refine wm_if_eq (tgt := 27) hC dX12_isAhead_6 (by decide) hw (fun hw => ?_) (fun hw => ?_)
  · refine wm_iconst hC dX12_isAhead_27 (k := ?_)
    exact wm_zreturn hC hE (Or.inl rfl) dX12_isAhead_28 ⟨⟨rfl, rfl, rfl⟩, hw⟩
  · refine wm_aload_n hC 0 dX12_isAhead_9 rfl (k_ne0 kk_159 (by decide)) ?_
    refine x_getR3 hC 45 fl_X12_150 rfl kk_159 (rf_159_45 hRF) dX12_isAhead_10 ?_
    refine wm_iconst hC dX12_isAhead_13 (k := ?_)
    refine x_ialdK hC kk_185 kn_185 (by decide) (by decide) dX12_isAhead_14 ?_
    refine wm_sipush hC dX12_isAhead_15 (k := ?_)
    refine wm_iload_n hC 1 dX12_isAhead_18 rfl ?_
    refine x_isub hC dX12_isAhead_19 hw (fun hw => ?_)
    refine wm_icmp_gt (tgt := 27) hC dX12_isAhead_20 (by decide) hw (fun hw => ?_) (fun hw => ?_)
    · refine wm_iconst hC dX12_isAhead_27 (k := ?_)
      exact wm_zreturn hC hE (Or.inl rfl) dX12_isAhead_28 ⟨⟨rfl, rfl, rfl⟩, hw⟩
    · refine wm_iconst hC dX12_isAhead_23 (k := ?_)
      refine wm_goto (tgt := 28) hC dX12_isAhead_24 (by decide) ?_
      exact wm_zreturn hC hE (Or.inr rfl) dX12_isAhead_28 ⟨⟨rfl, rfl, rfl⟩, hw⟩
def p12_copies_b118_body (l1 : Int) (l2 : Int) (Q : mI → Prop) (k118 : Int → mI → Prop) (l3 : Int) (I : mI) : Prop := (((0 : Int) ≤ l2 ∧ l2 < (22 : Int)) ∧ (rg (3 * (I 190 l2)) ∧ (if (3 * (I 190 l2)) ≤ l3 then (Q I) else (rg (120 * l1) ∧ (rg ((120 * l1) + l3) ∧ (rg (120 * l2) ∧ (rg ((120 * l2) + l3) ∧ (((0 : Int) ≤ ((120 * l2) + l3) ∧ ((120 * l2) + l3) < (2640 : Int)) ∧ (((0 : Int) ≤ ((120 * l1) + l3) ∧ ((120 * l1) + l3) < (2640 : Int)) ∧ wLet (up I 191 ((120 * l1) + l3) (I 191 ((120 * l2) + l3))) (fun I7 => (rg (l3 + 1) ∧ (k118 (l3 + 1) I7))))))))))))
def p12_copies_b118 (l1 : Int) (l2 : Int) (Q : mI → Prop) : Nat → Int → mI → Prop
  | 0 => fun _ _ => False
  | f + 1 => fun l3 I => p12_copies_b118_body l1 l2 Q (p12_copies_b118 l1 l2 Q f) l3 I
set_option maxRecDepth 20000 in
theorem w12_copies_b118_body {C : wX} {ad : Nat → Nat} {n : Nat} {I J : mI} {R : mR} {Q : mI → Prop} (hC : wOK C cX12_copies 4 RX12) (hRm : wRm C 1 12 0 0) (hE : wEnd C none ad n (fun _ I' J' R' => (J' = J ∧ R' = R) ∧ Q I')) (hRF : RF R) {l1 : Int} {l2 : Int} {l3 : Int}     {k118 : Int → mI → Prop} (kk118 : ∀ (y3 : Int) (I' : mI), k118 y3 I' → WM C ad n I' J R 0 0 118 [(0, vr 159), (1, vi l1), (2, vi l2), (3, vi y3)] []) (hw : p12_copies_b118_body l1 l2 Q k118 l3 I) : WM C ad n I J R 0 0 118 [(0, vr 159), (1, vi l1), (2, vi l2), (3, vi l3)] [] := by
  unfold p12_copies_b118_body at hw
  refine wm_iload_n hC 3 dX12_copies_118 rfl ?_
  refine wm_iconst hC dX12_copies_119 (k := ?_)
  refine wm_aload_n hC 0 dX12_copies_120 rfl (k_ne0 kk_159 (by decide)) ?_
  refine x_getR3 hC 50 fl_X12_165 rfl kk_159 (rf_159_50 hRF) dX12_copies_121 ?_
  refine wm_iload_n hC 2 dX12_copies_124 rfl ?_
  refine x_iald2 hC kk_190 kn_190 dX12_copies_125 hw (fun hw => ?_)
  refine x_imul hC dX12_copies_126 hw (fun hw => ?_)
  refine wm_icmp_ge (tgt := 158) hC dX12_copies_127 (by decide) hw (fun hw => ?_) (fun hw => ?_)
  · exact wm_return hC hE dX12_copies_158 ⟨⟨rfl, rfl⟩, hw⟩
  · refine wm_aload_n hC 0 dX12_copies_130 rfl (k_ne0 kk_159 (by decide)) ?_
    refine x_getR3 hC 51 fl_X12_168 rfl kk_159 (rf_159_51 hRF) dX12_copies_131 ?_
    refine wm_bipush hC dX12_copies_134 (k := ?_)
    refine wm_iload_n hC 1 dX12_copies_136 rfl ?_
    refine x_imul hC dX12_copies_137 hw (fun hw => ?_)
    refine wm_iload_n hC 3 dX12_copies_138 rfl ?_
    refine x_iadd hC dX12_copies_139 hw (fun hw => ?_)
    refine wm_aload_n hC 0 dX12_copies_140 rfl (k_ne0 kk_159 (by decide)) ?_
    refine x_getR3 hC 51 fl_X12_168 rfl kk_159 (rf_159_51 hRF) dX12_copies_141 ?_
    refine wm_bipush hC dX12_copies_144 (k := ?_)
    refine wm_iload_n hC 2 dX12_copies_146 rfl ?_
    refine x_imul hC dX12_copies_147 hw (fun hw => ?_)
    refine wm_iload_n hC 3 dX12_copies_148 rfl ?_
    refine x_iadd hC dX12_copies_149 hw (fun hw => ?_)
    refine x_iald2 hC kk_191 kn_191 dX12_copies_150 hw (fun hw => ?_)
    refine x_iast2 hC kk_191 kn_191 dX12_copies_151 hw (fun I7 hw => ?_)
    refine x_iinc hC 3 dX12_copies_152 rfl (by decide) (L2 := [(3, vi (l3 + 1)), (0, vr 159), (1, vi l1), (2, vi l2)]) rfl hw (fun hw => ?_)
    refine wm_goto (tgt := 118) hC dX12_copies_155 (by decide) ?_
    refine wm_sub [1, 2, 3, 0] (L2 := [(0, vr 159), (1, vi l1), (2, vi l2), (3, vi (l3 + 1))]) rfl ?_
    exact kk118 _ _ hw
set_option maxRecDepth 20000 in
theorem w12_copies_b118 {C : wX} {ad : Nat → Nat} {n : Nat} {J : mI} {R : mR} {Q : mI → Prop} (hC : wOK C cX12_copies 4 RX12) (hRm : wRm C 1 12 0 0) (hE : wEnd C none ad n (fun _ I' J' R' => (J' = J ∧ R' = R) ∧ Q I')) (hRF : RF R) {l1 : Int} {l2 : Int}     : ∀ (f : Nat) (l3 : Int) (I : mI), p12_copies_b118 l1 l2 Q f l3 I → WM C ad n I J R 0 0 118 [(0, vr 159), (1, vi l1), (2, vi l2), (3, vi l3)] [] := by
  intro f
  induction f with
  | zero => intro l3 I hw; exact hw.elim
  | succ f ih => intro l3 I hw; exact w12_copies_b118_body hC hRm hE hRF  (fun a0 a1 aw => ih a0 a1 aw) hw
def p12_copies_b26_body (l1 : Int) (l2 : Int) (Q : mI → Prop) (k26 : Int → mI → Prop) (l3 : Int) (I : mI) : Prop := (if (6 : Int) ≤ l3 then (((0 : Int) ≤ l2 ∧ l2 < (22 : Int)) ∧ (((0 : Int) ≤ l1 ∧ l1 < (22 : Int)) ∧ wLet (up I 190 l1 (I 190 l2)) (fun I3 => (∃ f, p12_copies_b118 l1 l2 Q f 0 I3)))) else (rg (6 * l1) ∧ (rg ((6 * l1) + l3) ∧ (rg (6 * l2) ∧ (rg ((6 * l2) + l3) ∧ (((0 : Int) ≤ ((6 * l2) + l3) ∧ ((6 * l2) + l3) < (132 : Int)) ∧ (((0 : Int) ≤ ((6 * l1) + l3) ∧ ((6 * l1) + l3) < (132 : Int)) ∧ wLet (up I 187 ((6 * l1) + l3) (I 187 ((6 * l2) + l3))) (fun I4 => (rg (6 * l1) ∧ (rg ((6 * l1) + l3) ∧ (rg (6 * l2) ∧ (rg ((6 * l2) + l3) ∧ (((0 : Int) ≤ ((6 * l2) + l3) ∧ ((6 * l2) + l3) < (132 : Int)) ∧ (((0 : Int) ≤ ((6 * l1) + l3) ∧ ((6 * l1) + l3) < (132 : Int)) ∧ wLet (up I4 188 ((6 * l1) + l3) (I4 188 ((6 * l2) + l3))) (fun I5 => (rg (6 * l1) ∧ (rg ((6 * l1) + l3) ∧ (rg (6 * l2) ∧ (rg ((6 * l2) + l3) ∧ (((0 : Int) ≤ ((6 * l2) + l3) ∧ ((6 * l2) + l3) < (132 : Int)) ∧ (((0 : Int) ≤ ((6 * l1) + l3) ∧ ((6 * l1) + l3) < (132 : Int)) ∧ wLet (up I5 189 ((6 * l1) + l3) (I5 189 ((6 * l2) + l3))) (fun I6 => (rg (l3 + 1) ∧ (k26 (l3 + 1) I6))))))))))))))))))))))))
def p12_copies_b26 (l1 : Int) (l2 : Int) (Q : mI → Prop) : Nat → Int → mI → Prop
  | 0 => fun _ _ => False
  | f + 1 => fun l3 I => p12_copies_b26_body l1 l2 Q (p12_copies_b26 l1 l2 Q f) l3 I
set_option maxRecDepth 20000 in
theorem w12_copies_b26_body {C : wX} {ad : Nat → Nat} {n : Nat} {I J : mI} {R : mR} {Q : mI → Prop} (hC : wOK C cX12_copies 4 RX12) (hRm : wRm C 1 12 0 0) (hE : wEnd C none ad n (fun _ I' J' R' => (J' = J ∧ R' = R) ∧ Q I')) (hRF : RF R) {l1 : Int} {l2 : Int} {l3 : Int}     {k26 : Int → mI → Prop} (kk26 : ∀ (y3 : Int) (I' : mI), k26 y3 I' → WM C ad n I' J R 0 0 26 [(0, vr 159), (1, vi l1), (2, vi l2), (3, vi y3)] []) (hw : p12_copies_b26_body l1 l2 Q k26 l3 I) : WM C ad n I J R 0 0 26 [(0, vr 159), (1, vi l1), (2, vi l2), (3, vi l3)] [] := by
  unfold p12_copies_b26_body at hw
  refine wm_iload_n hC 3 dX12_copies_26 rfl ?_
  refine wm_bipush hC dX12_copies_27 (k := ?_)
  refine wm_icmp_ge (tgt := 104) hC dX12_copies_29 (by decide) hw (fun hw => ?_) (fun hw => ?_)
  · refine wm_aload_n hC 0 dX12_copies_104 rfl (k_ne0 kk_159 (by decide)) ?_
    refine x_getR3 hC 50 fl_X12_165 rfl kk_159 (rf_159_50 hRF) dX12_copies_105 ?_
    refine wm_iload_n hC 1 dX12_copies_108 rfl ?_
    refine wm_aload_n hC 0 dX12_copies_109 rfl (k_ne0 kk_159 (by decide)) ?_
    refine x_getR3 hC 50 fl_X12_165 rfl kk_159 (rf_159_50 hRF) dX12_copies_110 ?_
    refine wm_iload_n hC 2 dX12_copies_113 rfl ?_
    refine x_iald2 hC kk_190 kn_190 dX12_copies_114 hw (fun hw => ?_)
    refine x_iast2 hC kk_190 kn_190 dX12_copies_115 hw (fun I3 hw => ?_)
    refine wm_iconst hC dX12_copies_116 (k := ?_)
    refine wm_istore_n hC dX12_copies_117 (by decide) (L2 := [(3, vi 0), (0, vr 159), (1, vi l1), (2, vi l2)]) rfl ?_
    obtain ⟨f, hw⟩ := hw
    refine wm_sub [1, 2, 3, 0] (L2 := [(0, vr 159), (1, vi l1), (2, vi l2), (3, vi 0)]) rfl ?_
    exact w12_copies_b118 hC hRm hE hRF  f _ _ hw
  · refine wm_aload_n hC 0 dX12_copies_32 rfl (k_ne0 kk_159 (by decide)) ?_
    refine x_getR3 hC 47 fl_X12_156 rfl kk_159 (rf_159_47 hRF) dX12_copies_33 ?_
    refine wm_bipush hC dX12_copies_36 (k := ?_)
    refine wm_iload_n hC 1 dX12_copies_38 rfl ?_
    refine x_imul hC dX12_copies_39 hw (fun hw => ?_)
    refine wm_iload_n hC 3 dX12_copies_40 rfl ?_
    refine x_iadd hC dX12_copies_41 hw (fun hw => ?_)
    refine wm_aload_n hC 0 dX12_copies_42 rfl (k_ne0 kk_159 (by decide)) ?_
    refine x_getR3 hC 47 fl_X12_156 rfl kk_159 (rf_159_47 hRF) dX12_copies_43 ?_
    refine wm_bipush hC dX12_copies_46 (k := ?_)
    refine wm_iload_n hC 2 dX12_copies_48 rfl ?_
    refine x_imul hC dX12_copies_49 hw (fun hw => ?_)
    refine wm_iload_n hC 3 dX12_copies_50 rfl ?_
    refine x_iadd hC dX12_copies_51 hw (fun hw => ?_)
    refine x_iald2 hC kk_187 kn_187 dX12_copies_52 hw (fun hw => ?_)
    refine x_iast2 hC kk_187 kn_187 dX12_copies_53 hw (fun I4 hw => ?_)
    refine wm_aload_n hC 0 dX12_copies_54 rfl (k_ne0 kk_159 (by decide)) ?_
    refine x_getR3 hC 48 fl_X12_159 rfl kk_159 (rf_159_48 hRF) dX12_copies_55 ?_
    refine wm_bipush hC dX12_copies_58 (k := ?_)
    refine wm_iload_n hC 1 dX12_copies_60 rfl ?_
    refine x_imul hC dX12_copies_61 hw (fun hw => ?_)
    refine wm_iload_n hC 3 dX12_copies_62 rfl ?_
    refine x_iadd hC dX12_copies_63 hw (fun hw => ?_)
    refine wm_aload_n hC 0 dX12_copies_64 rfl (k_ne0 kk_159 (by decide)) ?_
    refine x_getR3 hC 48 fl_X12_159 rfl kk_159 (rf_159_48 hRF) dX12_copies_65 ?_
    refine wm_bipush hC dX12_copies_68 (k := ?_)
    refine wm_iload_n hC 2 dX12_copies_70 rfl ?_
    refine x_imul hC dX12_copies_71 hw (fun hw => ?_)
    refine wm_iload_n hC 3 dX12_copies_72 rfl ?_
    refine x_iadd hC dX12_copies_73 hw (fun hw => ?_)
    refine x_iald2 hC kk_188 kn_188 dX12_copies_74 hw (fun hw => ?_)
    refine x_iast2 hC kk_188 kn_188 dX12_copies_75 hw (fun I5 hw => ?_)
    refine wm_aload_n hC 0 dX12_copies_76 rfl (k_ne0 kk_159 (by decide)) ?_
    refine x_getR3 hC 49 fl_X12_162 rfl kk_159 (rf_159_49 hRF) dX12_copies_77 ?_
    refine wm_bipush hC dX12_copies_80 (k := ?_)
    refine wm_iload_n hC 1 dX12_copies_82 rfl ?_
    refine x_imul hC dX12_copies_83 hw (fun hw => ?_)
    refine wm_iload_n hC 3 dX12_copies_84 rfl ?_
    refine x_iadd hC dX12_copies_85 hw (fun hw => ?_)
    refine wm_aload_n hC 0 dX12_copies_86 rfl (k_ne0 kk_159 (by decide)) ?_
    refine x_getR3 hC 49 fl_X12_162 rfl kk_159 (rf_159_49 hRF) dX12_copies_87 ?_
    refine wm_bipush hC dX12_copies_90 (k := ?_)
    refine wm_iload_n hC 2 dX12_copies_92 rfl ?_
    refine x_imul hC dX12_copies_93 hw (fun hw => ?_)
    refine wm_iload_n hC 3 dX12_copies_94 rfl ?_
    refine x_iadd hC dX12_copies_95 hw (fun hw => ?_)
    refine x_iald2 hC kk_189 kn_189 dX12_copies_96 hw (fun hw => ?_)
    refine x_iast2 hC kk_189 kn_189 dX12_copies_97 hw (fun I6 hw => ?_)
    refine x_iinc hC 3 dX12_copies_98 rfl (by decide) (L2 := [(3, vi (l3 + 1)), (0, vr 159), (1, vi l1), (2, vi l2)]) rfl hw (fun hw => ?_)
    refine wm_goto (tgt := 26) hC dX12_copies_101 (by decide) ?_
    refine wm_sub [1, 2, 3, 0] (L2 := [(0, vr 159), (1, vi l1), (2, vi l2), (3, vi (l3 + 1))]) rfl ?_
    exact kk26 _ _ hw
set_option maxRecDepth 20000 in
theorem w12_copies_b26 {C : wX} {ad : Nat → Nat} {n : Nat} {J : mI} {R : mR} {Q : mI → Prop} (hC : wOK C cX12_copies 4 RX12) (hRm : wRm C 1 12 0 0) (hE : wEnd C none ad n (fun _ I' J' R' => (J' = J ∧ R' = R) ∧ Q I')) (hRF : RF R) {l1 : Int} {l2 : Int}     : ∀ (f : Nat) (l3 : Int) (I : mI), p12_copies_b26 l1 l2 Q f l3 I → WM C ad n I J R 0 0 26 [(0, vr 159), (1, vi l1), (2, vi l2), (3, vi l3)] [] := by
  intro f
  induction f with
  | zero => intro l3 I hw; exact hw.elim
  | succ f ih => intro l3 I hw; exact w12_copies_b26_body hC hRm hE hRF  (fun a0 a1 aw => ih a0 a1 aw) hw
def p12_copies (l1 : Int) (l2 : Int) (I : mI) (Q : mI → Prop) : Prop := (((0 : Int) ≤ l2 ∧ l2 < (22 : Int)) ∧ (((0 : Int) ≤ l1 ∧ l1 < (22 : Int)) ∧ wLet (up I 185 l1 (I 185 l2)) (fun I1 => (((0 : Int) ≤ l2 ∧ l2 < (22 : Int)) ∧ (((0 : Int) ≤ l1 ∧ l1 < (22 : Int)) ∧ wLet (up I1 186 l1 (I1 186 l2)) (fun I2 => (∃ f, p12_copies_b26 l1 l2 Q f 0 I2)))))))
set_option maxRecDepth 20000 in
theorem c12_copies {ad : Nat → Nat} {n : Nat} {I J : mI} {R : mR} {Q : mI → Prop}  (hRF : RF R) {l1 : Int} {l2 : Int}    (hw : p12_copies l1 l2 I Q) : wMet yX12_copies cX12_copies 4 none 1 12 false ad n I J R [vr 159, vi l1, vi l2] (fun _ I' J' R' => (J' = J ∧ R' = R) ∧ Q I') := by
  refine wMet_of (by decide) (Nat.le_of_ble_eq_true rfl) (fun C hC hRm hE hS => ?_)
  refine (show WM C ad n I J R 0 0 0 [(0, vr 159), (1, vi l1), (2, vi l2)] [] from ?_)
  unfold p12_copies at hw
  refine wm_aload_n hC 0 dX12_copies_0 rfl (k_ne0 kk_159 (by decide)) ?_
  refine x_getR3 hC 45 fl_X12_150 rfl kk_159 (rf_159_45 hRF) dX12_copies_1 ?_
  refine wm_iload_n hC 1 dX12_copies_4 rfl ?_
  refine wm_aload_n hC 0 dX12_copies_5 rfl (k_ne0 kk_159 (by decide)) ?_
  refine x_getR3 hC 45 fl_X12_150 rfl kk_159 (rf_159_45 hRF) dX12_copies_6 ?_
  refine wm_iload_n hC 2 dX12_copies_9 rfl ?_
  refine x_iald2 hC kk_185 kn_185 dX12_copies_10 hw (fun hw => ?_)
  refine x_iast2 hC kk_185 kn_185 dX12_copies_11 hw (fun I1 hw => ?_)
  refine wm_aload_n hC 0 dX12_copies_12 rfl (k_ne0 kk_159 (by decide)) ?_
  refine x_getR3 hC 46 fl_X12_153 rfl kk_159 (rf_159_46 hRF) dX12_copies_13 ?_
  refine wm_iload_n hC 1 dX12_copies_16 rfl ?_
  refine wm_aload_n hC 0 dX12_copies_17 rfl (k_ne0 kk_159 (by decide)) ?_
  refine x_getR3 hC 46 fl_X12_153 rfl kk_159 (rf_159_46 hRF) dX12_copies_18 ?_
  refine wm_iload_n hC 2 dX12_copies_21 rfl ?_
  refine x_iald2 hC kk_186 kn_186 dX12_copies_22 hw (fun hw => ?_)
  refine x_iast2 hC kk_186 kn_186 dX12_copies_23 hw (fun I2 hw => ?_)
  refine wm_iconst hC dX12_copies_24 (k := ?_)
  refine wm_istore_n hC dX12_copies_25 (by decide) (L2 := [(3, vi 0), (0, vr 159), (1, vi l1), (2, vi l2)]) rfl ?_
  obtain ⟨f, hw⟩ := hw
  refine wm_sub [1, 2, 3, 0] (L2 := [(0, vr 159), (1, vi l1), (2, vi l2), (3, vi 0)]) rfl ?_
  exact w12_copies_b26 hC hRm hE hRF  f _ _ hw
def p12_slot (l1 : Int) (I : mI) (Q : Int → Prop) : Prop := (rg ((I 159 52) + l1) ∧ (rg (2 + (Int.tmod ((I 159 52) + l1) 20)) ∧ (Q (2 + (Int.tmod ((I 159 52) + l1) 20)))))
set_option maxRecDepth 20000 in
theorem c12_slot {ad : Nat → Nat} {n : Nat} {I J : mI} {R : mR} {Q : Int → Prop}  (hRF : RF R) {l1 : Int}   (hw : p12_slot l1 I Q) : wMet yX12_slot cX12_slot 2 (some .int) 1 12 false ad n I J R [vr 159, vi l1] (fun r I' J' R' => (I' = I ∧ J' = J ∧ R' = R) ∧ Q r) := by
  refine wMet_of (by decide) (Nat.le_of_ble_eq_true rfl) (fun C hC hRm hE hS => ?_)
  refine (show WM C ad n I J R 0 0 0 [(0, vr 159), (1, vi l1)] [] from ?_)
  unfold p12_slot at hw
  refine wm_iconst hC dX12_slot_0 (k := ?_)
  refine wm_aload_n hC 0 dX12_slot_1 rfl (k_ne0 kk_159 (by decide)) ?_
  refine x_getI hC 52 fl_X12_171 rfl kk_159 dX12_slot_2 ?_
  refine wm_iload_n hC 1 dX12_slot_5 rfl ?_
  refine x_iadd hC dX12_slot_6 hw (fun hw => ?_)
  refine wm_bipush hC dX12_slot_7 (k := ?_)
  refine x_iremP hC (by decide) dX12_slot_9 ?_
  refine x_iadd hC dX12_slot_10 hw (fun hw => ?_)
  exact wm_ireturn hC hE dX12_slot_11 ⟨⟨rfl, rfl, rfl⟩, hw⟩
def p12_keeps_b32 (I : mI) (Q : mI → Prop) : Prop := (p12_slot (I 159 53) I (fun r1 => (p12_copies r1 0 I (fun I3 => (rg ((I3 159 53) + 1) ∧ (wLet (up I3 159 53 ((I3 159 53) + 1)) (fun I4 => (Q I4))))))))
set_option maxRecDepth 20000 in
theorem w12_keeps_b32 {C : wX} {ad : Nat → Nat} {n : Nat} {I J : mI} {R : mR} {Q : mI → Prop} (hC : wOK C cX12_keeps 1 RX12) (hRm : wRm C 2 35 0 0) (hE : wEnd C none ad n (fun _ I' J' R' => (J' = J ∧ R' = R) ∧ Q I')) (hRF : RF R)      (hw : p12_keeps_b32 I Q) : WM C ad n I J R 0 0 32 [(0, vr 159)] [] := by
  unfold p12_keeps_b32 at hw
  refine wm_aload_n hC 0 dX12_keeps_32 rfl (k_ne0 kk_159 (by decide)) ?_
  refine wm_aload_n hC 0 dX12_keeps_33 rfl (k_ne0 kk_159 (by decide)) ?_
  refine wm_aload_n hC 0 dX12_keeps_34 rfl (k_ne0 kk_159 (by decide)) ?_
  refine x_getI hC 53 fl_X12_174 rfl kk_159 dX12_keeps_35 ?_
  refine y_callV_i_n hC hRm noS ml_X12_421 kk_159 (c12_slot hRF  hw) (Nat.le_of_ble_eq_true rfl) (Nat.le_of_ble_eq_true rfl) ⟨Nat.zero_le _, Nat.zero_le _⟩ rfl (st := [vr 159]) rfl (Nat.le_of_ble_eq_true rfl) dX12_keeps_38 (fun r1 hw => ?_)
  refine wm_iconst hC dX12_keeps_41 (k := ?_)
  refine y_callV_v_I hC hRm noS ml_X12_424 kk_159 (c12_copies hRF  hw) (Nat.le_of_ble_eq_true rfl) (Nat.le_of_ble_eq_true rfl) ⟨Nat.zero_le _, Nat.zero_le _⟩ rfl (st := []) rfl (Nat.le_of_ble_eq_true rfl) dX12_keeps_42 (fun I3 hw => ?_)
  refine wm_aload_n hC 0 dX12_keeps_45 rfl (k_ne0 kk_159 (by decide)) ?_
  refine wm_dup hC dX12_keeps_46 (k := ?_)
  refine x_getI hC 53 fl_X12_174 rfl kk_159 dX12_keeps_47 ?_
  refine wm_iconst hC dX12_keeps_50 (k := ?_)
  refine x_iadd hC dX12_keeps_51 hw (fun hw => ?_)
  refine x_putI hC 53 fl_X12_174 rfl kk_159 dX12_keeps_52 hw (fun I4 hw => ?_)
  exact wm_return hC hE dX12_keeps_55 ⟨⟨rfl, rfl⟩, hw⟩
def p12_keeps (I : mI) (Q : mI → Prop) : Prop := (if (I 159 53) = 20 then (rg ((I 159 52) + 1) ∧ (wLet (up I 159 52 (Int.tmod ((I 159 52) + 1) 20)) (fun I1 => (rg ((I1 159 53) - 1) ∧ (wLet (up I1 159 53 ((I1 159 53) - 1)) (fun I2 => (p12_keeps_b32 I2 Q))))))) else (p12_keeps_b32 I Q))
set_option maxRecDepth 20000 in
theorem c12_keeps {ad : Nat → Nat} {n : Nat} {I J : mI} {R : mR} {Q : mI → Prop}  (hRF : RF R)   (hw : p12_keeps I Q) : wMet yX12_keeps cX12_keeps 1 none 2 35 false ad n I J R [vr 159] (fun _ I' J' R' => (J' = J ∧ R' = R) ∧ Q I') := by
  refine wMet_of (by decide) (Nat.le_of_ble_eq_true rfl) (fun C hC hRm hE hS => ?_)
  refine (show WM C ad n I J R 0 0 0 [(0, vr 159)] [] from ?_)
  unfold p12_keeps at hw
  refine wm_aload_n hC 0 dX12_keeps_0 rfl (k_ne0 kk_159 (by decide)) ?_
  refine x_getI hC 53 fl_X12_174 rfl kk_159 dX12_keeps_1 ?_
  refine wm_bipush hC dX12_keeps_4 (k := ?_)
  refine wm_icmp_ne (tgt := 32) hC dX12_keeps_6 (by decide) hw (fun hw => ?_) (fun hw => ?_)
  · refine wm_aload_n hC 0 dX12_keeps_9 rfl (k_ne0 kk_159 (by decide)) ?_
    refine wm_aload_n hC 0 dX12_keeps_10 rfl (k_ne0 kk_159 (by decide)) ?_
    refine x_getI hC 52 fl_X12_171 rfl kk_159 dX12_keeps_11 ?_
    refine wm_iconst hC dX12_keeps_14 (k := ?_)
    refine x_iadd hC dX12_keeps_15 hw (fun hw => ?_)
    refine wm_bipush hC dX12_keeps_16 (k := ?_)
    refine x_iremP hC (by decide) dX12_keeps_18 ?_
    refine x_putI hC 52 fl_X12_171 rfl kk_159 dX12_keeps_19 hw (fun I1 hw => ?_)
    refine wm_aload_n hC 0 dX12_keeps_22 rfl (k_ne0 kk_159 (by decide)) ?_
    refine wm_dup hC dX12_keeps_23 (k := ?_)
    refine x_getI hC 53 fl_X12_174 rfl kk_159 dX12_keeps_24 ?_
    refine wm_iconst hC dX12_keeps_27 (k := ?_)
    refine x_isub hC dX12_keeps_28 hw (fun hw => ?_)
    refine x_putI hC 53 fl_X12_174 rfl kk_159 dX12_keeps_29 hw (fun I2 hw => ?_)
    exact w12_keeps_b32 hC hRm hE hRF  hw
  · exact w12_keeps_b32 hC hRm hE hRF  hw
def p12_refuses (l1 : Int) (I : mI) (Q : Int → mI → Prop) : Prop := (((0 : Int) ≤ l1 ∧ l1 < (6 : Int)) ∧ (rg ((I 184 l1) + 1) ∧ (((0 : Int) ≤ l1 ∧ l1 < (6 : Int)) ∧ wLet (up I 184 l1 ((I 184 l1) + 1)) (fun I1 => (Q (-1) I1)))))
set_option maxRecDepth 20000 in
theorem c12_refuses {ad : Nat → Nat} {n : Nat} {I J : mI} {R : mR} {Q : Int → mI → Prop}  (hRF : RF R) {l1 : Int}   (hw : p12_refuses l1 I Q) : wMet yX12_refuses cX12_refuses 2 (some .int) 1 12 false ad n I J R [vr 159, vi l1] (fun r I' J' R' => (J' = J ∧ R' = R) ∧ Q r I') := by
  refine wMet_of (by decide) (Nat.le_of_ble_eq_true rfl) (fun C hC hRm hE hS => ?_)
  refine (show WM C ad n I J R 0 0 0 [(0, vr 159), (1, vi l1)] [] from ?_)
  unfold p12_refuses at hw
  refine wm_aload_n hC 0 dX12_refuses_0 rfl (k_ne0 kk_159 (by decide)) ?_
  refine x_getR3 hC 44 fl_X12_147 rfl kk_159 (rf_159_44 hRF) dX12_refuses_1 ?_
  refine wm_iload_n hC 1 dX12_refuses_4 rfl ?_
  refine wm_dup2_11 hC dX12_refuses_5 (k := ?_)
  refine x_iald2 hC kk_184 kn_184 dX12_refuses_6 hw (fun hw => ?_)
  refine wm_iconst hC dX12_refuses_7 (k := ?_)
  refine x_iadd hC dX12_refuses_8 hw (fun hw => ?_)
  refine x_iast2 hC kk_184 kn_184 dX12_refuses_9 hw (fun I1 hw => ?_)
  refine wm_iconst hC dX12_refuses_10 (k := ?_)
  exact wm_ireturn hC hE dX12_refuses_11 ⟨⟨rfl, rfl⟩, hw⟩
def p12_hushes_b23_body (Q : mI → Prop) (k23 : Int → mI → Prop) (l1 : Int) (I : mI) : Prop := (if (6 : Int) ≤ l1 then (Q I) else (((0 : Int) ≤ l1 ∧ l1 < (6 : Int)) ∧ wLet (up I 196 l1 (-1)) (fun I2 => (rg (l1 + 1) ∧ (k23 (l1 + 1) I2)))))
def p12_hushes_b23 (Q : mI → Prop) : Nat → Int → mI → Prop
  | 0 => fun _ _ => False
  | f + 1 => fun l1 I => p12_hushes_b23_body Q (p12_hushes_b23 Q f) l1 I
set_option maxRecDepth 20000 in
theorem w12_hushes_b23_body {C : wX} {ad : Nat → Nat} {n : Nat} {I J : mI} {R : mR} {Q : mI → Prop} (hC : wOK C cX12_hushes 2 RX12) (hRm : wRm C 1 12 0 0) (hE : wEnd C none ad n (fun _ I' J' R' => (J' = J ∧ R' = R) ∧ Q I')) (hRF : RF R)  {l1 : Int}     {k23 : Int → mI → Prop} (kk23 : ∀ (y1 : Int) (I' : mI), k23 y1 I' → WM C ad n I' J R 0 0 23 [(0, vr 159), (1, vi y1)] []) (hw : p12_hushes_b23_body Q k23 l1 I) : WM C ad n I J R 0 0 23 [(0, vr 159), (1, vi l1)] [] := by
  unfold p12_hushes_b23_body at hw
  refine wm_iload_n hC 1 dX12_hushes_23 rfl ?_
  refine wm_bipush hC dX12_hushes_24 (k := ?_)
  refine wm_icmp_ge (tgt := 42) hC dX12_hushes_26 (by decide) hw (fun hw => ?_) (fun hw => ?_)
  · exact wm_return hC hE dX12_hushes_42 ⟨⟨rfl, rfl⟩, hw⟩
  · refine wm_aload_n hC 0 dX12_hushes_29 rfl (k_ne0 kk_159 (by decide)) ?_
    refine x_getR3 hC 59 fl_X12_192 rfl kk_159 (rf_159_59 hRF) dX12_hushes_30 ?_
    refine wm_iload_n hC 1 dX12_hushes_33 rfl ?_
    refine wm_iconst hC dX12_hushes_34 (k := ?_)
    refine x_iast2 hC kk_196 kn_196 dX12_hushes_35 hw (fun I2 hw => ?_)
    refine x_iinc hC 1 dX12_hushes_36 rfl (by decide) (L2 := [(1, vi (l1 + 1)), (0, vr 159)]) rfl hw (fun hw => ?_)
    refine wm_goto (tgt := 23) hC dX12_hushes_39 (by decide) ?_
    refine wm_sub [1, 0] (L2 := [(0, vr 159), (1, vi (l1 + 1))]) rfl ?_
    exact kk23 _ _ hw
set_option maxRecDepth 20000 in
theorem w12_hushes_b23 {C : wX} {ad : Nat → Nat} {n : Nat} {J : mI} {R : mR} {Q : mI → Prop} (hC : wOK C cX12_hushes 2 RX12) (hRm : wRm C 1 12 0 0) (hE : wEnd C none ad n (fun _ I' J' R' => (J' = J ∧ R' = R) ∧ Q I')) (hRF : RF R)      : ∀ (f : Nat) (l1 : Int) (I : mI), p12_hushes_b23 Q f l1 I → WM C ad n I J R 0 0 23 [(0, vr 159), (1, vi l1)] [] := by
  intro f
  induction f with
  | zero => intro l1 I hw; exact hw.elim
  | succ f ih => intro l1 I hw; exact w12_hushes_b23_body hC hRm hE hRF  (fun a0 a1 aw => ih a0 a1 aw) hw
def p12_hushes_b2_body (Q : mI → Prop) (k2 : Int → mI → Prop) (l1 : Int) (I : mI) : Prop := (if (6 : Int) ≤ l1 then (∃ f, p12_hushes_b23 Q f 0 I) else (((0 : Int) ≤ l1 ∧ l1 < (6 : Int)) ∧ wLet (up I 195 l1 0) (fun I1 => (rg (l1 + 1) ∧ (k2 (l1 + 1) I1)))))
def p12_hushes_b2 (Q : mI → Prop) : Nat → Int → mI → Prop
  | 0 => fun _ _ => False
  | f + 1 => fun l1 I => p12_hushes_b2_body Q (p12_hushes_b2 Q f) l1 I
set_option maxRecDepth 20000 in
theorem w12_hushes_b2_body {C : wX} {ad : Nat → Nat} {n : Nat} {I J : mI} {R : mR} {Q : mI → Prop} (hC : wOK C cX12_hushes 2 RX12) (hRm : wRm C 1 12 0 0) (hE : wEnd C none ad n (fun _ I' J' R' => (J' = J ∧ R' = R) ∧ Q I')) (hRF : RF R)  {l1 : Int}     {k2 : Int → mI → Prop} (kk2 : ∀ (y1 : Int) (I' : mI), k2 y1 I' → WM C ad n I' J R 0 0 2 [(0, vr 159), (1, vi y1)] []) (hw : p12_hushes_b2_body Q k2 l1 I) : WM C ad n I J R 0 0 2 [(0, vr 159), (1, vi l1)] [] := by
  unfold p12_hushes_b2_body at hw
  refine wm_iload_n hC 1 dX12_hushes_2 rfl ?_
  refine wm_bipush hC dX12_hushes_3 (k := ?_)
  refine wm_icmp_ge (tgt := 21) hC dX12_hushes_5 (by decide) hw (fun hw => ?_) (fun hw => ?_)
  · refine wm_iconst hC dX12_hushes_21 (k := ?_)
    refine wm_istore_n hC dX12_hushes_22 (by decide) (L2 := [(1, vi 0), (0, vr 159)]) rfl ?_
    obtain ⟨f, hw⟩ := hw
    refine wm_sub [1, 0] (L2 := [(0, vr 159), (1, vi 0)]) rfl ?_
    exact w12_hushes_b23 hC hRm hE hRF  f _ _ hw
  · refine wm_aload_n hC 0 dX12_hushes_8 rfl (k_ne0 kk_159 (by decide)) ?_
    refine x_getR3 hC 58 fl_X12_189 rfl kk_159 (rf_159_58 hRF) dX12_hushes_9 ?_
    refine wm_iload_n hC 1 dX12_hushes_12 rfl ?_
    refine wm_iconst hC dX12_hushes_13 (k := ?_)
    refine x_iast2 hC kk_195 kn_195 dX12_hushes_14 hw (fun I1 hw => ?_)
    refine x_iinc hC 1 dX12_hushes_15 rfl (by decide) (L2 := [(1, vi (l1 + 1)), (0, vr 159)]) rfl hw (fun hw => ?_)
    refine wm_goto (tgt := 2) hC dX12_hushes_18 (by decide) ?_
    refine wm_sub [1, 0] (L2 := [(0, vr 159), (1, vi (l1 + 1))]) rfl ?_
    exact kk2 _ _ hw
set_option maxRecDepth 20000 in
theorem w12_hushes_b2 {C : wX} {ad : Nat → Nat} {n : Nat} {J : mI} {R : mR} {Q : mI → Prop} (hC : wOK C cX12_hushes 2 RX12) (hRm : wRm C 1 12 0 0) (hE : wEnd C none ad n (fun _ I' J' R' => (J' = J ∧ R' = R) ∧ Q I')) (hRF : RF R)      : ∀ (f : Nat) (l1 : Int) (I : mI), p12_hushes_b2 Q f l1 I → WM C ad n I J R 0 0 2 [(0, vr 159), (1, vi l1)] [] := by
  intro f
  induction f with
  | zero => intro l1 I hw; exact hw.elim
  | succ f ih => intro l1 I hw; exact w12_hushes_b2_body hC hRm hE hRF  (fun a0 a1 aw => ih a0 a1 aw) hw
def p12_hushes (I : mI) (Q : mI → Prop) : Prop := (∃ f, p12_hushes_b2 Q f 0 I)
set_option maxRecDepth 20000 in
theorem c12_hushes {ad : Nat → Nat} {n : Nat} {I J : mI} {R : mR} {Q : mI → Prop}  (hRF : RF R)   (hw : p12_hushes I Q) : wMet yX12_hushes cX12_hushes 2 none 1 12 false ad n I J R [vr 159] (fun _ I' J' R' => (J' = J ∧ R' = R) ∧ Q I') := by
  refine wMet_of (by decide) (Nat.le_of_ble_eq_true rfl) (fun C hC hRm hE hS => ?_)
  refine (show WM C ad n I J R 0 0 0 [(0, vr 159)] [] from ?_)
  unfold p12_hushes at hw
  refine wm_iconst hC dX12_hushes_0 (k := ?_)
  refine wm_istore_n hC dX12_hushes_1 (by decide) (L2 := [(1, vi 0), (0, vr 159)]) rfl ?_
  obtain ⟨f, hw⟩ := hw
  refine wm_sub [1, 0] (L2 := [(0, vr 159), (1, vi 0)]) rfl ?_
  exact w12_hushes_b2 hC hRm hE hRF  f _ _ hw
def p12_gap (l0 : Int) (l1 : Int) (Q : Int → Prop) : Prop := (if l0 ≤ l1 then (rg (l1 - l0) ∧ (Q (l1 - l0))) else (rg (l0 - l1) ∧ (Q (l0 - l1))))
set_option maxRecDepth 20000 in
theorem c12_gap {ad : Nat → Nat} {n : Nat} {I J : mI} {R : mR} {Q : Int → Prop}  (hRF : RF R) {l0 : Int} {l1 : Int}   (hw : p12_gap l0 l1 Q) : wMet yX12_gap cX12_gap 2 (some .int) 1 12 false ad n I J R [vi l0, vi l1] (fun r I' J' R' => (I' = I ∧ J' = J ∧ R' = R) ∧ Q r) := by
  refine wMet_of (by decide) (Nat.le_of_ble_eq_true rfl) (fun C hC hRm hE hS => ?_)
  refine (show WM C ad n I J R 0 0 0 [(0, vi l0), (1, vi l1)] [] from ?_)
  unfold p12_gap at hw
  refine wm_iload_n hC 0 dX12_gap_0 rfl ?_
  refine wm_iload_n hC 1 dX12_gap_1 rfl ?_
  refine wm_icmp_le (tgt := 11) hC dX12_gap_2 (by decide) hw (fun hw => ?_) (fun hw => ?_)
  · refine wm_iload_n hC 1 dX12_gap_11 rfl ?_
    refine wm_iload_n hC 0 dX12_gap_12 rfl ?_
    refine x_isub hC dX12_gap_13 hw (fun hw => ?_)
    exact wm_ireturn hC hE dX12_gap_14 ⟨⟨rfl, rfl, rfl⟩, hw⟩
  · refine wm_iload_n hC 0 dX12_gap_5 rfl ?_
    refine wm_iload_n hC 1 dX12_gap_6 rfl ?_
    refine x_isub hC dX12_gap_7 hw (fun hw => ?_)
    refine wm_goto (tgt := 14) hC dX12_gap_8 (by decide) ?_
    exact wm_ireturn hC hE dX12_gap_14 ⟨⟨rfl, rfl, rfl⟩, hw⟩
def p12_matchOf_b6_body (l1 : Int) (l2 : Int) (l3 : Int) (I : mI) (Q : Int → Prop) (k6 : Int → Int → Prop) (l4 : Int) (l5 : Int) : Prop := (if (3 : Int) ≤ l5 then (Q l4) else (rg (3 * l1) ∧ (rg ((3 * l1) + l5) ∧ (((0 : Int) ≤ ((3 * l1) + l5) ∧ ((3 * l1) + l5) < (18 : Int)) ∧ (rg (18 * (I 159 13)) ∧ (rg (3 * l2) ∧ (rg ((18 * (I 159 13)) + (3 * l2)) ∧ (rg (((18 * (I 159 13)) + (3 * l2)) + l5) ∧ (((0 : Int) ≤ (((18 * (I 159 13)) + (3 * l2)) + l5) ∧ (((18 * (I 159 13)) + (3 * l2)) + l5) < (36 : Int)) ∧ (rg (18 * (I 159 13)) ∧ (rg (3 * l3) ∧ (rg ((18 * (I 159 13)) + (3 * l3)) ∧ (rg (((18 * (I 159 13)) + (3 * l3)) + l5) ∧ (((0 : Int) ≤ (((18 * (I 159 13)) + (3 * l3)) + l5) ∧ (((18 * (I 159 13)) + (3 * l3)) + l5) < (36 : Int)) ∧ (p12_gap (I 168 (((18 * (I 159 13)) + (3 * l2)) + l5)) (I 165 (((18 * (I 159 13)) + (3 * l3)) + l5)) (fun r1 => (rg (9 - r1) ∧ (rg ((I 192 ((3 * l1) + l5)) * (9 - r1)) ∧ (rg (l4 + ((I 192 ((3 * l1) + l5)) * (9 - r1))) ∧ (wLet (l4 + ((I 192 ((3 * l1) + l5)) * (9 - r1))) (fun x1 => (rg (l5 + 1) ∧ (k6 x1 (l5 + 1))))))))))))))))))))))))
def p12_matchOf_b6 (l1 : Int) (l2 : Int) (l3 : Int) (I : mI) (Q : Int → Prop) : Nat → Int → Int → Prop
  | 0 => fun _ _ => False
  | f + 1 => fun l4 l5 => p12_matchOf_b6_body l1 l2 l3 I Q (p12_matchOf_b6 l1 l2 l3 I Q f) l4 l5
set_option maxRecDepth 20000 in
theorem w12_matchOf_b6_body {C : wX} {ad : Nat → Nat} {n : Nat} {I J : mI} {R : mR} {Q : Int → Prop} (hC : wOK C cX12_matchOf 6 RX12) (hRm : wRm C 2 33 0 0) (hE : wEnd C (some .int) ad n (fun r I' J' R' => (I' = I ∧ J' = J ∧ R' = R) ∧ Q r)) (hRF : RF R) {l1 : Int} {l2 : Int} {l3 : Int} {l4 : Int} {l5 : Int}     {k6 : Int → Int → Prop} (kk6 : ∀ (y4 : Int) (y5 : Int), k6 y4 y5 → WM C ad n I J R 0 0 6 [(0, vr 159), (1, vi l1), (2, vi l2), (3, vi l3), (4, vi y4), (5, vi y5)] []) (hw : p12_matchOf_b6_body l1 l2 l3 I Q k6 l4 l5) : WM C ad n I J R 0 0 6 [(0, vr 159), (1, vi l1), (2, vi l2), (3, vi l3), (4, vi l4), (5, vi l5)] [] := by
  unfold p12_matchOf_b6_body at hw
  refine wm_iload hC 5 dX12_matchOf_6 rfl ?_
  refine wm_iconst hC dX12_matchOf_8 (k := ?_)
  refine wm_icmp_ge (tgt := 79) hC dX12_matchOf_9 (by decide) hw (fun hw => ?_) (fun hw => ?_)
  · refine wm_iload hC 4 dX12_matchOf_79 rfl ?_
    exact wm_ireturn hC hE dX12_matchOf_81 ⟨⟨rfl, rfl, rfl⟩, hw⟩
  · refine wm_iload hC 4 dX12_matchOf_12 rfl ?_
    refine wm_aload_n hC 0 dX12_matchOf_14 rfl (k_ne0 kk_159 (by decide)) ?_
    refine x_getR3 hC 55 fl_X12_180 rfl kk_159 (rf_159_55 hRF) dX12_matchOf_15 ?_
    refine wm_iconst hC dX12_matchOf_18 (k := ?_)
    refine wm_iload_n hC 1 dX12_matchOf_19 rfl ?_
    refine x_imul hC dX12_matchOf_20 hw (fun hw => ?_)
    refine wm_iload hC 5 dX12_matchOf_21 rfl ?_
    refine x_iadd hC dX12_matchOf_23 hw (fun hw => ?_)
    refine x_iald2 hC kk_192 kn_192 dX12_matchOf_24 hw (fun hw => ?_)
    refine wm_bipush hC dX12_matchOf_25 (k := ?_)
    refine wm_aload_n hC 0 dX12_matchOf_27 rfl (k_ne0 kk_159 (by decide)) ?_
    refine x_getR3 hC 21 fl_X12_75 rfl kk_159 (rf_159_21 hRF) dX12_matchOf_28 ?_
    refine wm_bipush hC dX12_matchOf_31 (k := ?_)
    refine wm_aload_n hC 0 dX12_matchOf_33 rfl (k_ne0 kk_159 (by decide)) ?_
    refine x_getI hC 13 fl_X12_51 rfl kk_159 dX12_matchOf_34 ?_
    refine x_imul hC dX12_matchOf_37 hw (fun hw => ?_)
    refine wm_iconst hC dX12_matchOf_38 (k := ?_)
    refine wm_iload_n hC 2 dX12_matchOf_39 rfl ?_
    refine x_imul hC dX12_matchOf_40 hw (fun hw => ?_)
    refine x_iadd hC dX12_matchOf_41 hw (fun hw => ?_)
    refine wm_iload hC 5 dX12_matchOf_42 rfl ?_
    refine x_iadd hC dX12_matchOf_44 hw (fun hw => ?_)
    refine x_iald2 hC kk_168 kn_168 dX12_matchOf_45 hw (fun hw => ?_)
    refine wm_aload_n hC 0 dX12_matchOf_46 rfl (k_ne0 kk_159 (by decide)) ?_
    refine x_getR3 hC 18 fl_X12_66 rfl kk_159 (rf_159_18 hRF) dX12_matchOf_47 ?_
    refine wm_bipush hC dX12_matchOf_50 (k := ?_)
    refine wm_aload_n hC 0 dX12_matchOf_52 rfl (k_ne0 kk_159 (by decide)) ?_
    refine x_getI hC 13 fl_X12_51 rfl kk_159 dX12_matchOf_53 ?_
    refine x_imul hC dX12_matchOf_56 hw (fun hw => ?_)
    refine wm_iconst hC dX12_matchOf_57 (k := ?_)
    refine wm_iload_n hC 3 dX12_matchOf_58 rfl ?_
    refine x_imul hC dX12_matchOf_59 hw (fun hw => ?_)
    refine x_iadd hC dX12_matchOf_60 hw (fun hw => ?_)
    refine wm_iload hC 5 dX12_matchOf_61 rfl ?_
    refine x_iadd hC dX12_matchOf_63 hw (fun hw => ?_)
    refine x_iald2 hC kk_165 kn_165 dX12_matchOf_64 hw (fun hw => ?_)
    refine y_callS_i_n hC hRm noS ml_X12_443 (c12_gap hRF  hw) (Nat.le_of_ble_eq_true rfl) (Nat.le_of_ble_eq_true rfl) ⟨Nat.zero_le _, Nat.zero_le _⟩ rfl (st := [vi 9, vi (I 192 ((3 * l1) + l5)), vi l4]) rfl (Nat.le_of_ble_eq_true rfl) dX12_matchOf_65 (fun r1 hw => ?_)
    refine x_isub hC dX12_matchOf_68 hw (fun hw => ?_)
    refine x_imul hC dX12_matchOf_69 hw (fun hw => ?_)
    refine x_iadd hC dX12_matchOf_70 hw (fun hw => ?_)
    refine x_nameI hw (fun x1 hw => ?_)
    refine wm_istore hC dX12_matchOf_71 (by decide) (L2 := [(4, vi x1), (0, vr 159), (1, vi l1), (2, vi l2), (3, vi l3), (5, vi l5)]) rfl ?_
    refine x_iinc hC 5 dX12_matchOf_73 rfl (by decide) (L2 := [(5, vi (l5 + 1)), (4, vi x1), (0, vr 159), (1, vi l1), (2, vi l2), (3, vi l3)]) rfl hw (fun hw => ?_)
    refine wm_goto (tgt := 6) hC dX12_matchOf_76 (by decide) ?_
    refine wm_sub [2, 3, 4, 5, 1, 0] (L2 := [(0, vr 159), (1, vi l1), (2, vi l2), (3, vi l3), (4, vi x1), (5, vi (l5 + 1))]) rfl ?_
    exact kk6 _ _ hw
set_option maxRecDepth 20000 in
theorem w12_matchOf_b6 {C : wX} {ad : Nat → Nat} {n : Nat} {I : mI} {J : mI} {R : mR} {Q : Int → Prop} (hC : wOK C cX12_matchOf 6 RX12) (hRm : wRm C 2 33 0 0) (hE : wEnd C (some .int) ad n (fun r I' J' R' => (I' = I ∧ J' = J ∧ R' = R) ∧ Q r)) (hRF : RF R) {l1 : Int} {l2 : Int} {l3 : Int}     : ∀ (f : Nat) (l4 : Int) (l5 : Int), p12_matchOf_b6 l1 l2 l3 I Q f l4 l5 → WM C ad n I J R 0 0 6 [(0, vr 159), (1, vi l1), (2, vi l2), (3, vi l3), (4, vi l4), (5, vi l5)] [] := by
  intro f
  induction f with
  | zero => intro l4 l5 hw; exact hw.elim
  | succ f ih => intro l4 l5 hw; exact w12_matchOf_b6_body hC hRm hE hRF  (fun a0 a1 aw => ih a0 a1 aw) hw
def p12_matchOf (l1 : Int) (l2 : Int) (l3 : Int) (I : mI) (Q : Int → Prop) : Prop := (∃ f, p12_matchOf_b6 l1 l2 l3 I Q f 0 0)
set_option maxRecDepth 20000 in
theorem c12_matchOf {ad : Nat → Nat} {n : Nat} {I J : mI} {R : mR} {Q : Int → Prop}  (hRF : RF R) {l1 : Int} {l2 : Int} {l3 : Int}     (hw : p12_matchOf l1 l2 l3 I Q) : wMet yX12_matchOf cX12_matchOf 6 (some .int) 2 33 false ad n I J R [vr 159, vi l1, vi l2, vi l3] (fun r I' J' R' => (I' = I ∧ J' = J ∧ R' = R) ∧ Q r) := by
  refine wMet_of (by decide) (Nat.le_of_ble_eq_true rfl) (fun C hC hRm hE hS => ?_)
  refine (show WM C ad n I J R 0 0 0 [(0, vr 159), (1, vi l1), (2, vi l2), (3, vi l3)] [] from ?_)
  unfold p12_matchOf at hw
  refine wm_iconst hC dX12_matchOf_0 (k := ?_)
  refine wm_istore hC dX12_matchOf_1 (by decide) (L2 := [(4, vi 0), (0, vr 159), (1, vi l1), (2, vi l2), (3, vi l3)]) rfl ?_
  refine wm_iconst hC dX12_matchOf_3 (k := ?_)
  refine wm_istore hC dX12_matchOf_4 (by decide) (L2 := [(5, vi 0), (4, vi 0), (0, vr 159), (1, vi l1), (2, vi l2), (3, vi l3)]) rfl ?_
  obtain ⟨f, hw⟩ := hw
  refine wm_sub [2, 3, 4, 5, 1, 0] (L2 := [(0, vr 159), (1, vi l1), (2, vi l2), (3, vi l3), (4, vi 0), (5, vi 0)]) rfl ?_
  exact w12_matchOf_b6 hC hRm hE hRF  f _ _ hw
def p12_wornOf_b5_body (l1 : Int) (l2 : Int) (I : mI) (Q : Int → Prop) (k5 : Int → Int → Prop) (l3 : Int) (l4 : Int) : Prop := (((0 : Int) ≤ (I 159 13) ∧ (I 159 13) < (2 : Int)) ∧ (if (I 167 (I 159 13)) ≤ l4 then (Q l3) else (rg (6 * l1) ∧ (rg ((6 * l1) + l4) ∧ (((0 : Int) ≤ ((6 * l1) + l4) ∧ ((6 * l1) + l4) < (132 : Int)) ∧ (if (I 189 ((6 * l1) + l4)) = l2 then (rg (l3 + 1) ∧ (rg (l4 + 1) ∧ (k5 (l3 + 1) (l4 + 1)))) else (rg (l3 + 0) ∧ (rg (l4 + 1) ∧ (k5 (l3 + 0) (l4 + 1))))))))))
def p12_wornOf_b5 (l1 : Int) (l2 : Int) (I : mI) (Q : Int → Prop) : Nat → Int → Int → Prop
  | 0 => fun _ _ => False
  | f + 1 => fun l3 l4 => p12_wornOf_b5_body l1 l2 I Q (p12_wornOf_b5 l1 l2 I Q f) l3 l4
set_option maxRecDepth 20000 in
theorem w12_wornOf_b5_body {C : wX} {ad : Nat → Nat} {n : Nat} {I J : mI} {R : mR} {Q : Int → Prop} (hC : wOK C cX12_wornOf 5 RX12) (hRm : wRm C 1 12 0 0) (hE : wEnd C (some .int) ad n (fun r I' J' R' => (I' = I ∧ J' = J ∧ R' = R) ∧ Q r)) (hRF : RF R) {l1 : Int} {l2 : Int} {l3 : Int} {l4 : Int}     {k5 : Int → Int → Prop} (kk5 : ∀ (y3 : Int) (y4 : Int), k5 y3 y4 → WM C ad n I J R 0 0 5 [(0, vr 159), (1, vi l1), (2, vi l2), (3, vi y3), (4, vi y4)] []) (hw : p12_wornOf_b5_body l1 l2 I Q k5 l3 l4) : WM C ad n I J R 0 0 5 [(0, vr 159), (1, vi l1), (2, vi l2), (3, vi l3), (4, vi l4)] [] := by
  unfold p12_wornOf_b5_body at hw
  refine wm_iload hC 4 dX12_wornOf_5 rfl ?_
  refine wm_aload_n hC 0 dX12_wornOf_7 rfl (k_ne0 kk_159 (by decide)) ?_
  refine x_getR3 hC 20 fl_X12_72 rfl kk_159 (rf_159_20 hRF) dX12_wornOf_8 ?_
  refine wm_aload_n hC 0 dX12_wornOf_11 rfl (k_ne0 kk_159 (by decide)) ?_
  refine x_getI hC 13 fl_X12_51 rfl kk_159 dX12_wornOf_12 ?_
  refine x_iald2 hC kk_167 kn_167 dX12_wornOf_15 hw (fun hw => ?_)
  refine wm_icmp_ge (tgt := 49) hC dX12_wornOf_16 (by decide) hw (fun hw => ?_) (fun hw => ?_)
  · refine wm_iload_n hC 3 dX12_wornOf_49 rfl ?_
    exact wm_ireturn hC hE dX12_wornOf_50 ⟨⟨rfl, rfl, rfl⟩, hw⟩
  · refine wm_iload_n hC 3 dX12_wornOf_19 rfl ?_
    refine wm_aload_n hC 0 dX12_wornOf_20 rfl (k_ne0 kk_159 (by decide)) ?_
    refine x_getR3 hC 49 fl_X12_162 rfl kk_159 (rf_159_49 hRF) dX12_wornOf_21 ?_
    refine wm_bipush hC dX12_wornOf_24 (k := ?_)
    refine wm_iload_n hC 1 dX12_wornOf_26 rfl ?_
    refine x_imul hC dX12_wornOf_27 hw (fun hw => ?_)
    refine wm_iload hC 4 dX12_wornOf_28 rfl ?_
    refine x_iadd hC dX12_wornOf_30 hw (fun hw => ?_)
    refine x_iald2 hC kk_189 kn_189 dX12_wornOf_31 hw (fun hw => ?_)
    refine wm_iload_n hC 2 dX12_wornOf_32 rfl ?_
    refine wm_icmp_ne (tgt := 40) hC dX12_wornOf_33 (by decide) hw (fun hw => ?_) (fun hw => ?_)
    · refine wm_iconst hC dX12_wornOf_36 (k := ?_)
      refine wm_goto (tgt := 41) hC dX12_wornOf_37 (by decide) ?_
      refine x_iadd hC dX12_wornOf_41 hw (fun hw => ?_)
      refine wm_istore_n hC dX12_wornOf_42 (by decide) (L2 := [(3, vi (l3 + 1)), (0, vr 159), (1, vi l1), (2, vi l2), (4, vi l4)]) rfl ?_
      refine x_iinc hC 4 dX12_wornOf_43 rfl (by decide) (L2 := [(4, vi (l4 + 1)), (3, vi (l3 + 1)), (0, vr 159), (1, vi l1), (2, vi l2)]) rfl hw (fun hw => ?_)
      refine wm_goto (tgt := 5) hC dX12_wornOf_46 (by decide) ?_
      refine wm_sub [2, 3, 4, 1, 0] (L2 := [(0, vr 159), (1, vi l1), (2, vi l2), (3, vi (l3 + 1)), (4, vi (l4 + 1))]) rfl ?_
      exact kk5 _ _ hw
    · refine wm_iconst hC dX12_wornOf_40 (k := ?_)
      refine x_iadd hC dX12_wornOf_41 hw (fun hw => ?_)
      refine wm_istore_n hC dX12_wornOf_42 (by decide) (L2 := [(3, vi (l3 + 0)), (0, vr 159), (1, vi l1), (2, vi l2), (4, vi l4)]) rfl ?_
      refine x_iinc hC 4 dX12_wornOf_43 rfl (by decide) (L2 := [(4, vi (l4 + 1)), (3, vi (l3 + 0)), (0, vr 159), (1, vi l1), (2, vi l2)]) rfl hw (fun hw => ?_)
      refine wm_goto (tgt := 5) hC dX12_wornOf_46 (by decide) ?_
      refine wm_sub [2, 3, 4, 1, 0] (L2 := [(0, vr 159), (1, vi l1), (2, vi l2), (3, vi (l3 + 0)), (4, vi (l4 + 1))]) rfl ?_
      exact kk5 _ _ hw
set_option maxRecDepth 20000 in
theorem w12_wornOf_b5 {C : wX} {ad : Nat → Nat} {n : Nat} {I : mI} {J : mI} {R : mR} {Q : Int → Prop} (hC : wOK C cX12_wornOf 5 RX12) (hRm : wRm C 1 12 0 0) (hE : wEnd C (some .int) ad n (fun r I' J' R' => (I' = I ∧ J' = J ∧ R' = R) ∧ Q r)) (hRF : RF R) {l1 : Int} {l2 : Int}     : ∀ (f : Nat) (l3 : Int) (l4 : Int), p12_wornOf_b5 l1 l2 I Q f l3 l4 → WM C ad n I J R 0 0 5 [(0, vr 159), (1, vi l1), (2, vi l2), (3, vi l3), (4, vi l4)] [] := by
  intro f
  induction f with
  | zero => intro l3 l4 hw; exact hw.elim
  | succ f ih => intro l3 l4 hw; exact w12_wornOf_b5_body hC hRm hE hRF  (fun a0 a1 aw => ih a0 a1 aw) hw
def p12_wornOf (l1 : Int) (l2 : Int) (I : mI) (Q : Int → Prop) : Prop := (∃ f, p12_wornOf_b5 l1 l2 I Q f 0 0)
set_option maxRecDepth 20000 in
theorem c12_wornOf {ad : Nat → Nat} {n : Nat} {I J : mI} {R : mR} {Q : Int → Prop}  (hRF : RF R) {l1 : Int} {l2 : Int}    (hw : p12_wornOf l1 l2 I Q) : wMet yX12_wornOf cX12_wornOf 5 (some .int) 1 12 false ad n I J R [vr 159, vi l1, vi l2] (fun r I' J' R' => (I' = I ∧ J' = J ∧ R' = R) ∧ Q r) := by
  refine wMet_of (by decide) (Nat.le_of_ble_eq_true rfl) (fun C hC hRm hE hS => ?_)
  refine (show WM C ad n I J R 0 0 0 [(0, vr 159), (1, vi l1), (2, vi l2)] [] from ?_)
  unfold p12_wornOf at hw
  refine wm_iconst hC dX12_wornOf_0 (k := ?_)
  refine wm_istore_n hC dX12_wornOf_1 (by decide) (L2 := [(3, vi 0), (0, vr 159), (1, vi l1), (2, vi l2)]) rfl ?_
  refine wm_iconst hC dX12_wornOf_2 (k := ?_)
  refine wm_istore hC dX12_wornOf_3 (by decide) (L2 := [(4, vi 0), (3, vi 0), (0, vr 159), (1, vi l1), (2, vi l2)]) rfl ?_
  obtain ⟨f, hw⟩ := hw
  refine wm_sub [2, 3, 4, 1, 0] (L2 := [(0, vr 159), (1, vi l1), (2, vi l2), (3, vi 0), (4, vi 0)]) rfl ?_
  exact w12_wornOf_b5 hC hRm hE hRF  f _ _ hw
def p12_scoreOf (l1 : Int) (l2 : Int) (l3 : Int) (l4 : Int) (l5 : Int) (I : mI) (J : mI) (Q : Int → mI → mI → Prop) : Prop := (p12_matchOf l2 l3 l4 I (fun r1 => (p12_isTold 0 I (fun r2 => (if r2 = 0 then (Q r1 I J) else (p12_lays l1 l2 I (fun I1 => (wLet (up I1 194 4 r1) (fun I2 => (p12_wornOf l1 l4 I2 (fun r3 => (wLet (up I2 194 5 r3) (fun I3 => (wLet (up I3 194 6 l5) (fun I4 => (rg (6 * (I4 159 13)) ∧ (rg ((6 * (I4 159 13)) + l4) ∧ (((0 : Int) ≤ ((6 * (I4 159 13)) + l4) ∧ ((6 * (I4 159 13)) + l4) < (12 : Int)) ∧ (wLet (up I4 194 7 (I4 166 ((6 * (I4 159 13)) + l4))) (fun I5 => (p12_reckons 0 I5 J (fun r4 J1 => (Q r4 I5 J1)))))))))))))))))))))))
set_option maxRecDepth 20000 in
theorem c12_scoreOf {ad : Nat → Nat} {n : Nat} {I J : mI} {R : mR} {Q : Int → mI → mI → Prop}  (hRF : RF R) {l1 : Int} {l2 : Int} {l3 : Int} {l4 : Int} {l5 : Int}       (hw : p12_scoreOf l1 l2 l3 l4 l5 I J Q) : wMet yX12_scoreOf cX12_scoreOf 7 (some .long) 4 85 false ad n I J R [vr 159, vi l1, vi l2, vi l3, vi l4, vi l5] (fun r I' J' R' => (R' = R) ∧ Q r I' J') := by
  refine wMet_of (by decide) (Nat.le_of_ble_eq_true rfl) (fun C hC hRm hE hS => ?_)
  refine (show WM C ad n I J R 0 0 0 [(0, vr 159), (1, vi l1), (2, vi l2), (3, vi l3), (4, vi l4), (5, vi l5)] [] from ?_)
  unfold p12_scoreOf at hw
  refine wm_aload_n hC 0 dX12_scoreOf_0 rfl (k_ne0 kk_159 (by decide)) ?_
  refine wm_iload_n hC 2 dX12_scoreOf_1 rfl ?_
  refine wm_iload_n hC 3 dX12_scoreOf_2 rfl ?_
  refine wm_iload hC 4 dX12_scoreOf_3 rfl ?_
  refine y_callV_i_n hC hRm noS ml_X12_446 kk_159 (c12_matchOf hRF  hw) (Nat.le_of_ble_eq_true rfl) (Nat.le_of_ble_eq_true rfl) ⟨Nat.zero_le _, Nat.zero_le _⟩ rfl (st := []) rfl (Nat.le_of_ble_eq_true rfl) dX12_scoreOf_5 (fun r1 hw => ?_)
  refine wm_istore hC dX12_scoreOf_8 (by decide) (L2 := [(6, vi r1), (0, vr 159), (1, vi l1), (2, vi l2), (3, vi l3), (4, vi l4), (5, vi l5)]) rfl ?_
  refine wm_aload_n hC 1 dX12_scoreOf_10 rfl (k_ne0 kk_159 (by decide)) ?_
  refine wm_iconst hC dX12_scoreOf_11 (k := ?_)
  refine y_callV_z_n hC hRm noS ml_X12_450 kk_159 (c12_isTold hRF  hw) (Nat.le_of_ble_eq_true rfl) (Nat.le_of_ble_eq_true rfl) ⟨Nat.zero_le _, Nat.zero_le _⟩ rfl (st := []) rfl (Nat.le_of_ble_eq_true rfl) dX12_scoreOf_12 (fun r2 hw => ?_)
  refine wm_if_ne (tgt := 22) hC dX12_scoreOf_15 (by decide) hw (fun hw => ?_) (fun hw => ?_)
  · refine wm_iload hC 0 dX12_scoreOf_18 rfl ?_
    refine wm_i2l hC dX12_scoreOf_20 ?_
    exact wm_lreturn hC hE dX12_scoreOf_21 ⟨rfl, hw⟩
  · refine wm_aload_n hC 1 dX12_scoreOf_22 rfl (k_ne0 kk_159 (by decide)) ?_
    refine wm_iload_n hC 2 dX12_scoreOf_23 rfl ?_
    refine wm_iload_n hC 3 dX12_scoreOf_24 rfl ?_
    refine y_callV_v_I hC hRm noS ml_X12_453 kk_159 (c12_lays hRF  hw) (Nat.le_of_ble_eq_true rfl) (Nat.le_of_ble_eq_true rfl) ⟨Nat.zero_le _, Nat.zero_le _⟩ rfl (st := []) rfl (Nat.le_of_ble_eq_true rfl) dX12_scoreOf_25 (fun I1 hw => ?_)
    refine wm_aload_n hC 1 dX12_scoreOf_28 rfl (k_ne0 kk_159 (by decide)) ?_
    refine x_getR3 hC 57 fl_X12_186 rfl kk_159 (rf_159_57 hRF) dX12_scoreOf_29 ?_
    refine wm_iconst hC dX12_scoreOf_32 (k := ?_)
    refine wm_iload hC 0 dX12_scoreOf_33 rfl ?_
    refine x_iastK hC kk_194 kn_194 (by decide) (by decide) dX12_scoreOf_35 hw (fun I2 hw => ?_)
    refine wm_aload_n hC 1 dX12_scoreOf_36 rfl (k_ne0 kk_159 (by decide)) ?_
    refine x_getR3 hC 57 fl_X12_186 rfl kk_159 (rf_159_57 hRF) dX12_scoreOf_37 ?_
    refine wm_iconst hC dX12_scoreOf_40 (k := ?_)
    refine wm_aload_n hC 1 dX12_scoreOf_41 rfl (k_ne0 kk_159 (by decide)) ?_
    refine wm_iload_n hC 2 dX12_scoreOf_42 rfl ?_
    refine wm_iload hC 5 dX12_scoreOf_43 rfl ?_
    refine y_callV_i_n hC hRm noS ml_X12_456 kk_159 (c12_wornOf hRF  hw) (Nat.le_of_ble_eq_true rfl) (Nat.le_of_ble_eq_true rfl) ⟨Nat.zero_le _, Nat.zero_le _⟩ rfl (st := [vi 5, vr 194]) rfl (Nat.le_of_ble_eq_true rfl) dX12_scoreOf_45 (fun r3 hw => ?_)
    refine x_iastK hC kk_194 kn_194 (by decide) (by decide) dX12_scoreOf_48 hw (fun I3 hw => ?_)
    refine wm_aload_n hC 1 dX12_scoreOf_49 rfl (k_ne0 kk_159 (by decide)) ?_
    refine x_getR3 hC 57 fl_X12_186 rfl kk_159 (rf_159_57 hRF) dX12_scoreOf_50 ?_
    refine wm_bipush hC dX12_scoreOf_53 (k := ?_)
    refine wm_iload hC 6 dX12_scoreOf_55 rfl ?_
    refine x_iastK hC kk_194 kn_194 (by decide) (by decide) dX12_scoreOf_57 hw (fun I4 hw => ?_)
    refine wm_aload_n hC 1 dX12_scoreOf_58 rfl (k_ne0 kk_159 (by decide)) ?_
    refine x_getR3 hC 57 fl_X12_186 rfl kk_159 (rf_159_57 hRF) dX12_scoreOf_59 ?_
    refine wm_bipush hC dX12_scoreOf_62 (k := ?_)
    refine wm_aload_n hC 1 dX12_scoreOf_64 rfl (k_ne0 kk_159 (by decide)) ?_
    refine x_getR3 hC 19 fl_X12_69 rfl kk_159 (rf_159_19 hRF) dX12_scoreOf_65 ?_
    refine wm_bipush hC dX12_scoreOf_68 (k := ?_)
    refine wm_aload_n hC 1 dX12_scoreOf_70 rfl (k_ne0 kk_159 (by decide)) ?_
    refine x_getI hC 13 fl_X12_51 rfl kk_159 dX12_scoreOf_71 ?_
    refine x_imul hC dX12_scoreOf_74 hw (fun hw => ?_)
    refine wm_iload hC 5 dX12_scoreOf_75 rfl ?_
    refine x_iadd hC dX12_scoreOf_77 hw (fun hw => ?_)
    refine x_iald2 hC kk_166 kn_166 dX12_scoreOf_78 hw (fun hw => ?_)
    refine x_iastK hC kk_194 kn_194 (by decide) (by decide) dX12_scoreOf_79 hw (fun I5 hw => ?_)
    refine wm_aload_n hC 1 dX12_scoreOf_80 rfl (k_ne0 kk_159 (by decide)) ?_
    refine wm_iconst hC dX12_scoreOf_81 (k := ?_)
    refine y_callV_l_J hC hRm noS ml_X12_459 kk_159 (c12_reckons hRF  hw) (Nat.le_of_ble_eq_true rfl) (Nat.le_of_ble_eq_true rfl) ⟨Nat.zero_le _, Nat.zero_le _⟩ rfl (st := []) rfl (Nat.le_of_ble_eq_true rfl) dX12_scoreOf_82 (fun r4 J1 hw => ?_)
    exact wm_lreturn hC hE dX12_scoreOf_85 ⟨rfl, hw⟩
def p12_wordBy_b9_body (l1 : Int) (l2 : Int) (l3 : Int) (Q : Int → mI → mI → Prop) (k9 : Int → Int → Int → mI → mI → Prop) (l4 : Int) (l5 : Int) (l7 : Int) (I : mI) (J : mI) : Prop := (((0 : Int) ≤ (I 159 13) ∧ (I 159 13) < (2 : Int)) ∧ (if (I 164 (I 159 13)) ≤ l7 then (Q l4 I J) else (((0 : Int) ≤ l7 ∧ l7 < (6 : Int)) ∧ (p12_scoreOf l1 l2 l3 l7 (I 195 l7) I J (fun r1 I1 J1 => (if l4 = (-1) then (rg (l7 + 1) ∧ (k9 l7 r1 (l7 + 1) I1 J1)) else (if l5 < r1 then (rg (l7 + 1) ∧ (k9 l7 r1 (l7 + 1) I1 J1)) else (rg (l7 + 1) ∧ (k9 l4 l5 (l7 + 1) I1 J1)))))))))
def p12_wordBy_b9 (l1 : Int) (l2 : Int) (l3 : Int) (Q : Int → mI → mI → Prop) : Nat → Int → Int → Int → mI → mI → Prop
  | 0 => fun _ _ _ _ _ => False
  | f + 1 => fun l4 l5 l7 I J => p12_wordBy_b9_body l1 l2 l3 Q (p12_wordBy_b9 l1 l2 l3 Q f) l4 l5 l7 I J
set_option maxRecDepth 20000 in
theorem w12_wordBy_b9_body {C : wX} {ad : Nat → Nat} {n : Nat} {I J : mI} {R : mR} {Q : Int → mI → mI → Prop} (hC : wOK C cX12_wordBy 10 RX12) (hRm : wRm C 5 111 0 0) (hE : wEnd C (some .int) ad n (fun r I' J' R' => (R' = R) ∧ Q r I' J')) (hRF : RF R) {l1 : Int} {l2 : Int} {l3 : Int} {l4 : Int} {l5 : Int} {l7 : Int}     {k9 : Int → Int → Int → mI → mI → Prop} (kk9 : ∀ (y4 : Int) (y5 : Int) (y7 : Int) (I' : mI) (J' : mI), k9 y4 y5 y7 I' J' → WM C ad n I' J' R 0 0 9 [(0, vr 159), (1, vi l1), (2, vi l2), (3, vi l3), (4, vi y4), (5, vl y5), (7, vi y7)] []) (hw : p12_wordBy_b9_body l1 l2 l3 Q k9 l4 l5 l7 I J) : WM C ad n I J R 0 0 9 [(0, vr 159), (1, vi l1), (2, vi l2), (3, vi l3), (4, vi l4), (5, vl l5), (7, vi l7)] [] := by
  unfold p12_wordBy_b9_body at hw
  refine wm_iload hC 6 dX12_wordBy_9 rfl ?_
  refine wm_aload_n hC 0 dX12_wordBy_11 rfl (k_ne0 kk_159 (by decide)) ?_
  refine x_getR3 hC 17 fl_X12_63 rfl kk_159 (rf_159_17 hRF) dX12_wordBy_12 ?_
  refine wm_aload_n hC 0 dX12_wordBy_15 rfl (k_ne0 kk_159 (by decide)) ?_
  refine x_getI hC 13 fl_X12_51 rfl kk_159 dX12_wordBy_16 ?_
  refine x_iald2 hC kk_164 kn_164 dX12_wordBy_19 hw (fun hw => ?_)
  refine wm_icmp_ge (tgt := 72) hC dX12_wordBy_20 (by decide) hw (fun hw => ?_) (fun hw => ?_)
  · refine wm_iload hC 4 dX12_wordBy_72 rfl ?_
    exact wm_ireturn hC hE dX12_wordBy_74 ⟨rfl, hw⟩
  · refine wm_aload_n hC 0 dX12_wordBy_23 rfl (k_ne0 kk_159 (by decide)) ?_
    refine wm_iload_n hC 1 dX12_wordBy_24 rfl ?_
    refine wm_iload_n hC 2 dX12_wordBy_25 rfl ?_
    refine wm_iload_n hC 3 dX12_wordBy_26 rfl ?_
    refine wm_iload hC 6 dX12_wordBy_27 rfl ?_
    refine wm_aload_n hC 0 dX12_wordBy_29 rfl (k_ne0 kk_159 (by decide)) ?_
    refine x_getR3 hC 58 fl_X12_189 rfl kk_159 (rf_159_58 hRF) dX12_wordBy_30 ?_
    refine wm_iload hC 6 dX12_wordBy_33 rfl ?_
    refine x_iald2 hC kk_195 kn_195 dX12_wordBy_35 hw (fun hw => ?_)
    refine y_callV_l_IJ hC hRm noS ml_X12_463 kk_159 (c12_scoreOf hRF  hw) (Nat.le_of_ble_eq_true rfl) (Nat.le_of_ble_eq_true rfl) ⟨Nat.zero_le _, Nat.zero_le _⟩ rfl (st := []) rfl (Nat.le_of_ble_eq_true rfl) dX12_wordBy_36 (fun r1 I1 J1 hw => ?_)
    refine wm_lstore hC dX12_wordBy_39 (by decide) (L2 := [(8, vl r1), (0, vr 159), (1, vi l1), (2, vi l2), (3, vi l3), (4, vi l4), (5, vl l5), (7, vi l7)]) rfl ?_
    refine wm_iload hC 5 dX12_wordBy_41 rfl ?_
    refine wm_iconst hC dX12_wordBy_43 (k := ?_)
    refine wm_icmp_eq (tgt := 58) hC dX12_wordBy_44 (by decide) hw (fun hw => ?_) (fun hw => ?_)
    · refine wm_iload hC 7 dX12_wordBy_58 rfl ?_
      refine wm_istore hC dX12_wordBy_60 (by decide) (L2 := [(4, vi l7), (8, vl r1), (0, vr 159), (1, vi l1), (2, vi l2), (3, vi l3), (5, vl l5), (7, vi l7)]) rfl ?_
      refine wm_lload hC 1 dX12_wordBy_62 rfl ?_
      refine wm_lstore hC dX12_wordBy_64 (by decide) (L2 := [(5, vl r1), (4, vi l7), (8, vl r1), (0, vr 159), (1, vi l1), (2, vi l2), (3, vi l3), (7, vi l7)]) rfl ?_
      refine x_iinc hC 7 dX12_wordBy_66 rfl (by decide) (L2 := [(7, vi (l7 + 1)), (5, vl r1), (4, vi l7), (8, vl r1), (0, vr 159), (1, vi l1), (2, vi l2), (3, vi l3)]) rfl hw (fun hw => ?_)
      refine wm_goto (tgt := 9) hC dX12_wordBy_69 (by decide) ?_
      refine wm_sub [4, 5, 6, 7, 2, 1, 0] (L2 := [(0, vr 159), (1, vi l1), (2, vi l2), (3, vi l3), (4, vi l7), (5, vl r1), (7, vi (l7 + 1))]) rfl ?_
      exact kk9 _ _ _ _ _ hw
    · refine wm_lload hC 0 dX12_wordBy_47 rfl ?_
      refine wm_lload hC 6 dX12_wordBy_49 rfl ?_
      refine wm_lcmp_gt (tgt := 58) hC dX12_wordBy_51 dX12_wordBy_52 (by decide) hw (fun hw => ?_) (fun hw => ?_)
      · refine wm_iload hC 7 dX12_wordBy_58 rfl ?_
        refine wm_istore hC dX12_wordBy_60 (by decide) (L2 := [(4, vi l7), (8, vl r1), (0, vr 159), (1, vi l1), (2, vi l2), (3, vi l3), (5, vl l5), (7, vi l7)]) rfl ?_
        refine wm_lload hC 1 dX12_wordBy_62 rfl ?_
        refine wm_lstore hC dX12_wordBy_64 (by decide) (L2 := [(5, vl r1), (4, vi l7), (8, vl r1), (0, vr 159), (1, vi l1), (2, vi l2), (3, vi l3), (7, vi l7)]) rfl ?_
        refine x_iinc hC 7 dX12_wordBy_66 rfl (by decide) (L2 := [(7, vi (l7 + 1)), (5, vl r1), (4, vi l7), (8, vl r1), (0, vr 159), (1, vi l1), (2, vi l2), (3, vi l3)]) rfl hw (fun hw => ?_)
        refine wm_goto (tgt := 9) hC dX12_wordBy_69 (by decide) ?_
        refine wm_sub [4, 5, 6, 7, 2, 1, 0] (L2 := [(0, vr 159), (1, vi l1), (2, vi l2), (3, vi l3), (4, vi l7), (5, vl r1), (7, vi (l7 + 1))]) rfl ?_
        exact kk9 _ _ _ _ _ hw
      · refine wm_goto (tgt := 66) hC dX12_wordBy_55 (by decide) ?_
        refine x_iinc hC 7 dX12_wordBy_66 rfl (by decide) (L2 := [(7, vi (l7 + 1)), (8, vl r1), (0, vr 159), (1, vi l1), (2, vi l2), (3, vi l3), (4, vi l4), (5, vl l5)]) rfl hw (fun hw => ?_)
        refine wm_goto (tgt := 9) hC dX12_wordBy_69 (by decide) ?_
        refine wm_sub [2, 3, 4, 5, 6, 7, 0] (L2 := [(0, vr 159), (1, vi l1), (2, vi l2), (3, vi l3), (4, vi l4), (5, vl l5), (7, vi (l7 + 1))]) rfl ?_
        exact kk9 _ _ _ _ _ hw
set_option maxRecDepth 20000 in
theorem w12_wordBy_b9 {C : wX} {ad : Nat → Nat} {n : Nat} {R : mR} {Q : Int → mI → mI → Prop} (hC : wOK C cX12_wordBy 10 RX12) (hRm : wRm C 5 111 0 0) (hE : wEnd C (some .int) ad n (fun r I' J' R' => (R' = R) ∧ Q r I' J')) (hRF : RF R) {l1 : Int} {l2 : Int} {l3 : Int}     : ∀ (f : Nat) (l4 : Int) (l5 : Int) (l7 : Int) (I : mI) (J : mI), p12_wordBy_b9 l1 l2 l3 Q f l4 l5 l7 I J → WM C ad n I J R 0 0 9 [(0, vr 159), (1, vi l1), (2, vi l2), (3, vi l3), (4, vi l4), (5, vl l5), (7, vi l7)] [] := by
  intro f
  induction f with
  | zero => intro l4 l5 l7 I J hw; exact hw.elim
  | succ f ih => intro l4 l5 l7 I J hw; exact w12_wordBy_b9_body hC hRm hE hRF  (fun a0 a1 a2 a3 a4 aw => ih a0 a1 a2 a3 a4 aw) hw
def p12_wordBy (l1 : Int) (l2 : Int) (l3 : Int) (I : mI) (J : mI) (Q : Int → mI → mI → Prop) : Prop := (∃ f, p12_wordBy_b9 l1 l2 l3 Q f (-1) 0 0 I J)
set_option maxRecDepth 20000 in
theorem c12_wordBy {ad : Nat → Nat} {n : Nat} {I J : mI} {R : mR} {Q : Int → mI → mI → Prop}  (hRF : RF R) {l1 : Int} {l2 : Int} {l3 : Int}     (hw : p12_wordBy l1 l2 l3 I J Q) : wMet yX12_wordBy cX12_wordBy 10 (some .int) 5 111 false ad n I J R [vr 159, vi l1, vi l2, vi l3] (fun r I' J' R' => (R' = R) ∧ Q r I' J') := by
  refine wMet_of (by decide) (Nat.le_of_ble_eq_true rfl) (fun C hC hRm hE hS => ?_)
  refine (show WM C ad n I J R 0 0 0 [(0, vr 159), (1, vi l1), (2, vi l2), (3, vi l3)] [] from ?_)
  unfold p12_wordBy at hw
  refine wm_iconst hC dX12_wordBy_0 (k := ?_)
  refine wm_istore hC dX12_wordBy_1 (by decide) (L2 := [(4, vi (-1)), (0, vr 159), (1, vi l1), (2, vi l2), (3, vi l3)]) rfl ?_
  refine wm_lconst hC (x := 0) dX12_wordBy_3 (k := ?_)
  refine wm_lstore hC dX12_wordBy_4 (by decide) (L2 := [(5, vl 0), (4, vi (-1)), (0, vr 159), (1, vi l1), (2, vi l2), (3, vi l3)]) rfl ?_
  refine wm_iconst hC dX12_wordBy_6 (k := ?_)
  refine wm_istore hC dX12_wordBy_7 (by decide) (L2 := [(7, vi 0), (5, vl 0), (4, vi (-1)), (0, vr 159), (1, vi l1), (2, vi l2), (3, vi l3)]) rfl ?_
  obtain ⟨f, hw⟩ := hw
  refine wm_sub [3, 4, 5, 6, 2, 1, 0] (L2 := [(0, vr 159), (1, vi l1), (2, vi l2), (3, vi l3), (4, vi (-1)), (5, vl 0), (7, vi 0)]) rfl ?_
  exact w12_wordBy_b9 hC hRm hE hRF  f _ _ _ _ _ hw
def p12_chosen_b106_body (I : mI) (J : mI) (Q : Int → mI → mI → Prop) (k106 : Int → Int → Prop) (l4 : Int) (l5 : Int) : Prop := (((0 : Int) ≤ (I 159 13) ∧ (I 159 13) < (2 : Int)) ∧ (if (I 164 (I 159 13)) ≤ l5 then (Q l4 I J) else (((0 : Int) ≤ l5 ∧ l5 < (6 : Int)) ∧ (if (I 195 l5) ≤ 0 then (rg (l5 + 1) ∧ (k106 l4 (l5 + 1))) else (if l4 = (-1) then (rg (l5 + 1) ∧ (k106 l5 (l5 + 1))) else (((0 : Int) ≤ l5 ∧ l5 < (6 : Int)) ∧ (((0 : Int) ≤ l4 ∧ l4 < (6 : Int)) ∧ (if (I 195 l5) ≤ (I 195 l4) then (rg (l5 + 1) ∧ (k106 l4 (l5 + 1))) else (rg (l5 + 1) ∧ (k106 l5 (l5 + 1)))))))))))
def p12_chosen_b106 (I : mI) (J : mI) (Q : Int → mI → mI → Prop) : Nat → Int → Int → Prop
  | 0 => fun _ _ => False
  | f + 1 => fun l4 l5 => p12_chosen_b106_body I J Q (p12_chosen_b106 I J Q f) l4 l5
set_option maxRecDepth 20000 in
theorem w12_chosen_b106_body {C : wX} {ad : Nat → Nat} {n : Nat} {I J : mI} {R : mR} {Q : Int → mI → mI → Prop} (hC : wOK C cX12_chosen 6 RX12) (hRm : wRm C 6 140 0 0) (hE : wEnd C (some .int) ad n (fun r I' J' R' => (R' = R) ∧ Q r I' J')) (hRF : RF R)  {l4 : Int} {l5 : Int}     {k106 : Int → Int → Prop} (kk106 : ∀ (y4 : Int) (y5 : Int), k106 y4 y5 → WM C ad n I J R 0 0 106 [(0, vr 159), (4, vi y4), (5, vi y5)] []) (hw : p12_chosen_b106_body I J Q k106 l4 l5) : WM C ad n I J R 0 0 106 [(0, vr 159), (4, vi l4), (5, vi l5)] [] := by
  unfold p12_chosen_b106_body at hw
  refine wm_iload hC 2 dX12_chosen_106 rfl ?_
  refine wm_aload_n hC 0 dX12_chosen_108 rfl (k_ne0 kk_159 (by decide)) ?_
  refine x_getR3 hC 17 fl_X12_63 rfl kk_159 (rf_159_17 hRF) dX12_chosen_109 ?_
  refine wm_aload_n hC 0 dX12_chosen_112 rfl (k_ne0 kk_159 (by decide)) ?_
  refine x_getI hC 13 fl_X12_51 rfl kk_159 dX12_chosen_113 ?_
  refine x_iald2 hC kk_164 kn_164 dX12_chosen_116 hw (fun hw => ?_)
  refine wm_icmp_ge (tgt := 163) hC dX12_chosen_117 (by decide) hw (fun hw => ?_) (fun hw => ?_)
  · refine wm_iload hC 1 dX12_chosen_163 rfl ?_
    exact wm_ireturn hC hE dX12_chosen_165 ⟨rfl, hw⟩
  · refine wm_aload_n hC 0 dX12_chosen_120 rfl (k_ne0 kk_159 (by decide)) ?_
    refine x_getR3 hC 58 fl_X12_189 rfl kk_159 (rf_159_58 hRF) dX12_chosen_121 ?_
    refine wm_iload hC 2 dX12_chosen_124 rfl ?_
    refine x_iald2 hC kk_195 kn_195 dX12_chosen_126 hw (fun hw => ?_)
    refine wm_if_le (tgt := 157) hC dX12_chosen_127 (by decide) hw (fun hw => ?_) (fun hw => ?_)
    · refine x_iinc hC 2 dX12_chosen_157 rfl (by decide) (L2 := [(5, vi (l5 + 1)), (0, vr 159), (4, vi l4)]) rfl hw (fun hw => ?_)
      refine wm_goto (tgt := 106) hC dX12_chosen_160 (by decide) ?_
      refine wm_sub [1, 2, 0] (L2 := [(0, vr 159), (4, vi l4), (5, vi (l5 + 1))]) rfl ?_
      exact kk106 _ _ hw
    · refine wm_iload hC 1 dX12_chosen_130 rfl ?_
      refine wm_iconst hC dX12_chosen_132 (k := ?_)
      refine wm_icmp_eq (tgt := 153) hC dX12_chosen_133 (by decide) hw (fun hw => ?_) (fun hw => ?_)
      · refine wm_iload hC 2 dX12_chosen_153 rfl ?_
        refine wm_istore hC dX12_chosen_155 (by decide) (L2 := [(4, vi l5), (0, vr 159), (5, vi l5)]) rfl ?_
        refine x_iinc hC 2 dX12_chosen_157 rfl (by decide) (L2 := [(5, vi (l5 + 1)), (4, vi l5), (0, vr 159)]) rfl hw (fun hw => ?_)
        refine wm_goto (tgt := 106) hC dX12_chosen_160 (by decide) ?_
        refine wm_sub [2, 1, 0] (L2 := [(0, vr 159), (4, vi l5), (5, vi (l5 + 1))]) rfl ?_
        exact kk106 _ _ hw
      · refine wm_aload_n hC 0 dX12_chosen_136 rfl (k_ne0 kk_159 (by decide)) ?_
        refine x_getR3 hC 58 fl_X12_189 rfl kk_159 (rf_159_58 hRF) dX12_chosen_137 ?_
        refine wm_iload hC 2 dX12_chosen_140 rfl ?_
        refine x_iald2 hC kk_195 kn_195 dX12_chosen_142 hw (fun hw => ?_)
        refine wm_aload_n hC 0 dX12_chosen_143 rfl (k_ne0 kk_159 (by decide)) ?_
        refine x_getR3 hC 58 fl_X12_189 rfl kk_159 (rf_159_58 hRF) dX12_chosen_144 ?_
        refine wm_iload hC 1 dX12_chosen_147 rfl ?_
        refine x_iald2 hC kk_195 kn_195 dX12_chosen_149 hw (fun hw => ?_)
        refine wm_icmp_le (tgt := 157) hC dX12_chosen_150 (by decide) hw (fun hw => ?_) (fun hw => ?_)
        · refine x_iinc hC 2 dX12_chosen_157 rfl (by decide) (L2 := [(5, vi (l5 + 1)), (0, vr 159), (4, vi l4)]) rfl hw (fun hw => ?_)
          refine wm_goto (tgt := 106) hC dX12_chosen_160 (by decide) ?_
          refine wm_sub [1, 2, 0] (L2 := [(0, vr 159), (4, vi l4), (5, vi (l5 + 1))]) rfl ?_
          exact kk106 _ _ hw
        · refine wm_iload hC 2 dX12_chosen_153 rfl ?_
          refine wm_istore hC dX12_chosen_155 (by decide) (L2 := [(4, vi l5), (0, vr 159), (5, vi l5)]) rfl ?_
          refine x_iinc hC 2 dX12_chosen_157 rfl (by decide) (L2 := [(5, vi (l5 + 1)), (4, vi l5), (0, vr 159)]) rfl hw (fun hw => ?_)
          refine wm_goto (tgt := 106) hC dX12_chosen_160 (by decide) ?_
          refine wm_sub [2, 1, 0] (L2 := [(0, vr 159), (4, vi l5), (5, vi (l5 + 1))]) rfl ?_
          exact kk106 _ _ hw
set_option maxRecDepth 20000 in
theorem w12_chosen_b106 {C : wX} {ad : Nat → Nat} {n : Nat} {I : mI} {J : mI} {R : mR} {Q : Int → mI → mI → Prop} (hC : wOK C cX12_chosen 6 RX12) (hRm : wRm C 6 140 0 0) (hE : wEnd C (some .int) ad n (fun r I' J' R' => (R' = R) ∧ Q r I' J')) (hRF : RF R)      : ∀ (f : Nat) (l4 : Int) (l5 : Int), p12_chosen_b106 I J Q f l4 l5 → WM C ad n I J R 0 0 106 [(0, vr 159), (4, vi l4), (5, vi l5)] [] := by
  intro f
  induction f with
  | zero => intro l4 l5 hw; exact hw.elim
  | succ f ih => intro l4 l5 hw; exact w12_chosen_b106_body hC hRm hE hRF  (fun a0 a1 aw => ih a0 a1 aw) hw
def p12_chosen_b7_body (l1 : Int) (l2 : Int) (l3 : Int) (Q : Int → mI → mI → Prop) (k7 : Int → mI → mI → Prop) (l4 : Int) (I : mI) (J : mI) : Prop := (((0 : Int) ≤ (I 159 13) ∧ (I 159 13) < (2 : Int)) ∧ (if (I 161 (I 159 13)) ≤ l4 then (∃ f, p12_chosen_b106 I J Q f (-1) 0) else (((0 : Int) ≤ l4 ∧ l4 < (6 : Int)) ∧ (p12_has2 l3 (I 197 l4) (fun r1 => (if r1 = 0 then (rg (l4 + 1) ∧ (k7 (l4 + 1) I J)) else (p12_wordBy l1 (I 197 l4) l2 I J (fun r2 I2 J1 => (((0 : Int) ≤ (I 197 l4) ∧ (I 197 l4) < (6 : Int)) ∧ wLet (up I2 196 (I 197 l4) r2) (fun I3 => (((0 : Int) ≤ (I 197 l4) ∧ (I 197 l4) < (6 : Int)) ∧ (if (I3 196 (I 197 l4)) = (-1) then (rg (l4 + 1) ∧ (k7 (l4 + 1) I3 J1)) else (p12_isCounting l1 (I 197 l4) I3 J1 (fun r3 I4 J2 => (if r3 = 0 then (rg (l4 + 1) ∧ (k7 (l4 + 1) I4 J2)) else (((0 : Int) ≤ (I 197 l4) ∧ (I 197 l4) < (6 : Int)) ∧ (((0 : Int) ≤ (I4 196 (I 197 l4)) ∧ (I4 196 (I 197 l4)) < (6 : Int)) ∧ (rg ((I4 195 (I4 196 (I 197 l4))) + 1) ∧ (((0 : Int) ≤ (I4 196 (I 197 l4)) ∧ (I4 196 (I 197 l4)) < (6 : Int)) ∧ wLet (up I4 195 (I4 196 (I 197 l4)) ((I4 195 (I4 196 (I 197 l4))) + 1)) (fun I5 => (rg (l4 + 1) ∧ (k7 (l4 + 1) I5 J2))))))))))))))))))))))
def p12_chosen_b7 (l1 : Int) (l2 : Int) (l3 : Int) (Q : Int → mI → mI → Prop) : Nat → Int → mI → mI → Prop
  | 0 => fun _ _ _ => False
  | f + 1 => fun l4 I J => p12_chosen_b7_body l1 l2 l3 Q (p12_chosen_b7 l1 l2 l3 Q f) l4 I J
set_option maxRecDepth 20000 in
theorem w12_chosen_b7_body {C : wX} {ad : Nat → Nat} {n : Nat} {I J : mI} {R : mR} {Q : Int → mI → mI → Prop} (hC : wOK C cX12_chosen 6 RX12) (hRm : wRm C 6 140 0 0) (hE : wEnd C (some .int) ad n (fun r I' J' R' => (R' = R) ∧ Q r I' J')) (hRF : RF R) {l1 : Int} {l2 : Int} {l3 : Int} {l4 : Int}     {k7 : Int → mI → mI → Prop} (kk7 : ∀ (y4 : Int) (I' : mI) (J' : mI), k7 y4 I' J' → WM C ad n I' J' R 0 0 7 [(0, vr 159), (1, vi l1), (2, vi l2), (3, vi l3), (4, vi y4)] []) (hw : p12_chosen_b7_body l1 l2 l3 Q k7 l4 I J) : WM C ad n I J R 0 0 7 [(0, vr 159), (1, vi l1), (2, vi l2), (3, vi l3), (4, vi l4)] [] := by
  unfold p12_chosen_b7_body at hw
  refine wm_iload hC 4 dX12_chosen_7 rfl ?_
  refine wm_aload_n hC 0 dX12_chosen_9 rfl (k_ne0 kk_159 (by decide)) ?_
  refine x_getR3 hC 14 fl_X12_54 rfl kk_159 (rf_159_14 hRF) dX12_chosen_10 ?_
  refine wm_aload_n hC 0 dX12_chosen_13 rfl (k_ne0 kk_159 (by decide)) ?_
  refine x_getI hC 13 fl_X12_51 rfl kk_159 dX12_chosen_14 ?_
  refine x_iald2 hC kk_161 kn_161 dX12_chosen_17 hw (fun hw => ?_)
  refine wm_icmp_ge (tgt := 100) hC dX12_chosen_18 (by decide) hw (fun hw => ?_) (fun hw => ?_)
  · refine wm_iconst hC dX12_chosen_100 (k := ?_)
    refine wm_istore hC dX12_chosen_101 (by decide) (L2 := [(4, vi (-1)), (0, vr 159), (1, vi l1), (2, vi l2), (3, vi l3)]) rfl ?_
    refine wm_iconst hC dX12_chosen_103 (k := ?_)
    refine wm_istore hC dX12_chosen_104 (by decide) (L2 := [(5, vi 0), (4, vi (-1)), (0, vr 159), (1, vi l1), (2, vi l2), (3, vi l3)]) rfl ?_
    obtain ⟨f, hw⟩ := hw
    refine wm_sub [2, 1, 0] (L2 := [(0, vr 159), (4, vi (-1)), (5, vi 0)]) rfl ?_
    exact w12_chosen_b106 hC hRm hE hRF  f _ _ hw
  · refine wm_aload_n hC 0 dX12_chosen_21 rfl (k_ne0 kk_159 (by decide)) ?_
    refine x_getR3 hC 60 fl_X12_195 rfl kk_159 (rf_159_60 hRF) dX12_chosen_22 ?_
    refine wm_iload hC 4 dX12_chosen_25 rfl ?_
    refine x_iald2 hC kk_197 kn_197 dX12_chosen_27 hw (fun hw => ?_)
    refine wm_istore hC dX12_chosen_28 (by decide) (L2 := [(5, vi (I 197 l4)), (0, vr 159), (1, vi l1), (2, vi l2), (3, vi l3), (4, vi l4)]) rfl ?_
    refine wm_iload_n hC 4 dX12_chosen_30 rfl ?_
    refine wm_iload hC 0 dX12_chosen_31 rfl ?_
    refine y_callS_z_n hC hRm noS ml_X12_351 (c12_has2 hRF  hw) (Nat.le_of_ble_eq_true rfl) (Nat.le_of_ble_eq_true rfl) ⟨Nat.zero_le _, Nat.zero_le _⟩ rfl (st := []) rfl (Nat.le_of_ble_eq_true rfl) dX12_chosen_33 (fun r1 hw => ?_)
    refine wm_if_ne (tgt := 42) hC dX12_chosen_36 (by decide) hw (fun hw => ?_) (fun hw => ?_)
    · refine wm_goto (tgt := 94) hC dX12_chosen_39 (by decide) ?_
      refine x_iinc hC 5 dX12_chosen_94 rfl (by decide) (L2 := [(4, vi (l4 + 1)), (5, vi (I 197 l4)), (0, vr 159), (1, vi l1), (2, vi l2), (3, vi l3)]) rfl hw (fun hw => ?_)
      refine wm_goto (tgt := 7) hC dX12_chosen_97 (by decide) ?_
      refine wm_sub [2, 3, 4, 5, 0] (L2 := [(0, vr 159), (1, vi l1), (2, vi l2), (3, vi l3), (4, vi (l4 + 1))]) rfl ?_
      exact kk7 _ _ _ hw
    · refine wm_aload_n hC 1 dX12_chosen_42 rfl (k_ne0 kk_159 (by decide)) ?_
      refine x_getR3 hC 59 fl_X12_192 rfl kk_159 (rf_159_59 hRF) dX12_chosen_43 ?_
      refine wm_iload hC 0 dX12_chosen_46 rfl ?_
      refine wm_aload_n hC 1 dX12_chosen_48 rfl (k_ne0 kk_159 (by decide)) ?_
      refine wm_iload_n hC 2 dX12_chosen_49 rfl ?_
      refine wm_iload hC 0 dX12_chosen_50 rfl ?_
      refine wm_iload_n hC 3 dX12_chosen_52 rfl ?_
      refine y_callV_i_IJ hC hRm noS ml_X12_470 kk_159 (c12_wordBy hRF  hw) (Nat.le_of_ble_eq_true rfl) (Nat.le_of_ble_eq_true rfl) ⟨Nat.zero_le _, Nat.zero_le _⟩ rfl (st := [vi (I 197 l4), vr 196]) rfl (Nat.le_of_ble_eq_true rfl) dX12_chosen_53 (fun r2 I2 J1 hw => ?_)
      refine x_iast2 hC kk_196 kn_196 dX12_chosen_56 hw (fun I3 hw => ?_)
      refine wm_aload_n hC 1 dX12_chosen_57 rfl (k_ne0 kk_159 (by decide)) ?_
      refine x_getR3 hC 59 fl_X12_192 rfl kk_159 (rf_159_59 hRF) dX12_chosen_58 ?_
      refine wm_iload hC 0 dX12_chosen_61 rfl ?_
      refine x_iald2 hC kk_196 kn_196 dX12_chosen_63 hw (fun hw => ?_)
      refine wm_iconst hC dX12_chosen_64 (k := ?_)
      refine wm_icmp_eq (tgt := 94) hC dX12_chosen_65 (by decide) hw (fun hw => ?_) (fun hw => ?_)
      · refine x_iinc hC 5 dX12_chosen_94 rfl (by decide) (L2 := [(4, vi (l4 + 1)), (5, vi (I 197 l4)), (0, vr 159), (1, vi l1), (2, vi l2), (3, vi l3)]) rfl hw (fun hw => ?_)
        refine wm_goto (tgt := 7) hC dX12_chosen_97 (by decide) ?_
        refine wm_sub [2, 3, 4, 5, 0] (L2 := [(0, vr 159), (1, vi l1), (2, vi l2), (3, vi l3), (4, vi (l4 + 1))]) rfl ?_
        exact kk7 _ _ _ hw
      · refine wm_aload_n hC 1 dX12_chosen_68 rfl (k_ne0 kk_159 (by decide)) ?_
        refine wm_iload_n hC 2 dX12_chosen_69 rfl ?_
        refine wm_iload hC 0 dX12_chosen_70 rfl ?_
        refine y_callV_z_IJ hC hRm noS ml_X12_473 kk_159 (c12_isCounting hRF  hw) (Nat.le_of_ble_eq_true rfl) (Nat.le_of_ble_eq_true rfl) ⟨Nat.zero_le _, Nat.zero_le _⟩ rfl (st := []) rfl (Nat.le_of_ble_eq_true rfl) dX12_chosen_72 (fun r3 I4 J2 hw => ?_)
        refine wm_if_eq (tgt := 94) hC dX12_chosen_75 (by decide) hw (fun hw => ?_) (fun hw => ?_)
        · refine x_iinc hC 5 dX12_chosen_94 rfl (by decide) (L2 := [(4, vi (l4 + 1)), (5, vi (I 197 l4)), (0, vr 159), (1, vi l1), (2, vi l2), (3, vi l3)]) rfl hw (fun hw => ?_)
          refine wm_goto (tgt := 7) hC dX12_chosen_97 (by decide) ?_
          refine wm_sub [2, 3, 4, 5, 0] (L2 := [(0, vr 159), (1, vi l1), (2, vi l2), (3, vi l3), (4, vi (l4 + 1))]) rfl ?_
          exact kk7 _ _ _ hw
        · refine wm_aload_n hC 1 dX12_chosen_78 rfl (k_ne0 kk_159 (by decide)) ?_
          refine x_getR3 hC 58 fl_X12_189 rfl kk_159 (rf_159_58 hRF) dX12_chosen_79 ?_
          refine wm_aload_n hC 1 dX12_chosen_82 rfl (k_ne0 kk_159 (by decide)) ?_
          refine x_getR3 hC 59 fl_X12_192 rfl kk_159 (rf_159_59 hRF) dX12_chosen_83 ?_
          refine wm_iload hC 0 dX12_chosen_86 rfl ?_
          refine x_iald2 hC kk_196 kn_196 dX12_chosen_88 hw (fun hw => ?_)
          refine wm_dup2_11 hC dX12_chosen_89 (k := ?_)
          refine x_iald2 hC kk_195 kn_195 dX12_chosen_90 hw (fun hw => ?_)
          refine wm_iconst hC dX12_chosen_91 (k := ?_)
          refine x_iadd hC dX12_chosen_92 hw (fun hw => ?_)
          refine x_iast2 hC kk_195 kn_195 dX12_chosen_93 hw (fun I5 hw => ?_)
          refine x_iinc hC 5 dX12_chosen_94 rfl (by decide) (L2 := [(4, vi (l4 + 1)), (5, vi (I 197 l4)), (0, vr 159), (1, vi l1), (2, vi l2), (3, vi l3)]) rfl hw (fun hw => ?_)
          refine wm_goto (tgt := 7) hC dX12_chosen_97 (by decide) ?_
          refine wm_sub [2, 3, 4, 5, 0] (L2 := [(0, vr 159), (1, vi l1), (2, vi l2), (3, vi l3), (4, vi (l4 + 1))]) rfl ?_
          exact kk7 _ _ _ hw
set_option maxRecDepth 20000 in
theorem w12_chosen_b7 {C : wX} {ad : Nat → Nat} {n : Nat} {R : mR} {Q : Int → mI → mI → Prop} (hC : wOK C cX12_chosen 6 RX12) (hRm : wRm C 6 140 0 0) (hE : wEnd C (some .int) ad n (fun r I' J' R' => (R' = R) ∧ Q r I' J')) (hRF : RF R) {l1 : Int} {l2 : Int} {l3 : Int}     : ∀ (f : Nat) (l4 : Int) (I : mI) (J : mI), p12_chosen_b7 l1 l2 l3 Q f l4 I J → WM C ad n I J R 0 0 7 [(0, vr 159), (1, vi l1), (2, vi l2), (3, vi l3), (4, vi l4)] [] := by
  intro f
  induction f with
  | zero => intro l4 I J hw; exact hw.elim
  | succ f ih => intro l4 I J hw; exact w12_chosen_b7_body hC hRm hE hRF  (fun a0 a1 a2 aw => ih a0 a1 a2 aw) hw
def p12_chosen (l1 : Int) (l2 : Int) (l3 : Int) (I : mI) (J : mI) (Q : Int → mI → mI → Prop) : Prop := (p12_hushes I (fun I1 => (∃ f, p12_chosen_b7 l1 l2 l3 Q f 0 I1 J)))
set_option maxRecDepth 20000 in
theorem c12_chosen {ad : Nat → Nat} {n : Nat} {I J : mI} {R : mR} {Q : Int → mI → mI → Prop}  (hRF : RF R) {l1 : Int} {l2 : Int} {l3 : Int}     (hw : p12_chosen l1 l2 l3 I J Q) : wMet yX12_chosen cX12_chosen 6 (some .int) 6 140 false ad n I J R [vr 159, vi l1, vi l2, vi l3] (fun r I' J' R' => (R' = R) ∧ Q r I' J') := by
  refine wMet_of (by decide) (Nat.le_of_ble_eq_true rfl) (fun C hC hRm hE hS => ?_)
  refine (show WM C ad n I J R 0 0 0 [(0, vr 159), (1, vi l1), (2, vi l2), (3, vi l3)] [] from ?_)
  unfold p12_chosen at hw
  refine wm_aload_n hC 0 dX12_chosen_0 rfl (k_ne0 kk_159 (by decide)) ?_
  refine y_callV_v_I hC hRm noS ml_X12_467 kk_159 (c12_hushes hRF  hw) (Nat.le_of_ble_eq_true rfl) (Nat.le_of_ble_eq_true rfl) ⟨Nat.zero_le _, Nat.zero_le _⟩ rfl (st := []) rfl (Nat.le_of_ble_eq_true rfl) dX12_chosen_1 (fun I1 hw => ?_)
  refine wm_iconst hC dX12_chosen_4 (k := ?_)
  refine wm_istore hC dX12_chosen_5 (by decide) (L2 := [(4, vi 0), (0, vr 159), (1, vi l1), (2, vi l2), (3, vi l3)]) rfl ?_
  obtain ⟨f, hw⟩ := hw
  refine wm_sub [1, 2, 3, 4, 0] (L2 := [(0, vr 159), (1, vi l1), (2, vi l2), (3, vi l3), (4, vi 0)]) rfl ?_
  exact w12_chosen_b7 hC hRm hE hRF  f _ _ _ hw
def p12_laysNow_b2_body (l1 : Int) (Q : mI → Prop) (k2 : Int → mI → Prop) (l2 : Int) (I : mI) : Prop := (((0 : Int) ≤ (I 159 13) ∧ (I 159 13) < (2 : Int)) ∧ (if (I 161 (I 159 13)) ≤ l2 then (Q I) else (rg (6 * l1) ∧ (rg ((6 * l1) + l2) ∧ (((0 : Int) ≤ ((6 * l1) + l2) ∧ ((6 * l1) + l2) < (132 : Int)) ∧ (((0 : Int) ≤ l2 ∧ l2 < (6 : Int)) ∧ wLet (up I 197 l2 (I 187 ((6 * l1) + l2))) (fun I1 => (rg (l2 + 1) ∧ (k2 (l2 + 1) I1)))))))))
def p12_laysNow_b2 (l1 : Int) (Q : mI → Prop) : Nat → Int → mI → Prop
  | 0 => fun _ _ => False
  | f + 1 => fun l2 I => p12_laysNow_b2_body l1 Q (p12_laysNow_b2 l1 Q f) l2 I
set_option maxRecDepth 20000 in
theorem w12_laysNow_b2_body {C : wX} {ad : Nat → Nat} {n : Nat} {I J : mI} {R : mR} {Q : mI → Prop} (hC : wOK C cX12_laysNow 3 RX12) (hRm : wRm C 1 12 0 0) (hE : wEnd C none ad n (fun _ I' J' R' => (J' = J ∧ R' = R) ∧ Q I')) (hRF : RF R) {l1 : Int} {l2 : Int}     {k2 : Int → mI → Prop} (kk2 : ∀ (y2 : Int) (I' : mI), k2 y2 I' → WM C ad n I' J R 0 0 2 [(0, vr 159), (1, vi l1), (2, vi y2)] []) (hw : p12_laysNow_b2_body l1 Q k2 l2 I) : WM C ad n I J R 0 0 2 [(0, vr 159), (1, vi l1), (2, vi l2)] [] := by
  unfold p12_laysNow_b2_body at hw
  refine wm_iload_n hC 2 dX12_laysNow_2 rfl ?_
  refine wm_aload_n hC 0 dX12_laysNow_3 rfl (k_ne0 kk_159 (by decide)) ?_
  refine x_getR3 hC 14 fl_X12_54 rfl kk_159 (rf_159_14 hRF) dX12_laysNow_4 ?_
  refine wm_aload_n hC 0 dX12_laysNow_7 rfl (k_ne0 kk_159 (by decide)) ?_
  refine x_getI hC 13 fl_X12_51 rfl kk_159 dX12_laysNow_8 ?_
  refine x_iald2 hC kk_161 kn_161 dX12_laysNow_11 hw (fun hw => ?_)
  refine wm_icmp_ge (tgt := 38) hC dX12_laysNow_12 (by decide) hw (fun hw => ?_) (fun hw => ?_)
  · exact wm_return hC hE dX12_laysNow_38 ⟨⟨rfl, rfl⟩, hw⟩
  · refine wm_aload_n hC 0 dX12_laysNow_15 rfl (k_ne0 kk_159 (by decide)) ?_
    refine x_getR3 hC 60 fl_X12_195 rfl kk_159 (rf_159_60 hRF) dX12_laysNow_16 ?_
    refine wm_iload_n hC 2 dX12_laysNow_19 rfl ?_
    refine wm_aload_n hC 0 dX12_laysNow_20 rfl (k_ne0 kk_159 (by decide)) ?_
    refine x_getR3 hC 47 fl_X12_156 rfl kk_159 (rf_159_47 hRF) dX12_laysNow_21 ?_
    refine wm_bipush hC dX12_laysNow_24 (k := ?_)
    refine wm_iload_n hC 1 dX12_laysNow_26 rfl ?_
    refine x_imul hC dX12_laysNow_27 hw (fun hw => ?_)
    refine wm_iload_n hC 2 dX12_laysNow_28 rfl ?_
    refine x_iadd hC dX12_laysNow_29 hw (fun hw => ?_)
    refine x_iald2 hC kk_187 kn_187 dX12_laysNow_30 hw (fun hw => ?_)
    refine x_iast2 hC kk_197 kn_197 dX12_laysNow_31 hw (fun I1 hw => ?_)
    refine x_iinc hC 2 dX12_laysNow_32 rfl (by decide) (L2 := [(2, vi (l2 + 1)), (0, vr 159), (1, vi l1)]) rfl hw (fun hw => ?_)
    refine wm_goto (tgt := 2) hC dX12_laysNow_35 (by decide) ?_
    refine wm_sub [1, 2, 0] (L2 := [(0, vr 159), (1, vi l1), (2, vi (l2 + 1))]) rfl ?_
    exact kk2 _ _ hw
set_option maxRecDepth 20000 in
theorem w12_laysNow_b2 {C : wX} {ad : Nat → Nat} {n : Nat} {J : mI} {R : mR} {Q : mI → Prop} (hC : wOK C cX12_laysNow 3 RX12) (hRm : wRm C 1 12 0 0) (hE : wEnd C none ad n (fun _ I' J' R' => (J' = J ∧ R' = R) ∧ Q I')) (hRF : RF R) {l1 : Int}     : ∀ (f : Nat) (l2 : Int) (I : mI), p12_laysNow_b2 l1 Q f l2 I → WM C ad n I J R 0 0 2 [(0, vr 159), (1, vi l1), (2, vi l2)] [] := by
  intro f
  induction f with
  | zero => intro l2 I hw; exact hw.elim
  | succ f ih => intro l2 I hw; exact w12_laysNow_b2_body hC hRm hE hRF  (fun a0 a1 aw => ih a0 a1 aw) hw
def p12_laysNow (l1 : Int) (I : mI) (Q : mI → Prop) : Prop := (∃ f, p12_laysNow_b2 l1 Q f 0 I)
set_option maxRecDepth 20000 in
theorem c12_laysNow {ad : Nat → Nat} {n : Nat} {I J : mI} {R : mR} {Q : mI → Prop}  (hRF : RF R) {l1 : Int}   (hw : p12_laysNow l1 I Q) : wMet yX12_laysNow cX12_laysNow 3 none 1 12 false ad n I J R [vr 159, vi l1] (fun _ I' J' R' => (J' = J ∧ R' = R) ∧ Q I') := by
  refine wMet_of (by decide) (Nat.le_of_ble_eq_true rfl) (fun C hC hRm hE hS => ?_)
  refine (show WM C ad n I J R 0 0 0 [(0, vr 159), (1, vi l1)] [] from ?_)
  unfold p12_laysNow at hw
  refine wm_iconst hC dX12_laysNow_0 (k := ?_)
  refine wm_istore_n hC dX12_laysNow_1 (by decide) (L2 := [(2, vi 0), (0, vr 159), (1, vi l1)]) rfl ?_
  obtain ⟨f, hw⟩ := hw
  refine wm_sub [1, 2, 0] (L2 := [(0, vr 159), (1, vi l1), (2, vi 0)]) rfl ?_
  exact w12_laysNow_b2 hC hRm hE hRF  f _ _ hw
def p12_choiceOf (l1 : Int) (l2 : Int) (l3 : Int) (I : mI) (J : mI) (Q : Int → mI → mI → Prop) : Prop := (p12_laysNow l1 I (fun I1 => (p12_chosen l1 l2 l3 I1 J (fun r1 I2 J1 => (Q r1 I2 J1)))))
set_option maxRecDepth 20000 in
theorem c12_choiceOf {ad : Nat → Nat} {n : Nat} {I J : mI} {R : mR} {Q : Int → mI → mI → Prop}  (hRF : RF R) {l1 : Int} {l2 : Int} {l3 : Int}     (hw : p12_choiceOf l1 l2 l3 I J Q) : wMet yX12_choiceOf cX12_choiceOf 4 (some .int) 7 165 false ad n I J R [vr 159, vi l1, vi l2, vi l3] (fun r I' J' R' => (R' = R) ∧ Q r I' J') := by
  refine wMet_of (by decide) (Nat.le_of_ble_eq_true rfl) (fun C hC hRm hE hS => ?_)
  refine (show WM C ad n I J R 0 0 0 [(0, vr 159), (1, vi l1), (2, vi l2), (3, vi l3)] [] from ?_)
  unfold p12_choiceOf at hw
  refine wm_aload_n hC 0 dX12_choiceOf_0 rfl (k_ne0 kk_159 (by decide)) ?_
  refine wm_iload_n hC 1 dX12_choiceOf_1 rfl ?_
  refine y_callV_v_I hC hRm noS ml_X12_476 kk_159 (c12_laysNow hRF  hw) (Nat.le_of_ble_eq_true rfl) (Nat.le_of_ble_eq_true rfl) ⟨Nat.zero_le _, Nat.zero_le _⟩ rfl (st := []) rfl (Nat.le_of_ble_eq_true rfl) dX12_choiceOf_2 (fun I1 hw => ?_)
  refine wm_aload_n hC 0 dX12_choiceOf_5 rfl (k_ne0 kk_159 (by decide)) ?_
  refine wm_iload_n hC 1 dX12_choiceOf_6 rfl ?_
  refine wm_iload_n hC 2 dX12_choiceOf_7 rfl ?_
  refine wm_iload_n hC 3 dX12_choiceOf_8 rfl ?_
  refine y_callV_i_IJ hC hRm noS ml_X12_479 kk_159 (c12_chosen hRF  hw) (Nat.le_of_ble_eq_true rfl) (Nat.le_of_ble_eq_true rfl) ⟨Nat.zero_le _, Nat.zero_le _⟩ rfl (st := []) rfl (Nat.le_of_ble_eq_true rfl) dX12_choiceOf_9 (fun r1 I2 J1 hw => ?_)
  exact wm_ireturn hC hE dX12_choiceOf_12 ⟨rfl, hw⟩
def p12_everybody (I : mI) (Q : Int → Prop) : Prop := (((0 : Int) ≤ (I 159 13) ∧ (I 159 13) < (2 : Int)) ∧ (rg ((bShl 1 (I 161 (I 159 13))) - 1) ∧ (Q ((bShl 1 (I 161 (I 159 13))) - 1))))
set_option maxRecDepth 20000 in
theorem c12_everybody {ad : Nat → Nat} {n : Nat} {I J : mI} {R : mR} {Q : Int → Prop}  (hRF : RF R)   (hw : p12_everybody I Q) : wMet yX12_everybody cX12_everybody 1 (some .int) 1 12 false ad n I J R [vr 159] (fun r I' J' R' => (I' = I ∧ J' = J ∧ R' = R) ∧ Q r) := by
  refine wMet_of (by decide) (Nat.le_of_ble_eq_true rfl) (fun C hC hRm hE hS => ?_)
  refine (show WM C ad n I J R 0 0 0 [(0, vr 159)] [] from ?_)
  unfold p12_everybody at hw
  refine wm_iconst hC dX12_everybody_0 (k := ?_)
  refine wm_aload_n hC 0 dX12_everybody_1 rfl (k_ne0 kk_159 (by decide)) ?_
  refine x_getR3 hC 14 fl_X12_54 rfl kk_159 (rf_159_14 hRF) dX12_everybody_2 ?_
  refine wm_aload_n hC 0 dX12_everybody_5 rfl (k_ne0 kk_159 (by decide)) ?_
  refine x_getI hC 13 fl_X12_51 rfl kk_159 dX12_everybody_6 ?_
  refine x_iald2 hC kk_161 kn_161 dX12_everybody_9 hw (fun hw => ?_)
  refine wm_ishl hC dX12_everybody_10 ?_
  refine wm_iconst hC dX12_everybody_11 (k := ?_)
  refine x_isub hC dX12_everybody_12 hw (fun hw => ?_)
  exact wm_ireturn hC hE dX12_everybody_13 ⟨⟨rfl, rfl, rfl⟩, hw⟩
def p12_gift (l1 : Int) (I : mI) (J : mI) (Q : Int → mI → mI → Prop) : Prop := (p12_isTold 2 I (fun r1 => (if r1 = 0 then (Q 9 I J) else (((0 : Int) ≤ l1 ∧ l1 < (22 : Int)) ∧ (wLet (up I 194 1 (I 185 l1)) (fun I1 => (((0 : Int) ≤ l1 ∧ l1 < (22 : Int)) ∧ (wLet (up I1 194 8 (I1 186 l1)) (fun I2 => (p12_wornOf l1 (-1) I2 (fun r2 => (wLet (up I2 194 9 r2) (fun I3 => (p12_reckons 2 I3 J (fun r3 J1 => (if (0 : Int) ≤ r3 then (if r3 ≤ 99 then (rg r3 ∧ (Q r3 I3 J1)) else (Q 99 I3 J1)) else (Q 0 I3 J1)))))))))))))))))
set_option maxRecDepth 20000 in
theorem c12_gift {ad : Nat → Nat} {n : Nat} {I J : mI} {R : mR} {Q : Int → mI → mI → Prop}  (hRF : RF R) {l1 : Int}   (hw : p12_gift l1 I J Q) : wMet yX12_gift cX12_gift 4 (some .int) 4 85 false ad n I J R [vr 159, vi l1] (fun r I' J' R' => (R' = R) ∧ Q r I' J') := by
  refine wMet_of (by decide) (Nat.le_of_ble_eq_true rfl) (fun C hC hRm hE hS => ?_)
  refine (show WM C ad n I J R 0 0 0 [(0, vr 159), (1, vi l1)] [] from ?_)
  unfold p12_gift at hw
  refine wm_aload_n hC 0 dX12_gift_0 rfl (k_ne0 kk_159 (by decide)) ?_
  refine wm_iconst hC dX12_gift_1 (k := ?_)
  refine y_callV_z_n hC hRm noS ml_X12_450 kk_159 (c12_isTold hRF  hw) (Nat.le_of_ble_eq_true rfl) (Nat.le_of_ble_eq_true rfl) ⟨Nat.zero_le _, Nat.zero_le _⟩ rfl (st := []) rfl (Nat.le_of_ble_eq_true rfl) dX12_gift_2 (fun r1 hw => ?_)
  refine wm_if_ne (tgt := 11) hC dX12_gift_5 (by decide) hw (fun hw => ?_) (fun hw => ?_)
  · refine wm_bipush hC dX12_gift_8 (k := ?_)
    exact wm_ireturn hC hE dX12_gift_10 ⟨rfl, hw⟩
  · refine wm_aload_n hC 0 dX12_gift_11 rfl (k_ne0 kk_159 (by decide)) ?_
    refine x_getR3 hC 57 fl_X12_186 rfl kk_159 (rf_159_57 hRF) dX12_gift_12 ?_
    refine wm_iconst hC dX12_gift_15 (k := ?_)
    refine wm_aload_n hC 0 dX12_gift_16 rfl (k_ne0 kk_159 (by decide)) ?_
    refine x_getR3 hC 45 fl_X12_150 rfl kk_159 (rf_159_45 hRF) dX12_gift_17 ?_
    refine wm_iload_n hC 1 dX12_gift_20 rfl ?_
    refine x_iald2 hC kk_185 kn_185 dX12_gift_21 hw (fun hw => ?_)
    refine x_iastK hC kk_194 kn_194 (by decide) (by decide) dX12_gift_22 hw (fun I1 hw => ?_)
    refine wm_aload_n hC 0 dX12_gift_23 rfl (k_ne0 kk_159 (by decide)) ?_
    refine x_getR3 hC 57 fl_X12_186 rfl kk_159 (rf_159_57 hRF) dX12_gift_24 ?_
    refine wm_bipush hC dX12_gift_27 (k := ?_)
    refine wm_aload_n hC 0 dX12_gift_29 rfl (k_ne0 kk_159 (by decide)) ?_
    refine x_getR3 hC 46 fl_X12_153 rfl kk_159 (rf_159_46 hRF) dX12_gift_30 ?_
    refine wm_iload_n hC 1 dX12_gift_33 rfl ?_
    refine x_iald2 hC kk_186 kn_186 dX12_gift_34 hw (fun hw => ?_)
    refine x_iastK hC kk_194 kn_194 (by decide) (by decide) dX12_gift_35 hw (fun I2 hw => ?_)
    refine wm_aload_n hC 0 dX12_gift_36 rfl (k_ne0 kk_159 (by decide)) ?_
    refine x_getR3 hC 57 fl_X12_186 rfl kk_159 (rf_159_57 hRF) dX12_gift_37 ?_
    refine wm_bipush hC dX12_gift_40 (k := ?_)
    refine wm_aload_n hC 0 dX12_gift_42 rfl (k_ne0 kk_159 (by decide)) ?_
    refine wm_iload_n hC 1 dX12_gift_43 rfl ?_
    refine wm_iconst hC dX12_gift_44 (k := ?_)
    refine y_callV_i_n hC hRm noS ml_X12_456 kk_159 (c12_wornOf hRF  hw) (Nat.le_of_ble_eq_true rfl) (Nat.le_of_ble_eq_true rfl) ⟨Nat.zero_le _, Nat.zero_le _⟩ rfl (st := [vi 9, vr 194]) rfl (Nat.le_of_ble_eq_true rfl) dX12_gift_45 (fun r2 hw => ?_)
    refine x_iastK hC kk_194 kn_194 (by decide) (by decide) dX12_gift_48 hw (fun I3 hw => ?_)
    refine wm_aload_n hC 0 dX12_gift_49 rfl (k_ne0 kk_159 (by decide)) ?_
    refine wm_iconst hC dX12_gift_50 (k := ?_)
    refine y_callV_l_J hC hRm noS ml_X12_459 kk_159 (c12_reckons hRF  hw) (Nat.le_of_ble_eq_true rfl) (Nat.le_of_ble_eq_true rfl) ⟨Nat.zero_le _, Nat.zero_le _⟩ rfl (st := []) rfl (Nat.le_of_ble_eq_true rfl) dX12_gift_51 (fun r3 J1 hw => ?_)
    refine wm_lstore_n hC dX12_gift_54 (by decide) (L2 := [(2, vl r3), (0, vr 159), (1, vi l1)]) rfl ?_
    refine wm_lload_n hC 0 dX12_gift_55 rfl ?_
    refine wm_lconst hC (x := 0) dX12_gift_56 (k := ?_)
    refine wm_lcmp_ge (tgt := 65) hC dX12_gift_57 dX12_gift_58 (by decide) hw (fun hw => ?_) (fun hw => ?_)
    · refine wm_lload_n hC 0 dX12_gift_65 rfl ?_
      refine wm_ldc2 hC (x := 99) tc_X12_482 rfl dX12_gift_66 (k := ?_)
      refine wm_lcmp_le (tgt := 78) hC dX12_gift_69 dX12_gift_70 (by decide) hw (fun hw => ?_) (fun hw => ?_)
      · refine wm_lload_n hC 0 dX12_gift_78 rfl ?_
        refine x_l2i hC dX12_gift_79 hw (fun hw => ?_)
        exact wm_ireturn hC hE dX12_gift_80 ⟨rfl, hw⟩
      · refine wm_bipush hC dX12_gift_73 (k := ?_)
        refine wm_goto (tgt := 80) hC dX12_gift_75 (by decide) ?_
        exact wm_ireturn hC hE dX12_gift_80 ⟨rfl, hw⟩
    · refine wm_iconst hC dX12_gift_61 (k := ?_)
      refine wm_goto (tgt := 80) hC dX12_gift_62 (by decide) ?_
      exact wm_ireturn hC hE dX12_gift_80 ⟨rfl, hw⟩
def p12_moods_b2_body (l1 : Int) (l2 : Int) (Q : mI → Prop) (k2 : Int → mI → Prop) (l3 : Int) (I : mI) : Prop := (((0 : Int) ≤ (I 159 13) ∧ (I 159 13) < (2 : Int)) ∧ (if (I 161 (I 159 13)) ≤ l3 then (Q I) else (rg (6 * l1) ∧ (rg ((6 * l1) + l3) ∧ (((0 : Int) ≤ l3 ∧ l3 < (6 : Int)) ∧ (if (I 196 l3) = l2 then (((0 : Int) ≤ ((6 * l1) + l3) ∧ ((6 * l1) + l3) < (132 : Int)) ∧ (if (9 : Int) ≤ (I 188 ((6 * l1) + l3)) then (((0 : Int) ≤ ((6 * l1) + l3) ∧ ((6 * l1) + l3) < (132 : Int)) ∧ wLet (up I 188 ((6 * l1) + l3) 9) (fun I3 => (rg (l3 + 1) ∧ (k2 (l3 + 1) I3)))) else (((0 : Int) ≤ ((6 * l1) + l3) ∧ ((6 * l1) + l3) < (132 : Int)) ∧ (rg ((I 188 ((6 * l1) + l3)) + 1) ∧ (((0 : Int) ≤ ((6 * l1) + l3) ∧ ((6 * l1) + l3) < (132 : Int)) ∧ wLet (up I 188 ((6 * l1) + l3) ((I 188 ((6 * l1) + l3)) + 1)) (fun I4 => (rg (l3 + 1) ∧ (k2 (l3 + 1) I4)))))))) else (((0 : Int) ≤ ((6 * l1) + l3) ∧ ((6 * l1) + l3) < (132 : Int)) ∧ (if (I 188 ((6 * l1) + l3)) ≤ 0 then (((0 : Int) ≤ ((6 * l1) + l3) ∧ ((6 * l1) + l3) < (132 : Int)) ∧ wLet (up I 188 ((6 * l1) + l3) 0) (fun I1 => (rg (l3 + 1) ∧ (k2 (l3 + 1) I1)))) else (((0 : Int) ≤ ((6 * l1) + l3) ∧ ((6 * l1) + l3) < (132 : Int)) ∧ (rg ((I 188 ((6 * l1) + l3)) - 1) ∧ (((0 : Int) ≤ ((6 * l1) + l3) ∧ ((6 * l1) + l3) < (132 : Int)) ∧ wLet (up I 188 ((6 * l1) + l3) ((I 188 ((6 * l1) + l3)) - 1)) (fun I2 => (rg (l3 + 1) ∧ (k2 (l3 + 1) I2))))))))))))))
def p12_moods_b2 (l1 : Int) (l2 : Int) (Q : mI → Prop) : Nat → Int → mI → Prop
  | 0 => fun _ _ => False
  | f + 1 => fun l3 I => p12_moods_b2_body l1 l2 Q (p12_moods_b2 l1 l2 Q f) l3 I
set_option maxRecDepth 20000 in
theorem w12_moods_b2_body {C : wX} {ad : Nat → Nat} {n : Nat} {I J : mI} {R : mR} {Q : mI → Prop} (hC : wOK C cX12_moods 5 RX12) (hRm : wRm C 1 12 0 0) (hE : wEnd C none ad n (fun _ I' J' R' => (J' = J ∧ R' = R) ∧ Q I')) (hRF : RF R) {l1 : Int} {l2 : Int} {l3 : Int}     {k2 : Int → mI → Prop} (kk2 : ∀ (y3 : Int) (I' : mI), k2 y3 I' → WM C ad n I' J R 0 0 2 [(0, vr 159), (1, vi l1), (2, vi l2), (3, vi y3)] []) (hw : p12_moods_b2_body l1 l2 Q k2 l3 I) : WM C ad n I J R 0 0 2 [(0, vr 159), (1, vi l1), (2, vi l2), (3, vi l3)] [] := by
  unfold p12_moods_b2_body at hw
  refine wm_iload_n hC 3 dX12_moods_2 rfl ?_
  refine wm_aload_n hC 0 dX12_moods_3 rfl (k_ne0 kk_159 (by decide)) ?_
  refine x_getR3 hC 14 fl_X12_54 rfl kk_159 (rf_159_14 hRF) dX12_moods_4 ?_
  refine wm_aload_n hC 0 dX12_moods_7 rfl (k_ne0 kk_159 (by decide)) ?_
  refine x_getI hC 13 fl_X12_51 rfl kk_159 dX12_moods_8 ?_
  refine x_iald2 hC kk_161 kn_161 dX12_moods_11 hw (fun hw => ?_)
  refine wm_icmp_ge (tgt := 105) hC dX12_moods_12 (by decide) hw (fun hw => ?_) (fun hw => ?_)
  · exact wm_return hC hE dX12_moods_105 ⟨⟨rfl, rfl⟩, hw⟩
  · refine wm_bipush hC dX12_moods_15 (k := ?_)
    refine wm_iload_n hC 1 dX12_moods_17 rfl ?_
    refine x_imul hC dX12_moods_18 hw (fun hw => ?_)
    refine wm_iload_n hC 3 dX12_moods_19 rfl ?_
    refine x_iadd hC dX12_moods_20 hw (fun hw => ?_)
    refine wm_istore hC dX12_moods_21 (by decide) (L2 := [(4, vi ((6 * l1) + l3)), (0, vr 159), (1, vi l1), (2, vi l2), (3, vi l3)]) rfl ?_
    refine wm_aload_n hC 1 dX12_moods_23 rfl (k_ne0 kk_159 (by decide)) ?_
    refine x_getR3 hC 59 fl_X12_192 rfl kk_159 (rf_159_59 hRF) dX12_moods_24 ?_
    refine wm_iload_n hC 4 dX12_moods_27 rfl ?_
    refine x_iald2 hC kk_196 kn_196 dX12_moods_28 hw (fun hw => ?_)
    refine wm_iload_n hC 3 dX12_moods_29 rfl ?_
    refine wm_icmp_ne (tgt := 69) hC dX12_moods_30 (by decide) hw (fun hw => ?_) (fun hw => ?_)
    · refine wm_aload_n hC 1 dX12_moods_33 rfl (k_ne0 kk_159 (by decide)) ?_
      refine x_getR3 hC 48 fl_X12_159 rfl kk_159 (rf_159_48 hRF) dX12_moods_34 ?_
      refine wm_iload hC 0 dX12_moods_37 rfl ?_
      refine wm_aload_n hC 1 dX12_moods_39 rfl (k_ne0 kk_159 (by decide)) ?_
      refine x_getR3 hC 48 fl_X12_159 rfl kk_159 (rf_159_48 hRF) dX12_moods_40 ?_
      refine wm_iload hC 0 dX12_moods_43 rfl ?_
      refine x_iald2 hC kk_188 kn_188 dX12_moods_45 hw (fun hw => ?_)
      refine wm_bipush hC dX12_moods_46 (k := ?_)
      refine wm_icmp_ge (tgt := 63) hC dX12_moods_48 (by decide) hw (fun hw => ?_) (fun hw => ?_)
      · refine wm_bipush hC dX12_moods_63 (k := ?_)
        refine x_iast2 hC kk_188 kn_188 dX12_moods_65 hw (fun I3 hw => ?_)
        refine wm_goto (tgt := 99) hC dX12_moods_66 (by decide) ?_
        refine x_iinc hC 4 dX12_moods_99 rfl (by decide) (L2 := [(3, vi (l3 + 1)), (4, vi ((6 * l1) + l3)), (0, vr 159), (1, vi l1), (2, vi l2)]) rfl hw (fun hw => ?_)
        refine wm_goto (tgt := 2) hC dX12_moods_102 (by decide) ?_
        refine wm_sub [2, 3, 4, 0] (L2 := [(0, vr 159), (1, vi l1), (2, vi l2), (3, vi (l3 + 1))]) rfl ?_
        exact kk2 _ _ hw
      · refine wm_aload_n hC 1 dX12_moods_51 rfl (k_ne0 kk_159 (by decide)) ?_
        refine x_getR3 hC 48 fl_X12_159 rfl kk_159 (rf_159_48 hRF) dX12_moods_52 ?_
        refine wm_iload hC 0 dX12_moods_55 rfl ?_
        refine x_iald2 hC kk_188 kn_188 dX12_moods_57 hw (fun hw => ?_)
        refine wm_iconst hC dX12_moods_58 (k := ?_)
        refine x_iadd hC dX12_moods_59 hw (fun hw => ?_)
        refine wm_goto (tgt := 65) hC dX12_moods_60 (by decide) ?_
        refine x_iast2 hC kk_188 kn_188 dX12_moods_65 hw (fun I4 hw => ?_)
        refine wm_goto (tgt := 99) hC dX12_moods_66 (by decide) ?_
        refine x_iinc hC 4 dX12_moods_99 rfl (by decide) (L2 := [(3, vi (l3 + 1)), (4, vi ((6 * l1) + l3)), (0, vr 159), (1, vi l1), (2, vi l2)]) rfl hw (fun hw => ?_)
        refine wm_goto (tgt := 2) hC dX12_moods_102 (by decide) ?_
        refine wm_sub [2, 3, 4, 0] (L2 := [(0, vr 159), (1, vi l1), (2, vi l2), (3, vi (l3 + 1))]) rfl ?_
        exact kk2 _ _ hw
    · refine wm_aload_n hC 1 dX12_moods_69 rfl (k_ne0 kk_159 (by decide)) ?_
      refine x_getR3 hC 48 fl_X12_159 rfl kk_159 (rf_159_48 hRF) dX12_moods_70 ?_
      refine wm_iload hC 0 dX12_moods_73 rfl ?_
      refine wm_aload_n hC 1 dX12_moods_75 rfl (k_ne0 kk_159 (by decide)) ?_
      refine x_getR3 hC 48 fl_X12_159 rfl kk_159 (rf_159_48 hRF) dX12_moods_76 ?_
      refine wm_iload hC 0 dX12_moods_79 rfl ?_
      refine x_iald2 hC kk_188 kn_188 dX12_moods_81 hw (fun hw => ?_)
      refine wm_if_le (tgt := 97) hC dX12_moods_82 (by decide) hw (fun hw => ?_) (fun hw => ?_)
      · refine wm_iconst hC dX12_moods_97 (k := ?_)
        refine x_iast2 hC kk_188 kn_188 dX12_moods_98 hw (fun I1 hw => ?_)
        refine x_iinc hC 4 dX12_moods_99 rfl (by decide) (L2 := [(3, vi (l3 + 1)), (4, vi ((6 * l1) + l3)), (0, vr 159), (1, vi l1), (2, vi l2)]) rfl hw (fun hw => ?_)
        refine wm_goto (tgt := 2) hC dX12_moods_102 (by decide) ?_
        refine wm_sub [2, 3, 4, 0] (L2 := [(0, vr 159), (1, vi l1), (2, vi l2), (3, vi (l3 + 1))]) rfl ?_
        exact kk2 _ _ hw
      · refine wm_aload_n hC 1 dX12_moods_85 rfl (k_ne0 kk_159 (by decide)) ?_
        refine x_getR3 hC 48 fl_X12_159 rfl kk_159 (rf_159_48 hRF) dX12_moods_86 ?_
        refine wm_iload hC 0 dX12_moods_89 rfl ?_
        refine x_iald2 hC kk_188 kn_188 dX12_moods_91 hw (fun hw => ?_)
        refine wm_iconst hC dX12_moods_92 (k := ?_)
        refine x_isub hC dX12_moods_93 hw (fun hw => ?_)
        refine wm_goto (tgt := 98) hC dX12_moods_94 (by decide) ?_
        refine x_iast2 hC kk_188 kn_188 dX12_moods_98 hw (fun I2 hw => ?_)
        refine x_iinc hC 4 dX12_moods_99 rfl (by decide) (L2 := [(3, vi (l3 + 1)), (4, vi ((6 * l1) + l3)), (0, vr 159), (1, vi l1), (2, vi l2)]) rfl hw (fun hw => ?_)
        refine wm_goto (tgt := 2) hC dX12_moods_102 (by decide) ?_
        refine wm_sub [2, 3, 4, 0] (L2 := [(0, vr 159), (1, vi l1), (2, vi l2), (3, vi (l3 + 1))]) rfl ?_
        exact kk2 _ _ hw
set_option maxRecDepth 20000 in
theorem w12_moods_b2 {C : wX} {ad : Nat → Nat} {n : Nat} {J : mI} {R : mR} {Q : mI → Prop} (hC : wOK C cX12_moods 5 RX12) (hRm : wRm C 1 12 0 0) (hE : wEnd C none ad n (fun _ I' J' R' => (J' = J ∧ R' = R) ∧ Q I')) (hRF : RF R) {l1 : Int} {l2 : Int}     : ∀ (f : Nat) (l3 : Int) (I : mI), p12_moods_b2 l1 l2 Q f l3 I → WM C ad n I J R 0 0 2 [(0, vr 159), (1, vi l1), (2, vi l2), (3, vi l3)] [] := by
  intro f
  induction f with
  | zero => intro l3 I hw; exact hw.elim
  | succ f ih => intro l3 I hw; exact w12_moods_b2_body hC hRm hE hRF  (fun a0 a1 aw => ih a0 a1 aw) hw
def p12_moods (l1 : Int) (l2 : Int) (I : mI) (Q : mI → Prop) : Prop := (∃ f, p12_moods_b2 l1 l2 Q f 0 I)
set_option maxRecDepth 20000 in
theorem c12_moods {ad : Nat → Nat} {n : Nat} {I J : mI} {R : mR} {Q : mI → Prop}  (hRF : RF R) {l1 : Int} {l2 : Int}    (hw : p12_moods l1 l2 I Q) : wMet yX12_moods cX12_moods 5 none 1 12 false ad n I J R [vr 159, vi l1, vi l2] (fun _ I' J' R' => (J' = J ∧ R' = R) ∧ Q I') := by
  refine wMet_of (by decide) (Nat.le_of_ble_eq_true rfl) (fun C hC hRm hE hS => ?_)
  refine (show WM C ad n I J R 0 0 0 [(0, vr 159), (1, vi l1), (2, vi l2)] [] from ?_)
  unfold p12_moods at hw
  refine wm_iconst hC dX12_moods_0 (k := ?_)
  refine wm_istore_n hC dX12_moods_1 (by decide) (L2 := [(3, vi 0), (0, vr 159), (1, vi l1), (2, vi l2)]) rfl ?_
  obtain ⟨f, hw⟩ := hw
  refine wm_sub [1, 2, 3, 0] (L2 := [(0, vr 159), (1, vi l1), (2, vi l2), (3, vi 0)]) rfl ?_
  exact w12_moods_b2 hC hRm hE hRF  f _ _ hw
def p12_writesDown_b63 (l1 : Int) (l2 : Int) (l3 : Int) (I : mI) (Q : mI → Prop) : Prop := (rg (40 * l1) ∧ (((0 : Int) ≤ l1 ∧ l1 < (22 : Int)) ∧ (rg ((40 * l1) + (I 190 l1)) ∧ (rg (3 * ((40 * l1) + (I 190 l1))) ∧ (wLet (3 * ((40 * l1) + (I 190 l1))) (fun x1 => (((0 : Int) ≤ l1 ∧ l1 < (22 : Int)) ∧ (((0 : Int) ≤ x1 ∧ x1 < (2640 : Int)) ∧ wLet (up I 191 x1 (I 185 l1)) (fun I3 => (rg (x1 + 1) ∧ (((0 : Int) ≤ (x1 + 1) ∧ (x1 + 1) < (2640 : Int)) ∧ wLet (up I3 191 (x1 + 1) l2) (fun I4 => (rg (x1 + 2) ∧ (((0 : Int) ≤ (x1 + 2) ∧ (x1 + 2) < (2640 : Int)) ∧ wLet (up I4 191 (x1 + 2) l3) (fun I5 => (((0 : Int) ≤ l1 ∧ l1 < (22 : Int)) ∧ (rg ((I5 190 l1) + 1) ∧ (((0 : Int) ≤ l1 ∧ l1 < (22 : Int)) ∧ wLet (up I5 190 l1 ((I5 190 l1) + 1)) (fun I6 => (Q I6))))))))))))))))))))
set_option maxRecDepth 20000 in
theorem w12_writesDown_b63 {C : wX} {ad : Nat → Nat} {n : Nat} {I J : mI} {R : mR} {Q : mI → Prop} (hC : wOK C cX12_writesDown 5 RX12) (hRm : wRm C 1 12 0 0) (hE : wEnd C none ad n (fun _ I' J' R' => (J' = J ∧ R' = R) ∧ Q I')) (hRF : RF R) {l1 : Int} {l2 : Int} {l3 : Int}     (hw : p12_writesDown_b63 l1 l2 l3 I Q) : WM C ad n I J R 0 0 63 [(0, vr 159), (1, vi l1), (2, vi l2), (3, vi l3)] [] := by
  unfold p12_writesDown_b63 at hw
  refine wm_iconst hC dX12_writesDown_63 (k := ?_)
  refine wm_bipush hC dX12_writesDown_64 (k := ?_)
  refine wm_iload_n hC 1 dX12_writesDown_66 rfl ?_
  refine x_imul hC dX12_writesDown_67 hw (fun hw => ?_)
  refine wm_aload_n hC 0 dX12_writesDown_68 rfl (k_ne0 kk_159 (by decide)) ?_
  refine x_getR3 hC 50 fl_X12_165 rfl kk_159 (rf_159_50 hRF) dX12_writesDown_69 ?_
  refine wm_iload_n hC 1 dX12_writesDown_72 rfl ?_
  refine x_iald2 hC kk_190 kn_190 dX12_writesDown_73 hw (fun hw => ?_)
  refine x_iadd hC dX12_writesDown_74 hw (fun hw => ?_)
  refine x_imul hC dX12_writesDown_75 hw (fun hw => ?_)
  refine x_nameI hw (fun x1 hw => ?_)
  refine wm_istore hC dX12_writesDown_76 (by decide) (L2 := [(4, vi x1), (0, vr 159), (1, vi l1), (2, vi l2), (3, vi l3)]) rfl ?_
  refine wm_aload_n hC 1 dX12_writesDown_78 rfl (k_ne0 kk_159 (by decide)) ?_
  refine x_getR3 hC 51 fl_X12_168 rfl kk_159 (rf_159_51 hRF) dX12_writesDown_79 ?_
  refine wm_iload hC 0 dX12_writesDown_82 rfl ?_
  refine wm_aload_n hC 1 dX12_writesDown_84 rfl (k_ne0 kk_159 (by decide)) ?_
  refine x_getR3 hC 45 fl_X12_150 rfl kk_159 (rf_159_45 hRF) dX12_writesDown_85 ?_
  refine wm_iload_n hC 2 dX12_writesDown_88 rfl ?_
  refine x_iald2 hC kk_185 kn_185 dX12_writesDown_89 hw (fun hw => ?_)
  refine x_iast2 hC kk_191 kn_191 dX12_writesDown_90 hw (fun I3 hw => ?_)
  refine wm_aload_n hC 1 dX12_writesDown_91 rfl (k_ne0 kk_159 (by decide)) ?_
  refine x_getR3 hC 51 fl_X12_168 rfl kk_159 (rf_159_51 hRF) dX12_writesDown_92 ?_
  refine wm_iload hC 0 dX12_writesDown_95 rfl ?_
  refine wm_iconst hC dX12_writesDown_97 (k := ?_)
  refine x_iadd hC dX12_writesDown_98 hw (fun hw => ?_)
  refine wm_iload_n hC 3 dX12_writesDown_99 rfl ?_
  refine x_iast2 hC kk_191 kn_191 dX12_writesDown_100 hw (fun I4 hw => ?_)
  refine wm_aload_n hC 1 dX12_writesDown_101 rfl (k_ne0 kk_159 (by decide)) ?_
  refine x_getR3 hC 51 fl_X12_168 rfl kk_159 (rf_159_51 hRF) dX12_writesDown_102 ?_
  refine wm_iload hC 0 dX12_writesDown_105 rfl ?_
  refine wm_iconst hC dX12_writesDown_107 (k := ?_)
  refine x_iadd hC dX12_writesDown_108 hw (fun hw => ?_)
  refine wm_iload_n hC 4 dX12_writesDown_109 rfl ?_
  refine x_iast2 hC kk_191 kn_191 dX12_writesDown_110 hw (fun I5 hw => ?_)
  refine wm_aload_n hC 1 dX12_writesDown_111 rfl (k_ne0 kk_159 (by decide)) ?_
  refine x_getR3 hC 50 fl_X12_165 rfl kk_159 (rf_159_50 hRF) dX12_writesDown_112 ?_
  refine wm_iload_n hC 2 dX12_writesDown_115 rfl ?_
  refine wm_dup2_11 hC dX12_writesDown_116 (k := ?_)
  refine x_iald2 hC kk_190 kn_190 dX12_writesDown_117 hw (fun hw => ?_)
  refine wm_iconst hC dX12_writesDown_118 (k := ?_)
  refine x_iadd hC dX12_writesDown_119 hw (fun hw => ?_)
  refine x_iast2 hC kk_190 kn_190 dX12_writesDown_120 hw (fun I6 hw => ?_)
  exact wm_return hC hE dX12_writesDown_121 ⟨⟨rfl, rfl⟩, hw⟩
def p12_writesDown_b17_body (l1 : Int) (l2 : Int) (l3 : Int) (Q : mI → Prop) (k17 : Int → mI → Prop) (l4 : Int) (I : mI) : Prop := (rg (120 * l1) ∧ (rg ((120 * l1) + 120) ∧ (rg (((120 * l1) + 120) - 3) ∧ (if (((120 * l1) + 120) - 3) ≤ l4 then (((0 : Int) ≤ l1 ∧ l1 < (22 : Int)) ∧ (rg ((I 190 l1) - 1) ∧ (((0 : Int) ≤ l1 ∧ l1 < (22 : Int)) ∧ wLet (up I 190 l1 ((I 190 l1) - 1)) (fun I1 => (p12_writesDown_b63 l1 l2 l3 I1 Q))))) else (rg (l4 + 3) ∧ (((0 : Int) ≤ (l4 + 3) ∧ (l4 + 3) < (2640 : Int)) ∧ (((0 : Int) ≤ l4 ∧ l4 < (2640 : Int)) ∧ wLet (up I 191 l4 (I 191 (l4 + 3))) (fun I2 => (rg (l4 + 1) ∧ (k17 (l4 + 1) I2))))))))))
def p12_writesDown_b17 (l1 : Int) (l2 : Int) (l3 : Int) (Q : mI → Prop) : Nat → Int → mI → Prop
  | 0 => fun _ _ => False
  | f + 1 => fun l4 I => p12_writesDown_b17_body l1 l2 l3 Q (p12_writesDown_b17 l1 l2 l3 Q f) l4 I
set_option maxRecDepth 20000 in
theorem w12_writesDown_b17_body {C : wX} {ad : Nat → Nat} {n : Nat} {I J : mI} {R : mR} {Q : mI → Prop} (hC : wOK C cX12_writesDown 5 RX12) (hRm : wRm C 1 12 0 0) (hE : wEnd C none ad n (fun _ I' J' R' => (J' = J ∧ R' = R) ∧ Q I')) (hRF : RF R) {l1 : Int} {l2 : Int} {l3 : Int} {l4 : Int}     {k17 : Int → mI → Prop} (kk17 : ∀ (y4 : Int) (I' : mI), k17 y4 I' → WM C ad n I' J R 0 0 17 [(0, vr 159), (1, vi l1), (2, vi l2), (3, vi l3), (4, vi y4)] []) (hw : p12_writesDown_b17_body l1 l2 l3 Q k17 l4 I) : WM C ad n I J R 0 0 17 [(0, vr 159), (1, vi l1), (2, vi l2), (3, vi l3), (4, vi l4)] [] := by
  unfold p12_writesDown_b17_body at hw
  refine wm_iload hC 4 dX12_writesDown_17 rfl ?_
  refine wm_bipush hC dX12_writesDown_19 (k := ?_)
  refine wm_iload_n hC 1 dX12_writesDown_21 rfl ?_
  refine x_imul hC dX12_writesDown_22 hw (fun hw => ?_)
  refine wm_bipush hC dX12_writesDown_23 (k := ?_)
  refine x_iadd hC dX12_writesDown_25 hw (fun hw => ?_)
  refine wm_iconst hC dX12_writesDown_26 (k := ?_)
  refine x_isub hC dX12_writesDown_27 hw (fun hw => ?_)
  refine wm_icmp_ge (tgt := 53) hC dX12_writesDown_28 (by decide) hw (fun hw => ?_) (fun hw => ?_)
  · refine wm_aload_n hC 0 dX12_writesDown_53 rfl (k_ne0 kk_159 (by decide)) ?_
    refine x_getR3 hC 50 fl_X12_165 rfl kk_159 (rf_159_50 hRF) dX12_writesDown_54 ?_
    refine wm_iload_n hC 1 dX12_writesDown_57 rfl ?_
    refine wm_dup2_11 hC dX12_writesDown_58 (k := ?_)
    refine x_iald2 hC kk_190 kn_190 dX12_writesDown_59 hw (fun hw => ?_)
    refine wm_iconst hC dX12_writesDown_60 (k := ?_)
    refine x_isub hC dX12_writesDown_61 hw (fun hw => ?_)
    refine x_iast2 hC kk_190 kn_190 dX12_writesDown_62 hw (fun I1 hw => ?_)
    refine wm_sub [0, 1, 2, 3] (L2 := [(0, vr 159), (1, vi l1), (2, vi l2), (3, vi l3)]) rfl ?_
    exact w12_writesDown_b63 hC hRm hE hRF  hw
  · refine wm_aload_n hC 0 dX12_writesDown_31 rfl (k_ne0 kk_159 (by decide)) ?_
    refine x_getR3 hC 51 fl_X12_168 rfl kk_159 (rf_159_51 hRF) dX12_writesDown_32 ?_
    refine wm_iload hC 4 dX12_writesDown_35 rfl ?_
    refine wm_aload_n hC 0 dX12_writesDown_37 rfl (k_ne0 kk_159 (by decide)) ?_
    refine x_getR3 hC 51 fl_X12_168 rfl kk_159 (rf_159_51 hRF) dX12_writesDown_38 ?_
    refine wm_iload hC 4 dX12_writesDown_41 rfl ?_
    refine wm_iconst hC dX12_writesDown_43 (k := ?_)
    refine x_iadd hC dX12_writesDown_44 hw (fun hw => ?_)
    refine x_iald2 hC kk_191 kn_191 dX12_writesDown_45 hw (fun hw => ?_)
    refine x_iast2 hC kk_191 kn_191 dX12_writesDown_46 hw (fun I2 hw => ?_)
    refine x_iinc hC 4 dX12_writesDown_47 rfl (by decide) (L2 := [(4, vi (l4 + 1)), (0, vr 159), (1, vi l1), (2, vi l2), (3, vi l3)]) rfl hw (fun hw => ?_)
    refine wm_goto (tgt := 17) hC dX12_writesDown_50 (by decide) ?_
    refine wm_sub [1, 2, 3, 4, 0] (L2 := [(0, vr 159), (1, vi l1), (2, vi l2), (3, vi l3), (4, vi (l4 + 1))]) rfl ?_
    exact kk17 _ _ hw
set_option maxRecDepth 20000 in
theorem w12_writesDown_b17 {C : wX} {ad : Nat → Nat} {n : Nat} {J : mI} {R : mR} {Q : mI → Prop} (hC : wOK C cX12_writesDown 5 RX12) (hRm : wRm C 1 12 0 0) (hE : wEnd C none ad n (fun _ I' J' R' => (J' = J ∧ R' = R) ∧ Q I')) (hRF : RF R) {l1 : Int} {l2 : Int} {l3 : Int}     : ∀ (f : Nat) (l4 : Int) (I : mI), p12_writesDown_b17 l1 l2 l3 Q f l4 I → WM C ad n I J R 0 0 17 [(0, vr 159), (1, vi l1), (2, vi l2), (3, vi l3), (4, vi l4)] [] := by
  intro f
  induction f with
  | zero => intro l4 I hw; exact hw.elim
  | succ f ih => intro l4 I hw; exact w12_writesDown_b17_body hC hRm hE hRF  (fun a0 a1 aw => ih a0 a1 aw) hw
def p12_writesDown (l1 : Int) (l2 : Int) (l3 : Int) (I : mI) (Q : mI → Prop) : Prop := (((0 : Int) ≤ l1 ∧ l1 < (22 : Int)) ∧ (if (I 190 l1) = 40 then (rg (120 * l1) ∧ (∃ f, p12_writesDown_b17 l1 l2 l3 Q f (120 * l1) I)) else (p12_writesDown_b63 l1 l2 l3 I Q)))
set_option maxRecDepth 20000 in
theorem c12_writesDown {ad : Nat → Nat} {n : Nat} {I J : mI} {R : mR} {Q : mI → Prop}  (hRF : RF R) {l1 : Int} {l2 : Int} {l3 : Int}     (hw : p12_writesDown l1 l2 l3 I Q) : wMet yX12_writesDown cX12_writesDown 5 none 1 12 false ad n I J R [vr 159, vi l1, vi l2, vi l3] (fun _ I' J' R' => (J' = J ∧ R' = R) ∧ Q I') := by
  refine wMet_of (by decide) (Nat.le_of_ble_eq_true rfl) (fun C hC hRm hE hS => ?_)
  refine (show WM C ad n I J R 0 0 0 [(0, vr 159), (1, vi l1), (2, vi l2), (3, vi l3)] [] from ?_)
  unfold p12_writesDown at hw
  refine wm_aload_n hC 0 dX12_writesDown_0 rfl (k_ne0 kk_159 (by decide)) ?_
  refine x_getR3 hC 50 fl_X12_165 rfl kk_159 (rf_159_50 hRF) dX12_writesDown_1 ?_
  refine wm_iload_n hC 1 dX12_writesDown_4 rfl ?_
  refine x_iald2 hC kk_190 kn_190 dX12_writesDown_5 hw (fun hw => ?_)
  refine wm_bipush hC dX12_writesDown_6 (k := ?_)
  refine wm_icmp_ne (tgt := 63) hC dX12_writesDown_8 (by decide) hw (fun hw => ?_) (fun hw => ?_)
  · refine wm_bipush hC dX12_writesDown_11 (k := ?_)
    refine wm_iload_n hC 1 dX12_writesDown_13 rfl ?_
    refine x_imul hC dX12_writesDown_14 hw (fun hw => ?_)
    refine wm_istore hC dX12_writesDown_15 (by decide) (L2 := [(4, vi (120 * l1)), (0, vr 159), (1, vi l1), (2, vi l2), (3, vi l3)]) rfl ?_
    obtain ⟨f, hw⟩ := hw
    refine wm_sub [1, 2, 3, 4, 0] (L2 := [(0, vr 159), (1, vi l1), (2, vi l2), (3, vi l3), (4, vi (120 * l1))]) rfl ?_
    exact w12_writesDown_b17 hC hRm hE hRF  f _ _ hw
  · exact w12_writesDown_b63 hC hRm hE hRF  hw
def p12_ticks_b200 (l1 : Int) (l3 : Int) (I : mI) (J : mI) (Q : Int → mI → mI → Prop) : Prop := (((0 : Int) ≤ l1 ∧ l1 < (22 : Int)) ∧ (rg ((I 185 l1) + 1) ∧ (((0 : Int) ≤ l1 ∧ l1 < (22 : Int)) ∧ wLet (up I 185 l1 ((I 185 l1) + 1)) (fun I9 => ((l3 = 0 ∨ l3 = 1) ∧ (Q l3 I9 J))))))
set_option maxRecDepth 20000 in
theorem w12_ticks_b200 {C : wX} {ad : Nat → Nat} {n : Nat} {I J : mI} {R : mR} {Q : Int → mI → mI → Prop} (hC : wOK C cX12_ticks 7 RX12) (hRm : wRm C 8 188 0 0) (hE : wEnd C (some .boolean) ad n (fun r I' J' R' => (R' = R) ∧ Q r I' J')) (hRF : RF R) {l1 : Int} {l3 : Int}     (hw : p12_ticks_b200 l1 l3 I J Q) : WM C ad n I J R 0 0 200 [(0, vr 159), (1, vi l1), (3, vi l3)] [] := by
  unfold p12_ticks_b200 at hw
  refine wm_aload_n hC 0 dX12_ticks_200 rfl (k_ne0 kk_159 (by decide)) ?_
  refine x_getR3 hC 45 fl_X12_150 rfl kk_159 (rf_159_45 hRF) dX12_ticks_201 ?_
  refine wm_iload_n hC 1 dX12_ticks_204 rfl ?_
  refine wm_dup2_11 hC dX12_ticks_205 (k := ?_)
  refine x_iald2 hC kk_185 kn_185 dX12_ticks_206 hw (fun hw => ?_)
  refine wm_iconst hC dX12_ticks_207 (k := ?_)
  refine x_iadd hC dX12_ticks_208 hw (fun hw => ?_)
  refine x_iast2 hC kk_185 kn_185 dX12_ticks_209 hw (fun I9 hw => ?_)
  refine wm_iload_n hC 2 dX12_ticks_210 rfl ?_
  obtain ⟨z01, hw⟩ := hw
  exact wm_zreturn hC hE z01 dX12_ticks_211 ⟨rfl, hw⟩
def p12_ticks_b154 (l1 : Int) (l4 : Int) (l5 : Int) (l6 : Int) (s0 : Int) (I : mI) (J : mI) (Q : Int → mI → mI → Prop) : Prop := (p12_moods l1 l5 I (fun I5 => (if s0 = 0 then (p12_ticks_b200 l1 s0 I5 J Q) else (rg (6 * l1) ∧ (rg ((6 * l1) + l4) ∧ (((0 : Int) ≤ ((6 * l1) + l4) ∧ ((6 * l1) + l4) < (132 : Int)) ∧ wLet (up I5 189 ((6 * l1) + l4) l5) (fun I6 => (((0 : Int) ≤ l1 ∧ l1 < (22 : Int)) ∧ (rg ((I6 186 l1) - l6) ∧ (((0 : Int) ≤ l1 ∧ l1 < (22 : Int)) ∧ wLet (up I6 186 l1 ((I6 186 l1) - l6)) (fun I7 => (p12_writesDown l1 l4 l5 I7 (fun I8 => (p12_ticks_b200 l1 s0 I8 J Q))))))))))))))
set_option maxRecDepth 20000 in
theorem w12_ticks_b154 {C : wX} {ad : Nat → Nat} {n : Nat} {I J : mI} {R : mR} {Q : Int → mI → mI → Prop} (hC : wOK C cX12_ticks 7 RX12) (hRm : wRm C 8 188 0 0) (hE : wEnd C (some .boolean) ad n (fun r I' J' R' => (R' = R) ∧ Q r I' J')) (hRF : RF R) {l1 : Int} {l4 : Int} {l5 : Int} {l6 : Int} {s0 : Int}     (hw : p12_ticks_b154 l1 l4 l5 l6 s0 I J Q) : WM C ad n I J R 0 0 154 [(0, vr 159), (1, vi l1), (4, vi l4), (5, vi l5), (6, vi l6)] [vi s0] := by
  unfold p12_ticks_b154 at hw
  refine wm_istore_n hC dX12_ticks_154 (by decide) (L2 := [(3, vi s0), (0, vr 159), (1, vi l1), (4, vi l4), (5, vi l5), (6, vi l6)]) rfl ?_
  refine wm_aload_n hC 1 dX12_ticks_155 rfl (k_ne0 kk_159 (by decide)) ?_
  refine wm_iload_n hC 2 dX12_ticks_156 rfl ?_
  refine wm_iload hC 4 dX12_ticks_157 rfl ?_
  refine y_callV_v_I hC hRm noS ml_X12_494 kk_159 (c12_moods hRF  hw) (Nat.le_of_ble_eq_true rfl) (Nat.le_of_ble_eq_true rfl) ⟨Nat.zero_le _, Nat.zero_le _⟩ rfl (st := []) rfl (Nat.le_of_ble_eq_true rfl) dX12_ticks_159 (fun I5 hw => ?_)
  refine wm_iload_n hC 0 dX12_ticks_162 rfl ?_
  refine wm_if_eq (tgt := 200) hC dX12_ticks_163 (by decide) hw (fun hw => ?_) (fun hw => ?_)
  · refine wm_sub [1, 2, 0] (L2 := [(0, vr 159), (1, vi l1), (3, vi s0)]) rfl ?_
    exact w12_ticks_b200 hC hRm hE hRF  hw
  · refine wm_aload_n hC 1 dX12_ticks_166 rfl (k_ne0 kk_159 (by decide)) ?_
    refine x_getR3 hC 49 fl_X12_162 rfl kk_159 (rf_159_49 hRF) dX12_ticks_167 ?_
    refine wm_bipush hC dX12_ticks_170 (k := ?_)
    refine wm_iload_n hC 2 dX12_ticks_172 rfl ?_
    refine x_imul hC dX12_ticks_173 hw (fun hw => ?_)
    refine wm_iload hC 3 dX12_ticks_174 rfl ?_
    refine x_iadd hC dX12_ticks_176 hw (fun hw => ?_)
    refine wm_iload hC 4 dX12_ticks_177 rfl ?_
    refine x_iast2 hC kk_189 kn_189 dX12_ticks_179 hw (fun I6 hw => ?_)
    refine wm_aload_n hC 1 dX12_ticks_180 rfl (k_ne0 kk_159 (by decide)) ?_
    refine x_getR3 hC 46 fl_X12_153 rfl kk_159 (rf_159_46 hRF) dX12_ticks_181 ?_
    refine wm_iload_n hC 2 dX12_ticks_184 rfl ?_
    refine wm_dup2_11 hC dX12_ticks_185 (k := ?_)
    refine x_iald2 hC kk_186 kn_186 dX12_ticks_186 hw (fun hw => ?_)
    refine wm_iload hC 5 dX12_ticks_187 rfl ?_
    refine x_isub hC dX12_ticks_189 hw (fun hw => ?_)
    refine x_iast2 hC kk_186 kn_186 dX12_ticks_190 hw (fun I7 hw => ?_)
    refine wm_aload_n hC 1 dX12_ticks_191 rfl (k_ne0 kk_159 (by decide)) ?_
    refine wm_iload_n hC 2 dX12_ticks_192 rfl ?_
    refine wm_iload hC 3 dX12_ticks_193 rfl ?_
    refine wm_iload hC 4 dX12_ticks_195 rfl ?_
    refine y_callV_v_I hC hRm noS ml_X12_497 kk_159 (c12_writesDown hRF  hw) (Nat.le_of_ble_eq_true rfl) (Nat.le_of_ble_eq_true rfl) ⟨Nat.zero_le _, Nat.zero_le _⟩ rfl (st := []) rfl (Nat.le_of_ble_eq_true rfl) dX12_ticks_197 (fun I8 hw => ?_)
    refine wm_sub [1, 2, 0] (L2 := [(0, vr 159), (1, vi l1), (3, vi s0)]) rfl ?_
    exact w12_ticks_b200 hC hRm hE hRF  hw
def p12_ticks_b153 (l1 : Int) (l4 : Int) (l5 : Int) (l6 : Int) (I : mI) (J : mI) (Q : Int → mI → mI → Prop) : Prop := (p12_ticks_b154 l1 l4 l5 l6 0 I J Q)
set_option maxRecDepth 20000 in
theorem w12_ticks_b153 {C : wX} {ad : Nat → Nat} {n : Nat} {I J : mI} {R : mR} {Q : Int → mI → mI → Prop} (hC : wOK C cX12_ticks 7 RX12) (hRm : wRm C 8 188 0 0) (hE : wEnd C (some .boolean) ad n (fun r I' J' R' => (R' = R) ∧ Q r I' J')) (hRF : RF R) {l1 : Int} {l4 : Int} {l5 : Int} {l6 : Int}     (hw : p12_ticks_b153 l1 l4 l5 l6 I J Q) : WM C ad n I J R 0 0 153 [(0, vr 159), (1, vi l1), (4, vi l4), (5, vi l5), (6, vi l6)] [] := by
  unfold p12_ticks_b153 at hw
  refine wm_iconst hC dX12_ticks_153 (k := ?_)
  exact w12_ticks_b154 hC hRm hE hRF  hw
def p12_ticks_b93 (l1 : Int) (l3 : Int) (l4 : Int) (s1 : Int) (s2 : Int) (s3 : Int) (I : mI) (J : mI) (Q : Int → mI → mI → Prop) : Prop := (p12_choiceOf s1 s2 s3 I J (fun r4 I4 J2 => (if r4 = (-1) then (p12_ticks_b200 l1 l3 I4 J2 Q) else (rg (6 * (I4 159 13)) ∧ (rg ((6 * (I4 159 13)) + r4) ∧ (((0 : Int) ≤ ((6 * (I4 159 13)) + r4) ∧ ((6 * (I4 159 13)) + r4) < (12 : Int)) ∧ (wLet (I4 166 ((6 * (I4 159 13)) + r4)) (fun x2 => (((0 : Int) ≤ l1 ∧ l1 < (22 : Int)) ∧ (if (I4 186 l1) < x2 then (p12_ticks_b153 l1 l4 r4 x2 I4 J2 Q) else (rg (6 * l1) ∧ (rg ((6 * l1) + l4) ∧ (((0 : Int) ≤ ((6 * l1) + l4) ∧ ((6 * l1) + l4) < (132 : Int)) ∧ (if (I4 189 ((6 * l1) + l4)) = r4 then (p12_ticks_b153 l1 l4 r4 x2 I4 J2 Q) else (p12_ticks_b154 l1 l4 r4 x2 1 I4 J2 Q)))))))))))))))
set_option maxRecDepth 20000 in
theorem w12_ticks_b93 {C : wX} {ad : Nat → Nat} {n : Nat} {I J : mI} {R : mR} {Q : Int → mI → mI → Prop} (hC : wOK C cX12_ticks 7 RX12) (hRm : wRm C 8 188 0 0) (hE : wEnd C (some .boolean) ad n (fun r I' J' R' => (R' = R) ∧ Q r I' J')) (hRF : RF R) {l1 : Int} {l3 : Int} {l4 : Int} {s1 : Int} {s2 : Int} {s3 : Int}     (hw : p12_ticks_b93 l1 l3 l4 s1 s2 s3 I J Q) : WM C ad n I J R 0 0 93 [(0, vr 159), (1, vi l1), (3, vi l3), (4, vi l4)] [vi s3, vi s2, vi s1, vr 159] := by
  unfold p12_ticks_b93 at hw
  refine y_callV_i_IJ hC hRm noS ml_X12_491 kk_159 (c12_choiceOf hRF  hw) (Nat.le_of_ble_eq_true rfl) (Nat.le_of_ble_eq_true rfl) ⟨Nat.zero_le _, Nat.zero_le _⟩ rfl (st := []) rfl (Nat.le_of_ble_eq_true rfl) dX12_ticks_93 (fun r4 I4 J2 hw => ?_)
  refine wm_istore hC dX12_ticks_96 (by decide) (L2 := [(5, vi r4), (0, vr 159), (1, vi l1), (3, vi l3), (4, vi l4)]) rfl ?_
  refine wm_iload hC 0 dX12_ticks_98 rfl ?_
  refine wm_iconst hC dX12_ticks_100 (k := ?_)
  refine wm_icmp_eq (tgt := 200) hC dX12_ticks_101 (by decide) hw (fun hw => ?_) (fun hw => ?_)
  · refine wm_sub [1, 2, 3] (L2 := [(0, vr 159), (1, vi l1), (3, vi l3)]) rfl ?_
    exact w12_ticks_b200 hC hRm hE hRF  hw
  · refine wm_aload_n hC 1 dX12_ticks_104 rfl (k_ne0 kk_159 (by decide)) ?_
    refine x_getR3 hC 19 fl_X12_69 rfl kk_159 (rf_159_19 hRF) dX12_ticks_105 ?_
    refine wm_bipush hC dX12_ticks_108 (k := ?_)
    refine wm_aload_n hC 1 dX12_ticks_110 rfl (k_ne0 kk_159 (by decide)) ?_
    refine x_getI hC 13 fl_X12_51 rfl kk_159 dX12_ticks_111 ?_
    refine x_imul hC dX12_ticks_114 hw (fun hw => ?_)
    refine wm_iload hC 0 dX12_ticks_115 rfl ?_
    refine x_iadd hC dX12_ticks_117 hw (fun hw => ?_)
    refine x_iald2 hC kk_166 kn_166 dX12_ticks_118 hw (fun hw => ?_)
    refine x_nameI hw (fun x2 hw => ?_)
    refine wm_istore hC dX12_ticks_119 (by decide) (L2 := [(6, vi x2), (5, vi r4), (0, vr 159), (1, vi l1), (3, vi l3), (4, vi l4)]) rfl ?_
    refine wm_iload hC 0 dX12_ticks_121 rfl ?_
    refine wm_aload_n hC 2 dX12_ticks_123 rfl (k_ne0 kk_159 (by decide)) ?_
    refine x_getR3 hC 46 fl_X12_153 rfl kk_159 (rf_159_46 hRF) dX12_ticks_124 ?_
    refine wm_iload_n hC 3 dX12_ticks_127 rfl ?_
    refine x_iald2 hC kk_186 kn_186 dX12_ticks_128 hw (fun hw => ?_)
    refine wm_icmp_gt (tgt := 153) hC dX12_ticks_129 (by decide) hw (fun hw => ?_) (fun hw => ?_)
    · refine wm_sub [2, 3, 5, 1, 0] (L2 := [(0, vr 159), (1, vi l1), (4, vi l4), (5, vi r4), (6, vi x2)]) rfl ?_
      exact w12_ticks_b153 hC hRm hE hRF  hw
    · refine wm_aload_n hC 2 dX12_ticks_132 rfl (k_ne0 kk_159 (by decide)) ?_
      refine x_getR3 hC 49 fl_X12_162 rfl kk_159 (rf_159_49 hRF) dX12_ticks_133 ?_
      refine wm_bipush hC dX12_ticks_136 (k := ?_)
      refine wm_iload_n hC 3 dX12_ticks_138 rfl ?_
      refine x_imul hC dX12_ticks_139 hw (fun hw => ?_)
      refine wm_iload hC 5 dX12_ticks_140 rfl ?_
      refine x_iadd hC dX12_ticks_142 hw (fun hw => ?_)
      refine x_iald2 hC kk_189 kn_189 dX12_ticks_143 hw (fun hw => ?_)
      refine wm_iload hC 1 dX12_ticks_144 rfl ?_
      refine wm_icmp_eq (tgt := 153) hC dX12_ticks_146 (by decide) hw (fun hw => ?_) (fun hw => ?_)
      · refine wm_sub [2, 3, 5, 1, 0] (L2 := [(0, vr 159), (1, vi l1), (4, vi l4), (5, vi r4), (6, vi x2)]) rfl ?_
        exact w12_ticks_b153 hC hRm hE hRF  hw
      · refine wm_iconst hC dX12_ticks_149 (k := ?_)
        refine wm_goto (tgt := 154) hC dX12_ticks_150 (by decide) ?_
        refine wm_sub [2, 3, 5, 1, 0] (L2 := [(0, vr 159), (1, vi l1), (4, vi l4), (5, vi r4), (6, vi x2)]) rfl ?_
        exact w12_ticks_b154 hC hRm hE hRF  hw
def p12_ticks_b35 (l1 : Int) (l2 : Int) (I : mI) (J : mI) (Q : Int → mI → mI → Prop) : Prop := (((0 : Int) ≤ (I 159 13) ∧ (I 159 13) < (2 : Int)) ∧ (if (I 167 (I 159 13)) ≤ 0 then (p12_ticks_b200 l1 0 I J Q) else (((0 : Int) ≤ l1 ∧ l1 < (22 : Int)) ∧ (((0 : Int) ≤ (I 159 13) ∧ (I 159 13) < (2 : Int)) ∧ ((I 167 (I 159 13)) ≠ 0 ∧ (wLet (Int.tmod (I 185 l1) (I 167 (I 159 13))) (fun x1 => (if l2 = (-1) then (p12_everybody I (fun r3 => (p12_ticks_b93 l1 0 x1 l1 x1 r3 I J Q))) else (p12_everybody I (fun r2 => (p12_ticks_b93 l1 0 x1 l1 x1 (bAnd r2 (bXor (bShl 1 l2) (-1))) I J Q)))))))))))
set_option maxRecDepth 20000 in
theorem w12_ticks_b35 {C : wX} {ad : Nat → Nat} {n : Nat} {I J : mI} {R : mR} {Q : Int → mI → mI → Prop} (hC : wOK C cX12_ticks 7 RX12) (hRm : wRm C 8 188 0 0) (hE : wEnd C (some .boolean) ad n (fun r I' J' R' => (R' = R) ∧ Q r I' J')) (hRF : RF R) {l1 : Int} {l2 : Int}     (hw : p12_ticks_b35 l1 l2 I J Q) : WM C ad n I J R 0 0 35 [(0, vr 159), (1, vi l1), (2, vi l2)] [] := by
  unfold p12_ticks_b35 at hw
  refine wm_iconst hC dX12_ticks_35 (k := ?_)
  refine wm_istore_n hC dX12_ticks_36 (by decide) (L2 := [(3, vi 0), (0, vr 159), (1, vi l1), (2, vi l2)]) rfl ?_
  refine wm_aload_n hC 1 dX12_ticks_37 rfl (k_ne0 kk_159 (by decide)) ?_
  refine x_getR3 hC 20 fl_X12_72 rfl kk_159 (rf_159_20 hRF) dX12_ticks_38 ?_
  refine wm_aload_n hC 1 dX12_ticks_41 rfl (k_ne0 kk_159 (by decide)) ?_
  refine x_getI hC 13 fl_X12_51 rfl kk_159 dX12_ticks_42 ?_
  refine x_iald2 hC kk_167 kn_167 dX12_ticks_45 hw (fun hw => ?_)
  refine wm_if_le (tgt := 200) hC dX12_ticks_46 (by decide) hw (fun hw => ?_) (fun hw => ?_)
  · refine wm_sub [1, 2, 0] (L2 := [(0, vr 159), (1, vi l1), (3, vi 0)]) rfl ?_
    exact w12_ticks_b200 hC hRm hE hRF  hw
  · refine wm_aload_n hC 1 dX12_ticks_49 rfl (k_ne0 kk_159 (by decide)) ?_
    refine x_getR3 hC 45 fl_X12_150 rfl kk_159 (rf_159_45 hRF) dX12_ticks_50 ?_
    refine wm_iload_n hC 2 dX12_ticks_53 rfl ?_
    refine x_iald2 hC kk_185 kn_185 dX12_ticks_54 hw (fun hw => ?_)
    refine wm_aload_n hC 1 dX12_ticks_55 rfl (k_ne0 kk_159 (by decide)) ?_
    refine x_getR3 hC 20 fl_X12_72 rfl kk_159 (rf_159_20 hRF) dX12_ticks_56 ?_
    refine wm_aload_n hC 1 dX12_ticks_59 rfl (k_ne0 kk_159 (by decide)) ?_
    refine x_getI hC 13 fl_X12_51 rfl kk_159 dX12_ticks_60 ?_
    refine x_iald2 hC kk_167 kn_167 dX12_ticks_63 hw (fun hw => ?_)
    refine x_irem hC dX12_ticks_64 hw (fun hw => ?_)
    refine x_nameI hw (fun x1 hw => ?_)
    refine wm_istore hC dX12_ticks_65 (by decide) (L2 := [(4, vi x1), (3, vi 0), (0, vr 159), (1, vi l1), (2, vi l2)]) rfl ?_
    refine wm_aload_n hC 2 dX12_ticks_67 rfl (k_ne0 kk_159 (by decide)) ?_
    refine wm_iload_n hC 3 dX12_ticks_68 rfl ?_
    refine wm_iload hC 0 dX12_ticks_69 rfl ?_
    refine wm_iload_n hC 4 dX12_ticks_71 rfl ?_
    refine wm_iconst hC dX12_ticks_72 (k := ?_)
    refine wm_icmp_ne (tgt := 83) hC dX12_ticks_73 (by decide) hw (fun hw => ?_) (fun hw => ?_)
    · refine wm_aload_n hC 2 dX12_ticks_76 rfl (k_ne0 kk_159 (by decide)) ?_
      refine y_callV_i_n hC hRm noS ml_X12_487 kk_159 (c12_everybody hRF  hw) (Nat.le_of_ble_eq_true rfl) (Nat.le_of_ble_eq_true rfl) ⟨Nat.zero_le _, Nat.zero_le _⟩ rfl (st := [vi x1, vi l1, vr 159]) rfl (Nat.le_of_ble_eq_true rfl) dX12_ticks_77 (fun r3 hw => ?_)
      refine wm_goto (tgt := 93) hC dX12_ticks_80 (by decide) ?_
      refine wm_sub [2, 3, 1, 0] (L2 := [(0, vr 159), (1, vi l1), (3, vi 0), (4, vi x1)]) rfl ?_
      exact w12_ticks_b93 hC hRm hE hRF  hw
    · refine wm_aload_n hC 2 dX12_ticks_83 rfl (k_ne0 kk_159 (by decide)) ?_
      refine y_callV_i_n hC hRm noS ml_X12_487 kk_159 (c12_everybody hRF  hw) (Nat.le_of_ble_eq_true rfl) (Nat.le_of_ble_eq_true rfl) ⟨Nat.zero_le _, Nat.zero_le _⟩ rfl (st := [vi x1, vi l1, vr 159]) rfl (Nat.le_of_ble_eq_true rfl) dX12_ticks_84 (fun r2 hw => ?_)
      refine wm_iconst hC dX12_ticks_87 (k := ?_)
      refine wm_iload_n hC 4 dX12_ticks_88 rfl ?_
      refine wm_ishl hC dX12_ticks_89 ?_
      refine wm_iconst hC dX12_ticks_90 (k := ?_)
      refine wm_ixor hC dX12_ticks_91 ?_
      refine wm_iand hC dX12_ticks_92 ?_
      refine wm_sub [2, 3, 1, 0] (L2 := [(0, vr 159), (1, vi l1), (3, vi 0), (4, vi x1)]) rfl ?_
      exact w12_ticks_b93 hC hRm hE hRF  hw
def p12_ticks (l1 : Int) (l2 : Int) (I : mI) (J : mI) (Q : Int → mI → mI → Prop) : Prop := (((0 : Int) ≤ l1 ∧ l1 < (22 : Int)) ∧ (p12_gift l1 I J (fun r1 I1 J1 => (rg ((I 186 l1) + r1) ∧ (((0 : Int) ≤ l1 ∧ l1 < (22 : Int)) ∧ wLet (up I1 186 l1 ((I 186 l1) + r1)) (fun I2 => (((0 : Int) ≤ l1 ∧ l1 < (22 : Int)) ∧ (if (I2 186 l1) ≤ 9999 then (p12_ticks_b35 l1 l2 I2 J1 Q) else (((0 : Int) ≤ l1 ∧ l1 < (22 : Int)) ∧ wLet (up I2 186 l1 9999) (fun I3 => (p12_ticks_b35 l1 l2 I3 J1 Q)))))))))))
set_option maxRecDepth 20000 in
theorem c12_ticks {ad : Nat → Nat} {n : Nat} {I J : mI} {R : mR} {Q : Int → mI → mI → Prop}  (hRF : RF R) {l1 : Int} {l2 : Int}    (hw : p12_ticks l1 l2 I J Q) : wMet yX12_ticks cX12_ticks 7 (some .boolean) 8 188 false ad n I J R [vr 159, vi l1, vi l2] (fun r I' J' R' => (R' = R) ∧ Q r I' J') := by
  refine wMet_of (by decide) (Nat.le_of_ble_eq_true rfl) (fun C hC hRm hE hS => ?_)
  refine (show WM C ad n I J R 0 0 0 [(0, vr 159), (1, vi l1), (2, vi l2)] [] from ?_)
  unfold p12_ticks at hw
  refine wm_aload_n hC 0 dX12_ticks_0 rfl (k_ne0 kk_159 (by decide)) ?_
  refine x_getR3 hC 46 fl_X12_153 rfl kk_159 (rf_159_46 hRF) dX12_ticks_1 ?_
  refine wm_iload_n hC 1 dX12_ticks_4 rfl ?_
  refine wm_dup2_11 hC dX12_ticks_5 (k := ?_)
  refine x_iald2 hC kk_186 kn_186 dX12_ticks_6 hw (fun hw => ?_)
  refine wm_aload_n hC 0 dX12_ticks_7 rfl (k_ne0 kk_159 (by decide)) ?_
  refine wm_iload_n hC 1 dX12_ticks_8 rfl ?_
  refine y_callV_i_IJ hC hRm noS ml_X12_484 kk_159 (c12_gift hRF  hw) (Nat.le_of_ble_eq_true rfl) (Nat.le_of_ble_eq_true rfl) ⟨Nat.zero_le _, Nat.zero_le _⟩ rfl (st := [vi (I 186 l1), vi l1, vr 186]) rfl (Nat.le_of_ble_eq_true rfl) dX12_ticks_9 (fun r1 I1 J1 hw => ?_)
  refine x_iadd hC dX12_ticks_12 hw (fun hw => ?_)
  refine x_iast2 hC kk_186 kn_186 dX12_ticks_13 hw (fun I2 hw => ?_)
  refine wm_aload_n hC 0 dX12_ticks_14 rfl (k_ne0 kk_159 (by decide)) ?_
  refine x_getR3 hC 46 fl_X12_153 rfl kk_159 (rf_159_46 hRF) dX12_ticks_15 ?_
  refine wm_iload_n hC 1 dX12_ticks_18 rfl ?_
  refine x_iald2 hC kk_186 kn_186 dX12_ticks_19 hw (fun hw => ?_)
  refine wm_sipush hC dX12_ticks_20 (k := ?_)
  refine wm_icmp_le (tgt := 35) hC dX12_ticks_23 (by decide) hw (fun hw => ?_) (fun hw => ?_)
  · exact w12_ticks_b35 hC hRm hE hRF  hw
  · refine wm_aload_n hC 0 dX12_ticks_26 rfl (k_ne0 kk_159 (by decide)) ?_
    refine x_getR3 hC 46 fl_X12_153 rfl kk_159 (rf_159_46 hRF) dX12_ticks_27 ?_
    refine wm_iload_n hC 1 dX12_ticks_30 rfl ?_
    refine wm_sipush hC dX12_ticks_31 (k := ?_)
    refine x_iast2 hC kk_186 kn_186 dX12_ticks_34 hw (fun I3 hw => ?_)
    exact w12_ticks_b35 hC hRm hE hRF  hw
def p12_chance_b78 (l1 : Int) (l3 : Int) (l4 : Int) (s0 : Int) (s1 : Int) (I : mI) (J : mI) (k25 : Int → Int → mI → mI → Prop) (Q : Int → mI → mI → Prop) : Prop := (rg (s0 + s1) ∧ (if l4 = 0 then (p12_ticks 0 (-1) I J (fun r4 I3 J2 => (rg (l3 + 1) ∧ (k25 (s0 + s1) (l3 + 1) I3 J2)))) else (((0 : Int) ≤ (I 159 13) ∧ (I 159 13) < (2 : Int)) ∧ (p12_draw (I 161 (I 159 13)) J (fun r5 J3 => (p12_ticks 0 r5 I J3 (fun r6 I4 J4 => (rg (l3 + 1) ∧ (k25 (s0 + s1) (l3 + 1) I4 J4)))))))))
set_option maxRecDepth 20000 in
theorem w12_chance_b78 {C : wX} {ad : Nat → Nat} {n : Nat} {I J : mI} {R : mR} {Q : Int → mI → mI → Prop} (hC : wOK C cX12_chance 5 RX12) (hRm : wRm C 9 214 0 0) (hE : wEnd C (some .int) ad n (fun r I' J' R' => (R' = R) ∧ Q r I' J')) (hRF : RF R) {l1 : Int} {l3 : Int} {l4 : Int} {s0 : Int} {s1 : Int}  {k25 : Int → Int → mI → mI → Prop}  (kk25 : ∀ (y2 : Int) (y3 : Int) (I' : mI) (J' : mI), k25 y2 y3 I' J' → WM C ad n I' J' R 0 0 25 [(0, vr 159), (1, vi l1), (2, vi y2), (3, vi y3)] []) (hw : p12_chance_b78 l1 l3 l4 s0 s1 I J k25 Q) : WM C ad n I J R 0 0 78 [(0, vr 159), (1, vi l1), (3, vi l3), (4, vi l4)] [vi s1, vi s0] := by
  unfold p12_chance_b78 at hw
  refine x_iadd hC dX12_chance_78 hw (fun hw => ?_)
  refine wm_istore_n hC dX12_chance_79 (by decide) (L2 := [(2, vi (s0 + s1)), (0, vr 159), (1, vi l1), (3, vi l3), (4, vi l4)]) rfl ?_
  refine wm_aload_n hC 1 dX12_chance_80 rfl (k_ne0 kk_159 (by decide)) ?_
  refine wm_iconst hC dX12_chance_81 (k := ?_)
  refine wm_iload hC 4 dX12_chance_82 rfl ?_
  refine wm_if_eq (tgt := 103) hC dX12_chance_84 (by decide) hw (fun hw => ?_) (fun hw => ?_)
  · refine wm_iconst hC dX12_chance_103 (k := ?_)
    refine y_callV_z_IJ hC hRm noS ml_X12_526 kk_159 (c12_ticks hRF  hw) (Nat.le_of_ble_eq_true rfl) (Nat.le_of_ble_eq_true rfl) ⟨Nat.zero_le _, Nat.zero_le _⟩ rfl (st := []) rfl (Nat.le_of_ble_eq_true rfl) dX12_chance_104 (fun r4 I3 J2 hw => ?_)
    refine wm_pop hC dX12_chance_107 (k := ?_)
    refine x_iinc hC 3 dX12_chance_108 rfl (by decide) (L2 := [(3, vi (l3 + 1)), (2, vi (s0 + s1)), (0, vr 159), (1, vi l1), (4, vi l4)]) rfl hw (fun hw => ?_)
    refine wm_goto (tgt := 25) hC dX12_chance_111 (by decide) ?_
    refine wm_sub [2, 3, 1, 0] (L2 := [(0, vr 159), (1, vi l1), (2, vi (s0 + s1)), (3, vi (l3 + 1))]) rfl ?_
    exact kk25 _ _ _ _ hw
  · refine wm_aload_n hC 1 dX12_chance_87 rfl (k_ne0 kk_159 (by decide)) ?_
    refine wm_aload_n hC 1 dX12_chance_88 rfl (k_ne0 kk_159 (by decide)) ?_
    refine x_getR3 hC 14 fl_X12_54 rfl kk_159 (rf_159_14 hRF) dX12_chance_89 ?_
    refine wm_aload_n hC 1 dX12_chance_92 rfl (k_ne0 kk_159 (by decide)) ?_
    refine x_getI hC 13 fl_X12_51 rfl kk_159 dX12_chance_93 ?_
    refine x_iald2 hC kk_161 kn_161 dX12_chance_96 hw (fun hw => ?_)
    refine y_callV_i_J hC hRm noS ml_X12_565 kk_159 (c12_draw hRF  hw) (Nat.le_of_ble_eq_true rfl) (Nat.le_of_ble_eq_true rfl) ⟨Nat.zero_le _, Nat.zero_le _⟩ rfl (st := [vi 0, vr 159]) rfl (Nat.le_of_ble_eq_true rfl) dX12_chance_97 (fun r5 J3 hw => ?_)
    refine wm_goto (tgt := 104) hC dX12_chance_100 (by decide) ?_
    refine y_callV_z_IJ hC hRm noS ml_X12_526 kk_159 (c12_ticks hRF  hw) (Nat.le_of_ble_eq_true rfl) (Nat.le_of_ble_eq_true rfl) ⟨Nat.zero_le _, Nat.zero_le _⟩ rfl (st := []) rfl (Nat.le_of_ble_eq_true rfl) dX12_chance_104 (fun r6 I4 J4 hw => ?_)
    refine wm_pop hC dX12_chance_107 (k := ?_)
    refine x_iinc hC 3 dX12_chance_108 rfl (by decide) (L2 := [(3, vi (l3 + 1)), (2, vi (s0 + s1)), (0, vr 159), (1, vi l1), (4, vi l4)]) rfl hw (fun hw => ?_)
    refine wm_goto (tgt := 25) hC dX12_chance_111 (by decide) ?_
    refine wm_sub [2, 3, 1, 0] (L2 := [(0, vr 159), (1, vi l1), (2, vi (s0 + s1)), (3, vi (l3 + 1))]) rfl ?_
    exact kk25 _ _ _ _ hw
def p12_chance_b65 (l1 : Int) (l2 : Int) (l3 : Int) (s0 : Int) (I : mI) (J : mI) (k25 : Int → Int → mI → mI → Prop) (Q : Int → mI → mI → Prop) : Prop := (if s0 = 0 then (p12_chance_b78 l1 l3 s0 l2 0 I J k25 Q) else (p12_chance_b78 l1 l3 s0 l2 1 I J k25 Q))
set_option maxRecDepth 20000 in
theorem w12_chance_b65 {C : wX} {ad : Nat → Nat} {n : Nat} {I J : mI} {R : mR} {Q : Int → mI → mI → Prop} (hC : wOK C cX12_chance 5 RX12) (hRm : wRm C 9 214 0 0) (hE : wEnd C (some .int) ad n (fun r I' J' R' => (R' = R) ∧ Q r I' J')) (hRF : RF R) {l1 : Int} {l2 : Int} {l3 : Int} {s0 : Int}  {k25 : Int → Int → mI → mI → Prop}  (kk25 : ∀ (y2 : Int) (y3 : Int) (I' : mI) (J' : mI), k25 y2 y3 I' J' → WM C ad n I' J' R 0 0 25 [(0, vr 159), (1, vi l1), (2, vi y2), (3, vi y3)] []) (hw : p12_chance_b65 l1 l2 l3 s0 I J k25 Q) : WM C ad n I J R 0 0 65 [(0, vr 159), (1, vi l1), (2, vi l2), (3, vi l3)] [vi s0] := by
  unfold p12_chance_b65 at hw
  refine wm_istore hC dX12_chance_65 (by decide) (L2 := [(4, vi s0), (0, vr 159), (1, vi l1), (2, vi l2), (3, vi l3)]) rfl ?_
  refine wm_iload_n hC 3 dX12_chance_67 rfl ?_
  refine wm_iload hC 0 dX12_chance_68 rfl ?_
  refine wm_if_eq (tgt := 77) hC dX12_chance_70 (by decide) hw (fun hw => ?_) (fun hw => ?_)
  · refine wm_iconst hC dX12_chance_77 (k := ?_)
    refine wm_sub [1, 2, 4, 0] (L2 := [(0, vr 159), (1, vi l1), (3, vi l3), (4, vi s0)]) rfl ?_
    exact w12_chance_b78 hC hRm hE hRF kk25 hw
  · refine wm_iconst hC dX12_chance_73 (k := ?_)
    refine wm_goto (tgt := 78) hC dX12_chance_74 (by decide) ?_
    refine wm_sub [1, 2, 4, 0] (L2 := [(0, vr 159), (1, vi l1), (3, vi l3), (4, vi s0)]) rfl ?_
    exact w12_chance_b78 hC hRm hE hRF kk25 hw
def p12_chance_b64 (l1 : Int) (l2 : Int) (l3 : Int) (I : mI) (J : mI) (k25 : Int → Int → mI → mI → Prop) (Q : Int → mI → mI → Prop) : Prop := (p12_chance_b65 l1 l2 l3 0 I J k25 Q)
set_option maxRecDepth 20000 in
theorem w12_chance_b64 {C : wX} {ad : Nat → Nat} {n : Nat} {I J : mI} {R : mR} {Q : Int → mI → mI → Prop} (hC : wOK C cX12_chance 5 RX12) (hRm : wRm C 9 214 0 0) (hE : wEnd C (some .int) ad n (fun r I' J' R' => (R' = R) ∧ Q r I' J')) (hRF : RF R) {l1 : Int} {l2 : Int} {l3 : Int}  {k25 : Int → Int → mI → mI → Prop}  (kk25 : ∀ (y2 : Int) (y3 : Int) (I' : mI) (J' : mI), k25 y2 y3 I' J' → WM C ad n I' J' R 0 0 25 [(0, vr 159), (1, vi l1), (2, vi y2), (3, vi y3)] []) (hw : p12_chance_b64 l1 l2 l3 I J k25 Q) : WM C ad n I J R 0 0 64 [(0, vr 159), (1, vi l1), (2, vi l2), (3, vi l3)] [] := by
  unfold p12_chance_b64 at hw
  refine wm_iconst hC dX12_chance_64 (k := ?_)
  exact w12_chance_b65 hC hRm hE hRF kk25 hw
def p12_chance_b25_body (l1 : Int) (Q : Int → mI → mI → Prop) (k25 : Int → Int → mI → mI → Prop) (l2 : Int) (l3 : Int) (I : mI) (J : mI) : Prop := (if l1 ≤ l3 then (Q l2 I J) else (p12_draw 100 J (fun r3 J1 => (((0 : Int) ≤ (I 159 13) ∧ (I 159 13) < (2 : Int)) ∧ (if (I 172 (I 159 13)) ≤ r3 then (p12_chance_b64 l1 l2 l3 I J1 k25 Q) else (((0 : Int) ≤ (I 159 13) ∧ (I 159 13) < (2 : Int)) ∧ (if (I 161 (I 159 13)) ≤ 0 then (p12_chance_b64 l1 l2 l3 I J1 k25 Q) else (p12_chance_b65 l1 l2 l3 1 I J1 k25 Q))))))))
def p12_chance_b25 (l1 : Int) (Q : Int → mI → mI → Prop) : Nat → Int → Int → mI → mI → Prop
  | 0 => fun _ _ _ _ => False
  | f + 1 => fun l2 l3 I J => p12_chance_b25_body l1 Q (p12_chance_b25 l1 Q f) l2 l3 I J
set_option maxRecDepth 20000 in
theorem w12_chance_b25_body {C : wX} {ad : Nat → Nat} {n : Nat} {I J : mI} {R : mR} {Q : Int → mI → mI → Prop} (hC : wOK C cX12_chance 5 RX12) (hRm : wRm C 9 214 0 0) (hE : wEnd C (some .int) ad n (fun r I' J' R' => (R' = R) ∧ Q r I' J')) (hRF : RF R) {l1 : Int} {l2 : Int} {l3 : Int}     {k25 : Int → Int → mI → mI → Prop} (kk25 : ∀ (y2 : Int) (y3 : Int) (I' : mI) (J' : mI), k25 y2 y3 I' J' → WM C ad n I' J' R 0 0 25 [(0, vr 159), (1, vi l1), (2, vi y2), (3, vi y3)] []) (hw : p12_chance_b25_body l1 Q k25 l2 l3 I J) : WM C ad n I J R 0 0 25 [(0, vr 159), (1, vi l1), (2, vi l2), (3, vi l3)] [] := by
  unfold p12_chance_b25_body at hw
  refine wm_iload_n hC 3 dX12_chance_25 rfl ?_
  refine wm_iload_n hC 1 dX12_chance_26 rfl ?_
  refine wm_icmp_ge (tgt := 114) hC dX12_chance_27 (by decide) hw (fun hw => ?_) (fun hw => ?_)
  · refine wm_iload_n hC 2 dX12_chance_114 rfl ?_
    exact wm_ireturn hC hE dX12_chance_115 ⟨rfl, hw⟩
  · refine wm_aload_n hC 0 dX12_chance_30 rfl (k_ne0 kk_159 (by decide)) ?_
    refine wm_bipush hC dX12_chance_31 (k := ?_)
    refine y_callV_i_J hC hRm noS ml_X12_565 kk_159 (c12_draw hRF  hw) (Nat.le_of_ble_eq_true rfl) (Nat.le_of_ble_eq_true rfl) ⟨Nat.zero_le _, Nat.zero_le _⟩ rfl (st := []) rfl (Nat.le_of_ble_eq_true rfl) dX12_chance_33 (fun r3 J1 hw => ?_)
    refine wm_aload_n hC 0 dX12_chance_36 rfl (k_ne0 kk_159 (by decide)) ?_
    refine x_getR3 hC 25 fl_X12_87 rfl kk_159 (rf_159_25 hRF) dX12_chance_37 ?_
    refine wm_aload_n hC 0 dX12_chance_40 rfl (k_ne0 kk_159 (by decide)) ?_
    refine x_getI hC 13 fl_X12_51 rfl kk_159 dX12_chance_41 ?_
    refine x_iald2 hC kk_172 kn_172 dX12_chance_44 hw (fun hw => ?_)
    refine wm_icmp_ge (tgt := 64) hC dX12_chance_45 (by decide) hw (fun hw => ?_) (fun hw => ?_)
    · exact w12_chance_b64 hC hRm hE hRF kk25 hw
    · refine wm_aload_n hC 0 dX12_chance_48 rfl (k_ne0 kk_159 (by decide)) ?_
      refine x_getR3 hC 14 fl_X12_54 rfl kk_159 (rf_159_14 hRF) dX12_chance_49 ?_
      refine wm_aload_n hC 0 dX12_chance_52 rfl (k_ne0 kk_159 (by decide)) ?_
      refine x_getI hC 13 fl_X12_51 rfl kk_159 dX12_chance_53 ?_
      refine x_iald2 hC kk_161 kn_161 dX12_chance_56 hw (fun hw => ?_)
      refine wm_if_le (tgt := 64) hC dX12_chance_57 (by decide) hw (fun hw => ?_) (fun hw => ?_)
      · exact w12_chance_b64 hC hRm hE hRF kk25 hw
      · refine wm_iconst hC dX12_chance_60 (k := ?_)
        refine wm_goto (tgt := 65) hC dX12_chance_61 (by decide) ?_
        exact w12_chance_b65 hC hRm hE hRF kk25 hw
set_option maxRecDepth 20000 in
theorem w12_chance_b25 {C : wX} {ad : Nat → Nat} {n : Nat} {R : mR} {Q : Int → mI → mI → Prop} (hC : wOK C cX12_chance 5 RX12) (hRm : wRm C 9 214 0 0) (hE : wEnd C (some .int) ad n (fun r I' J' R' => (R' = R) ∧ Q r I' J')) (hRF : RF R) {l1 : Int}     : ∀ (f : Nat) (l2 : Int) (l3 : Int) (I : mI) (J : mI), p12_chance_b25 l1 Q f l2 l3 I J → WM C ad n I J R 0 0 25 [(0, vr 159), (1, vi l1), (2, vi l2), (3, vi l3)] [] := by
  intro f
  induction f with
  | zero => intro l2 l3 I J hw; exact hw.elim
  | succ f ih => intro l2 l3 I J hw; exact w12_chance_b25_body hC hRm hE hRF  (fun a0 a1 a2 a3 aw => ih a0 a1 a2 a3 aw) hw
def p12_chance (l1 : Int) (I : mI) (J : mI) (Q : Int → mI → mI → Prop) : Prop := (p12_isAhead l1 1 40 I (fun r1 => (if r1 = 0 then (p12_refuses 2 I (fun r2 I2 => (Q r2 I2 J))) else (p12_keeps I (fun I1 => (∃ f, p12_chance_b25 l1 Q f 0 0 I1 J))))))
set_option maxRecDepth 20000 in
theorem c12_chance {ad : Nat → Nat} {n : Nat} {I J : mI} {R : mR} {Q : Int → mI → mI → Prop}  (hRF : RF R) {l1 : Int}   (hw : p12_chance l1 I J Q) : wMet yX12_chance cX12_chance 5 (some .int) 9 214 false ad n I J R [vr 159, vi l1] (fun r I' J' R' => (R' = R) ∧ Q r I' J') := by
  refine wMet_of (by decide) (Nat.le_of_ble_eq_true rfl) (fun C hC hRm hE hS => ?_)
  refine (show WM C ad n I J R 0 0 0 [(0, vr 159), (1, vi l1)] [] from ?_)
  unfold p12_chance at hw
  refine wm_aload_n hC 0 dX12_chance_0 rfl (k_ne0 kk_159 (by decide)) ?_
  refine wm_iload_n hC 1 dX12_chance_1 rfl ?_
  refine wm_iconst hC dX12_chance_2 (k := ?_)
  refine wm_bipush hC dX12_chance_3 (k := ?_)
  refine y_callV_z_n hC hRm noS ml_X12_529 kk_159 (c12_isAhead hRF  hw) (Nat.le_of_ble_eq_true rfl) (Nat.le_of_ble_eq_true rfl) ⟨Nat.zero_le _, Nat.zero_le _⟩ rfl (st := []) rfl (Nat.le_of_ble_eq_true rfl) dX12_chance_5 (fun r1 hw => ?_)
  refine wm_if_ne (tgt := 17) hC dX12_chance_8 (by decide) hw (fun hw => ?_) (fun hw => ?_)
  · refine wm_aload_n hC 0 dX12_chance_11 rfl (k_ne0 kk_159 (by decide)) ?_
    refine wm_iconst hC dX12_chance_12 (k := ?_)
    refine y_callV_i_I hC hRm noS ml_X12_222 kk_159 (c12_refuses hRF  hw) (Nat.le_of_ble_eq_true rfl) (Nat.le_of_ble_eq_true rfl) ⟨Nat.zero_le _, Nat.zero_le _⟩ rfl (st := []) rfl (Nat.le_of_ble_eq_true rfl) dX12_chance_13 (fun r2 I2 hw => ?_)
    exact wm_ireturn hC hE dX12_chance_16 ⟨rfl, hw⟩
  · refine wm_aload_n hC 0 dX12_chance_17 rfl (k_ne0 kk_159 (by decide)) ?_
    refine y_callV_v_I hC hRm noS ml_X12_554 kk_159 (c12_keeps hRF  hw) (Nat.le_of_ble_eq_true rfl) (Nat.le_of_ble_eq_true rfl) ⟨Nat.zero_le _, Nat.zero_le _⟩ rfl (st := []) rfl (Nat.le_of_ble_eq_true rfl) dX12_chance_18 (fun I1 hw => ?_)
    refine wm_iconst hC dX12_chance_21 (k := ?_)
    refine wm_istore_n hC dX12_chance_22 (by decide) (L2 := [(2, vi 0), (0, vr 159), (1, vi l1)]) rfl ?_
    refine wm_iconst hC dX12_chance_23 (k := ?_)
    refine wm_istore_n hC dX12_chance_24 (by decide) (L2 := [(3, vi 0), (2, vi 0), (0, vr 159), (1, vi l1)]) rfl ?_
    obtain ⟨f, hw⟩ := hw
    refine wm_sub [2, 3, 1, 0] (L2 := [(0, vr 159), (1, vi l1), (2, vi 0), (3, vi 0)]) rfl ?_
    exact w12_chance_b25 hC hRm hE hRF  f _ _ _ _ hw
