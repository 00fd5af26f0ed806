def P6_readWears (l0 : Nat) (I : mI) (R : mR) (Q : mI → Prop) : Prop := (P6_findNamed l0 2 I R (fun r1 I1 => (if r1 = (-1) then (Q I1) else (kK (R l0 1) = 10 ∧ (P10_step (R l0 1) I1 (fun I2 => (P6_findNamed l0 1 I2 R (fun r2 I3 => (if r2 = (-1) then (Q I3) else (kK (R l0 2) = 3 ∧ (kK (R (R l0 2) 4) = 21 ∧ (((0 : Int) ≤ r1 ∧ r1 < (kN (R (R l0 2) 4) : Int)) ∧ wLet (up I3 (R (R l0 2) 4) r1 r2) (fun I4 => (kK (R l0 1) = 10 ∧ (P10_step (R l0 1) I4 (fun I5 => (Q I5)))))))))))))))))
set_option maxRecDepth 20000 in
theorem C6_readWears {ad : Nat → Nat} {n : Nat} {I J : mI} {R : mR} {Q : mI → Prop} {l0 : Nat} (hk0 : kK l0 = 6) (hw : P6_readWears l0 I R Q) : wMet yX6_readWears cX6_readWears 3 none 5 95 ad n I J R [vr l0] (fun _ I' J' R' => (J' = J ∧ R' = R) ∧ Q I') := by
  refine wMet_of (by decide) (Nat.le_of_ble_eq_true rfl) (fun C hC hRm hE => ?_)
  refine (show WM C ad n I J R 0 0 0 [(0, vr l0)] [] from ?_)
  unfold P6_readWears at hw
  refine wm_aload_n hC 0 dX6_readWears_0 rfl (k_ne0 hk0 (by decide)) ?_
  refine wm_iconst hC dX6_readWears_1 (k := ?_)
  refine y_callV_i_I hC hRm ml_X6_159 hk0 (C6_findNamed hk0 hw) (Nat.le_of_ble_eq_true rfl) (Nat.le_of_ble_eq_true rfl) ⟨Nat.zero_le _, Nat.zero_le _⟩ rfl (st := []) rfl (Nat.le_of_ble_eq_true rfl) dX6_readWears_2 (fun r1 I1 hw => ?_)
  refine wm_istore_n hC dX6_readWears_5 (by decide) (L2 := [(1, vi r1), (0, vr l0)]) rfl ?_
  refine wm_iload_n hC 0 dX6_readWears_6 rfl ?_
  refine wm_iconst hC dX6_readWears_7 (k := ?_)
  refine wm_icmp_ne (tgt := 12) hC dX6_readWears_8 (by decide) hw (fun hw => ?_) (fun hw => ?_)
  · exact wm_return hC hE dX6_readWears_11 ⟨⟨rfl, rfl⟩, hw⟩
  · refine wm_aload_n hC 1 dX6_readWears_12 rfl (k_ne0 hk0 (by decide)) ?_
    refine x_getR2 hC 1 fl_X6_12 rfl hk0 dX6_readWears_13 hw (fun g1 hw => ?_)
    refine y_callV_v_I hC hRm ml_X6_89 g1 (C10_step g1 hw) (Nat.le_of_ble_eq_true rfl) (Nat.le_of_ble_eq_true rfl) ⟨Nat.zero_le _, Nat.zero_le _⟩ rfl (st := []) rfl (Nat.le_of_ble_eq_true rfl) dX6_readWears_16 (fun I2 hw => ?_)
    refine wm_aload_n hC 1 dX6_readWears_19 rfl (k_ne0 hk0 (by decide)) ?_
    refine wm_iconst hC dX6_readWears_20 (k := ?_)
    refine y_callV_i_I hC hRm ml_X6_159 hk0 (C6_findNamed hk0 hw) (Nat.le_of_ble_eq_true rfl) (Nat.le_of_ble_eq_true rfl) ⟨Nat.zero_le _, Nat.zero_le _⟩ rfl (st := []) rfl (Nat.le_of_ble_eq_true rfl) dX6_readWears_21 (fun r2 I3 hw => ?_)
    refine wm_istore_n hC dX6_readWears_24 (by decide) (L2 := [(2, vi r2), (1, vi r1), (0, vr l0)]) rfl ?_
    refine wm_iload_n hC 0 dX6_readWears_25 rfl ?_
    refine wm_iconst hC dX6_readWears_26 (k := ?_)
    refine wm_icmp_ne (tgt := 31) hC dX6_readWears_27 (by decide) hw (fun hw => ?_) (fun hw => ?_)
    · exact wm_return hC hE dX6_readWears_30 ⟨⟨rfl, rfl⟩, hw⟩
    · refine wm_aload_n hC 2 dX6_readWears_31 rfl (k_ne0 hk0 (by decide)) ?_
      refine x_getR2 hC 2 fl_X6_38 rfl hk0 dX6_readWears_32 hw (fun g2 hw => ?_)
      refine x_getR2 hC 4 fl_X6_171 rfl g2 dX6_readWears_35 hw (fun g3 hw => ?_)
      refine wm_iload_n hC 1 dX6_readWears_38 rfl ?_
      refine wm_iload_n hC 0 dX6_readWears_39 rfl ?_
      refine x_iast hC g3 dX6_readWears_40 hw (fun I4 hw => ?_)
      refine wm_aload_n hC 2 dX6_readWears_41 rfl (k_ne0 hk0 (by decide)) ?_
      refine x_getR2 hC 1 fl_X6_12 rfl hk0 dX6_readWears_42 hw (fun g4 hw => ?_)
      refine y_callV_v_I hC hRm ml_X6_89 g4 (C10_step g4 hw) (Nat.le_of_ble_eq_true rfl) (Nat.le_of_ble_eq_true rfl) ⟨Nat.zero_le _, Nat.zero_le _⟩ rfl (st := []) rfl (Nat.le_of_ble_eq_true rfl) dX6_readWears_45 (fun I5 hw => ?_)
      exact wm_return hC hE dX6_readWears_48 ⟨⟨rfl, rfl⟩, hw⟩
def P6_emit (l0 : Nat) (l1 : Int) (I : mI) (R : mR) (Q : mI → Prop) : Prop := (kK (R l0 2) = 3 ∧ (kK (R l0 2) = 3 ∧ (kK (R (R l0 2) 5) = 21 ∧ (if (kN (R (R l0 2) 5) : Int) ≤ (I (R l0 2) 8) then (Q I) else (kK (R l0 2) = 3 ∧ (kK (R (R l0 2) 5) = 21 ∧ (kK (R l0 2) = 3 ∧ (((0 : Int) ≤ (I (R l0 2) 8) ∧ (I (R l0 2) 8) < (kN (R (R l0 2) 5) : Int)) ∧ wLet (up I (R (R l0 2) 5) (I (R l0 2) 8) l1) (fun I1 => (kK (R l0 2) = 3 ∧ (rg ((I1 (R l0 2) 8) + 1) ∧ (wLet (up I1 (R l0 2) 8 ((I1 (R l0 2) 8) + 1)) (fun I2 => (Q I2))))))))))))))
set_option maxRecDepth 20000 in
theorem C6_emit {ad : Nat → Nat} {n : Nat} {I J : mI} {R : mR} {Q : mI → Prop} {l0 : Nat} {l1 : Int} (hk0 : kK l0 = 6) (hw : P6_emit l0 l1 I R Q) : wMet yX6_emit cX6_emit 2 none 1 12 ad n I J R [vr l0, vi l1] (fun _ I' J' R' => (J' = J ∧ R' = R) ∧ Q I') := by
  refine wMet_of (by decide) (Nat.le_of_ble_eq_true rfl) (fun C hC hRm hE => ?_)
  refine (show WM C ad n I J R 0 0 0 [(0, vr l0), (1, vi l1)] [] from ?_)
  unfold P6_emit at hw
  refine wm_aload_n hC 0 dX6_emit_0 rfl (k_ne0 hk0 (by decide)) ?_
  refine x_getR2 hC 2 fl_X6_38 rfl hk0 dX6_emit_1 hw (fun g1 hw => ?_)
  refine x_getI hC 8 fl_X6_180 rfl g1 dX6_emit_4 ?_
  refine wm_aload_n hC 0 dX6_emit_7 rfl (k_ne0 hk0 (by decide)) ?_
  refine x_getR2 hC 2 fl_X6_38 rfl hk0 dX6_emit_8 hw (fun g2 hw => ?_)
  refine x_getR2 hC 5 fl_X6_192 rfl g2 dX6_emit_11 hw (fun g3 hw => ?_)
  refine x_alen hC g3 (by decide) dX6_emit_14 ?_
  refine wm_icmp_ge (tgt := 47) hC dX6_emit_15 (by decide) hw (fun hw => ?_) (fun hw => ?_)
  · exact wm_return hC hE dX6_emit_47 ⟨⟨rfl, rfl⟩, hw⟩
  · refine wm_aload_n hC 0 dX6_emit_18 rfl (k_ne0 hk0 (by decide)) ?_
    refine x_getR2 hC 2 fl_X6_38 rfl hk0 dX6_emit_19 hw (fun g4 hw => ?_)
    refine x_getR2 hC 5 fl_X6_192 rfl g4 dX6_emit_22 hw (fun g5 hw => ?_)
    refine wm_aload_n hC 0 dX6_emit_25 rfl (k_ne0 hk0 (by decide)) ?_
    refine x_getR2 hC 2 fl_X6_38 rfl hk0 dX6_emit_26 hw (fun g6 hw => ?_)
    refine x_getI hC 8 fl_X6_180 rfl g6 dX6_emit_29 ?_
    refine wm_iload_n hC 1 dX6_emit_32 rfl ?_
    refine x_iast hC g5 dX6_emit_33 hw (fun I1 hw => ?_)
    refine wm_aload_n hC 0 dX6_emit_34 rfl (k_ne0 hk0 (by decide)) ?_
    refine x_getR2 hC 2 fl_X6_38 rfl hk0 dX6_emit_35 hw (fun g7 hw => ?_)
    refine wm_dup hC dX6_emit_38 (k := ?_)
    refine x_getI hC 8 fl_X6_180 rfl g7 dX6_emit_39 ?_
    refine wm_iconst hC dX6_emit_42 (k := ?_)
    refine x_iadd hC dX6_emit_43 hw (fun hw => ?_)
    refine x_putI hC 8 fl_X6_180 rfl g7 dX6_emit_44 hw (fun I2 hw => ?_)
    exact wm_return hC hE dX6_emit_47 ⟨⟨rfl, rfl⟩, hw⟩
def P6_opens (l0 : Nat) (I : mI) (R : mR) (Q : Int → mI → Prop) : Prop := (if (I l0 3) < 7 then (rg ((I l0 3) + 1) ∧ (wLet (up I l0 3 ((I l0 3) + 1)) (fun I1 => (kK (R l0 1) = 10 ∧ (P10_step (R l0 1) I1 (fun I2 => (Q 1 I2))))))) else (P6_fail l0 5 I R (fun I3 => (Q 0 I3))))
set_option maxRecDepth 20000 in
theorem C6_opens {ad : Nat → Nat} {n : Nat} {I J : mI} {R : mR} {Q : Int → mI → Prop} {l0 : Nat} (hk0 : kK l0 = 6) (hw : P6_opens l0 I R Q) : wMet yX6_opens cX6_opens 1 (some .boolean) 3 53 ad n I J R [vr l0] (fun r I' J' R' => (J' = J ∧ R' = R) ∧ Q r I') := by
  refine wMet_of (by decide) (Nat.le_of_ble_eq_true rfl) (fun C hC hRm hE => ?_)
  refine (show WM C ad n I J R 0 0 0 [(0, vr l0)] [] from ?_)
  unfold P6_opens at hw
  refine wm_aload_n hC 0 dX6_opens_0 rfl (k_ne0 hk0 (by decide)) ?_
  refine x_getI hC 3 fl_X6_18 rfl hk0 dX6_opens_1 ?_
  refine wm_bipush hC dX6_opens_4 (k := ?_)
  refine wm_icmp_lt (tgt := 16) hC dX6_opens_6 (by decide) hw (fun hw => ?_) (fun hw => ?_)
  · refine wm_aload_n hC 0 dX6_opens_16 rfl (k_ne0 hk0 (by decide)) ?_
    refine wm_dup hC dX6_opens_17 (k := ?_)
    refine x_getI hC 3 fl_X6_18 rfl hk0 dX6_opens_18 ?_
    refine wm_iconst hC dX6_opens_21 (k := ?_)
    refine x_iadd hC dX6_opens_22 hw (fun hw => ?_)
    refine x_putI hC 3 fl_X6_18 rfl hk0 dX6_opens_23 hw (fun I1 hw => ?_)
    refine wm_aload_n hC 0 dX6_opens_26 rfl (k_ne0 hk0 (by decide)) ?_
    refine x_getR2 hC 1 fl_X6_12 rfl hk0 dX6_opens_27 hw (fun g1 hw => ?_)
    refine y_callV_v_I hC hRm ml_X6_89 g1 (C10_step g1 hw) (Nat.le_of_ble_eq_true rfl) (Nat.le_of_ble_eq_true rfl) ⟨Nat.zero_le _, Nat.zero_le _⟩ rfl (st := []) rfl (Nat.le_of_ble_eq_true rfl) dX6_opens_30 (fun I2 hw => ?_)
    refine wm_iconst hC dX6_opens_33 (k := ?_)
    exact wm_zreturn hC hE (Or.inr rfl) dX6_opens_34 ⟨⟨rfl, rfl⟩, hw⟩
  · refine wm_aload_n hC 0 dX6_opens_9 rfl (k_ne0 hk0 (by decide)) ?_
    refine wm_iconst hC dX6_opens_10 (k := ?_)
    refine y_callV_v_I hC hRm ml_X6_92 hk0 (C6_fail hk0 hw) (Nat.le_of_ble_eq_true rfl) (Nat.le_of_ble_eq_true rfl) ⟨Nat.zero_le _, Nat.zero_le _⟩ rfl (st := []) rfl (Nat.le_of_ble_eq_true rfl) dX6_opens_11 (fun I3 hw => ?_)
    refine wm_iconst hC dX6_opens_14 (k := ?_)
    exact wm_zreturn hC hE (Or.inl rfl) dX6_opens_15 ⟨⟨rfl, rfl⟩, hw⟩
def P6_variable (l0 : Nat) (l1 : Int) (I : mI) (Q : Int → Prop) : Prop := (if l1 = 15 then (Q (-1)) else (if (I l0 4) = 2 then (if l1 = 6 then (Q (-8)) else (if l1 = 20 then (Q (-9)) else (Q 0))) else (if l1 = 16 then (Q (-2)) else (if l1 = 3 then (Q (-3)) else (if (I l0 4) = 1 then (Q 0) else (if l1 = 14 then (Q (-7)) else (if l1 = 17 then (Q (-4)) else (if l1 = 18 then (Q (-5)) else (if l1 = 19 then (Q (-6)) else (Q 0))))))))))
set_option maxRecDepth 20000 in
theorem C6_variable {ad : Nat → Nat} {n : Nat} {I J : mI} {R : mR} {Q : Int → Prop} {l0 : Nat} {l1 : Int} (hk0 : kK l0 = 6) (hw : P6_variable l0 l1 I Q) : wMet yX6_variable cX6_variable 2 (some .int) 1 12 ad n I J R [vr l0, vi l1] (fun r I' J' R' => (I' = I ∧ J' = J ∧ R' = R) ∧ Q r) := by
  refine wMet_of (by decide) (Nat.le_of_ble_eq_true rfl) (fun C hC hRm hE => ?_)
  refine (show WM C ad n I J R 0 0 0 [(0, vr l0), (1, vi l1)] [] from ?_)
  unfold P6_variable at hw
  refine wm_iload_n hC 1 dX6_variable_0 rfl ?_
  refine wm_bipush hC dX6_variable_1 (k := ?_)
  refine wm_icmp_ne (tgt := 8) hC dX6_variable_3 (by decide) hw (fun hw => ?_) (fun hw => ?_)
  · refine wm_iconst hC dX6_variable_6 (k := ?_)
    exact wm_ireturn hC hE dX6_variable_7 ⟨⟨rfl, rfl, rfl⟩, hw⟩
  · refine wm_aload_n hC 0 dX6_variable_8 rfl (k_ne0 hk0 (by decide)) ?_
    refine x_getI hC 4 fl_X6_22 rfl hk0 dX6_variable_9 ?_
    refine wm_iconst hC dX6_variable_12 (k := ?_)
    refine wm_icmp_ne (tgt := 40) hC dX6_variable_13 (by decide) hw (fun hw => ?_) (fun hw => ?_)
    · refine wm_iload_n hC 1 dX6_variable_16 rfl ?_
      refine wm_bipush hC dX6_variable_17 (k := ?_)
      refine wm_icmp_ne (tgt := 27) hC dX6_variable_19 (by decide) hw (fun hw => ?_) (fun hw => ?_)
      · refine wm_bipush hC dX6_variable_22 (k := ?_)
        refine wm_goto (tgt := 39) hC dX6_variable_24 (by decide) ?_
        exact wm_ireturn hC hE dX6_variable_39 ⟨⟨rfl, rfl, rfl⟩, hw⟩
      · refine wm_iload_n hC 1 dX6_variable_27 rfl ?_
        refine wm_bipush hC dX6_variable_28 (k := ?_)
        refine wm_icmp_ne (tgt := 38) hC dX6_variable_30 (by decide) hw (fun hw => ?_) (fun hw => ?_)
        · refine wm_bipush hC dX6_variable_33 (k := ?_)
          refine wm_goto (tgt := 39) hC dX6_variable_35 (by decide) ?_
          exact wm_ireturn hC hE dX6_variable_39 ⟨⟨rfl, rfl, rfl⟩, hw⟩
        · refine wm_iconst hC dX6_variable_38 (k := ?_)
          exact wm_ireturn hC hE dX6_variable_39 ⟨⟨rfl, rfl, rfl⟩, hw⟩
    · refine wm_iload_n hC 1 dX6_variable_40 rfl ?_
      refine wm_bipush hC dX6_variable_41 (k := ?_)
      refine wm_icmp_ne (tgt := 49) hC dX6_variable_43 (by decide) hw (fun hw => ?_) (fun hw => ?_)
      · refine wm_bipush hC dX6_variable_46 (k := ?_)
        exact wm_ireturn hC hE dX6_variable_48 ⟨⟨rfl, rfl, rfl⟩, hw⟩
      · refine wm_iload_n hC 1 dX6_variable_49 rfl ?_
        refine wm_iconst hC dX6_variable_50 (k := ?_)
        refine wm_icmp_ne (tgt := 57) hC dX6_variable_51 (by decide) hw (fun hw => ?_) (fun hw => ?_)
        · refine wm_bipush hC dX6_variable_54 (k := ?_)
          exact wm_ireturn hC hE dX6_variable_56 ⟨⟨rfl, rfl, rfl⟩, hw⟩
        · refine wm_aload_n hC 0 dX6_variable_57 rfl (k_ne0 hk0 (by decide)) ?_
          refine x_getI hC 4 fl_X6_22 rfl hk0 dX6_variable_58 ?_
          refine wm_iconst hC dX6_variable_61 (k := ?_)
          refine wm_icmp_ne (tgt := 67) hC dX6_variable_62 (by decide) hw (fun hw => ?_) (fun hw => ?_)
          · refine wm_iconst hC dX6_variable_65 (k := ?_)
            exact wm_ireturn hC hE dX6_variable_66 ⟨⟨rfl, rfl, rfl⟩, hw⟩
          · refine wm_iload_n hC 1 dX6_variable_67 rfl ?_
            by_cases hc1 : l1 = 14
            · rw [if_pos hc1] at hw
              refine wm_tableIn (v := 14) (tgt := 117) hC dX6_variable_68 hc1 (by decide) (by decide) rfl rfl ?_
              refine wm_bipush hC dX6_variable_117 (k := ?_)
              exact wm_ireturn hC hE dX6_variable_119 ⟨⟨rfl, rfl, rfl⟩, hw⟩
            rw [if_neg hc1] at hw
            by_cases hc2 : l1 = 17
            · rw [if_pos hc2] at hw
              refine wm_tableIn (v := 17) (tgt := 108) hC dX6_variable_68 hc2 (by decide) (by decide) rfl rfl ?_
              refine wm_bipush hC dX6_variable_108 (k := ?_)
              exact wm_ireturn hC hE dX6_variable_110 ⟨⟨rfl, rfl, rfl⟩, hw⟩
            rw [if_neg hc2] at hw
            by_cases hc3 : l1 = 18
            · rw [if_pos hc3] at hw
              refine wm_tableIn (v := 18) (tgt := 111) hC dX6_variable_68 hc3 (by decide) (by decide) rfl rfl ?_
              refine wm_bipush hC dX6_variable_111 (k := ?_)
              exact wm_ireturn hC hE dX6_variable_113 ⟨⟨rfl, rfl, rfl⟩, hw⟩
            rw [if_neg hc3] at hw
            by_cases hc4 : l1 = 19
            · rw [if_pos hc4] at hw
              refine wm_tableIn (v := 19) (tgt := 114) hC dX6_variable_68 hc4 (by decide) (by decide) rfl rfl ?_
              refine wm_bipush hC dX6_variable_114 (k := ?_)
              exact wm_ireturn hC hE dX6_variable_116 ⟨⟨rfl, rfl, rfl⟩, hw⟩
            rw [if_neg hc4] at hw
            refine wm_tableOut (tgt := 120) hC dX6_variable_68 (by omega) rfl ?_
            refine wm_iconst hC dX6_variable_120 (k := ?_)
            exact wm_ireturn hC hE dX6_variable_121 ⟨⟨rfl, rfl, rfl⟩, hw⟩
def P7_begin_b20_body (l0 : Nat) (l1 : Nat) (R : mR) (Q : mI → Prop) (k20 : Int → mI → Prop) (l2 : Int) (I : mI) : Prop := (if (6 : Int) ≤ l2 then (Q I) else (kK (R l0 3) = 21 ∧ (((0 : Int) ≤ l2 ∧ l2 < (kN (R l0 3) : Int)) ∧ wLet (up I (R l0 3) l2 l2) (fun I4 => (kK (R l0 4) = 21 ∧ (((0 : Int) ≤ l2 ∧ l2 < (kN (R l0 4) : Int)) ∧ wLet (up I4 (R l0 4) l2 5) (fun I5 => (kK (R l0 5) = 21 ∧ (kK (R l1 4) = 21 ∧ (((0 : Int) ≤ l2 ∧ l2 < (kN (R l1 4) : Int)) ∧ (((0 : Int) ≤ l2 ∧ l2 < (kN (R l0 5) : Int)) ∧ wLet (up I5 (R l0 5) l2 (I5 (R l1 4) l2)) (fun I6 => (rg (l2 + 1) ∧ (k20 (l2 + 1) I6))))))))))))))
def P7_begin_b20 (l0 : Nat) (l1 : Nat) (R : mR) (Q : mI → Prop) : Nat → Int → mI → Prop
  | 0 => fun _ _ => False
  | f + 1 => fun l2 I => P7_begin_b20_body l0 l1 R Q (P7_begin_b20 l0 l1 R Q f) l2 I
set_option maxRecDepth 20000 in
theorem W7_begin_b20_body {C : wX} {ad : Nat → Nat} {n : Nat} {I J : mI} {R : mR} {Q : mI → Prop} (hC : wOK C cX7_begin 3 RX7) (hRm : wRm C 1 12 0 0) (hE : wEnd C none ad n (fun _ I' J' R' => (J' = J ∧ R' = R) ∧ Q I')) {l0 : Nat} {l1 : Nat} {l2 : Int}   (hk0 : kK l0 = 7) (hk1 : kK l1 = 3)  {k20 : Int → mI → Prop} (kk20 : ∀ (y2 : Int) (I' : mI), k20 y2 I' → WM C ad n I' J R 0 0 20 [(0, vr l0), (1, vr l1), (2, vi y2)] []) (hw : P7_begin_b20_body l0 l1 R Q k20 l2 I) : WM C ad n I J R 0 0 20 [(0, vr l0), (1, vr l1), (2, vi l2)] [] := by
  unfold P7_begin_b20_body at hw
  refine wm_iload_n hC 2 dX7_begin_20 rfl ?_
  refine wm_bipush hC dX7_begin_21 (k := ?_)
  refine wm_icmp_ge (tgt := 58) hC dX7_begin_23 (by decide) hw (fun hw => ?_) (fun hw => ?_)
  · exact wm_return hC hE dX7_begin_58 ⟨⟨rfl, rfl⟩, hw⟩
  · refine wm_aload_n hC 0 dX7_begin_26 rfl (k_ne0 hk0 (by decide)) ?_
    refine x_getR2 hC 3 fl_X7_21 rfl hk0 dX7_begin_27 hw (fun g1 hw => ?_)
    refine wm_iload_n hC 2 dX7_begin_30 rfl ?_
    refine wm_iload_n hC 2 dX7_begin_31 rfl ?_
    refine x_iast hC g1 dX7_begin_32 hw (fun I4 hw => ?_)
    refine wm_aload_n hC 0 dX7_begin_33 rfl (k_ne0 hk0 (by decide)) ?_
    refine x_getR2 hC 4 fl_X7_25 rfl hk0 dX7_begin_34 hw (fun g2 hw => ?_)
    refine wm_iload_n hC 2 dX7_begin_37 rfl ?_
    refine wm_iconst hC dX7_begin_38 (k := ?_)
    refine x_iast hC g2 dX7_begin_39 hw (fun I5 hw => ?_)
    refine wm_aload_n hC 0 dX7_begin_40 rfl (k_ne0 hk0 (by decide)) ?_
    refine x_getR2 hC 5 fl_X7_28 rfl hk0 dX7_begin_41 hw (fun g3 hw => ?_)
    refine wm_iload_n hC 2 dX7_begin_44 rfl ?_
    refine wm_aload_n hC 1 dX7_begin_45 rfl (k_ne0 hk1 (by decide)) ?_
    refine x_getR2 hC 4 fl_X7_39 rfl hk1 dX7_begin_46 hw (fun g4 hw => ?_)
    refine wm_iload_n hC 2 dX7_begin_49 rfl ?_
    refine x_iald hC g4 dX7_begin_50 hw (fun hw => ?_)
    refine x_iast hC g3 dX7_begin_51 hw (fun I6 hw => ?_)
    refine x_iinc hC 2 dX7_begin_52 rfl (by decide) (L2 := [(2, vi (l2 + 1)), (0, vr l0), (1, vr l1)]) rfl hw (fun hw => ?_)
    refine wm_goto (tgt := 20) hC dX7_begin_55 (by decide) ?_
    refine wm_sub [1, 2, 0] (L2 := [(0, vr l0), (1, vr l1), (2, vi (l2 + 1))]) rfl ?_
    exact kk20 _ _ hw
set_option maxRecDepth 20000 in
theorem W7_begin_b20 {C : wX} {ad : Nat → Nat} {n : Nat} {J : mI} {R : mR} {Q : mI → Prop} (hC : wOK C cX7_begin 3 RX7) (hRm : wRm C 1 12 0 0) (hE : wEnd C none ad n (fun _ I' J' R' => (J' = J ∧ R' = R) ∧ Q I')) {l0 : Nat} {l1 : Nat}   (hk0 : kK l0 = 7) (hk1 : kK l1 = 3)  : ∀ (f : Nat) (l2 : Int) (I : mI), P7_begin_b20 l0 l1 R Q f l2 I → WM C ad n I J R 0 0 20 [(0, vr l0), (1, vr l1), (2, vi l2)] [] := by
  intro f
  induction f with
  | zero => intro l2 I hw; exact hw.elim
  | succ f ih => intro l2 I hw; exact W7_begin_b20_body hC hRm hE hk0 hk1 (fun a0 a1 hw => ih a0 a1 hw) hw
def P7_begin (l0 : Nat) (l1 : Nat) (I : mI) (R : mR) (Q : mI → Prop) : Prop := (wLet (up I l0 0 0) (fun I1 => (wLet (up I1 l0 1 (I1 l1 10)) (fun I2 => (wLet (up I2 l0 2 0) (fun I3 => (∃ f, P7_begin_b20 l0 l1 R Q f 0 I3)))))))
set_option maxRecDepth 20000 in
theorem C7_begin {ad : Nat → Nat} {n : Nat} {I J : mI} {R : mR} {Q : mI → Prop} {l0 : Nat} {l1 : Nat} (hk0 : kK l0 = 7) (hk1 : kK l1 = 3) (hw : P7_begin l0 l1 I R Q) : wMet yX7_begin cX7_begin 3 none 1 12 ad n I J R [vr l0, vr l1] (fun _ I' J' R' => (J' = J ∧ R' = R) ∧ Q I') := by
  refine wMet_of (by decide) (Nat.le_of_ble_eq_true rfl) (fun C hC hRm hE => ?_)
  refine (show WM C ad n I J R 0 0 0 [(0, vr l0), (1, vr l1)] [] from ?_)
  unfold P7_begin at hw
  refine wm_aload_n hC 0 dX7_begin_0 rfl (k_ne0 hk0 (by decide)) ?_
  refine wm_iconst hC dX7_begin_1 (k := ?_)
  refine x_putI hC 0 fl_X7_9 rfl hk0 dX7_begin_2 hw (fun I1 hw => ?_)
  refine wm_aload_n hC 0 dX7_begin_5 rfl (k_ne0 hk0 (by decide)) ?_
  refine wm_aload_n hC 1 dX7_begin_6 rfl (k_ne0 hk1 (by decide)) ?_
  refine x_getI hC 10 fl_X7_34 rfl hk1 dX7_begin_7 ?_
  refine x_putI hC 1 fl_X7_15 rfl hk0 dX7_begin_10 hw (fun I2 hw => ?_)
  refine wm_aload_n hC 0 dX7_begin_13 rfl (k_ne0 hk0 (by decide)) ?_
  refine wm_iconst hC dX7_begin_14 (k := ?_)
  refine x_putI hC 2 fl_X7_18 rfl hk0 dX7_begin_15 hw (fun I3 hw => ?_)
  refine wm_iconst hC dX7_begin_18 (k := ?_)
  refine wm_istore_n hC dX7_begin_19 (by decide) (L2 := [(2, vi 0), (0, vr l0), (1, vr l1)]) rfl ?_
  obtain ⟨f, hw⟩ := hw
  refine wm_sub [1, 2, 0] (L2 := [(0, vr l0), (1, vr l1), (2, vi 0)]) rfl ?_
  exact W7_begin_b20 hC hRm hE hk0 hk1 f _ _ hw
def P7_placeOf_b2_body (l0 : Nat) (l1 : Int) (l2 : Int) (I : mI) (R : mR) (Q : Int → Prop) (k2 : Int → Prop) (l3 : Int) : Prop := (if l2 ≤ l3 then (Q (-1)) else (kK (R l0 3) = 21 ∧ (if (kN (R l0 3) : Int) ≤ l3 then (Q (-1)) else (kK (R l0 3) = 21 ∧ (((0 : Int) ≤ l3 ∧ l3 < (kN (R l0 3) : Int)) ∧ (if (I (R l0 3) l3) = l1 then (Q l3) else (rg (l3 + 1) ∧ (k2 (l3 + 1)))))))))
def P7_placeOf_b2 (l0 : Nat) (l1 : Int) (l2 : Int) (I : mI) (R : mR) (Q : Int → Prop) : Nat → Int → Prop
  | 0 => fun _ => False
  | f + 1 => fun l3 => P7_placeOf_b2_body l0 l1 l2 I R Q (P7_placeOf_b2 l0 l1 l2 I R Q f) l3
set_option maxRecDepth 20000 in
theorem W7_placeOf_b2_body {C : wX} {ad : Nat → Nat} {n : Nat} {I J : mI} {R : mR} {Q : Int → Prop} (hC : wOK C cX7_placeOf 4 RX7) (hRm : wRm C 1 12 0 0) (hE : wEnd C (some .int) ad n (fun r I' J' R' => (I' = I ∧ J' = J ∧ R' = R) ∧ Q r)) {l0 : Nat} {l1 : Int} {l2 : Int} {l3 : Int}   (hk0 : kK l0 = 7)  {k2 : Int → Prop} (kk2 : ∀ (y3 : Int), k2 y3 → WM C ad n I J R 0 0 2 [(0, vr l0), (1, vi l1), (2, vi l2), (3, vi y3)] []) (hw : P7_placeOf_b2_body l0 l1 l2 I R Q k2 l3) : WM C ad n I J R 0 0 2 [(0, vr l0), (1, vi l1), (2, vi l2), (3, vi l3)] [] := by
  unfold P7_placeOf_b2_body at hw
  refine wm_iload_n hC 3 dX7_placeOf_2 rfl ?_
  refine wm_iload_n hC 2 dX7_placeOf_3 rfl ?_
  refine wm_icmp_ge (tgt := 34) hC dX7_placeOf_4 (by decide) hw (fun hw => ?_) (fun hw => ?_)
  · refine wm_iconst hC dX7_placeOf_34 (k := ?_)
    exact wm_ireturn hC hE dX7_placeOf_35 ⟨⟨rfl, rfl, rfl⟩, hw⟩
  · refine wm_iload_n hC 3 dX7_placeOf_7 rfl ?_
    refine wm_aload_n hC 0 dX7_placeOf_8 rfl (k_ne0 hk0 (by decide)) ?_
    refine x_getR2 hC 3 fl_X7_21 rfl hk0 dX7_placeOf_9 hw (fun g1 hw => ?_)
    refine x_alen hC g1 (by decide) dX7_placeOf_12 ?_
    refine wm_icmp_ge (tgt := 34) hC dX7_placeOf_13 (by decide) hw (fun hw => ?_) (fun hw => ?_)
    · refine wm_iconst hC dX7_placeOf_34 (k := ?_)
      exact wm_ireturn hC hE dX7_placeOf_35 ⟨⟨rfl, rfl, rfl⟩, hw⟩
    · refine wm_aload_n hC 0 dX7_placeOf_16 rfl (k_ne0 hk0 (by decide)) ?_
      refine x_getR2 hC 3 fl_X7_21 rfl hk0 dX7_placeOf_17 hw (fun g2 hw => ?_)
      refine wm_iload_n hC 3 dX7_placeOf_20 rfl ?_
      refine x_iald hC g2 dX7_placeOf_21 hw (fun hw => ?_)
      refine wm_iload_n hC 1 dX7_placeOf_22 rfl ?_
      refine wm_icmp_ne (tgt := 28) hC dX7_placeOf_23 (by decide) hw (fun hw => ?_) (fun hw => ?_)
      · refine wm_iload_n hC 3 dX7_placeOf_26 rfl ?_
        exact wm_ireturn hC hE dX7_placeOf_27 ⟨⟨rfl, rfl, rfl⟩, hw⟩
      · refine x_iinc hC 3 dX7_placeOf_28 rfl (by decide) (L2 := [(3, vi (l3 + 1)), (0, vr l0), (1, vi l1), (2, vi l2)]) rfl hw (fun hw => ?_)
        refine wm_goto (tgt := 2) hC dX7_placeOf_31 (by decide) ?_
        refine wm_sub [1, 2, 3, 0] (L2 := [(0, vr l0), (1, vi l1), (2, vi l2), (3, vi (l3 + 1))]) rfl ?_
        exact kk2 _ hw
set_option maxRecDepth 20000 in
theorem W7_placeOf_b2 {C : wX} {ad : Nat → Nat} {n : Nat} {I J : mI} {R : mR} {Q : Int → Prop} (hC : wOK C cX7_placeOf 4 RX7) (hRm : wRm C 1 12 0 0) (hE : wEnd C (some .int) ad n (fun r I' J' R' => (I' = I ∧ J' = J ∧ R' = R) ∧ Q r)) {l0 : Nat} {l1 : Int} {l2 : Int}   (hk0 : kK l0 = 7)  : ∀ (f : Nat) (l3 : Int), P7_placeOf_b2 l0 l1 l2 I R Q f l3 → WM C ad n I J R 0 0 2 [(0, vr l0), (1, vi l1), (2, vi l2), (3, vi l3)] [] := by
  intro f
  induction f with
  | zero => intro l3 hw; exact hw.elim
  | succ f ih => intro l3 hw; exact W7_placeOf_b2_body hC hRm hE hk0 (fun a0 hw => ih a0 hw) hw
def P7_placeOf (l0 : Nat) (l1 : Int) (l2 : Int) (I : mI) (R : mR) (Q : Int → Prop) : Prop := (∃ f, P7_placeOf_b2 l0 l1 l2 I R Q f 0)
set_option maxRecDepth 20000 in
theorem C7_placeOf {ad : Nat → Nat} {n : Nat} {I J : mI} {R : mR} {Q : Int → Prop} {l0 : Nat} {l1 : Int} {l2 : Int} (hk0 : kK l0 = 7) (hw : P7_placeOf l0 l1 l2 I R Q) : wMet yX7_placeOf cX7_placeOf 4 (some .int) 1 12 ad n I J R [vr l0, vi l1, vi l2] (fun r I' J' R' => (I' = I ∧ J' = J ∧ R' = R) ∧ Q r) := by
  refine wMet_of (by decide) (Nat.le_of_ble_eq_true rfl) (fun C hC hRm hE => ?_)
  refine (show WM C ad n I J R 0 0 0 [(0, vr l0), (1, vi l1), (2, vi l2)] [] from ?_)
  unfold P7_placeOf at hw
  refine wm_iconst hC dX7_placeOf_0 (k := ?_)
  refine wm_istore_n hC dX7_placeOf_1 (by decide) (L2 := [(3, vi 0), (0, vr l0), (1, vi l1), (2, vi l2)]) rfl ?_
  obtain ⟨f, hw⟩ := hw
  refine wm_sub [1, 2, 3, 0] (L2 := [(0, vr l0), (1, vi l1), (2, vi l2), (3, vi 0)]) rfl ?_
  exact W7_placeOf_b2 hC hRm hE hk0 f _ hw
def P7_keptOf (l0 : Nat) (l1 : Int) (l2 : Int) (I : mI) (R : mR) (Q : Int → Prop) : Prop := (if l1 < 0 then (Q (-1)) else (if (I l0 2) ≤ l1 then (Q (-1)) else (if l2 < 0 then (Q (-1)) else (if l2 ≤ 2 then (kK (R l0 6) = 21 ∧ (rg (3 * l1) ∧ (rg ((3 * l1) + l2) ∧ (((0 : Int) ≤ ((3 * l1) + l2) ∧ ((3 * l1) + l2) < (kN (R l0 6) : Int)) ∧ (Q (I (R l0 6) ((3 * l1) + l2))))))) else (Q (-1))))))
set_option maxRecDepth 20000 in
theorem C7_keptOf {ad : Nat → Nat} {n : Nat} {I J : mI} {R : mR} {Q : Int → Prop} {l0 : Nat} {l1 : Int} {l2 : Int} (hk0 : kK l0 = 7) (hw : P7_keptOf l0 l1 l2 I R Q) : wMet yX7_keptOf cX7_keptOf 3 (some .int) 1 12 ad n I J R [vr l0, vi l1, vi l2] (fun r I' J' R' => (I' = I ∧ J' = J ∧ R' = R) ∧ Q r) := by
  refine wMet_of (by decide) (Nat.le_of_ble_eq_true rfl) (fun C hC hRm hE => ?_)
  refine (show WM C ad n I J R 0 0 0 [(0, vr l0), (1, vi l1), (2, vi l2)] [] from ?_)
  unfold P7_keptOf at hw
  refine wm_iload_n hC 1 dX7_keptOf_0 rfl ?_
  refine wm_if_lt (tgt := 21) hC dX7_keptOf_1 (by decide) hw (fun hw => ?_) (fun hw => ?_)
  · refine wm_iconst hC dX7_keptOf_21 (k := ?_)
    exact wm_ireturn hC hE dX7_keptOf_22 ⟨⟨rfl, rfl, rfl⟩, hw⟩
  · refine wm_iload_n hC 1 dX7_keptOf_4 rfl ?_
    refine wm_aload_n hC 0 dX7_keptOf_5 rfl (k_ne0 hk0 (by decide)) ?_
    refine x_getI hC 2 fl_X7_18 rfl hk0 dX7_keptOf_6 ?_
    refine wm_icmp_ge (tgt := 21) hC dX7_keptOf_9 (by decide) hw (fun hw => ?_) (fun hw => ?_)
    · refine wm_iconst hC dX7_keptOf_21 (k := ?_)
      exact wm_ireturn hC hE dX7_keptOf_22 ⟨⟨rfl, rfl, rfl⟩, hw⟩
    · refine wm_iload_n hC 2 dX7_keptOf_12 rfl ?_
      refine wm_if_lt (tgt := 21) hC dX7_keptOf_13 (by decide) hw (fun hw => ?_) (fun hw => ?_)
      · refine wm_iconst hC dX7_keptOf_21 (k := ?_)
        exact wm_ireturn hC hE dX7_keptOf_22 ⟨⟨rfl, rfl, rfl⟩, hw⟩
      · refine wm_iload_n hC 2 dX7_keptOf_16 rfl ?_
        refine wm_iconst hC dX7_keptOf_17 (k := ?_)
        refine wm_icmp_le (tgt := 23) hC dX7_keptOf_18 (by decide) hw (fun hw => ?_) (fun hw => ?_)
        · refine wm_aload_n hC 0 dX7_keptOf_23 rfl (k_ne0 hk0 (by decide)) ?_
          refine x_getR2 hC 6 fl_X7_31 rfl hk0 dX7_keptOf_24 hw (fun g1 hw => ?_)
          refine wm_iconst hC dX7_keptOf_27 (k := ?_)
          refine wm_iload_n hC 1 dX7_keptOf_28 rfl ?_
          refine x_imul hC dX7_keptOf_29 hw (fun hw => ?_)
          refine wm_iload_n hC 2 dX7_keptOf_30 rfl ?_
          refine x_iadd hC dX7_keptOf_31 hw (fun hw => ?_)
          refine x_iald hC g1 dX7_keptOf_32 hw (fun hw => ?_)
          exact wm_ireturn hC hE dX7_keptOf_33 ⟨⟨rfl, rfl, rfl⟩, hw⟩
        · refine wm_iconst hC dX7_keptOf_21 (k := ?_)
          exact wm_ireturn hC hE dX7_keptOf_22 ⟨⟨rfl, rfl, rfl⟩, hw⟩
def P9_addNumber_b18_body (l0 : Nat) (l1 : Int) (R : mR) (Q : mI → Prop) (k18 : Int → mI → Prop) (l2 : Int) (I : mI) : Prop := (if l2 < 0 then (Q I) else (kK (R l0 0) = 20 ∧ (((0 : Int) ≤ (I l0 1) ∧ (I l0 1) < (kN (R l0 0) : Int)) ∧ wLet (up I (R l0 0) (I l0 1) (nB (bShr l1 l2))) (fun I1 => (rg ((I1 l0 1) + 1) ∧ (wLet (up I1 l0 1 ((I1 l0 1) + 1)) (fun I2 => (rg (l2 + (-8)) ∧ (k18 (l2 + (-8)) I2)))))))))
def P9_addNumber_b18 (l0 : Nat) (l1 : Int) (R : mR) (Q : mI → Prop) : Nat → Int → mI → Prop
  | 0 => fun _ _ => False
  | f + 1 => fun l2 I => P9_addNumber_b18_body l0 l1 R Q (P9_addNumber_b18 l0 l1 R Q f) l2 I
set_option maxRecDepth 20000 in
theorem W9_addNumber_b18_body {C : wX} {ad : Nat → Nat} {n : Nat} {I J : mI} {R : mR} {Q : mI → Prop} (hC : wOK C cX9_addNumber 3 RX9) (hRm : wRm C 1 12 0 0) (hE : wEnd C none ad n (fun _ I' J' R' => (J' = J ∧ R' = R) ∧ Q I')) {l0 : Nat} {l1 : Int} {l2 : Int}   (hk0 : kK l0 = 9)  {k18 : Int → mI → Prop} (kk18 : ∀ (y2 : Int) (I' : mI), k18 y2 I' → WM C ad n I' J R 0 0 18 [(0, vr l0), (1, vi l1), (2, vi y2)] []) (hw : P9_addNumber_b18_body l0 l1 R Q k18 l2 I) : WM C ad n I J R 0 0 18 [(0, vr l0), (1, vi l1), (2, vi l2)] [] := by
  unfold P9_addNumber_b18_body at hw
  refine wm_iload_n hC 2 dX9_addNumber_18 rfl ?_
  refine wm_if_lt (tgt := 51) hC dX9_addNumber_19 (by decide) hw (fun hw => ?_) (fun hw => ?_)
  · exact wm_return hC hE dX9_addNumber_51 ⟨⟨rfl, rfl⟩, hw⟩
  · refine wm_aload_n hC 0 dX9_addNumber_22 rfl (k_ne0 hk0 (by decide)) ?_
    refine x_getR2 hC 0 fl_X9_9 rfl hk0 dX9_addNumber_23 hw (fun g2 hw => ?_)
    refine wm_aload_n hC 0 dX9_addNumber_26 rfl (k_ne0 hk0 (by decide)) ?_
    refine x_getI hC 1 fl_X9_15 rfl hk0 dX9_addNumber_27 ?_
    refine wm_iload_n hC 1 dX9_addNumber_30 rfl ?_
    refine wm_iload_n hC 2 dX9_addNumber_31 rfl ?_
    refine wm_ishr hC dX9_addNumber_32 ?_
    refine wm_i2b hC dX9_addNumber_33 ?_
    refine x_bast hC g2 (nB_lo _) (nB_hi _) dX9_addNumber_34 hw (fun I1 hw => ?_)
    refine wm_aload_n hC 0 dX9_addNumber_35 rfl (k_ne0 hk0 (by decide)) ?_
    refine wm_dup hC dX9_addNumber_36 (k := ?_)
    refine x_getI hC 1 fl_X9_15 rfl hk0 dX9_addNumber_37 ?_
    refine wm_iconst hC dX9_addNumber_40 (k := ?_)
    refine x_iadd hC dX9_addNumber_41 hw (fun hw => ?_)
    refine x_putI hC 1 fl_X9_15 rfl hk0 dX9_addNumber_42 hw (fun I2 hw => ?_)
    refine x_iinc hC 2 dX9_addNumber_45 rfl (by decide) (L2 := [(2, vi (l2 + (-8))), (0, vr l0), (1, vi l1)]) rfl hw (fun hw => ?_)
    refine wm_goto (tgt := 18) hC dX9_addNumber_48 (by decide) ?_
    refine wm_sub [1, 2, 0] (L2 := [(0, vr l0), (1, vi l1), (2, vi (l2 + (-8)))]) rfl ?_
    exact kk18 _ _ hw
set_option maxRecDepth 20000 in
theorem W9_addNumber_b18 {C : wX} {ad : Nat → Nat} {n : Nat} {J : mI} {R : mR} {Q : mI → Prop} (hC : wOK C cX9_addNumber 3 RX9) (hRm : wRm C 1 12 0 0) (hE : wEnd C none ad n (fun _ I' J' R' => (J' = J ∧ R' = R) ∧ Q I')) {l0 : Nat} {l1 : Int}   (hk0 : kK l0 = 9)  : ∀ (f : Nat) (l2 : Int) (I : mI), P9_addNumber_b18 l0 l1 R Q f l2 I → WM C ad n I J R 0 0 18 [(0, vr l0), (1, vi l1), (2, vi l2)] [] := by
  intro f
  induction f with
  | zero => intro l2 I hw; exact hw.elim
  | succ f ih => intro l2 I hw; exact W9_addNumber_b18_body hC hRm hE hk0 (fun a0 a1 hw => ih a0 a1 hw) hw
def P9_addNumber (l0 : Nat) (l1 : Int) (I : mI) (R : mR) (Q : mI → Prop) : Prop := (rg ((I l0 1) + 4) ∧ (kK (R l0 0) = 20 ∧ (if ((I l0 1) + 4) ≤ (kN (R l0 0) : Int) then (∃ f, P9_addNumber_b18 l0 l1 R Q f 24 I) else (Q I))))
set_option maxRecDepth 20000 in
theorem C9_addNumber {ad : Nat → Nat} {n : Nat} {I J : mI} {R : mR} {Q : mI → Prop} {l0 : Nat} {l1 : Int} (hk0 : kK l0 = 9) (hw : P9_addNumber l0 l1 I R Q) : wMet yX9_addNumber cX9_addNumber 3 none 1 12 ad n I J R [vr l0, vi l1] (fun _ I' J' R' => (J' = J ∧ R' = R) ∧ Q I') := by
  refine wMet_of (by decide) (Nat.le_of_ble_eq_true rfl) (fun C hC hRm hE => ?_)
  refine (show WM C ad n I J R 0 0 0 [(0, vr l0), (1, vi l1)] [] from ?_)
  unfold P9_addNumber at hw
  refine wm_aload_n hC 0 dX9_addNumber_0 rfl (k_ne0 hk0 (by decide)) ?_
  refine x_getI hC 1 fl_X9_15 rfl hk0 dX9_addNumber_1 ?_
  refine wm_iconst hC dX9_addNumber_4 (k := ?_)
  refine x_iadd hC dX9_addNumber_5 hw (fun hw => ?_)
  refine wm_aload_n hC 0 dX9_addNumber_6 rfl (k_ne0 hk0 (by decide)) ?_
  refine x_getR2 hC 0 fl_X9_9 rfl hk0 dX9_addNumber_7 hw (fun g1 hw => ?_)
  refine x_alen hC g1 (by decide) dX9_addNumber_10 ?_
  refine wm_icmp_le (tgt := 15) hC dX9_addNumber_11 (by decide) hw (fun hw => ?_) (fun hw => ?_)
  · refine wm_bipush hC dX9_addNumber_15 (k := ?_)
    refine wm_istore_n hC dX9_addNumber_17 (by decide) (L2 := [(2, vi 24), (0, vr l0), (1, vi l1)]) rfl ?_
    obtain ⟨f, hw⟩ := hw
    refine wm_sub [1, 2, 0] (L2 := [(0, vr l0), (1, vi l1), (2, vi 24)]) rfl ?_
    exact W9_addNumber_b18 hC hRm hE hk0 f _ _ hw
  · exact wm_return hC hE dX9_addNumber_14 ⟨⟨rfl, rfl⟩, hw⟩
def P10_add (l0 : Nat) (l1 : Int) (l2 : Int) (l3 : Int) (I : mI) (R : mR) (Q : Int → mI → Prop) : Prop := (kK (R l0 0) = 21 ∧ (if (kN (R l0 0) : Int) ≤ (I l0 3) then (Q l1 I) else (kK (R l0 0) = 21 ∧ (((0 : Int) ≤ (I l0 3) ∧ (I l0 3) < (kN (R l0 0) : Int)) ∧ wLet (up I (R l0 0) (I l0 3) l1) (fun I1 => (kK (R l0 1) = 21 ∧ (((0 : Int) ≤ (I1 l0 3) ∧ (I1 l0 3) < (kN (R l0 1) : Int)) ∧ wLet (up I1 (R l0 1) (I1 l0 3) l2) (fun I2 => (kK (R l0 2) = 21 ∧ (((0 : Int) ≤ (I2 l0 3) ∧ (I2 l0 3) < (kN (R l0 2) : Int)) ∧ wLet (up I2 (R l0 2) (I2 l0 3) l3) (fun I3 => (rg ((I3 l0 3) + 1) ∧ (wLet (up I3 l0 3 ((I3 l0 3) + 1)) (fun I4 => (Q l1 I4)))))))))))))))
set_option maxRecDepth 20000 in
theorem C10_add {ad : Nat → Nat} {n : Nat} {I J : mI} {R : mR} {Q : Int → mI → Prop} {l0 : Nat} {l1 : Int} {l2 : Int} {l3 : Int} (hk0 : kK l0 = 10) (hw : P10_add l0 l1 l2 l3 I R Q) : wMet yX10_add cX10_add 4 (some .int) 1 12 ad n I J R [vr l0, vi l1, vi l2, vi l3] (fun r I' J' R' => (J' = J ∧ R' = R) ∧ Q r I') := by
  refine wMet_of (by decide) (Nat.le_of_ble_eq_true rfl) (fun C hC hRm hE => ?_)
  refine (show WM C ad n I J R 0 0 0 [(0, vr l0), (1, vi l1), (2, vi l2), (3, vi l3)] [] from ?_)
  unfold P10_add at hw
  refine wm_aload_n hC 0 dX10_add_0 rfl (k_ne0 hk0 (by decide)) ?_
  refine x_getI hC 3 fl_X10_21 rfl hk0 dX10_add_1 ?_
  refine wm_aload_n hC 0 dX10_add_4 rfl (k_ne0 hk0 (by decide)) ?_
  refine x_getR2 hC 0 fl_X10_9 rfl hk0 dX10_add_5 hw (fun g1 hw => ?_)
  refine x_alen hC g1 (by decide) dX10_add_8 ?_
  refine wm_icmp_ge (tgt := 52) hC dX10_add_9 (by decide) hw (fun hw => ?_) (fun hw => ?_)
  · refine wm_iload_n hC 1 dX10_add_52 rfl ?_
    exact wm_ireturn hC hE dX10_add_53 ⟨⟨rfl, rfl⟩, hw⟩
  · refine wm_aload_n hC 0 dX10_add_12 rfl (k_ne0 hk0 (by decide)) ?_
    refine x_getR2 hC 0 fl_X10_9 rfl hk0 dX10_add_13 hw (fun g2 hw => ?_)
    refine wm_aload_n hC 0 dX10_add_16 rfl (k_ne0 hk0 (by decide)) ?_
    refine x_getI hC 3 fl_X10_21 rfl hk0 dX10_add_17 ?_
    refine wm_iload_n hC 1 dX10_add_20 rfl ?_
    refine x_iast hC g2 dX10_add_21 hw (fun I1 hw => ?_)
    refine wm_aload_n hC 0 dX10_add_22 rfl (k_ne0 hk0 (by decide)) ?_
    refine x_getR2 hC 1 fl_X10_15 rfl hk0 dX10_add_23 hw (fun g3 hw => ?_)
    refine wm_aload_n hC 0 dX10_add_26 rfl (k_ne0 hk0 (by decide)) ?_
    refine x_getI hC 3 fl_X10_21 rfl hk0 dX10_add_27 ?_
    refine wm_iload_n hC 2 dX10_add_30 rfl ?_
    refine x_iast hC g3 dX10_add_31 hw (fun I2 hw => ?_)
    refine wm_aload_n hC 0 dX10_add_32 rfl (k_ne0 hk0 (by decide)) ?_
    refine x_getR2 hC 2 fl_X10_18 rfl hk0 dX10_add_33 hw (fun g4 hw => ?_)
    refine wm_aload_n hC 0 dX10_add_36 rfl (k_ne0 hk0 (by decide)) ?_
    refine x_getI hC 3 fl_X10_21 rfl hk0 dX10_add_37 ?_
    refine wm_iload_n hC 3 dX10_add_40 rfl ?_
    refine x_iast hC g4 dX10_add_41 hw (fun I3 hw => ?_)
    refine wm_aload_n hC 0 dX10_add_42 rfl (k_ne0 hk0 (by decide)) ?_
    refine wm_dup hC dX10_add_43 (k := ?_)
    refine x_getI hC 3 fl_X10_21 rfl hk0 dX10_add_44 ?_
    refine wm_iconst hC dX10_add_47 (k := ?_)
    refine x_iadd hC dX10_add_48 hw (fun hw => ?_)
    refine x_putI hC 3 fl_X10_21 rfl hk0 dX10_add_49 hw (fun I4 hw => ?_)
    refine wm_iload_n hC 1 dX10_add_52 rfl ?_
    exact wm_ireturn hC hE dX10_add_53 ⟨⟨rfl, rfl⟩, hw⟩
def P10_isDigit (l0 : Int)  (Q : Int → Prop) : Prop := (if l0 < 48 then (Q 0) else (if (57 : Int) < l0 then (Q 0) else (Q 1)))
set_option maxRecDepth 20000 in
theorem C10_isDigit {ad : Nat → Nat} {n : Nat} {I J : mI} {R : mR} {Q : Int → Prop} {l0 : Int}  (hw : P10_isDigit l0 Q) : wMet yX10_isDigit cX10_isDigit 1 (some .boolean) 1 12 ad n I J R [vi l0] (fun r I' J' R' => (I' = I ∧ J' = J ∧ R' = R) ∧ Q r) := by
  refine wMet_of (by decide) (Nat.le_of_ble_eq_true rfl) (fun C hC hRm hE => ?_)
  refine (show WM C ad n I J R 0 0 0 [(0, vi l0)] [] from ?_)
  unfold P10_isDigit at hw
  refine wm_iload_n hC 0 dX10_isDigit_0 rfl ?_
  refine wm_bipush hC dX10_isDigit_1 (k := ?_)
  refine wm_icmp_lt (tgt := 16) hC dX10_isDigit_3 (by decide) hw (fun hw => ?_) (fun hw => ?_)
  · refine wm_iconst hC dX10_isDigit_16 (k := ?_)
    exact wm_zreturn hC hE (Or.inl rfl) dX10_isDigit_17 ⟨⟨rfl, rfl, rfl⟩, hw⟩
  · refine wm_iload_n hC 0 dX10_isDigit_6 rfl ?_
    refine wm_bipush hC dX10_isDigit_7 (k := ?_)
    refine wm_icmp_gt (tgt := 16) hC dX10_isDigit_9 (by decide) hw (fun hw => ?_) (fun hw => ?_)
    · refine wm_iconst hC dX10_isDigit_16 (k := ?_)
      exact wm_zreturn hC hE (Or.inl rfl) dX10_isDigit_17 ⟨⟨rfl, rfl, rfl⟩, hw⟩
    · refine wm_iconst hC dX10_isDigit_12 (k := ?_)
      refine wm_goto (tgt := 17) hC dX10_isDigit_13 (by decide) ?_
      exact wm_zreturn hC hE (Or.inr rfl) dX10_isDigit_17 ⟨⟨rfl, rfl, rfl⟩, hw⟩
def P10_cutNumber_b61 (l0 : Nat) (l1 : Nat) (l2 : Int) (l3 : Int) (I : mI) (R : mR) (Q : Int → mI → Prop) : Prop := (P9_byteAt l1 (I l0 4) I R (fun r4 => (P10_isDigit r4 (fun r5 => (if r5 = 0 then (P10_add l0 3 l3 l2 I R (fun r6 I2 => (Q r6 I2))) else (P10_add l0 5 l2 (I l0 4) I R (fun r7 I3 => (Q r7 I3))))))))
set_option maxRecDepth 20000 in
theorem W10_cutNumber_b61 {C : wX} {ad : Nat → Nat} {n : Nat} {I J : mI} {R : mR} {Q : Int → mI → Prop} (hC : wOK C cX10_cutNumber 4 RX10) (hRm : wRm C 2 35 0 0) (hE : wEnd C (some .int) ad n (fun r I' J' R' => (J' = J ∧ R' = R) ∧ Q r I')) {l0 : Nat} {l1 : Nat} {l2 : Int} {l3 : Int}   (hk0 : kK l0 = 10) (hk1 : kK l1 = 9)  (hw : P10_cutNumber_b61 l0 l1 l2 l3 I R Q) : WM C ad n I J R 0 0 61 [(0, vr l0), (1, vr l1), (2, vi l2), (3, vi l3)] [] := by
  unfold P10_cutNumber_b61 at hw
  refine wm_aload_n hC 1 dX10_cutNumber_61 rfl (k_ne0 hk1 (by decide)) ?_
  refine wm_aload_n hC 0 dX10_cutNumber_62 rfl (k_ne0 hk0 (by decide)) ?_
  refine x_getI hC 4 fl_X10_25 rfl hk0 dX10_cutNumber_63 ?_
  refine y_callV_i_n hC hRm ml_X10_36 hk1 (C9_byteAt hk1 hw) (Nat.le_of_ble_eq_true rfl) (Nat.le_of_ble_eq_true rfl) ⟨Nat.zero_le _, Nat.zero_le _⟩ rfl (st := []) rfl (Nat.le_of_ble_eq_true rfl) dX10_cutNumber_66 (fun r4 hw => ?_)
  refine y_callS_z_n hC hRm ml_X10_59 (C10_isDigit  hw) (Nat.le_of_ble_eq_true rfl) (Nat.le_of_ble_eq_true rfl) ⟨Nat.zero_le _, Nat.zero_le _⟩ rfl (st := []) rfl (Nat.le_of_ble_eq_true rfl) dX10_cutNumber_69 (fun r5 hw => ?_)
  refine wm_if_eq (tgt := 88) hC dX10_cutNumber_72 (by decide) hw (fun hw => ?_) (fun hw => ?_)
  · refine wm_aload_n hC 0 dX10_cutNumber_88 rfl (k_ne0 hk0 (by decide)) ?_
    refine wm_iconst hC dX10_cutNumber_89 (k := ?_)
    refine wm_iload_n hC 3 dX10_cutNumber_90 rfl ?_
    refine wm_iload_n hC 2 dX10_cutNumber_91 rfl ?_
    refine y_callV_i_I hC hRm ml_X10_48 hk0 (C10_add hk0 hw) (Nat.le_of_ble_eq_true rfl) (Nat.le_of_ble_eq_true rfl) ⟨Nat.zero_le _, Nat.zero_le _⟩ rfl (st := []) rfl (Nat.le_of_ble_eq_true rfl) dX10_cutNumber_92 (fun r6 I2 hw => ?_)
    exact wm_ireturn hC hE dX10_cutNumber_95 ⟨⟨rfl, rfl⟩, hw⟩
  · refine wm_aload_n hC 0 dX10_cutNumber_75 rfl (k_ne0 hk0 (by decide)) ?_
    refine wm_iconst hC dX10_cutNumber_76 (k := ?_)
    refine wm_iload_n hC 2 dX10_cutNumber_77 rfl ?_
    refine wm_aload_n hC 0 dX10_cutNumber_78 rfl (k_ne0 hk0 (by decide)) ?_
    refine x_getI hC 4 fl_X10_25 rfl hk0 dX10_cutNumber_79 ?_
    refine y_callV_i_I hC hRm ml_X10_48 hk0 (C10_add hk0 hw) (Nat.le_of_ble_eq_true rfl) (Nat.le_of_ble_eq_true rfl) ⟨Nat.zero_le _, Nat.zero_le _⟩ rfl (st := []) rfl (Nat.le_of_ble_eq_true rfl) dX10_cutNumber_82 (fun r7 I3 hw => ?_)
    refine wm_goto (tgt := 95) hC dX10_cutNumber_85 (by decide) ?_
    exact wm_ireturn hC hE dX10_cutNumber_95 ⟨⟨rfl, rfl⟩, hw⟩
def P10_cutNumber_b7_body (l0 : Nat) (l1 : Nat) (l2 : Int) (R : mR) (Q : Int → mI → Prop) (k7 : Int → mI → Prop) (l3 : Int) (I : mI) : Prop := (rg (l2 + 4) ∧ (if (l2 + 4) ≤ (I l0 4) then (P10_cutNumber_b61 l0 l1 l2 l3 I R Q) else (P9_byteAt l1 (I l0 4) I R (fun r1 => (P10_isDigit r1 (fun r2 => (if r2 = 0 then (P10_cutNumber_b61 l0 l1 l2 l3 I R Q) else (rg (l3 * 10) ∧ (P9_byteAt l1 (I l0 4) I R (fun r3 => (rg (r3 - 48) ∧ (rg ((l3 * 10) + (r3 - 48)) ∧ (wLet ((l3 * 10) + (r3 - 48)) (fun x1 => (rg ((I l0 4) + 1) ∧ (wLet (up I l0 4 ((I l0 4) + 1)) (fun I1 => (k7 x1 I1))))))))))))))))))
def P10_cutNumber_b7 (l0 : Nat) (l1 : Nat) (l2 : Int) (R : mR) (Q : Int → mI → Prop) : Nat → Int → mI → Prop
  | 0 => fun _ _ => False
  | f + 1 => fun l3 I => P10_cutNumber_b7_body l0 l1 l2 R Q (P10_cutNumber_b7 l0 l1 l2 R Q f) l3 I
set_option maxRecDepth 20000 in
theorem W10_cutNumber_b7_body {C : wX} {ad : Nat → Nat} {n : Nat} {I J : mI} {R : mR} {Q : Int → mI → Prop} (hC : wOK C cX10_cutNumber 4 RX10) (hRm : wRm C 2 35 0 0) (hE : wEnd C (some .int) ad n (fun r I' J' R' => (J' = J ∧ R' = R) ∧ Q r I')) {l0 : Nat} {l1 : Nat} {l2 : Int} {l3 : Int}   (hk0 : kK l0 = 10) (hk1 : kK l1 = 9)  {k7 : Int → mI → Prop} (kk7 : ∀ (y3 : Int) (I' : mI), k7 y3 I' → WM C ad n I' J R 0 0 7 [(0, vr l0), (1, vr l1), (2, vi l2), (3, vi y3)] []) (hw : P10_cutNumber_b7_body l0 l1 l2 R Q k7 l3 I) : WM C ad n I J R 0 0 7 [(0, vr l0), (1, vr l1), (2, vi l2), (3, vi l3)] [] := by
  unfold P10_cutNumber_b7_body at hw
  refine wm_aload_n hC 0 dX10_cutNumber_7 rfl (k_ne0 hk0 (by decide)) ?_
  refine x_getI hC 4 fl_X10_25 rfl hk0 dX10_cutNumber_8 ?_
  refine wm_iload_n hC 2 dX10_cutNumber_11 rfl ?_
  refine wm_iconst hC dX10_cutNumber_12 (k := ?_)
  refine x_iadd hC dX10_cutNumber_13 hw (fun hw => ?_)
  refine wm_icmp_ge (tgt := 61) hC dX10_cutNumber_14 (by decide) hw (fun hw => ?_) (fun hw => ?_)
  · exact W10_cutNumber_b61 hC hRm hE hk0 hk1 hw
  · refine wm_aload_n hC 1 dX10_cutNumber_17 rfl (k_ne0 hk1 (by decide)) ?_
    refine wm_aload_n hC 0 dX10_cutNumber_18 rfl (k_ne0 hk0 (by decide)) ?_
    refine x_getI hC 4 fl_X10_25 rfl hk0 dX10_cutNumber_19 ?_
    refine y_callV_i_n hC hRm ml_X10_36 hk1 (C9_byteAt hk1 hw) (Nat.le_of_ble_eq_true rfl) (Nat.le_of_ble_eq_true rfl) ⟨Nat.zero_le _, Nat.zero_le _⟩ rfl (st := []) rfl (Nat.le_of_ble_eq_true rfl) dX10_cutNumber_22 (fun r1 hw => ?_)
    refine y_callS_z_n hC hRm ml_X10_59 (C10_isDigit  hw) (Nat.le_of_ble_eq_true rfl) (Nat.le_of_ble_eq_true rfl) ⟨Nat.zero_le _, Nat.zero_le _⟩ rfl (st := []) rfl (Nat.le_of_ble_eq_true rfl) dX10_cutNumber_25 (fun r2 hw => ?_)
    refine wm_if_eq (tgt := 61) hC dX10_cutNumber_28 (by decide) hw (fun hw => ?_) (fun hw => ?_)
    · exact W10_cutNumber_b61 hC hRm hE hk0 hk1 hw
    · refine wm_iload_n hC 3 dX10_cutNumber_31 rfl ?_
      refine wm_bipush hC dX10_cutNumber_32 (k := ?_)
      refine x_imul hC dX10_cutNumber_34 hw (fun hw => ?_)
      refine wm_aload_n hC 1 dX10_cutNumber_35 rfl (k_ne0 hk1 (by decide)) ?_
      refine wm_aload_n hC 0 dX10_cutNumber_36 rfl (k_ne0 hk0 (by decide)) ?_
      refine x_getI hC 4 fl_X10_25 rfl hk0 dX10_cutNumber_37 ?_
      refine y_callV_i_n hC hRm ml_X10_36 hk1 (C9_byteAt hk1 hw) (Nat.le_of_ble_eq_true rfl) (Nat.le_of_ble_eq_true rfl) ⟨Nat.zero_le _, Nat.zero_le _⟩ rfl (st := [vi (l3 * 10)]) rfl (Nat.le_of_ble_eq_true rfl) dX10_cutNumber_40 (fun r3 hw => ?_)
      refine wm_bipush hC dX10_cutNumber_43 (k := ?_)
      refine x_isub hC dX10_cutNumber_45 hw (fun hw => ?_)
      refine x_iadd hC dX10_cutNumber_46 hw (fun hw => ?_)
      refine x_nameI hw (fun x1 hw => ?_)
      refine wm_istore_n hC dX10_cutNumber_47 (by decide) (L2 := [(3, vi x1), (0, vr l0), (1, vr l1), (2, vi l2)]) rfl ?_
      refine wm_aload_n hC 1 dX10_cutNumber_48 rfl (k_ne0 hk0 (by decide)) ?_
      refine wm_dup hC dX10_cutNumber_49 (k := ?_)
      refine x_getI hC 4 fl_X10_25 rfl hk0 dX10_cutNumber_50 ?_
      refine wm_iconst hC dX10_cutNumber_53 (k := ?_)
      refine x_iadd hC dX10_cutNumber_54 hw (fun hw => ?_)
      refine x_putI hC 4 fl_X10_25 rfl hk0 dX10_cutNumber_55 hw (fun I1 hw => ?_)
      refine wm_goto (tgt := 7) hC dX10_cutNumber_58 (by decide) ?_
      refine wm_sub [1, 2, 3, 0] (L2 := [(0, vr l0), (1, vr l1), (2, vi l2), (3, vi x1)]) rfl ?_
      exact kk7 _ _ hw
set_option maxRecDepth 20000 in
theorem W10_cutNumber_b7 {C : wX} {ad : Nat → Nat} {n : Nat} {J : mI} {R : mR} {Q : Int → mI → Prop} (hC : wOK C cX10_cutNumber 4 RX10) (hRm : wRm C 2 35 0 0) (hE : wEnd C (some .int) ad n (fun r I' J' R' => (J' = J ∧ R' = R) ∧ Q r I')) {l0 : Nat} {l1 : Nat} {l2 : Int}   (hk0 : kK l0 = 10) (hk1 : kK l1 = 9)  : ∀ (f : Nat) (l3 : Int) (I : mI), P10_cutNumber_b7 l0 l1 l2 R Q f l3 I → WM C ad n I J R 0 0 7 [(0, vr l0), (1, vr l1), (2, vi l2), (3, vi l3)] [] := by
  intro f
  induction f with
  | zero => intro l3 I hw; exact hw.elim
  | succ f ih => intro l3 I hw; exact W10_cutNumber_b7_body hC hRm hE hk0 hk1 (fun a0 a1 hw => ih a0 a1 hw) hw
def P10_cutNumber (l0 : Nat) (l1 : Nat) (I : mI) (R : mR) (Q : Int → mI → Prop) : Prop := (∃ f, P10_cutNumber_b7 l0 l1 (I l0 4) R Q f 0 I)
set_option maxRecDepth 20000 in
theorem C10_cutNumber {ad : Nat → Nat} {n : Nat} {I J : mI} {R : mR} {Q : Int → mI → Prop} {l0 : Nat} {l1 : Nat} (hk0 : kK l0 = 10) (hk1 : kK l1 = 9) (hw : P10_cutNumber l0 l1 I R Q) : wMet yX10_cutNumber cX10_cutNumber 4 (some .int) 2 35 ad n I J R [vr l0, vr l1] (fun r I' J' R' => (J' = J ∧ R' = R) ∧ Q r I') := by
  refine wMet_of (by decide) (Nat.le_of_ble_eq_true rfl) (fun C hC hRm hE => ?_)
  refine (show WM C ad n I J R 0 0 0 [(0, vr l0), (1, vr l1)] [] from ?_)
  unfold P10_cutNumber at hw
  refine wm_aload_n hC 0 dX10_cutNumber_0 rfl (k_ne0 hk0 (by decide)) ?_
  refine x_getI hC 4 fl_X10_25 rfl hk0 dX10_cutNumber_1 ?_
  refine wm_istore_n hC dX10_cutNumber_4 (by decide) (L2 := [(2, vi (I l0 4)), (0, vr l0), (1, vr l1)]) rfl ?_
  refine wm_iconst hC dX10_cutNumber_5 (k := ?_)
  refine wm_istore_n hC dX10_cutNumber_6 (by decide) (L2 := [(3, vi 0), (2, vi (I l0 4)), (0, vr l0), (1, vr l1)]) rfl ?_
  obtain ⟨f, hw⟩ := hw
  refine wm_sub [2, 3, 1, 0] (L2 := [(0, vr l0), (1, vr l1), (2, vi (I l0 4)), (3, vi 0)]) rfl ?_
  exact W10_cutNumber_b7 hC hRm hE hk0 hk1 f _ _ hw
def P10_isBlank (l0 : Int)  (Q : Int → Prop) : Prop := (if l0 = 32 then (Q 1) else (if l0 = 10 then (Q 1) else (Q 0)))
set_option maxRecDepth 20000 in
theorem C10_isBlank {ad : Nat → Nat} {n : Nat} {I J : mI} {R : mR} {Q : Int → Prop} {l0 : Int}  (hw : P10_isBlank l0 Q) : wMet yX10_isBlank cX10_isBlank 1 (some .boolean) 1 12 ad n I J R [vi l0] (fun r I' J' R' => (I' = I ∧ J' = J ∧ R' = R) ∧ Q r) := by
  refine wMet_of (by decide) (Nat.le_of_ble_eq_true rfl) (fun C hC hRm hE => ?_)
  refine (show WM C ad n I J R 0 0 0 [(0, vi l0)] [] from ?_)
  unfold P10_isBlank at hw
  refine wm_iload_n hC 0 dX10_isBlank_0 rfl ?_
  refine wm_bipush hC dX10_isBlank_1 (k := ?_)
  refine wm_icmp_eq (tgt := 12) hC dX10_isBlank_3 (by decide) hw (fun hw => ?_) (fun hw => ?_)
  · refine wm_iconst hC dX10_isBlank_12 (k := ?_)
    refine wm_goto (tgt := 17) hC dX10_isBlank_13 (by decide) ?_
    exact wm_zreturn hC hE (Or.inr rfl) dX10_isBlank_17 ⟨⟨rfl, rfl, rfl⟩, hw⟩
  · refine wm_iload_n hC 0 dX10_isBlank_6 rfl ?_
    refine wm_bipush hC dX10_isBlank_7 (k := ?_)
    refine wm_icmp_ne (tgt := 16) hC dX10_isBlank_9 (by decide) hw (fun hw => ?_) (fun hw => ?_)
    · refine wm_iconst hC dX10_isBlank_12 (k := ?_)
      refine wm_goto (tgt := 17) hC dX10_isBlank_13 (by decide) ?_
      exact wm_zreturn hC hE (Or.inr rfl) dX10_isBlank_17 ⟨⟨rfl, rfl, rfl⟩, hw⟩
    · refine wm_iconst hC dX10_isBlank_16 (k := ?_)
      exact wm_zreturn hC hE (Or.inl rfl) dX10_isBlank_17 ⟨⟨rfl, rfl, rfl⟩, hw⟩
def P10_isLetter (l0 : Int)  (Q : Int → Prop) : Prop := (if l0 < 97 then (Q 0) else (if (122 : Int) < l0 then (Q 0) else (Q 1)))
set_option maxRecDepth 20000 in
theorem C10_isLetter {ad : Nat → Nat} {n : Nat} {I J : mI} {R : mR} {Q : Int → Prop} {l0 : Int}  (hw : P10_isLetter l0 Q) : wMet yX10_isLetter cX10_isLetter 1 (some .boolean) 1 12 ad n I J R [vi l0] (fun r I' J' R' => (I' = I ∧ J' = J ∧ R' = R) ∧ Q r) := by
  refine wMet_of (by decide) (Nat.le_of_ble_eq_true rfl) (fun C hC hRm hE => ?_)
  refine (show WM C ad n I J R 0 0 0 [(0, vi l0)] [] from ?_)
  unfold P10_isLetter at hw
  refine wm_iload_n hC 0 dX10_isLetter_0 rfl ?_
  refine wm_bipush hC dX10_isLetter_1 (k := ?_)
  refine wm_icmp_lt (tgt := 16) hC dX10_isLetter_3 (by decide) hw (fun hw => ?_) (fun hw => ?_)
  · refine wm_iconst hC dX10_isLetter_16 (k := ?_)
    exact wm_zreturn hC hE (Or.inl rfl) dX10_isLetter_17 ⟨⟨rfl, rfl, rfl⟩, hw⟩
  · refine wm_iload_n hC 0 dX10_isLetter_6 rfl ?_
    refine wm_bipush hC dX10_isLetter_7 (k := ?_)
    refine wm_icmp_gt (tgt := 16) hC dX10_isLetter_9 (by decide) hw (fun hw => ?_) (fun hw => ?_)
    · refine wm_iconst hC dX10_isLetter_16 (k := ?_)
      exact wm_zreturn hC hE (Or.inl rfl) dX10_isLetter_17 ⟨⟨rfl, rfl, rfl⟩, hw⟩
    · refine wm_iconst hC dX10_isLetter_12 (k := ?_)
      refine wm_goto (tgt := 17) hC dX10_isLetter_13 (by decide) ?_
      exact wm_zreturn hC hE (Or.inr rfl) dX10_isLetter_17 ⟨⟨rfl, rfl, rfl⟩, hw⟩
def P11_refuse (l0 : Nat) (l1 : Int) (I : mI) (R : mR) (Q : Int → mI → Prop) : Prop := (if l1 < 0 then (Q (-1) I) else (kK (R l0 7) = 21 ∧ (if (kN (R l0 7) : Int) ≤ l1 then (Q (-1) I) else (kK (R l0 7) = 21 ∧ (((0 : Int) ≤ l1 ∧ l1 < (kN (R l0 7) : Int)) ∧ (rg ((I (R l0 7) l1) + 1) ∧ (((0 : Int) ≤ l1 ∧ l1 < (kN (R l0 7) : Int)) ∧ wLet (up I (R l0 7) l1 ((I (R l0 7) l1) + 1)) (fun I1 => (Q (-1) I1)))))))))
set_option maxRecDepth 20000 in
theorem C11_refuse {ad : Nat → Nat} {n : Nat} {I J : mI} {R : mR} {Q : Int → mI → Prop} {l0 : Nat} {l1 : Int} (hk0 : kK l0 = 11) (hw : P11_refuse l0 l1 I R Q) : wMet yX11_refuse cX11_refuse 2 (some .int) 1 12 ad n I J R [vr l0, vi l1] (fun r I' J' R' => (J' = J ∧ R' = R) ∧ Q r I') := by
  refine wMet_of (by decide) (Nat.le_of_ble_eq_true rfl) (fun C hC hRm hE => ?_)
  refine (show WM C ad n I J R 0 0 0 [(0, vr l0), (1, vi l1)] [] from ?_)
  unfold P11_refuse at hw
  refine wm_iload_n hC 1 dX11_refuse_0 rfl ?_
  refine wm_if_lt (tgt := 23) hC dX11_refuse_1 (by decide) hw (fun hw => ?_) (fun hw => ?_)
  · refine wm_iconst hC dX11_refuse_23 (k := ?_)
    exact wm_ireturn hC hE dX11_refuse_24 ⟨⟨rfl, rfl⟩, hw⟩
  · refine wm_iload_n hC 1 dX11_refuse_4 rfl ?_
    refine wm_aload_n hC 0 dX11_refuse_5 rfl (k_ne0 hk0 (by decide)) ?_
    refine x_getR2 hC 7 fl_X11_51 rfl hk0 dX11_refuse_6 hw (fun g1 hw => ?_)
    refine x_alen hC g1 (by decide) dX11_refuse_9 ?_
    refine wm_icmp_ge (tgt := 23) hC dX11_refuse_10 (by decide) hw (fun hw => ?_) (fun hw => ?_)
    · refine wm_iconst hC dX11_refuse_23 (k := ?_)
      exact wm_ireturn hC hE dX11_refuse_24 ⟨⟨rfl, rfl⟩, hw⟩
    · refine wm_aload_n hC 0 dX11_refuse_13 rfl (k_ne0 hk0 (by decide)) ?_
      refine x_getR2 hC 7 fl_X11_51 rfl hk0 dX11_refuse_14 hw (fun g2 hw => ?_)
      refine wm_iload_n hC 1 dX11_refuse_17 rfl ?_
      refine wm_dup2_11 hC dX11_refuse_18 (k := ?_)
      refine x_iald hC g2 dX11_refuse_19 hw (fun hw => ?_)
      refine wm_iconst hC dX11_refuse_20 (k := ?_)
      refine x_iadd hC dX11_refuse_21 hw (fun hw => ?_)
      refine x_iast hC g2 dX11_refuse_22 hw (fun I1 hw => ?_)
      refine wm_iconst hC dX11_refuse_23 (k := ?_)
      exact wm_ireturn hC hE dX11_refuse_24 ⟨⟨rfl, rfl⟩, hw⟩
def P11_feed (l0 : Nat) (l1 : Int) (l2 : Int) (l3 : Int) (l4 : Int) (l5 : Int) (I : mI) (R : mR) (Q : Int → mI → Prop) : Prop := (kK (R l0 0) = 9 ∧ (rg ((I (R l0 0) 1) + 20) ∧ (if ((I (R l0 0) 1) + 20) ≤ 1600 then (kK (R l0 0) = 9 ∧ (P9_addNumber (R l0 0) l1 I R (fun I1 => (kK (R l0 0) = 9 ∧ (P9_addNumber (R l0 0) l2 I1 R (fun I2 => (kK (R l0 0) = 9 ∧ (P9_addNumber (R l0 0) l3 I2 R (fun I3 => (kK (R l0 0) = 9 ∧ (P9_addNumber (R l0 0) l4 I3 R (fun I4 => (kK (R l0 0) = 9 ∧ (P9_addNumber (R l0 0) l5 I4 R (fun I5 => (kK (R l0 0) = 9 ∧ (Q (I5 (R l0 0) 1) I5))))))))))))))))) else (P11_refuse l0 0 I R (fun r1 I6 => (Q r1 I6))))))
set_option maxRecDepth 20000 in
theorem C11_feed {ad : Nat → Nat} {n : Nat} {I J : mI} {R : mR} {Q : Int → mI → Prop} {l0 : Nat} {l1 : Int} {l2 : Int} {l3 : Int} {l4 : Int} {l5 : Int} (hk0 : kK l0 = 11) (hw : P11_feed l0 l1 l2 l3 l4 l5 I R Q) : wMet yX11_feed cX11_feed 6 (some .int) 2 34 ad n I J R [vr l0, vi l1, vi l2, vi l3, vi l4, vi l5] (fun r I' J' R' => (J' = J ∧ R' = R) ∧ Q r I') := by
  refine wMet_of (by decide) (Nat.le_of_ble_eq_true rfl) (fun C hC hRm hE => ?_)
  refine (show WM C ad n I J R 0 0 0 [(0, vr l0), (1, vi l1), (2, vi l2), (3, vi l3), (4, vi l4), (5, vi l5)] [] from ?_)
  unfold P11_feed at hw
  refine wm_aload_n hC 0 dX11_feed_0 rfl (k_ne0 hk0 (by decide)) ?_
  refine x_getR2 hC 0 fl_X11_10 rfl hk0 dX11_feed_1 hw (fun g1 hw => ?_)
  refine x_getI hC 1 fl_X11_114 rfl g1 dX11_feed_4 ?_
  refine wm_bipush hC dX11_feed_7 (k := ?_)
  refine x_iadd hC dX11_feed_9 hw (fun hw => ?_)
  refine wm_sipush hC dX11_feed_10 (k := ?_)
  refine wm_icmp_le (tgt := 22) hC dX11_feed_13 (by decide) hw (fun hw => ?_) (fun hw => ?_)
  · refine wm_aload_n hC 0 dX11_feed_22 rfl (k_ne0 hk0 (by decide)) ?_
    refine x_getR2 hC 0 fl_X11_10 rfl hk0 dX11_feed_23 hw (fun g2 hw => ?_)
    refine wm_iload_n hC 1 dX11_feed_26 rfl ?_
    refine y_callV_v_I hC hRm ml_X11_121 g2 (C9_addNumber g2 hw) (Nat.le_of_ble_eq_true rfl) (Nat.le_of_ble_eq_true rfl) ⟨Nat.zero_le _, Nat.zero_le _⟩ rfl (st := []) rfl (Nat.le_of_ble_eq_true rfl) dX11_feed_27 (fun I1 hw => ?_)
    refine wm_aload_n hC 0 dX11_feed_30 rfl (k_ne0 hk0 (by decide)) ?_
    refine x_getR2 hC 0 fl_X11_10 rfl hk0 dX11_feed_31 hw (fun g3 hw => ?_)
    refine wm_iload_n hC 2 dX11_feed_34 rfl ?_
    refine y_callV_v_I hC hRm ml_X11_121 g3 (C9_addNumber g3 hw) (Nat.le_of_ble_eq_true rfl) (Nat.le_of_ble_eq_true rfl) ⟨Nat.zero_le _, Nat.zero_le _⟩ rfl (st := []) rfl (Nat.le_of_ble_eq_true rfl) dX11_feed_35 (fun I2 hw => ?_)
    refine wm_aload_n hC 0 dX11_feed_38 rfl (k_ne0 hk0 (by decide)) ?_
    refine x_getR2 hC 0 fl_X11_10 rfl hk0 dX11_feed_39 hw (fun g4 hw => ?_)
    refine wm_iload_n hC 3 dX11_feed_42 rfl ?_
    refine y_callV_v_I hC hRm ml_X11_121 g4 (C9_addNumber g4 hw) (Nat.le_of_ble_eq_true rfl) (Nat.le_of_ble_eq_true rfl) ⟨Nat.zero_le _, Nat.zero_le _⟩ rfl (st := []) rfl (Nat.le_of_ble_eq_true rfl) dX11_feed_43 (fun I3 hw => ?_)
    refine wm_aload_n hC 0 dX11_feed_46 rfl (k_ne0 hk0 (by decide)) ?_
    refine x_getR2 hC 0 fl_X11_10 rfl hk0 dX11_feed_47 hw (fun g5 hw => ?_)
    refine wm_iload hC 4 dX11_feed_50 rfl ?_
    refine y_callV_v_I hC hRm ml_X11_121 g5 (C9_addNumber g5 hw) (Nat.le_of_ble_eq_true rfl) (Nat.le_of_ble_eq_true rfl) ⟨Nat.zero_le _, Nat.zero_le _⟩ rfl (st := []) rfl (Nat.le_of_ble_eq_true rfl) dX11_feed_52 (fun I4 hw => ?_)
    refine wm_aload_n hC 0 dX11_feed_55 rfl (k_ne0 hk0 (by decide)) ?_
    refine x_getR2 hC 0 fl_X11_10 rfl hk0 dX11_feed_56 hw (fun g6 hw => ?_)
    refine wm_iload hC 5 dX11_feed_59 rfl ?_
    refine y_callV_v_I hC hRm ml_X11_121 g6 (C9_addNumber g6 hw) (Nat.le_of_ble_eq_true rfl) (Nat.le_of_ble_eq_true rfl) ⟨Nat.zero_le _, Nat.zero_le _⟩ rfl (st := []) rfl (Nat.le_of_ble_eq_true rfl) dX11_feed_61 (fun I5 hw => ?_)
    refine wm_aload_n hC 0 dX11_feed_64 rfl (k_ne0 hk0 (by decide)) ?_
    refine x_getR2 hC 0 fl_X11_10 rfl hk0 dX11_feed_65 hw (fun g7 hw => ?_)
    refine x_getI hC 1 fl_X11_114 rfl g7 dX11_feed_68 ?_
    exact wm_ireturn hC hE dX11_feed_71 ⟨⟨rfl, rfl⟩, hw⟩
  · refine wm_aload_n hC 0 dX11_feed_16 rfl (k_ne0 hk0 (by decide)) ?_
    refine wm_iconst hC dX11_feed_17 (k := ?_)
    refine y_callV_i_I hC hRm ml_X11_117 hk0 (C11_refuse hk0 hw) (Nat.le_of_ble_eq_true rfl) (Nat.le_of_ble_eq_true rfl) ⟨Nat.zero_le _, Nat.zero_le _⟩ rfl (st := []) rfl (Nat.le_of_ble_eq_true rfl) dX11_feed_18 (fun r1 I6 hw => ?_)
    exact wm_ireturn hC hE dX11_feed_21 ⟨⟨rfl, rfl⟩, hw⟩
def P11_refuseIt (l0 : Nat) (l1 : Int) (I : mI) (R : mR) (Q : Int → mI → Prop) : Prop := (P11_refuse l0 l1 I R (fun r1 I1 => (Q 0 I1)))
set_option maxRecDepth 20000 in
theorem C11_refuseIt {ad : Nat → Nat} {n : Nat} {I J : mI} {R : mR} {Q : Int → mI → Prop} {l0 : Nat} {l1 : Int} (hk0 : kK l0 = 11) (hw : P11_refuseIt l0 l1 I R Q) : wMet yX11_refuseIt cX11_refuseIt 2 (some .boolean) 2 33 ad n I J R [vr l0, vi l1] (fun r I' J' R' => (J' = J ∧ R' = R) ∧ Q r I') := by
  refine wMet_of (by decide) (Nat.le_of_ble_eq_true rfl) (fun C hC hRm hE => ?_)
  refine (show WM C ad n I J R 0 0 0 [(0, vr l0), (1, vi l1)] [] from ?_)
  unfold P11_refuseIt at hw
  refine wm_aload_n hC 0 dX11_refuseIt_0 rfl (k_ne0 hk0 (by decide)) ?_
  refine wm_iload_n hC 1 dX11_refuseIt_1 rfl ?_
  refine y_callV_i_I hC hRm ml_X11_117 hk0 (C11_refuse hk0 hw) (Nat.le_of_ble_eq_true rfl) (Nat.le_of_ble_eq_true rfl) ⟨Nat.zero_le _, Nat.zero_le _⟩ rfl (st := []) rfl (Nat.le_of_ble_eq_true rfl) dX11_refuseIt_2 (fun r1 I1 hw => ?_)
  refine wm_pop hC dX11_refuseIt_5 (k := ?_)
  refine wm_iconst hC dX11_refuseIt_6 (k := ?_)
  exact wm_zreturn hC hE (Or.inl rfl) dX11_refuseIt_7 ⟨⟨rfl, rfl⟩, hw⟩
def P11_end (l0 : Nat) (l1 : Int) (I : mI) (R : mR) (Q : Int → mI → Prop) : Prop := (if l1 < 0 then (P11_refuseIt l0 0 I R (fun r1 I1 => ((r1 = 0 ∨ r1 = 1) ∧ (Q r1 I1)))) else (kK (R l0 0) = 9 ∧ (if l1 ≤ (I (R l0 0) 1) then (kK (R l0 0) = 9 ∧ (wLet (up I (R l0 0) 1 l1) (fun I2 => (Q 1 I2)))) else (P11_refuseIt l0 0 I R (fun r2 I3 => ((r2 = 0 ∨ r2 = 1) ∧ (Q r2 I3)))))))
set_option maxRecDepth 20000 in
theorem C11_end {ad : Nat → Nat} {n : Nat} {I J : mI} {R : mR} {Q : Int → mI → Prop} {l0 : Nat} {l1 : Int} (hk0 : kK l0 = 11) (hw : P11_end l0 l1 I R Q) : wMet yX11_end cX11_end 2 (some .boolean) 3 54 ad n I J R [vr l0, vi l1] (fun r I' J' R' => (J' = J ∧ R' = R) ∧ Q r I') := by
  refine wMet_of (by decide) (Nat.le_of_ble_eq_true rfl) (fun C hC hRm hE => ?_)
  refine (show WM C ad n I J R 0 0 0 [(0, vr l0), (1, vi l1)] [] from ?_)
  unfold P11_end at hw
  refine wm_iload_n hC 1 dX11_end_0 rfl ?_
  refine wm_if_lt (tgt := 15) hC dX11_end_1 (by decide) hw (fun hw => ?_) (fun hw => ?_)
  · refine wm_aload_n hC 0 dX11_end_15 rfl (k_ne0 hk0 (by decide)) ?_
    refine wm_iconst hC dX11_end_16 (k := ?_)
    refine y_callV_z_I hC hRm ml_X11_125 hk0 (C11_refuseIt hk0 hw) (Nat.le_of_ble_eq_true rfl) (Nat.le_of_ble_eq_true rfl) ⟨Nat.zero_le _, Nat.zero_le _⟩ rfl (st := []) rfl (Nat.le_of_ble_eq_true rfl) dX11_end_17 (fun r1 I1 hw => ?_)
    obtain ⟨z01, hw⟩ := hw
    exact wm_zreturn hC hE z01 dX11_end_20 ⟨⟨rfl, rfl⟩, hw⟩
  · refine wm_iload_n hC 1 dX11_end_4 rfl ?_
    refine wm_aload_n hC 0 dX11_end_5 rfl (k_ne0 hk0 (by decide)) ?_
    refine x_getR2 hC 0 fl_X11_10 rfl hk0 dX11_end_6 hw (fun g1 hw => ?_)
    refine x_getI hC 1 fl_X11_114 rfl g1 dX11_end_9 ?_
    refine wm_icmp_le (tgt := 21) hC dX11_end_12 (by decide) hw (fun hw => ?_) (fun hw => ?_)
    · refine wm_aload_n hC 0 dX11_end_21 rfl (k_ne0 hk0 (by decide)) ?_
      refine x_getR2 hC 0 fl_X11_10 rfl hk0 dX11_end_22 hw (fun g2 hw => ?_)
      refine wm_iload_n hC 1 dX11_end_25 rfl ?_
      refine x_putI hC 1 fl_X11_114 rfl g2 dX11_end_26 hw (fun I2 hw => ?_)
      refine wm_iconst hC dX11_end_29 (k := ?_)
      exact wm_zreturn hC hE (Or.inr rfl) dX11_end_30 ⟨⟨rfl, rfl⟩, hw⟩
    · refine wm_aload_n hC 0 dX11_end_15 rfl (k_ne0 hk0 (by decide)) ?_
      refine wm_iconst hC dX11_end_16 (k := ?_)
      refine y_callV_z_I hC hRm ml_X11_125 hk0 (C11_refuseIt hk0 hw) (Nat.le_of_ble_eq_true rfl) (Nat.le_of_ble_eq_true rfl) ⟨Nat.zero_le _, Nat.zero_le _⟩ rfl (st := []) rfl (Nat.le_of_ble_eq_true rfl) dX11_end_17 (fun r2 I3 hw => ?_)
      obtain ⟨z01, hw⟩ := hw
      exact wm_zreturn hC hE z01 dX11_end_20 ⟨⟨rfl, rfl⟩, hw⟩
def P11_fault (l0 : Nat) (l1 : Int) (I : mI) (Q : Int → Prop) : Prop := (if l1 = 0 then (Q (I l0 14)) else (if l1 = 1 then (Q (I l0 15)) else (Q (-1))))
set_option maxRecDepth 20000 in
theorem C11_fault {ad : Nat → Nat} {n : Nat} {I J : mI} {R : mR} {Q : Int → Prop} {l0 : Nat} {l1 : Int} (hk0 : kK l0 = 11) (hw : P11_fault l0 l1 I Q) : wMet yX11_fault cX11_fault 2 (some .int) 1 12 ad n I J R [vr l0, vi l1] (fun r I' J' R' => (I' = I ∧ J' = J ∧ R' = R) ∧ Q r) := by
  refine wMet_of (by decide) (Nat.le_of_ble_eq_true rfl) (fun C hC hRm hE => ?_)
  refine (show WM C ad n I J R 0 0 0 [(0, vr l0), (1, vi l1)] [] from ?_)
  unfold P11_fault at hw
  refine wm_iload_n hC 1 dX11_fault_0 rfl ?_
  refine wm_if_ne (tgt := 11) hC dX11_fault_1 (by decide) hw (fun hw => ?_) (fun hw => ?_)
  · refine wm_aload_n hC 0 dX11_fault_4 rfl (k_ne0 hk0 (by decide)) ?_
    refine x_getI hC 14 fl_X11_64 rfl hk0 dX11_fault_5 ?_
    refine wm_goto (tgt := 24) hC dX11_fault_8 (by decide) ?_
    exact wm_ireturn hC hE dX11_fault_24 ⟨⟨rfl, rfl, rfl⟩, hw⟩
  · refine wm_iload_n hC 1 dX11_fault_11 rfl ?_
    refine wm_iconst hC dX11_fault_12 (k := ?_)
    refine wm_icmp_ne (tgt := 23) hC dX11_fault_13 (by decide) hw (fun hw => ?_) (fun hw => ?_)
    · refine wm_aload_n hC 0 dX11_fault_16 rfl (k_ne0 hk0 (by decide)) ?_
      refine x_getI hC 15 fl_X11_68 rfl hk0 dX11_fault_17 ?_
      refine wm_goto (tgt := 24) hC dX11_fault_20 (by decide) ?_
      exact wm_ireturn hC hE dX11_fault_24 ⟨⟨rfl, rfl, rfl⟩, hw⟩
    · refine wm_iconst hC dX11_fault_23 (k := ?_)
      exact wm_ireturn hC hE dX11_fault_24 ⟨⟨rfl, rfl, rfl⟩, hw⟩
def P11_has (l0 : Nat) (l1 : Int) (I : mI) (R : mR) (Q : Int → Prop) : Prop := (if l1 = 0 then (kK (R l0 12) = 3 ∧ (kK (R (R l0 12) 0) = 21 ∧ (((0 : Int) ≤ l1 ∧ l1 < (kN (R (R l0 12) 0) : Int)) ∧ (Q (I (R (R l0 12) 0) l1))))) else (if l1 = 1 then (kK (R l0 12) = 3 ∧ (kK (R (R l0 12) 0) = 21 ∧ (((0 : Int) ≤ l1 ∧ l1 < (kN (R (R l0 12) 0) : Int)) ∧ (Q (I (R (R l0 12) 0) l1))))) else (if l1 = 2 then (kK (R l0 12) = 3 ∧ (kK (R (R l0 12) 0) = 21 ∧ (((0 : Int) ≤ l1 ∧ l1 < (kN (R (R l0 12) 0) : Int)) ∧ (Q (I (R (R l0 12) 0) l1))))) else (if l1 = 3 then (kK (R l0 2) = 7 ∧ (Q (I (R l0 2) 0))) else (if l1 = 4 then (kK (R l0 2) = 7 ∧ (Q (I (R l0 2) 1))) else (if l1 = 5 then (kK (R l0 2) = 7 ∧ (kK (R l0 12) = 3 ∧ (kK (R (R l0 12) 0) = 21 ∧ (((0 : Int) ≤ (2 : Int) ∧ (2 : Int) < (kN (R (R l0 12) 0) : Int)) ∧ (P7_wornBy (R l0 2) (I (R (R l0 12) 0) (2 : Int)) (-1) I R (fun r1 => (Q r1))))))) else (if l1 = 6 then (kK (R l0 12) = 3 ∧ (kK (R l0 2) = 7 ∧ (kK (R (R l0 2) 5) = 21 ∧ (P3_clashes (R l0 12) (R (R l0 2) 5) I R (fun r2 => (Q r2)))))) else (if l1 = 7 then (kK (R l0 2) = 7 ∧ (Q (I (R l0 2) 2))) else (if l1 = 8 then (kK (R l0 11) = 2 ∧ (Q (I (R l0 11) 5))) else (if l1 = 9 then (kK (R l0 4) = 4 ∧ (Q (I (R l0 4) 2))) else (if l1 = 10 then (Q (I l0 16)) else (Q (-1)))))))))))))
set_option maxRecDepth 20000 in
theorem C11_has {ad : Nat → Nat} {n : Nat} {I J : mI} {R : mR} {Q : Int → Prop} {l0 : Nat} {l1 : Int} (hk0 : kK l0 = 11) (hw : P11_has l0 l1 I R Q) : wMet yX11_has cX11_has 2 (some .int) 3 59 ad n I J R [vr l0, vi l1] (fun r I' J' R' => (I' = I ∧ J' = J ∧ R' = R) ∧ Q r) := by
  refine wMet_of (by decide) (Nat.le_of_ble_eq_true rfl) (fun C hC hRm hE => ?_)
  refine (show WM C ad n I J R 0 0 0 [(0, vr l0), (1, vi l1)] [] from ?_)
  unfold P11_has at hw
  refine wm_iload_n hC 1 dX11_has_0 rfl ?_
  by_cases hc1 : l1 = 0
  · rw [if_pos hc1] at hw
    refine wm_tableIn (v := 0) (tgt := 60) hC dX11_has_1 hc1 (by decide) (by decide) rfl rfl ?_
    refine wm_aload_n hC 0 dX11_has_60 rfl (k_ne0 hk0 (by decide)) ?_
    refine x_getR2 hC 12 fl_X11_57 rfl hk0 dX11_has_61 hw (fun g1 hw => ?_)
    refine x_getR2 hC 0 fl_X11_145 rfl g1 dX11_has_64 hw (fun g2 hw => ?_)
    refine wm_iload_n hC 1 dX11_has_67 rfl ?_
    refine x_iald hC g2 dX11_has_68 hw (fun hw => ?_)
    exact wm_ireturn hC hE dX11_has_69 ⟨⟨rfl, rfl, rfl⟩, hw⟩
  rw [if_neg hc1] at hw
  by_cases hc2 : l1 = 1
  · rw [if_pos hc2] at hw
    refine wm_tableIn (v := 1) (tgt := 60) hC dX11_has_1 hc2 (by decide) (by decide) rfl rfl ?_
    refine wm_aload_n hC 0 dX11_has_60 rfl (k_ne0 hk0 (by decide)) ?_
    refine x_getR2 hC 12 fl_X11_57 rfl hk0 dX11_has_61 hw (fun g3 hw => ?_)
    refine x_getR2 hC 0 fl_X11_145 rfl g3 dX11_has_64 hw (fun g4 hw => ?_)
    refine wm_iload_n hC 1 dX11_has_67 rfl ?_
    refine x_iald hC g4 dX11_has_68 hw (fun hw => ?_)
    exact wm_ireturn hC hE dX11_has_69 ⟨⟨rfl, rfl, rfl⟩, hw⟩
  rw [if_neg hc2] at hw
  by_cases hc3 : l1 = 2
  · rw [if_pos hc3] at hw
    refine wm_tableIn (v := 2) (tgt := 60) hC dX11_has_1 hc3 (by decide) (by decide) rfl rfl ?_
    refine wm_aload_n hC 0 dX11_has_60 rfl (k_ne0 hk0 (by decide)) ?_
    refine x_getR2 hC 12 fl_X11_57 rfl hk0 dX11_has_61 hw (fun g5 hw => ?_)
    refine x_getR2 hC 0 fl_X11_145 rfl g5 dX11_has_64 hw (fun g6 hw => ?_)
    refine wm_iload_n hC 1 dX11_has_67 rfl ?_
    refine x_iald hC g6 dX11_has_68 hw (fun hw => ?_)
    exact wm_ireturn hC hE dX11_has_69 ⟨⟨rfl, rfl, rfl⟩, hw⟩
  rw [if_neg hc3] at hw
  by_cases hc4 : l1 = 3
  · rw [if_pos hc4] at hw
    refine wm_tableIn (v := 3) (tgt := 70) hC dX11_has_1 hc4 (by decide) (by decide) rfl rfl ?_
    refine wm_aload_n hC 0 dX11_has_70 rfl (k_ne0 hk0 (by decide)) ?_
    refine x_getR2 hC 2 fl_X11_26 rfl hk0 dX11_has_71 hw (fun g7 hw => ?_)
    refine x_getI hC 0 fl_X11_147 rfl g7 dX11_has_74 ?_
    exact wm_ireturn hC hE dX11_has_77 ⟨⟨rfl, rfl, rfl⟩, hw⟩
  rw [if_neg hc4] at hw
  by_cases hc5 : l1 = 4
  · rw [if_pos hc5] at hw
    refine wm_tableIn (v := 4) (tgt := 78) hC dX11_has_1 hc5 (by decide) (by decide) rfl rfl ?_
    refine wm_aload_n hC 0 dX11_has_78 rfl (k_ne0 hk0 (by decide)) ?_
    refine x_getR2 hC 2 fl_X11_26 rfl hk0 dX11_has_79 hw (fun g8 hw => ?_)
    refine x_getI hC 1 fl_X11_150 rfl g8 dX11_has_82 ?_
    exact wm_ireturn hC hE dX11_has_85 ⟨⟨rfl, rfl, rfl⟩, hw⟩
  rw [if_neg hc5] at hw
  by_cases hc6 : l1 = 5
  · rw [if_pos hc6] at hw
    refine wm_tableIn (v := 5) (tgt := 86) hC dX11_has_1 hc6 (by decide) (by decide) rfl rfl ?_
    refine wm_aload_n hC 0 dX11_has_86 rfl (k_ne0 hk0 (by decide)) ?_
    refine x_getR2 hC 2 fl_X11_26 rfl hk0 dX11_has_87 hw (fun g9 hw => ?_)
    refine wm_aload_n hC 0 dX11_has_90 rfl (k_ne0 hk0 (by decide)) ?_
    refine x_getR2 hC 12 fl_X11_57 rfl hk0 dX11_has_91 hw (fun g10 hw => ?_)
    refine x_getR2 hC 0 fl_X11_145 rfl g10 dX11_has_94 hw (fun g11 hw => ?_)
    refine wm_iconst hC dX11_has_97 (k := ?_)
    refine x_iald hC g11 dX11_has_98 hw (fun hw => ?_)
    refine wm_iconst hC dX11_has_99 (k := ?_)
    refine y_callV_i_n hC hRm ml_X11_153 g9 (C7_wornBy g9 hw) (Nat.le_of_ble_eq_true rfl) (Nat.le_of_ble_eq_true rfl) ⟨Nat.zero_le _, Nat.zero_le _⟩ rfl (st := []) rfl (Nat.le_of_ble_eq_true rfl) dX11_has_100 (fun r1 hw => ?_)
    exact wm_ireturn hC hE dX11_has_103 ⟨⟨rfl, rfl, rfl⟩, hw⟩
  rw [if_neg hc6] at hw
  by_cases hc7 : l1 = 6
  · rw [if_pos hc7] at hw
    refine wm_tableIn (v := 6) (tgt := 104) hC dX11_has_1 hc7 (by decide) (by decide) rfl rfl ?_
    refine wm_aload_n hC 0 dX11_has_104 rfl (k_ne0 hk0 (by decide)) ?_
    refine x_getR2 hC 12 fl_X11_57 rfl hk0 dX11_has_105 hw (fun g12 hw => ?_)
    refine wm_aload_n hC 0 dX11_has_108 rfl (k_ne0 hk0 (by decide)) ?_
    refine x_getR2 hC 2 fl_X11_26 rfl hk0 dX11_has_109 hw (fun g13 hw => ?_)
    refine x_getR2 hC 5 fl_X11_157 rfl g13 dX11_has_112 hw (fun g14 hw => ?_)
    refine y_callV_i_n hC hRm ml_X11_160 g12 (C3_clashes g12 g14 hw) (Nat.le_of_ble_eq_true rfl) (Nat.le_of_ble_eq_true rfl) ⟨Nat.zero_le _, Nat.zero_le _⟩ rfl (st := []) rfl (Nat.le_of_ble_eq_true rfl) dX11_has_115 (fun r2 hw => ?_)
    exact wm_ireturn hC hE dX11_has_118 ⟨⟨rfl, rfl, rfl⟩, hw⟩
  rw [if_neg hc7] at hw
  by_cases hc8 : l1 = 7
  · rw [if_pos hc8] at hw
    refine wm_tableIn (v := 7) (tgt := 119) hC dX11_has_1 hc8 (by decide) (by decide) rfl rfl ?_
    refine wm_aload_n hC 0 dX11_has_119 rfl (k_ne0 hk0 (by decide)) ?_
    refine x_getR2 hC 2 fl_X11_26 rfl hk0 dX11_has_120 hw (fun g15 hw => ?_)
    refine x_getI hC 2 fl_X11_164 rfl g15 dX11_has_123 ?_
    exact wm_ireturn hC hE dX11_has_126 ⟨⟨rfl, rfl, rfl⟩, hw⟩
  rw [if_neg hc8] at hw
  by_cases hc9 : l1 = 8
  · rw [if_pos hc9] at hw
    refine wm_tableIn (v := 8) (tgt := 127) hC dX11_has_1 hc9 (by decide) (by decide) rfl rfl ?_
    refine wm_aload_n hC 0 dX11_has_127 rfl (k_ne0 hk0 (by decide)) ?_
    refine x_getR2 hC 11 fl_X11_106 rfl hk0 dX11_has_128 hw (fun g16 hw => ?_)
    refine x_getI hC 5 fl_X11_142 rfl g16 dX11_has_131 ?_
    exact wm_ireturn hC hE dX11_has_134 ⟨⟨rfl, rfl, rfl⟩, hw⟩
  rw [if_neg hc9] at hw
  by_cases hc10 : l1 = 9
  · rw [if_pos hc10] at hw
    refine wm_tableIn (v := 9) (tgt := 135) hC dX11_has_1 hc10 (by decide) (by decide) rfl rfl ?_
    refine wm_aload_n hC 0 dX11_has_135 rfl (k_ne0 hk0 (by decide)) ?_
    refine x_getR2 hC 4 fl_X11_36 rfl hk0 dX11_has_136 hw (fun g17 hw => ?_)
    refine x_getI hC 2 fl_X11_139 rfl g17 dX11_has_139 ?_
    exact wm_ireturn hC hE dX11_has_142 ⟨⟨rfl, rfl, rfl⟩, hw⟩
  rw [if_neg hc10] at hw
  by_cases hc11 : l1 = 10
  · rw [if_pos hc11] at hw
    refine wm_tableIn (v := 10) (tgt := 143) hC dX11_has_1 hc11 (by decide) (by decide) rfl rfl ?_
    refine wm_aload_n hC 0 dX11_has_143 rfl (k_ne0 hk0 (by decide)) ?_
    refine x_getI hC 16 fl_X11_71 rfl hk0 dX11_has_144 ?_
    exact wm_ireturn hC hE dX11_has_147 ⟨⟨rfl, rfl, rfl⟩, hw⟩
  rw [if_neg hc11] at hw
  refine wm_tableOut (tgt := 148) hC dX11_has_1 (by omega) rfl ?_
  refine wm_iconst hC dX11_has_148 (k := ?_)
  exact wm_ireturn hC hE dX11_has_149 ⟨⟨rfl, rfl, rfl⟩, hw⟩
def P11_letter (l0 : Nat) (l1 : Int) (l2 : Int) (l3 : Int) (I : mI) (R : mR) (Q : Int → Prop) : Prop := (kK (R l0 12) = 3 ∧ (P3_isThere (R l0 12) l1 l2 I R (fun r1 => (if r1 = 0 then (Q (-1)) else (if l3 < 0 then (Q (-1)) else (if l3 ≤ 5 then (kK (R l0 12) = 3 ∧ (P3_letterOf (R l0 12) l1 l2 l3 I R (fun r2 => (Q r2)))) else (Q (-1))))))))
set_option maxRecDepth 20000 in
theorem C11_letter {ad : Nat → Nat} {n : Nat} {I J : mI} {R : mR} {Q : Int → Prop} {l0 : Nat} {l1 : Int} {l2 : Int} {l3 : Int} (hk0 : kK l0 = 11) (hw : P11_letter l0 l1 l2 l3 I R Q) : wMet yX11_letter cX11_letter 4 (some .int) 3 60 ad n I J R [vr l0, vi l1, vi l2, vi l3] (fun r I' J' R' => (I' = I ∧ J' = J ∧ R' = R) ∧ Q r) := by
  refine wMet_of (by decide) (Nat.le_of_ble_eq_true rfl) (fun C hC hRm hE => ?_)
  refine (show WM C ad n I J R 0 0 0 [(0, vr l0), (1, vi l1), (2, vi l2), (3, vi l3)] [] from ?_)
  unfold P11_letter at hw
  refine wm_aload_n hC 0 dX11_letter_0 rfl (k_ne0 hk0 (by decide)) ?_
  refine x_getR2 hC 12 fl_X11_57 rfl hk0 dX11_letter_1 hw (fun g1 hw => ?_)
  refine wm_iload_n hC 1 dX11_letter_4 rfl ?_
  refine wm_iload_n hC 2 dX11_letter_5 rfl ?_
  refine y_callV_z_n hC hRm ml_X11_167 g1 (C3_isThere g1 hw) (Nat.le_of_ble_eq_true rfl) (Nat.le_of_ble_eq_true rfl) ⟨Nat.zero_le _, Nat.zero_le _⟩ rfl (st := []) rfl (Nat.le_of_ble_eq_true rfl) dX11_letter_6 (fun r1 hw => ?_)
  refine wm_if_eq (tgt := 21) hC dX11_letter_9 (by decide) hw (fun hw => ?_) (fun hw => ?_)
  · refine wm_iconst hC dX11_letter_21 (k := ?_)
    exact wm_ireturn hC hE dX11_letter_22 ⟨⟨rfl, rfl, rfl⟩, hw⟩
  · refine wm_iload_n hC 3 dX11_letter_12 rfl ?_
    refine wm_if_lt (tgt := 21) hC dX11_letter_13 (by decide) hw (fun hw => ?_) (fun hw => ?_)
    · refine wm_iconst hC dX11_letter_21 (k := ?_)
      exact wm_ireturn hC hE dX11_letter_22 ⟨⟨rfl, rfl, rfl⟩, hw⟩
    · refine wm_iload_n hC 3 dX11_letter_16 rfl ?_
      refine wm_iconst hC dX11_letter_17 (k := ?_)
      refine wm_icmp_le (tgt := 23) hC dX11_letter_18 (by decide) hw (fun hw => ?_) (fun hw => ?_)
      · refine wm_aload_n hC 0 dX11_letter_23 rfl (k_ne0 hk0 (by decide)) ?_
        refine x_getR2 hC 12 fl_X11_57 rfl hk0 dX11_letter_24 hw (fun g2 hw => ?_)
        refine wm_iload_n hC 1 dX11_letter_27 rfl ?_
        refine wm_iload_n hC 2 dX11_letter_28 rfl ?_
        refine wm_iload_n hC 3 dX11_letter_29 rfl ?_
        refine y_callV_i_n hC hRm ml_X11_171 g2 (C3_letterOf g2 hw) (Nat.le_of_ble_eq_true rfl) (Nat.le_of_ble_eq_true rfl) ⟨Nat.zero_le _, Nat.zero_le _⟩ rfl (st := []) rfl (Nat.le_of_ble_eq_true rfl) dX11_letter_30 (fun r2 hw => ?_)
        exact wm_ireturn hC hE dX11_letter_33 ⟨⟨rfl, rfl, rfl⟩, hw⟩
      · refine wm_iconst hC dX11_letter_21 (k := ?_)
        exact wm_ireturn hC hE dX11_letter_22 ⟨⟨rfl, rfl, rfl⟩, hw⟩
def P11_blind (l0 : Nat) (l1 : Int) (l2 : Int) (I : mI) (J : mI) (R : mR) (Q : Int → mI → mI → mR → Prop) : Prop := (kK (R l0 12) = 3 ∧ (P3_isThere (R l0 12) 0 l1 I R (fun r1 => (if r1 = 0 then (Q (-1) I J R) else (if l2 = 0 then (kK (R l0 12) = 3 ∧ (P3_traitOf (R l0 12) 0 l1 l2 I R (fun r2 => (Q r2 I J R)))) else (if l2 = 1 then (kK (R l0 12) = 3 ∧ (P3_traitOf (R l0 12) 0 l1 l2 I R (fun r3 => (Q r3 I J R)))) else (if l2 = 2 then (kK (R l0 12) = 3 ∧ (P3_traitOf (R l0 12) 0 l1 l2 I R (fun r4 => (Q r4 I J R)))) else (if l2 = 3 then (kK (R l0 12) = 3 ∧ (P3_isLate (R l0 12) l1 I (fun r5 => (Q r5 I J R)))) else (if l2 = 4 then (kK (R l0 2) = 7 ∧ (kK (R (R l0 2) 4) = 21 ∧ (((0 : Int) ≤ l1 ∧ l1 < (kN (R (R l0 2) 4) : Int)) ∧ (Q (I (R (R l0 2) 4) l1) I J R)))) else (if l2 = 5 then (kK (R l0 2) = 7 ∧ (kK (R l0 12) = 3 ∧ (kK (R (R l0 12) 0) = 21 ∧ (((0 : Int) ≤ (0 : Int) ∧ (0 : Int) < (kN (R (R l0 12) 0) : Int)) ∧ (P7_placeOf (R l0 2) l1 (I (R (R l0 12) 0) (0 : Int)) I R (fun r6 => (Q r6 I J R))))))) else (if l2 = 6 then (kK (R l0 9) = 1 ∧ (kK (R l0 12) = 3 ∧ (kK (R l0 2) = 7 ∧ (P1_sit (R l0 9) (R l0 12) (R l0 2) 0 I J R (fun I1 J1 R1 => (kK (R1 l0 9) = 1 ∧ (P1_isCounting (R1 l0 9) l1 I1 (fun r7 => (if r7 = 0 then (Q 0 I1 J1 R1) else (Q 1 I1 J1 R1)))))))))) else (Q (-1) I J R))))))))))))
set_option maxRecDepth 20000 in
theorem C11_blind {ad : Nat → Nat} {n : Nat} {I J : mI} {R : mR} {Q : Int → mI → mI → mR → Prop} {l0 : Nat} {l1 : Int} {l2 : Int} (hk0 : kK l0 = 11) (hw : P11_blind l0 l1 l2 I J R Q) : wMet yX11_blind cX11_blind 3 (some .int) 4 86 ad n I J R [vr l0, vi l1, vi l2] (fun r I' J' R' => (True) ∧ Q r I' J' R') := by
  refine wMet_of (by decide) (Nat.le_of_ble_eq_true rfl) (fun C hC hRm hE => ?_)
  refine (show WM C ad n I J R 0 0 0 [(0, vr l0), (1, vi l1), (2, vi l2)] [] from ?_)
  unfold P11_blind at hw
  refine wm_aload_n hC 0 dX11_blind_0 rfl (k_ne0 hk0 (by decide)) ?_
  refine x_getR2 hC 12 fl_X11_57 rfl hk0 dX11_blind_1 hw (fun g1 hw => ?_)
  refine wm_iconst hC dX11_blind_4 (k := ?_)
  refine wm_iload_n hC 1 dX11_blind_5 rfl ?_
  refine y_callV_z_n hC hRm ml_X11_167 g1 (C3_isThere g1 hw) (Nat.le_of_ble_eq_true rfl) (Nat.le_of_ble_eq_true rfl) ⟨Nat.zero_le _, Nat.zero_le _⟩ rfl (st := []) rfl (Nat.le_of_ble_eq_true rfl) dX11_blind_6 (fun r1 hw => ?_)
  refine wm_if_ne (tgt := 14) hC dX11_blind_9 (by decide) hw (fun hw => ?_) (fun hw => ?_)
  · refine wm_iconst hC dX11_blind_12 (k := ?_)
    exact wm_ireturn hC hE dX11_blind_13 ⟨trivial, hw⟩
  · refine wm_iload_n hC 2 dX11_blind_14 rfl ?_
    by_cases hc1 : l2 = 0
    · rw [if_pos hc1] at hw
      refine wm_tableIn (v := 0) (tgt := 56) hC dX11_blind_15 hc1 (by decide) (by decide) rfl rfl ?_
      refine wm_aload_n hC 0 dX11_blind_56 rfl (k_ne0 hk0 (by decide)) ?_
      refine x_getR2 hC 12 fl_X11_57 rfl hk0 dX11_blind_57 hw (fun g2 hw => ?_)
      refine wm_iconst hC dX11_blind_60 (k := ?_)
      refine wm_iload_n hC 1 dX11_blind_61 rfl ?_
      refine wm_iload_n hC 2 dX11_blind_62 rfl ?_
      refine y_callV_i_n hC hRm ml_X11_175 g2 (C3_traitOf g2 hw) (Nat.le_of_ble_eq_true rfl) (Nat.le_of_ble_eq_true rfl) ⟨Nat.zero_le _, Nat.zero_le _⟩ rfl (st := []) rfl (Nat.le_of_ble_eq_true rfl) dX11_blind_63 (fun r2 hw => ?_)
      exact wm_ireturn hC hE dX11_blind_66 ⟨trivial, hw⟩
    rw [if_neg hc1] at hw
    by_cases hc2 : l2 = 1
    · rw [if_pos hc2] at hw
      refine wm_tableIn (v := 1) (tgt := 56) hC dX11_blind_15 hc2 (by decide) (by decide) rfl rfl ?_
      refine wm_aload_n hC 0 dX11_blind_56 rfl (k_ne0 hk0 (by decide)) ?_
      refine x_getR2 hC 12 fl_X11_57 rfl hk0 dX11_blind_57 hw (fun g3 hw => ?_)
      refine wm_iconst hC dX11_blind_60 (k := ?_)
      refine wm_iload_n hC 1 dX11_blind_61 rfl ?_
      refine wm_iload_n hC 2 dX11_blind_62 rfl ?_
      refine y_callV_i_n hC hRm ml_X11_175 g3 (C3_traitOf g3 hw) (Nat.le_of_ble_eq_true rfl) (Nat.le_of_ble_eq_true rfl) ⟨Nat.zero_le _, Nat.zero_le _⟩ rfl (st := []) rfl (Nat.le_of_ble_eq_true rfl) dX11_blind_63 (fun r3 hw => ?_)
      exact wm_ireturn hC hE dX11_blind_66 ⟨trivial, hw⟩
    rw [if_neg hc2] at hw
    by_cases hc3 : l2 = 2
    · rw [if_pos hc3] at hw
      refine wm_tableIn (v := 2) (tgt := 56) hC dX11_blind_15 hc3 (by decide) (by decide) rfl rfl ?_
      refine wm_aload_n hC 0 dX11_blind_56 rfl (k_ne0 hk0 (by decide)) ?_
      refine x_getR2 hC 12 fl_X11_57 rfl hk0 dX11_blind_57 hw (fun g4 hw => ?_)
      refine wm_iconst hC dX11_blind_60 (k := ?_)
      refine wm_iload_n hC 1 dX11_blind_61 rfl ?_
      refine wm_iload_n hC 2 dX11_blind_62 rfl ?_
      refine y_callV_i_n hC hRm ml_X11_175 g4 (C3_traitOf g4 hw) (Nat.le_of_ble_eq_true rfl) (Nat.le_of_ble_eq_true rfl) ⟨Nat.zero_le _, Nat.zero_le _⟩ rfl (st := []) rfl (Nat.le_of_ble_eq_true rfl) dX11_blind_63 (fun r4 hw => ?_)
      exact wm_ireturn hC hE dX11_blind_66 ⟨trivial, hw⟩
    rw [if_neg hc3] at hw
    by_cases hc4 : l2 = 3
    · rw [if_pos hc4] at hw
      refine wm_tableIn (v := 3) (tgt := 67) hC dX11_blind_15 hc4 (by decide) (by decide) rfl rfl ?_
      refine wm_aload_n hC 0 dX11_blind_67 rfl (k_ne0 hk0 (by decide)) ?_
      refine x_getR2 hC 12 fl_X11_57 rfl hk0 dX11_blind_68 hw (fun g5 hw => ?_)
      refine wm_iload_n hC 1 dX11_blind_71 rfl ?_
      refine y_callV_i_n hC hRm ml_X11_178 g5 (C3_isLate g5 hw) (Nat.le_of_ble_eq_true rfl) (Nat.le_of_ble_eq_true rfl) ⟨Nat.zero_le _, Nat.zero_le _⟩ rfl (st := []) rfl (Nat.le_of_ble_eq_true rfl) dX11_blind_72 (fun r5 hw => ?_)
      exact wm_ireturn hC hE dX11_blind_75 ⟨trivial, hw⟩
    rw [if_neg hc4] at hw
    by_cases hc5 : l2 = 4
    · rw [if_pos hc5] at hw
      refine wm_tableIn (v := 4) (tgt := 76) hC dX11_blind_15 hc5 (by decide) (by decide) rfl rfl ?_
      refine wm_aload_n hC 0 dX11_blind_76 rfl (k_ne0 hk0 (by decide)) ?_
      refine x_getR2 hC 2 fl_X11_26 rfl hk0 dX11_blind_77 hw (fun g6 hw => ?_)
      refine x_getR2 hC 4 fl_X11_181 rfl g6 dX11_blind_80 hw (fun g7 hw => ?_)
      refine wm_iload_n hC 1 dX11_blind_83 rfl ?_
      refine x_iald hC g7 dX11_blind_84 hw (fun hw => ?_)
      exact wm_ireturn hC hE dX11_blind_85 ⟨trivial, hw⟩
    rw [if_neg hc5] at hw
    by_cases hc6 : l2 = 5
    · rw [if_pos hc6] at hw
      refine wm_tableIn (v := 5) (tgt := 86) hC dX11_blind_15 hc6 (by decide) (by decide) rfl rfl ?_
      refine wm_aload_n hC 0 dX11_blind_86 rfl (k_ne0 hk0 (by decide)) ?_
      refine x_getR2 hC 2 fl_X11_26 rfl hk0 dX11_blind_87 hw (fun g8 hw => ?_)
      refine wm_iload_n hC 1 dX11_blind_90 rfl ?_
      refine wm_aload_n hC 0 dX11_blind_91 rfl (k_ne0 hk0 (by decide)) ?_
      refine x_getR2 hC 12 fl_X11_57 rfl hk0 dX11_blind_92 hw (fun g9 hw => ?_)
      refine x_getR2 hC 0 fl_X11_145 rfl g9 dX11_blind_95 hw (fun g10 hw => ?_)
      refine wm_iconst hC dX11_blind_98 (k := ?_)
      refine x_iald hC g10 dX11_blind_99 hw (fun hw => ?_)
      refine y_callV_i_n hC hRm ml_X11_184 g8 (C7_placeOf g8 hw) (Nat.le_of_ble_eq_true rfl) (Nat.le_of_ble_eq_true rfl) ⟨Nat.zero_le _, Nat.zero_le _⟩ rfl (st := []) rfl (Nat.le_of_ble_eq_true rfl) dX11_blind_100 (fun r6 hw => ?_)
      exact wm_ireturn hC hE dX11_blind_103 ⟨trivial, hw⟩
    rw [if_neg hc6] at hw
    by_cases hc7 : l2 = 6
    · rw [if_pos hc7] at hw
      refine wm_tableIn (v := 6) (tgt := 104) hC dX11_blind_15 hc7 (by decide) (by decide) rfl rfl ?_
      refine wm_aload_n hC 0 dX11_blind_104 rfl (k_ne0 hk0 (by decide)) ?_
      refine x_getR2 hC 9 fl_X11_88 rfl hk0 dX11_blind_105 hw (fun g11 hw => ?_)
      refine wm_aload_n hC 0 dX11_blind_108 rfl (k_ne0 hk0 (by decide)) ?_
      refine x_getR2 hC 12 fl_X11_57 rfl hk0 dX11_blind_109 hw (fun g12 hw => ?_)
      refine wm_aload_n hC 0 dX11_blind_112 rfl (k_ne0 hk0 (by decide)) ?_
      refine x_getR2 hC 2 fl_X11_26 rfl hk0 dX11_blind_113 hw (fun g13 hw => ?_)
      refine wm_iconst hC dX11_blind_116 (k := ?_)
      refine y_callV_v_IJR hC hRm ml_X11_187 g11 (C1_sit g11 g12 g13 hw) (Nat.le_of_ble_eq_true rfl) (Nat.le_of_ble_eq_true rfl) ⟨Nat.zero_le _, Nat.zero_le _⟩ rfl (st := []) rfl (Nat.le_of_ble_eq_true rfl) dX11_blind_117 (fun I1 J1 R1 hw => ?_)
      refine wm_aload_n hC 0 dX11_blind_120 rfl (k_ne0 hk0 (by decide)) ?_
      refine x_getR2 hC 9 fl_X11_88 rfl hk0 dX11_blind_121 hw (fun g14 hw => ?_)
      refine wm_iload_n hC 1 dX11_blind_124 rfl ?_
      refine y_callV_z_n hC hRm ml_X11_191 g14 (C1_isCounting g14 hw) (Nat.le_of_ble_eq_true rfl) (Nat.le_of_ble_eq_true rfl) ⟨Nat.zero_le _, Nat.zero_le _⟩ rfl (st := []) rfl (Nat.le_of_ble_eq_true rfl) dX11_blind_125 (fun r7 hw => ?_)
      refine wm_if_eq (tgt := 135) hC dX11_blind_128 (by decide) hw (fun hw => ?_) (fun hw => ?_)
      · refine wm_iconst hC dX11_blind_135 (k := ?_)
        exact wm_ireturn hC hE dX11_blind_136 ⟨trivial, hw⟩
      · refine wm_iconst hC dX11_blind_131 (k := ?_)
        refine wm_goto (tgt := 136) hC dX11_blind_132 (by decide) ?_
        exact wm_ireturn hC hE dX11_blind_136 ⟨trivial, hw⟩
    rw [if_neg hc7] at hw
    refine wm_tableOut (tgt := 137) hC dX11_blind_15 (by omega) rfl ?_
    refine wm_iconst hC dX11_blind_137 (k := ?_)
    exact wm_ireturn hC hE dX11_blind_138 ⟨trivial, hw⟩
def P11_colour (l0 : Nat) (l1 : Int) (l2 : Int) (I : mI) (R : mR) (Q : Int → Prop) : Prop := (kK (R l0 12) = 3 ∧ (P3_isThere (R l0 12) 1 l1 I R (fun r1 => (if r1 = 0 then (Q (-1)) else (if l2 < 0 then (Q (-1)) else (if l2 ≤ 4 then (if l2 = 4 then (kK (R l0 2) = 7 ∧ (kK (R l0 12) = 3 ∧ (kK (R (R l0 12) 0) = 21 ∧ (((0 : Int) ≤ (2 : Int) ∧ (2 : Int) < (kN (R (R l0 12) 0) : Int)) ∧ (P7_wornBy (R l0 2) (I (R (R l0 12) 0) (2 : Int)) l1 I R (fun r3 => (Q r3))))))) else (kK (R l0 12) = 3 ∧ (P3_traitOf (R l0 12) 1 l1 l2 I R (fun r2 => (Q r2))))) else (Q (-1))))))))
set_option maxRecDepth 20000 in
theorem C11_colour {ad : Nat → Nat} {n : Nat} {I J : mI} {R : mR} {Q : Int → Prop} {l0 : Nat} {l1 : Int} {l2 : Int} (hk0 : kK l0 = 11) (hw : P11_colour l0 l1 l2 I R Q) : wMet yX11_colour cX11_colour 3 (some .int) 2 36 ad n I J R [vr l0, vi l1, vi l2] (fun r I' J' R' => (I' = I ∧ J' = J ∧ R' = R) ∧ Q r) := by
  refine wMet_of (by decide) (Nat.le_of_ble_eq_true rfl) (fun C hC hRm hE => ?_)
  refine (show WM C ad n I J R 0 0 0 [(0, vr l0), (1, vi l1), (2, vi l2)] [] from ?_)
  unfold P11_colour at hw
  refine wm_aload_n hC 0 dX11_colour_0 rfl (k_ne0 hk0 (by decide)) ?_
  refine x_getR2 hC 12 fl_X11_57 rfl hk0 dX11_colour_1 hw (fun g1 hw => ?_)
  refine wm_iconst hC dX11_colour_4 (k := ?_)
  refine wm_iload_n hC 1 dX11_colour_5 rfl ?_
  refine y_callV_z_n hC hRm ml_X11_167 g1 (C3_isThere g1 hw) (Nat.le_of_ble_eq_true rfl) (Nat.le_of_ble_eq_true rfl) ⟨Nat.zero_le _, Nat.zero_le _⟩ rfl (st := []) rfl (Nat.le_of_ble_eq_true rfl) dX11_colour_6 (fun r1 hw => ?_)
  refine wm_if_eq (tgt := 21) hC dX11_colour_9 (by decide) hw (fun hw => ?_) (fun hw => ?_)
  · refine wm_iconst hC dX11_colour_21 (k := ?_)
    exact wm_ireturn hC hE dX11_colour_22 ⟨⟨rfl, rfl, rfl⟩, hw⟩
  · refine wm_iload_n hC 2 dX11_colour_12 rfl ?_
    refine wm_if_lt (tgt := 21) hC dX11_colour_13 (by decide) hw (fun hw => ?_) (fun hw => ?_)
    · refine wm_iconst hC dX11_colour_21 (k := ?_)
      exact wm_ireturn hC hE dX11_colour_22 ⟨⟨rfl, rfl, rfl⟩, hw⟩
    · refine wm_iload_n hC 2 dX11_colour_16 rfl ?_
      refine wm_iconst hC dX11_colour_17 (k := ?_)
      refine wm_icmp_le (tgt := 23) hC dX11_colour_18 (by decide) hw (fun hw => ?_) (fun hw => ?_)
      · refine wm_iload_n hC 2 dX11_colour_23 rfl ?_
        refine wm_iconst hC dX11_colour_24 (k := ?_)
        refine wm_icmp_ne (tgt := 46) hC dX11_colour_25 (by decide) hw (fun hw => ?_) (fun hw => ?_)
        · refine wm_aload_n hC 0 dX11_colour_28 rfl (k_ne0 hk0 (by decide)) ?_
          refine x_getR2 hC 2 fl_X11_26 rfl hk0 dX11_colour_29 hw (fun g3 hw => ?_)
          refine wm_aload_n hC 0 dX11_colour_32 rfl (k_ne0 hk0 (by decide)) ?_
          refine x_getR2 hC 12 fl_X11_57 rfl hk0 dX11_colour_33 hw (fun g4 hw => ?_)
          refine x_getR2 hC 0 fl_X11_145 rfl g4 dX11_colour_36 hw (fun g5 hw => ?_)
          refine wm_iconst hC dX11_colour_39 (k := ?_)
          refine x_iald hC g5 dX11_colour_40 hw (fun hw => ?_)
          refine wm_iload_n hC 1 dX11_colour_41 rfl ?_
          refine y_callV_i_n hC hRm ml_X11_153 g3 (C7_wornBy g3 hw) (Nat.le_of_ble_eq_true rfl) (Nat.le_of_ble_eq_true rfl) ⟨Nat.zero_le _, Nat.zero_le _⟩ rfl (st := []) rfl (Nat.le_of_ble_eq_true rfl) dX11_colour_42 (fun r3 hw => ?_)
          exact wm_ireturn hC hE dX11_colour_45 ⟨⟨rfl, rfl, rfl⟩, hw⟩
        · refine wm_aload_n hC 0 dX11_colour_46 rfl (k_ne0 hk0 (by decide)) ?_
          refine x_getR2 hC 12 fl_X11_57 rfl hk0 dX11_colour_47 hw (fun g2 hw => ?_)
          refine wm_iconst hC dX11_colour_50 (k := ?_)
          refine wm_iload_n hC 1 dX11_colour_51 rfl ?_
          refine wm_iload_n hC 2 dX11_colour_52 rfl ?_
          refine y_callV_i_n hC hRm ml_X11_175 g2 (C3_traitOf g2 hw) (Nat.le_of_ble_eq_true rfl) (Nat.le_of_ble_eq_true rfl) ⟨Nat.zero_le _, Nat.zero_le _⟩ rfl (st := []) rfl (Nat.le_of_ble_eq_true rfl) dX11_colour_53 (fun r2 hw => ?_)
          exact wm_ireturn hC hE dX11_colour_56 ⟨⟨rfl, rfl, rfl⟩, hw⟩
      · refine wm_iconst hC dX11_colour_21 (k := ?_)
        exact wm_ireturn hC hE dX11_colour_22 ⟨⟨rfl, rfl, rfl⟩, hw⟩
def PJ6_bitCount (l0 : Int)  (Q : Int → Prop) : Prop := (rg (l0 - (bAnd (bUshr l0 1) 1431655765)) ∧ (wLet (l0 - (bAnd (bUshr l0 1) 1431655765)) (fun x1 => (rg ((bAnd x1 858993459) + (bAnd (bUshr x1 2) 858993459)) ∧ (wLet ((bAnd x1 858993459) + (bAnd (bUshr x1 2) 858993459)) (fun x2 => (rg (x2 + (bUshr x2 4)) ∧ (wLet (bAnd (x2 + (bUshr x2 4)) 252645135) (fun x3 => (rg (x3 + (bUshr x3 8)) ∧ (rg ((x3 + (bUshr x3 8)) + (bUshr (x3 + (bUshr x3 8)) 16)) ∧ (wLet ((x3 + (bUshr x3 8)) + (bUshr (x3 + (bUshr x3 8)) 16)) (fun x4 => (Q (bAnd x4 63)))))))))))))))
set_option maxRecDepth 20000 in
theorem CJ6_bitCount {ad : Nat → Nat} {n : Nat} {I J : mI} {R : mR} {Q : Int → Prop} {l0 : Int}  (hw : PJ6_bitCount l0 Q) : wMet yJ6_bitCount_0f7a4 cJ6_bitCount_0f7a4 1 (some .int) 1 12 ad n I J R [vi l0] (fun r I' J' R' => (I' = I ∧ J' = J ∧ R' = R) ∧ Q r) := by
  refine wMet_of (by decide) (Nat.le_of_ble_eq_true rfl) (fun C hC hRm hE => ?_)
  refine (show WM C ad n I J R 0 0 0 [(0, vi l0)] [] from ?_)
  unfold PJ6_bitCount at hw
  refine wm_iload_n hC 0 dJ6_bitCount_0f7a4_0 rfl ?_
  refine wm_iload_n hC 0 dJ6_bitCount_0f7a4_1 rfl ?_
  refine wm_iconst hC dJ6_bitCount_0f7a4_2 (k := ?_)
  refine wm_iushr2 hC dJ6_bitCount_0f7a4_3 ?_
  refine wm_ldcw hC (x := 1431655765) tc_J6_265 rfl dJ6_bitCount_0f7a4_4 (k := ?_)
  refine wm_iand hC dJ6_bitCount_0f7a4_7 ?_
  refine x_isub hC dJ6_bitCount_0f7a4_8 hw (fun hw => ?_)
  refine x_nameI hw (fun x1 hw => ?_)
  refine wm_istore_n hC dJ6_bitCount_0f7a4_9 (by decide) (L2 := [(0, vi x1)]) rfl ?_
  refine wm_iload_n hC 0 dJ6_bitCount_0f7a4_10 rfl ?_
  refine wm_ldcw hC (x := 858993459) tc_J6_266 rfl dJ6_bitCount_0f7a4_11 (k := ?_)
  refine wm_iand hC dJ6_bitCount_0f7a4_14 ?_
  refine wm_iload_n hC 0 dJ6_bitCount_0f7a4_15 rfl ?_
  refine wm_iconst hC dJ6_bitCount_0f7a4_16 (k := ?_)
  refine wm_iushr2 hC dJ6_bitCount_0f7a4_17 ?_
  refine wm_ldcw hC (x := 858993459) tc_J6_266 rfl dJ6_bitCount_0f7a4_18 (k := ?_)
  refine wm_iand hC dJ6_bitCount_0f7a4_21 ?_
  refine x_iadd hC dJ6_bitCount_0f7a4_22 hw (fun hw => ?_)
  refine x_nameI hw (fun x2 hw => ?_)
  refine wm_istore_n hC dJ6_bitCount_0f7a4_23 (by decide) (L2 := [(0, vi x2)]) rfl ?_
  refine wm_iload_n hC 0 dJ6_bitCount_0f7a4_24 rfl ?_
  refine wm_iload_n hC 0 dJ6_bitCount_0f7a4_25 rfl ?_
  refine wm_iconst hC dJ6_bitCount_0f7a4_26 (k := ?_)
  refine wm_iushr2 hC dJ6_bitCount_0f7a4_27 ?_
  refine x_iadd hC dJ6_bitCount_0f7a4_28 hw (fun hw => ?_)
  refine wm_ldcw hC (x := 252645135) tc_J6_267 rfl dJ6_bitCount_0f7a4_29 (k := ?_)
  refine wm_iand hC dJ6_bitCount_0f7a4_32 ?_
  refine x_nameI hw (fun x3 hw => ?_)
  refine wm_istore_n hC dJ6_bitCount_0f7a4_33 (by decide) (L2 := [(0, vi x3)]) rfl ?_
  refine wm_iload_n hC 0 dJ6_bitCount_0f7a4_34 rfl ?_
  refine wm_iload_n hC 0 dJ6_bitCount_0f7a4_35 rfl ?_
  refine wm_bipush hC dJ6_bitCount_0f7a4_36 (k := ?_)
  refine wm_iushr2 hC dJ6_bitCount_0f7a4_38 ?_
  refine x_iadd hC dJ6_bitCount_0f7a4_39 hw (fun hw => ?_)
  refine wm_istore_n hC dJ6_bitCount_0f7a4_40 (by decide) (L2 := [(0, vi (x3 + (bUshr x3 8)))]) rfl ?_
  refine wm_iload_n hC 0 dJ6_bitCount_0f7a4_41 rfl ?_
  refine wm_iload_n hC 0 dJ6_bitCount_0f7a4_42 rfl ?_
  refine wm_bipush hC dJ6_bitCount_0f7a4_43 (k := ?_)
  refine wm_iushr2 hC dJ6_bitCount_0f7a4_45 ?_
  refine x_iadd hC dJ6_bitCount_0f7a4_46 hw (fun hw => ?_)
  refine x_nameI hw (fun x4 hw => ?_)
  refine wm_istore_n hC dJ6_bitCount_0f7a4_47 (by decide) (L2 := [(0, vi x4)]) rfl ?_
  refine wm_iload_n hC 0 dJ6_bitCount_0f7a4_48 rfl ?_
  refine wm_bipush hC dJ6_bitCount_0f7a4_49 (k := ?_)
  refine wm_iand hC dJ6_bitCount_0f7a4_51 ?_
  exact wm_ireturn hC hE dJ6_bitCount_0f7a4_52 ⟨⟨rfl, rfl, rfl⟩, hw⟩
def P11_thing (l0 : Nat) (l1 : Int) (l2 : Int) (I : mI) (R : mR) (Q : Int → Prop) : Prop := (kK (R l0 12) = 3 ∧ (P3_isThere (R l0 12) 2 l1 I R (fun r1 => (if r1 = 0 then (Q (-1)) else (if l2 < 0 then (Q (-1)) else (if l2 ≤ 4 then (if l2 = 3 then (kK (R l0 2) = 7 ∧ (kK (R (R l0 2) 5) = 21 ∧ (((0 : Int) ≤ l1 ∧ l1 < (kN (R (R l0 2) 5) : Int)) ∧ (Q (I (R (R l0 2) 5) l1))))) else (if l2 = 4 then (kK (R l0 12) = 3 ∧ (kK (R (R l0 12) 3) = 21 ∧ (((0 : Int) ≤ l1 ∧ l1 < (kN (R (R l0 12) 3) : Int)) ∧ (PJ6_bitCount (I (R (R l0 12) 3) l1) (fun r3 => (Q r3)))))) else (kK (R l0 12) = 3 ∧ (P3_traitOf (R l0 12) 2 l1 l2 I R (fun r2 => (Q r2)))))) else (Q (-1))))))))
set_option maxRecDepth 20000 in
theorem C11_thing {ad : Nat → Nat} {n : Nat} {I J : mI} {R : mR} {Q : Int → Prop} {l0 : Nat} {l1 : Int} {l2 : Int} (hk0 : kK l0 = 11) (hw : P11_thing l0 l1 l2 I R Q) : wMet yX11_thing cX11_thing 3 (some .int) 2 36 ad n I J R [vr l0, vi l1, vi l2] (fun r I' J' R' => (I' = I ∧ J' = J ∧ R' = R) ∧ Q r) := by
  refine wMet_of (by decide) (Nat.le_of_ble_eq_true rfl) (fun C hC hRm hE => ?_)
  refine (show WM C ad n I J R 0 0 0 [(0, vr l0), (1, vi l1), (2, vi l2)] [] from ?_)
  unfold P11_thing at hw
  refine wm_aload_n hC 0 dX11_thing_0 rfl (k_ne0 hk0 (by decide)) ?_
  refine x_getR2 hC 12 fl_X11_57 rfl hk0 dX11_thing_1 hw (fun g1 hw => ?_)
  refine wm_iconst hC dX11_thing_4 (k := ?_)
  refine wm_iload_n hC 1 dX11_thing_5 rfl ?_
  refine y_callV_z_n hC hRm ml_X11_167 g1 (C3_isThere g1 hw) (Nat.le_of_ble_eq_true rfl) (Nat.le_of_ble_eq_true rfl) ⟨Nat.zero_le _, Nat.zero_le _⟩ rfl (st := []) rfl (Nat.le_of_ble_eq_true rfl) dX11_thing_6 (fun r1 hw => ?_)
  refine wm_if_eq (tgt := 21) hC dX11_thing_9 (by decide) hw (fun hw => ?_) (fun hw => ?_)
  · refine wm_iconst hC dX11_thing_21 (k := ?_)
    exact wm_ireturn hC hE dX11_thing_22 ⟨⟨rfl, rfl, rfl⟩, hw⟩
  · refine wm_iload_n hC 2 dX11_thing_12 rfl ?_
    refine wm_if_lt (tgt := 21) hC dX11_thing_13 (by decide) hw (fun hw => ?_) (fun hw => ?_)
    · refine wm_iconst hC dX11_thing_21 (k := ?_)
      exact wm_ireturn hC hE dX11_thing_22 ⟨⟨rfl, rfl, rfl⟩, hw⟩
    · refine wm_iload_n hC 2 dX11_thing_16 rfl ?_
      refine wm_iconst hC dX11_thing_17 (k := ?_)
      refine wm_icmp_le (tgt := 23) hC dX11_thing_18 (by decide) hw (fun hw => ?_) (fun hw => ?_)
      · refine wm_iload_n hC 2 dX11_thing_23 rfl ?_
        refine wm_iconst hC dX11_thing_24 (k := ?_)
        refine wm_icmp_ne (tgt := 38) hC dX11_thing_25 (by decide) hw (fun hw => ?_) (fun hw => ?_)
        · refine wm_aload_n hC 0 dX11_thing_28 rfl (k_ne0 hk0 (by decide)) ?_
          refine x_getR2 hC 2 fl_X11_26 rfl hk0 dX11_thing_29 hw (fun g5 hw => ?_)
          refine x_getR2 hC 5 fl_X11_157 rfl g5 dX11_thing_32 hw (fun g6 hw => ?_)
          refine wm_iload_n hC 1 dX11_thing_35 rfl ?_
          refine x_iald hC g6 dX11_thing_36 hw (fun hw => ?_)
          exact wm_ireturn hC hE dX11_thing_37 ⟨⟨rfl, rfl, rfl⟩, hw⟩
        · refine wm_iload_n hC 2 dX11_thing_38 rfl ?_
          refine wm_iconst hC dX11_thing_39 (k := ?_)
          refine wm_icmp_ne (tgt := 56) hC dX11_thing_40 (by decide) hw (fun hw => ?_) (fun hw => ?_)
          · refine wm_aload_n hC 0 dX11_thing_43 rfl (k_ne0 hk0 (by decide)) ?_
            refine x_getR2 hC 12 fl_X11_57 rfl hk0 dX11_thing_44 hw (fun g3 hw => ?_)
            refine x_getR2 hC 3 fl_X11_194 rfl g3 dX11_thing_47 hw (fun g4 hw => ?_)
            refine wm_iload_n hC 1 dX11_thing_50 rfl ?_
            refine x_iald hC g4 dX11_thing_51 hw (fun hw => ?_)
            refine y_callS_i_n hC hRm ml_X11_197 (CJ6_bitCount  hw) (Nat.le_of_ble_eq_true rfl) (Nat.le_of_ble_eq_true rfl) ⟨Nat.zero_le _, Nat.zero_le _⟩ rfl (st := []) rfl (Nat.le_of_ble_eq_true rfl) dX11_thing_52 (fun r3 hw => ?_)
            exact wm_ireturn hC hE dX11_thing_55 ⟨⟨rfl, rfl, rfl⟩, hw⟩
          · refine wm_aload_n hC 0 dX11_thing_56 rfl (k_ne0 hk0 (by decide)) ?_
            refine x_getR2 hC 12 fl_X11_57 rfl hk0 dX11_thing_57 hw (fun g2 hw => ?_)
            refine wm_iconst hC dX11_thing_60 (k := ?_)
            refine wm_iload_n hC 1 dX11_thing_61 rfl ?_
            refine wm_iload_n hC 2 dX11_thing_62 rfl ?_
            refine y_callV_i_n hC hRm ml_X11_175 g2 (C3_traitOf g2 hw) (Nat.le_of_ble_eq_true rfl) (Nat.le_of_ble_eq_true rfl) ⟨Nat.zero_le _, Nat.zero_le _⟩ rfl (st := []) rfl (Nat.le_of_ble_eq_true rfl) dX11_thing_63 (fun r2 hw => ?_)
            exact wm_ireturn hC hE dX11_thing_66 ⟨⟨rfl, rfl, rfl⟩, hw⟩
      · refine wm_iconst hC dX11_thing_21 (k := ?_)
        exact wm_ireturn hC hE dX11_thing_22 ⟨⟨rfl, rfl, rfl⟩, hw⟩
def P11_areThere (l0 : Nat) (l1 : Int) (l2 : Int) (I : mI) (R : mR) (Q : Int → Prop) : Prop := (kK (R l0 12) = 3 ∧ (P3_isThere (R l0 12) 0 l1 I R (fun r1 => (if r1 = 0 then (Q 0) else (kK (R l0 12) = 3 ∧ (P3_isThere (R l0 12) 2 l2 I R (fun r2 => (if r2 = 0 then (Q 0) else (Q 1)))))))))
set_option maxRecDepth 20000 in
theorem C11_areThere {ad : Nat → Nat} {n : Nat} {I J : mI} {R : mR} {Q : Int → Prop} {l0 : Nat} {l1 : Int} {l2 : Int} (hk0 : kK l0 = 11) (hw : P11_areThere l0 l1 l2 I R Q) : wMet yX11_areThere cX11_areThere 3 (some .boolean) 2 34 ad n I J R [vr l0, vi l1, vi l2] (fun r I' J' R' => (I' = I ∧ J' = J ∧ R' = R) ∧ Q r) := by
  refine wMet_of (by decide) (Nat.le_of_ble_eq_true rfl) (fun C hC hRm hE => ?_)
  refine (show WM C ad n I J R 0 0 0 [(0, vr l0), (1, vi l1), (2, vi l2)] [] from ?_)
  unfold P11_areThere at hw
  refine wm_aload_n hC 0 dX11_areThere_0 rfl (k_ne0 hk0 (by decide)) ?_
  refine x_getR2 hC 12 fl_X11_57 rfl hk0 dX11_areThere_1 hw (fun g1 hw => ?_)
  refine wm_iconst hC dX11_areThere_4 (k := ?_)
  refine wm_iload_n hC 1 dX11_areThere_5 rfl ?_
  refine y_callV_z_n hC hRm ml_X11_167 g1 (C3_isThere g1 hw) (Nat.le_of_ble_eq_true rfl) (Nat.le_of_ble_eq_true rfl) ⟨Nat.zero_le _, Nat.zero_le _⟩ rfl (st := []) rfl (Nat.le_of_ble_eq_true rfl) dX11_areThere_6 (fun r1 hw => ?_)
  refine wm_if_eq (tgt := 28) hC dX11_areThere_9 (by decide) hw (fun hw => ?_) (fun hw => ?_)
  · refine wm_iconst hC dX11_areThere_28 (k := ?_)
    exact wm_zreturn hC hE (Or.inl rfl) dX11_areThere_29 ⟨⟨rfl, rfl, rfl⟩, hw⟩
  · refine wm_aload_n hC 0 dX11_areThere_12 rfl (k_ne0 hk0 (by decide)) ?_
    refine x_getR2 hC 12 fl_X11_57 rfl hk0 dX11_areThere_13 hw (fun g2 hw => ?_)
    refine wm_iconst hC dX11_areThere_16 (k := ?_)
    refine wm_iload_n hC 2 dX11_areThere_17 rfl ?_
    refine y_callV_z_n hC hRm ml_X11_167 g2 (C3_isThere g2 hw) (Nat.le_of_ble_eq_true rfl) (Nat.le_of_ble_eq_true rfl) ⟨Nat.zero_le _, Nat.zero_le _⟩ rfl (st := []) rfl (Nat.le_of_ble_eq_true rfl) dX11_areThere_18 (fun r2 hw => ?_)
    refine wm_if_eq (tgt := 28) hC dX11_areThere_21 (by decide) hw (fun hw => ?_) (fun hw => ?_)
    · refine wm_iconst hC dX11_areThere_28 (k := ?_)
      exact wm_zreturn hC hE (Or.inl rfl) dX11_areThere_29 ⟨⟨rfl, rfl, rfl⟩, hw⟩
    · refine wm_iconst hC dX11_areThere_24 (k := ?_)
      refine wm_goto (tgt := 29) hC dX11_areThere_25 (by decide) ?_
      exact wm_zreturn hC hE (Or.inr rfl) dX11_areThere_29 ⟨⟨rfl, rfl, rfl⟩, hw⟩
def P11_score (l0 : Nat) (l1 : Int) (l2 : Int) (l3 : Int) (I : mI) (J : mI) (R : mR) (Q : Int → mI → mI → mR → Prop) : Prop := (P11_areThere l0 l1 l2 I R (fun r1 => (if r1 = 0 then (Q (-1000000000000000) I J R) else (kK (R l0 12) = 3 ∧ (P3_isThere (R l0 12) 1 l3 I R (fun r2 => (if r2 = 0 then (Q (-1000000000000000) I J R) else (kK (R l0 9) = 1 ∧ (kK (R l0 12) = 3 ∧ (kK (R l0 2) = 7 ∧ (P1_sit (R l0 9) (R l0 12) (R l0 2) l2 I J R (fun I1 J1 R1 => (kK (R1 l0 9) = 1 ∧ (P1_scoreOf (R1 l0 9) l1 l3 0 I1 J1 R1 (fun r3 I2 J2 => (Q r3 I2 J2 R1))))))))))))))))
set_option maxRecDepth 20000 in
theorem C11_score {ad : Nat → Nat} {n : Nat} {I J : mI} {R : mR} {Q : Int → mI → mI → mR → Prop} {l0 : Nat} {l1 : Int} {l2 : Int} {l3 : Int} (hk0 : kK l0 = 11) (hw : P11_score l0 l1 l2 l3 I J R Q) : wMet yX11_score cX11_score 4 (some .long) 4 89 ad n I J R [vr l0, vi l1, vi l2, vi l3] (fun r I' J' R' => (True) ∧ Q r I' J' R') := by
  refine wMet_of (by decide) (Nat.le_of_ble_eq_true rfl) (fun C hC hRm hE => ?_)
  refine (show WM C ad n I J R 0 0 0 [(0, vr l0), (1, vi l1), (2, vi l2), (3, vi l3)] [] from ?_)
  unfold P11_score at hw
  refine wm_aload_n hC 0 dX11_score_0 rfl (k_ne0 hk0 (by decide)) ?_
  refine wm_iload_n hC 1 dX11_score_1 rfl ?_
  refine wm_iload_n hC 2 dX11_score_2 rfl ?_
  refine y_callV_z_n hC hRm ml_X11_202 hk0 (C11_areThere hk0 hw) (Nat.le_of_ble_eq_true rfl) (Nat.le_of_ble_eq_true rfl) ⟨Nat.zero_le _, Nat.zero_le _⟩ rfl (st := []) rfl (Nat.le_of_ble_eq_true rfl) dX11_score_3 (fun r1 hw => ?_)
  refine wm_if_eq (tgt := 21) hC dX11_score_6 (by decide) hw (fun hw => ?_) (fun hw => ?_)
  · refine wm_ldc2 hC (x := (-1000000000000000)) tc_X11_205 rfl dX11_score_21 (k := ?_)
    exact wm_lreturn hC hE dX11_score_24 ⟨trivial, hw⟩
  · refine wm_aload_n hC 0 dX11_score_9 rfl (k_ne0 hk0 (by decide)) ?_
    refine x_getR2 hC 12 fl_X11_57 rfl hk0 dX11_score_10 hw (fun g1 hw => ?_)
    refine wm_iconst hC dX11_score_13 (k := ?_)
    refine wm_iload_n hC 3 dX11_score_14 rfl ?_
    refine y_callV_z_n hC hRm ml_X11_167 g1 (C3_isThere g1 hw) (Nat.le_of_ble_eq_true rfl) (Nat.le_of_ble_eq_true rfl) ⟨Nat.zero_le _, Nat.zero_le _⟩ rfl (st := []) rfl (Nat.le_of_ble_eq_true rfl) dX11_score_15 (fun r2 hw => ?_)
    refine wm_if_ne (tgt := 25) hC dX11_score_18 (by decide) hw (fun hw => ?_) (fun hw => ?_)
    · refine wm_ldc2 hC (x := (-1000000000000000)) tc_X11_205 rfl dX11_score_21 (k := ?_)
      exact wm_lreturn hC hE dX11_score_24 ⟨trivial, hw⟩
    · refine wm_aload_n hC 0 dX11_score_25 rfl (k_ne0 hk0 (by decide)) ?_
      refine x_getR2 hC 9 fl_X11_88 rfl hk0 dX11_score_26 hw (fun g2 hw => ?_)
      refine wm_aload_n hC 0 dX11_score_29 rfl (k_ne0 hk0 (by decide)) ?_
      refine x_getR2 hC 12 fl_X11_57 rfl hk0 dX11_score_30 hw (fun g3 hw => ?_)
      refine wm_aload_n hC 0 dX11_score_33 rfl (k_ne0 hk0 (by decide)) ?_
      refine x_getR2 hC 2 fl_X11_26 rfl hk0 dX11_score_34 hw (fun g4 hw => ?_)
      refine wm_iload_n hC 2 dX11_score_37 rfl ?_
      refine y_callV_v_IJR hC hRm ml_X11_187 g2 (C1_sit g2 g3 g4 hw) (Nat.le_of_ble_eq_true rfl) (Nat.le_of_ble_eq_true rfl) ⟨Nat.zero_le _, Nat.zero_le _⟩ rfl (st := []) rfl (Nat.le_of_ble_eq_true rfl) dX11_score_38 (fun I1 J1 R1 hw => ?_)
      refine wm_aload_n hC 0 dX11_score_41 rfl (k_ne0 hk0 (by decide)) ?_
      refine x_getR2 hC 9 fl_X11_88 rfl hk0 dX11_score_42 hw (fun g5 hw => ?_)
      refine wm_iload_n hC 1 dX11_score_45 rfl ?_
      refine wm_iload_n hC 3 dX11_score_46 rfl ?_
      refine wm_iconst hC dX11_score_47 (k := ?_)
      refine y_callV_i_IJ hC hRm ml_X11_207 g5 (C1_scoreOf g5 hw) (Nat.le_of_ble_eq_true rfl) (Nat.le_of_ble_eq_true rfl) ⟨Nat.zero_le _, Nat.zero_le _⟩ rfl (st := []) rfl (Nat.le_of_ble_eq_true rfl) dX11_score_48 (fun r3 I2 J2 hw => ?_)
      refine wm_i2l hC dX11_score_51 ?_
      exact wm_lreturn hC hE dX11_score_52 ⟨trivial, hw⟩
def P11_word (l0 : Nat) (l1 : Int) (l2 : Int) (I : mI) (J : mI) (R : mR) (Q : Int → mI → mI → mR → Prop) : Prop := (P11_areThere l0 l1 l2 I R (fun r1 => (if r1 = 0 then (Q (-1) I J R) else (kK (R l0 9) = 1 ∧ (kK (R l0 12) = 3 ∧ (kK (R l0 2) = 7 ∧ (P1_sit (R l0 9) (R l0 12) (R l0 2) l2 I J R (fun I1 J1 R1 => (kK (R1 l0 9) = 1 ∧ (P1_wordOf (R1 l0 9) l1 I1 J1 R1 (fun r2 I2 J2 => (Q r2 I2 J2 R1))))))))))))
set_option maxRecDepth 20000 in
theorem C11_word {ad : Nat → Nat} {n : Nat} {I J : mI} {R : mR} {Q : Int → mI → mI → mR → Prop} {l0 : Nat} {l1 : Int} {l2 : Int} (hk0 : kK l0 = 11) (hw : P11_word l0 l1 l2 I J R Q) : wMet yX11_word cX11_word 3 (some .int) 5 114 ad n I J R [vr l0, vi l1, vi l2] (fun r I' J' R' => (True) ∧ Q r I' J' R') := by
  refine wMet_of (by decide) (Nat.le_of_ble_eq_true rfl) (fun C hC hRm hE => ?_)
  refine (show WM C ad n I J R 0 0 0 [(0, vr l0), (1, vi l1), (2, vi l2)] [] from ?_)
  unfold P11_word at hw
  refine wm_aload_n hC 0 dX11_word_0 rfl (k_ne0 hk0 (by decide)) ?_
  refine wm_iload_n hC 1 dX11_word_1 rfl ?_
  refine wm_iload_n hC 2 dX11_word_2 rfl ?_
  refine y_callV_z_n hC hRm ml_X11_202 hk0 (C11_areThere hk0 hw) (Nat.le_of_ble_eq_true rfl) (Nat.le_of_ble_eq_true rfl) ⟨Nat.zero_le _, Nat.zero_le _⟩ rfl (st := []) rfl (Nat.le_of_ble_eq_true rfl) dX11_word_3 (fun r1 hw => ?_)
  refine wm_if_ne (tgt := 11) hC dX11_word_6 (by decide) hw (fun hw => ?_) (fun hw => ?_)
  · refine wm_iconst hC dX11_word_9 (k := ?_)
    exact wm_ireturn hC hE dX11_word_10 ⟨trivial, hw⟩
  · refine wm_aload_n hC 0 dX11_word_11 rfl (k_ne0 hk0 (by decide)) ?_
    refine x_getR2 hC 9 fl_X11_88 rfl hk0 dX11_word_12 hw (fun g1 hw => ?_)
    refine wm_aload_n hC 0 dX11_word_15 rfl (k_ne0 hk0 (by decide)) ?_
    refine x_getR2 hC 12 fl_X11_57 rfl hk0 dX11_word_16 hw (fun g2 hw => ?_)
    refine wm_aload_n hC 0 dX11_word_19 rfl (k_ne0 hk0 (by decide)) ?_
    refine x_getR2 hC 2 fl_X11_26 rfl hk0 dX11_word_20 hw (fun g3 hw => ?_)
    refine wm_iload_n hC 2 dX11_word_23 rfl ?_
    refine y_callV_v_IJR hC hRm ml_X11_187 g1 (C1_sit g1 g2 g3 hw) (Nat.le_of_ble_eq_true rfl) (Nat.le_of_ble_eq_true rfl) ⟨Nat.zero_le _, Nat.zero_le _⟩ rfl (st := []) rfl (Nat.le_of_ble_eq_true rfl) dX11_word_24 (fun I1 J1 R1 hw => ?_)
    refine wm_aload_n hC 0 dX11_word_27 rfl (k_ne0 hk0 (by decide)) ?_
    refine x_getR2 hC 9 fl_X11_88 rfl hk0 dX11_word_28 hw (fun g4 hw => ?_)
    refine wm_iload_n hC 1 dX11_word_31 rfl ?_
    refine y_callV_i_IJ hC hRm ml_X11_210 g4 (C1_wordOf g4 hw) (Nat.le_of_ble_eq_true rfl) (Nat.le_of_ble_eq_true rfl) ⟨Nat.zero_le _, Nat.zero_le _⟩ rfl (st := []) rfl (Nat.le_of_ble_eq_true rfl) dX11_word_32 (fun r2 I2 J2 hw => ?_)
    exact wm_ireturn hC hE dX11_word_35 ⟨trivial, hw⟩
def P11_choice (l0 : Nat) (l1 : Int) (l2 : Int) (I : mI) (J : mI) (R : mR) (Q : Int → mI → mI → mR → Prop) : Prop := (kK (R l0 12) = 3 ∧ (P3_isThere (R l0 12) 2 l1 I R (fun r1 => (if r1 = 0 then (Q (-1) I J R) else (if l2 < 0 then (Q (-1) I J R) else (if l2 ≤ 1 then (kK (R l0 9) = 1 ∧ (kK (R l0 12) = 3 ∧ (kK (R l0 2) = 7 ∧ (P1_sit (R l0 9) (R l0 12) (R l0 2) l1 I J R (fun I1 J1 R1 => (kK (R1 l0 9) = 1 ∧ (kK (R1 l0 2) = 7 ∧ (kK (R1 (R1 l0 2) 3) = 21 ∧ (kK (R1 l0 12) = 3 ∧ (P3_everybody (R1 l0 12) I1 R1 (fun r2 => (P1_ask (R1 l0 9) (R1 (R1 l0 2) 3) r2 I1 J1 R1 (fun r3 I2 J2 => (if l2 = 0 then (Q r3 I2 J2 R1) else (kK (R1 l0 9) = 1 ∧ (P1_votesFor (R1 l0 9) r3 I2 R1 (fun r4 => (Q r4 I2 J2 R1)))))))))))))))))) else (Q (-1) I J R)))))))
set_option maxRecDepth 20000 in
theorem C11_choice {ad : Nat → Nat} {n : Nat} {I J : mI} {R : mR} {Q : Int → mI → mI → mR → Prop} {l0 : Nat} {l1 : Int} {l2 : Int} (hk0 : kK l0 = 11) (hw : P11_choice l0 l1 l2 I J R Q) : wMet yX11_choice cX11_choice 4 (some .int) 6 139 ad n I J R [vr l0, vi l1, vi l2] (fun r I' J' R' => (True) ∧ Q r I' J' R') := by
  refine wMet_of (by decide) (Nat.le_of_ble_eq_true rfl) (fun C hC hRm hE => ?_)
  refine (show WM C ad n I J R 0 0 0 [(0, vr l0), (1, vi l1), (2, vi l2)] [] from ?_)
  unfold P11_choice at hw
  refine wm_aload_n hC 0 dX11_choice_0 rfl (k_ne0 hk0 (by decide)) ?_
  refine x_getR2 hC 12 fl_X11_57 rfl hk0 dX11_choice_1 hw (fun g1 hw => ?_)
  refine wm_iconst hC dX11_choice_4 (k := ?_)
  refine wm_iload_n hC 1 dX11_choice_5 rfl ?_
  refine y_callV_z_n hC hRm ml_X11_167 g1 (C3_isThere g1 hw) (Nat.le_of_ble_eq_true rfl) (Nat.le_of_ble_eq_true rfl) ⟨Nat.zero_le _, Nat.zero_le _⟩ rfl (st := []) rfl (Nat.le_of_ble_eq_true rfl) dX11_choice_6 (fun r1 hw => ?_)
  refine wm_if_eq (tgt := 21) hC dX11_choice_9 (by decide) hw (fun hw => ?_) (fun hw => ?_)
  · refine wm_iconst hC dX11_choice_21 (k := ?_)
    exact wm_ireturn hC hE dX11_choice_22 ⟨trivial, hw⟩
  · refine wm_iload_n hC 2 dX11_choice_12 rfl ?_
    refine wm_if_lt (tgt := 21) hC dX11_choice_13 (by decide) hw (fun hw => ?_) (fun hw => ?_)
    · refine wm_iconst hC dX11_choice_21 (k := ?_)
      exact wm_ireturn hC hE dX11_choice_22 ⟨trivial, hw⟩
    · refine wm_iload_n hC 2 dX11_choice_16 rfl ?_
      refine wm_iconst hC dX11_choice_17 (k := ?_)
      refine wm_icmp_le (tgt := 23) hC dX11_choice_18 (by decide) hw (fun hw => ?_) (fun hw => ?_)
      · refine wm_aload_n hC 0 dX11_choice_23 rfl (k_ne0 hk0 (by decide)) ?_
        refine x_getR2 hC 9 fl_X11_88 rfl hk0 dX11_choice_24 hw (fun g2 hw => ?_)
        refine wm_aload_n hC 0 dX11_choice_27 rfl (k_ne0 hk0 (by decide)) ?_
        refine x_getR2 hC 12 fl_X11_57 rfl hk0 dX11_choice_28 hw (fun g3 hw => ?_)
        refine wm_aload_n hC 0 dX11_choice_31 rfl (k_ne0 hk0 (by decide)) ?_
        refine x_getR2 hC 2 fl_X11_26 rfl hk0 dX11_choice_32 hw (fun g4 hw => ?_)
        refine wm_iload_n hC 1 dX11_choice_35 rfl ?_
        refine y_callV_v_IJR hC hRm ml_X11_187 g2 (C1_sit g2 g3 g4 hw) (Nat.le_of_ble_eq_true rfl) (Nat.le_of_ble_eq_true rfl) ⟨Nat.zero_le _, Nat.zero_le _⟩ rfl (st := []) rfl (Nat.le_of_ble_eq_true rfl) dX11_choice_36 (fun I1 J1 R1 hw => ?_)
        refine wm_aload_n hC 0 dX11_choice_39 rfl (k_ne0 hk0 (by decide)) ?_
        refine x_getR2 hC 9 fl_X11_88 rfl hk0 dX11_choice_40 hw (fun g5 hw => ?_)
        refine wm_aload_n hC 0 dX11_choice_43 rfl (k_ne0 hk0 (by decide)) ?_
        refine x_getR2 hC 2 fl_X11_26 rfl hk0 dX11_choice_44 hw (fun g6 hw => ?_)
        refine x_getR2 hC 3 fl_X11_213 rfl g6 dX11_choice_47 hw (fun g7 hw => ?_)
        refine wm_aload_n hC 0 dX11_choice_50 rfl (k_ne0 hk0 (by decide)) ?_
        refine x_getR2 hC 12 fl_X11_57 rfl hk0 dX11_choice_51 hw (fun g8 hw => ?_)
        refine y_callV_i_n hC hRm ml_X11_216 g8 (C3_everybody g8 hw) (Nat.le_of_ble_eq_true rfl) (Nat.le_of_ble_eq_true rfl) ⟨Nat.zero_le _, Nat.zero_le _⟩ rfl (st := [vr (R1 (R1 l0 2) 3), vr (R1 l0 9)]) rfl (Nat.le_of_ble_eq_true rfl) dX11_choice_54 (fun r2 hw => ?_)
        refine y_callV_i_IJ hC hRm ml_X11_220 g5 (C1_ask g5 g7 hw) (Nat.le_of_ble_eq_true rfl) (Nat.le_of_ble_eq_true rfl) ⟨Nat.zero_le _, Nat.zero_le _⟩ rfl (st := []) rfl (Nat.le_of_ble_eq_true rfl) dX11_choice_57 (fun r3 I2 J2 hw => ?_)
        refine wm_istore_n hC dX11_choice_60 (by decide) (L2 := [(3, vi r3), (0, vr l0), (1, vi l1), (2, vi l2)]) rfl ?_
        refine wm_iload_n hC 3 dX11_choice_61 rfl ?_
        refine wm_if_ne (tgt := 69) hC dX11_choice_62 (by decide) hw (fun hw => ?_) (fun hw => ?_)
        · refine wm_iload_n hC 0 dX11_choice_65 rfl ?_
          refine wm_goto (tgt := 77) hC dX11_choice_66 (by decide) ?_
          exact wm_ireturn hC hE dX11_choice_77 ⟨trivial, hw⟩
        · refine wm_aload_n hC 1 dX11_choice_69 rfl (k_ne0 hk0 (by decide)) ?_
          refine x_getR2 hC 9 fl_X11_88 rfl hk0 dX11_choice_70 hw (fun g9 hw => ?_)
          refine wm_iload_n hC 0 dX11_choice_73 rfl ?_
          refine y_callV_i_n hC hRm ml_X11_224 g9 (C1_votesFor g9 hw) (Nat.le_of_ble_eq_true rfl) (Nat.le_of_ble_eq_true rfl) ⟨Nat.zero_le _, Nat.zero_le _⟩ rfl (st := []) rfl (Nat.le_of_ble_eq_true rfl) dX11_choice_74 (fun r4 hw => ?_)
          exact wm_ireturn hC hE dX11_choice_77 ⟨trivial, hw⟩
      · refine wm_iconst hC dX11_choice_21 (k := ?_)
        exact wm_ireturn hC hE dX11_choice_22 ⟨trivial, hw⟩
def P11_canPass (l0 : Nat) (l1 : Int) (I : mI) (R : mR) (Q : Int → Prop) : Prop := (if l1 < 0 then (Q 0) else (if (40 : Int) < l1 then (Q 0) else (kK (R l0 2) = 7 ∧ (rg ((I (R l0 2) 0) + l1) ∧ (if (999 : Int) < ((I (R l0 2) 0) + l1) then (Q 0) else (Q 1))))))
set_option maxRecDepth 20000 in
theorem C11_canPass {ad : Nat → Nat} {n : Nat} {I J : mI} {R : mR} {Q : Int → Prop} {l0 : Nat} {l1 : Int} (hk0 : kK l0 = 11) (hw : P11_canPass l0 l1 I R Q) : wMet yX11_canPass cX11_canPass 2 (some .boolean) 1 12 ad n I J R [vr l0, vi l1] (fun r I' J' R' => (I' = I ∧ J' = J ∧ R' = R) ∧ Q r) := by
  refine wMet_of (by decide) (Nat.le_of_ble_eq_true rfl) (fun C hC hRm hE => ?_)
  refine (show WM C ad n I J R 0 0 0 [(0, vr l0), (1, vi l1)] [] from ?_)
  unfold P11_canPass at hw
  refine wm_iload_n hC 1 dX11_canPass_0 rfl ?_
  refine wm_if_lt (tgt := 29) hC dX11_canPass_1 (by decide) hw (fun hw => ?_) (fun hw => ?_)
  · refine wm_iconst hC dX11_canPass_29 (k := ?_)
    exact wm_zreturn hC hE (Or.inl rfl) dX11_canPass_30 ⟨⟨rfl, rfl, rfl⟩, hw⟩
  · refine wm_iload_n hC 1 dX11_canPass_4 rfl ?_
    refine wm_bipush hC dX11_canPass_5 (k := ?_)
    refine wm_icmp_gt (tgt := 29) hC dX11_canPass_7 (by decide) hw (fun hw => ?_) (fun hw => ?_)
    · refine wm_iconst hC dX11_canPass_29 (k := ?_)
      exact wm_zreturn hC hE (Or.inl rfl) dX11_canPass_30 ⟨⟨rfl, rfl, rfl⟩, hw⟩
    · refine wm_aload_n hC 0 dX11_canPass_10 rfl (k_ne0 hk0 (by decide)) ?_
      refine x_getR2 hC 2 fl_X11_26 rfl hk0 dX11_canPass_11 hw (fun g1 hw => ?_)
      refine x_getI hC 0 fl_X11_147 rfl g1 dX11_canPass_14 ?_
      refine wm_iload_n hC 1 dX11_canPass_17 rfl ?_
      refine x_iadd hC dX11_canPass_18 hw (fun hw => ?_)
      refine wm_sipush hC dX11_canPass_19 (k := ?_)
      refine wm_icmp_gt (tgt := 29) hC dX11_canPass_22 (by decide) hw (fun hw => ?_) (fun hw => ?_)
      · refine wm_iconst hC dX11_canPass_29 (k := ?_)
        exact wm_zreturn hC hE (Or.inl rfl) dX11_canPass_30 ⟨⟨rfl, rfl, rfl⟩, hw⟩
      · refine wm_iconst hC dX11_canPass_25 (k := ?_)
        refine wm_goto (tgt := 30) hC dX11_canPass_26 (by decide) ?_
        exact wm_zreturn hC hE (Or.inr rfl) dX11_canPass_30 ⟨⟨rfl, rfl, rfl⟩, hw⟩
def P11_lookAhead_b13_body (l0 : Nat) (l1 : Int) (Q : mI → mI → mR → Prop) (k13 : Int → mI → mI → mR → Prop) (l2 : Int) (I : mI) (J : mI) (R : mR) : Prop := (if l1 ≤ l2 then (Q I J R) else (kK (R l0 10) = 0 ∧ (kK (R l0 12) = 3 ∧ (kK (R l0 3) = 7 ∧ (P0_pass (R l0 10) (R l0 12) (R l0 3) (-1) I J R (fun r1 I2 J1 R1 => (rg (l2 + 1) ∧ (k13 (l2 + 1) I2 J1 R1))))))))
def P11_lookAhead_b13 (l0 : Nat) (l1 : Int) (Q : mI → mI → mR → Prop) : Nat → Int → mI → mI → mR → Prop
  | 0 => fun _ _ _ _ => False
  | f + 1 => fun l2 I J R => P11_lookAhead_b13_body l0 l1 Q (P11_lookAhead_b13 l0 l1 Q f) l2 I J R
set_option maxRecDepth 20000 in
theorem W11_lookAhead_b13_body {C : wX} {ad : Nat → Nat} {n : Nat} {I J : mI} {R : mR} {Q : mI → mI → mR → Prop} (hC : wOK C cX11_lookAhead 3 RX11) (hRm : wRm C 7 168 0 0) (hE : wEnd C none ad n (fun _ I' J' R' => (True) ∧ Q I' J' R')) {l0 : Nat} {l1 : Int} {l2 : Int}   (hk0 : kK l0 = 11)  {k13 : Int → mI → mI → mR → Prop} (kk13 : ∀ (y2 : Int) (I' : mI) (J' : mI) (R' : mR), k13 y2 I' J' R' → WM C ad n I' J' R' 0 0 13 [(0, vr l0), (1, vi l1), (2, vi y2)] []) (hw : P11_lookAhead_b13_body l0 l1 Q k13 l2 I J R) : WM C ad n I J R 0 0 13 [(0, vr l0), (1, vi l1), (2, vi l2)] [] := by
  unfold P11_lookAhead_b13_body at hw
  refine wm_iload_n hC 2 dX11_lookAhead_13 rfl ?_
  refine wm_iload_n hC 1 dX11_lookAhead_14 rfl ?_
  refine wm_icmp_ge (tgt := 41) hC dX11_lookAhead_15 (by decide) hw (fun hw => ?_) (fun hw => ?_)
  · exact wm_return hC hE dX11_lookAhead_41 ⟨trivial, hw⟩
  · refine wm_aload_n hC 0 dX11_lookAhead_18 rfl (k_ne0 hk0 (by decide)) ?_
    refine x_getR2 hC 10 fl_X11_97 rfl hk0 dX11_lookAhead_19 hw (fun g3 hw => ?_)
    refine wm_aload_n hC 0 dX11_lookAhead_22 rfl (k_ne0 hk0 (by decide)) ?_
    refine x_getR2 hC 12 fl_X11_57 rfl hk0 dX11_lookAhead_23 hw (fun g4 hw => ?_)
    refine wm_aload_n hC 0 dX11_lookAhead_26 rfl (k_ne0 hk0 (by decide)) ?_
    refine x_getR2 hC 3 fl_X11_30 rfl hk0 dX11_lookAhead_27 hw (fun g5 hw => ?_)
    refine wm_iconst hC dX11_lookAhead_30 (k := ?_)
    refine y_callV_z_IJR hC hRm ml_X11_278 g3 (C0_pass g3 g4 g5 hw) (Nat.le_of_ble_eq_true rfl) (Nat.le_of_ble_eq_true rfl) ⟨Nat.zero_le _, Nat.zero_le _⟩ rfl (st := []) rfl (Nat.le_of_ble_eq_true rfl) dX11_lookAhead_31 (fun r1 I2 J1 R1 hw => ?_)
    refine wm_pop hC dX11_lookAhead_34 (k := ?_)
    refine x_iinc hC 2 dX11_lookAhead_35 rfl (by decide) (L2 := [(2, vi (l2 + 1)), (0, vr l0), (1, vi l1)]) rfl hw (fun hw => ?_)
    refine wm_goto (tgt := 13) hC dX11_lookAhead_38 (by decide) ?_
    refine wm_sub [1, 2, 0] (L2 := [(0, vr l0), (1, vi l1), (2, vi (l2 + 1))]) rfl ?_
    exact kk13 _ _ _ _ hw
set_option maxRecDepth 20000 in
theorem W11_lookAhead_b13 {C : wX} {ad : Nat → Nat} {n : Nat}  {Q : mI → mI → mR → Prop} (hC : wOK C cX11_lookAhead 3 RX11) (hRm : wRm C 7 168 0 0) (hE : wEnd C none ad n (fun _ I' J' R' => (True) ∧ Q I' J' R')) {l0 : Nat} {l1 : Int}   (hk0 : kK l0 = 11)  : ∀ (f : Nat) (l2 : Int) (I : mI) (J : mI) (R : mR), P11_lookAhead_b13 l0 l1 Q f l2 I J R → WM C ad n I J R 0 0 13 [(0, vr l0), (1, vi l1), (2, vi l2)] [] := by
  intro f
  induction f with
  | zero => intro l2 I J R hw; exact hw.elim
  | succ f ih => intro l2 I J R hw; exact W11_lookAhead_b13_body hC hRm hE hk0 (fun a0 a1 a2 a3 hw => ih a0 a1 a2 a3 hw) hw
def P11_lookAhead (l0 : Nat) (l1 : Int) (I : mI) (J : mI) (R : mR) (Q : mI → mI → mR → Prop) : Prop := (kK (R l0 3) = 7 ∧ (kK (R l0 2) = 7 ∧ (P7_take (R l0 3) (R l0 2) I R (fun I1 => (∃ f, P11_lookAhead_b13 l0 l1 Q f 0 I1 J R)))))
set_option maxRecDepth 20000 in
theorem C11_lookAhead {ad : Nat → Nat} {n : Nat} {I J : mI} {R : mR} {Q : mI → mI → mR → Prop} {l0 : Nat} {l1 : Int} (hk0 : kK l0 = 11) (hw : P11_lookAhead l0 l1 I J R Q) : wMet yX11_lookAhead cX11_lookAhead 3 none 7 168 ad n I J R [vr l0, vi l1] (fun _ I' J' R' => (True) ∧ Q I' J' R') := by
  refine wMet_of (by decide) (Nat.le_of_ble_eq_true rfl) (fun C hC hRm hE => ?_)
  refine (show WM C ad n I J R 0 0 0 [(0, vr l0), (1, vi l1)] [] from ?_)
  unfold P11_lookAhead at hw
  refine wm_aload_n hC 0 dX11_lookAhead_0 rfl (k_ne0 hk0 (by decide)) ?_
  refine x_getR2 hC 3 fl_X11_30 rfl hk0 dX11_lookAhead_1 hw (fun g1 hw => ?_)
  refine wm_aload_n hC 0 dX11_lookAhead_4 rfl (k_ne0 hk0 (by decide)) ?_
  refine x_getR2 hC 2 fl_X11_26 rfl hk0 dX11_lookAhead_5 hw (fun g2 hw => ?_)
  refine y_callV_v_I hC hRm ml_X11_308 g1 (C7_take g1 g2 hw) (Nat.le_of_ble_eq_true rfl) (Nat.le_of_ble_eq_true rfl) ⟨Nat.zero_le _, Nat.zero_le _⟩ rfl (st := []) rfl (Nat.le_of_ble_eq_true rfl) dX11_lookAhead_8 (fun I1 hw => ?_)
  refine wm_iconst hC dX11_lookAhead_11 (k := ?_)
  refine wm_istore_n hC dX11_lookAhead_12 (by decide) (L2 := [(2, vi 0), (0, vr l0), (1, vi l1)]) rfl ?_
  obtain ⟨f, hw⟩ := hw
  refine wm_sub [1, 2, 0] (L2 := [(0, vr l0), (1, vi l1), (2, vi 0)]) rfl ?_
  exact W11_lookAhead_b13 hC hRm hE hk0 f _ _ _ _ hw
def P11_later (l0 : Nat) (l1 : Int) (l2 : Int) (I : mI) (J : mI) (R : mR) (Q : Int → mI → mI → mR → Prop) : Prop := (kK (R l0 12) = 3 ∧ (P3_isThere (R l0 12) 2 l1 I R (fun r1 => (if r1 = 0 then (Q (-1) I J R) else (P11_canPass l0 l2 I R (fun r2 => (if r2 = 0 then (Q (-1) I J R) else (P11_lookAhead l0 l2 I J R (fun I1 J1 R1 => (kK (R1 l0 3) = 7 ∧ (kK (R1 (R1 l0 3) 5) = 21 ∧ (((0 : Int) ≤ l1 ∧ l1 < (kN (R1 (R1 l0 3) 5) : Int)) ∧ (Q (I1 (R1 (R1 l0 3) 5) l1) I1 J1 R1)))))))))))))
set_option maxRecDepth 20000 in
theorem C11_later {ad : Nat → Nat} {n : Nat} {I J : mI} {R : mR} {Q : Int → mI → mI → mR → Prop} {l0 : Nat} {l1 : Int} {l2 : Int} (hk0 : kK l0 = 11) (hw : P11_later l0 l1 l2 I J R Q) : wMet yX11_later cX11_later 3 (some .int) 8 190 ad n I J R [vr l0, vi l1, vi l2] (fun r I' J' R' => (True) ∧ Q r I' J' R') := by
  refine wMet_of (by decide) (Nat.le_of_ble_eq_true rfl) (fun C hC hRm hE => ?_)
  refine (show WM C ad n I J R 0 0 0 [(0, vr l0), (1, vi l1), (2, vi l2)] [] from ?_)
  unfold P11_later at hw
  refine wm_aload_n hC 0 dX11_later_0 rfl (k_ne0 hk0 (by decide)) ?_
  refine x_getR2 hC 12 fl_X11_57 rfl hk0 dX11_later_1 hw (fun g1 hw => ?_)
  refine wm_iconst hC dX11_later_4 (k := ?_)
  refine wm_iload_n hC 1 dX11_later_5 rfl ?_
  refine y_callV_z_n hC hRm ml_X11_167 g1 (C3_isThere g1 hw) (Nat.le_of_ble_eq_true rfl) (Nat.le_of_ble_eq_true rfl) ⟨Nat.zero_le _, Nat.zero_le _⟩ rfl (st := []) rfl (Nat.le_of_ble_eq_true rfl) dX11_later_6 (fun r1 hw => ?_)
  refine wm_if_eq (tgt := 20) hC dX11_later_9 (by decide) hw (fun hw => ?_) (fun hw => ?_)
  · refine wm_iconst hC dX11_later_20 (k := ?_)
    exact wm_ireturn hC hE dX11_later_21 ⟨trivial, hw⟩
  · refine wm_aload_n hC 0 dX11_later_12 rfl (k_ne0 hk0 (by decide)) ?_
    refine wm_iload_n hC 2 dX11_later_13 rfl ?_
    refine y_callV_z_n hC hRm ml_X11_227 hk0 (C11_canPass hk0 hw) (Nat.le_of_ble_eq_true rfl) (Nat.le_of_ble_eq_true rfl) ⟨Nat.zero_le _, Nat.zero_le _⟩ rfl (st := []) rfl (Nat.le_of_ble_eq_true rfl) dX11_later_14 (fun r2 hw => ?_)
    refine wm_if_ne (tgt := 22) hC dX11_later_17 (by decide) hw (fun hw => ?_) (fun hw => ?_)
    · refine wm_iconst hC dX11_later_20 (k := ?_)
      exact wm_ireturn hC hE dX11_later_21 ⟨trivial, hw⟩
    · refine wm_aload_n hC 0 dX11_later_22 rfl (k_ne0 hk0 (by decide)) ?_
      refine wm_iload_n hC 2 dX11_later_23 rfl ?_
      refine y_callV_v_IJR hC hRm ml_X11_230 hk0 (C11_lookAhead hk0 hw) (Nat.le_of_ble_eq_true rfl) (Nat.le_of_ble_eq_true rfl) ⟨Nat.zero_le _, Nat.zero_le _⟩ rfl (st := []) rfl (Nat.le_of_ble_eq_true rfl) dX11_later_24 (fun I1 J1 R1 hw => ?_)
      refine wm_aload_n hC 0 dX11_later_27 rfl (k_ne0 hk0 (by decide)) ?_
      refine x_getR2 hC 3 fl_X11_30 rfl hk0 dX11_later_28 hw (fun g2 hw => ?_)
      refine x_getR2 hC 5 fl_X11_157 rfl g2 dX11_later_31 hw (fun g3 hw => ?_)
      refine wm_iload_n hC 1 dX11_later_34 rfl ?_
      refine x_iald hC g3 dX11_later_35 hw (fun hw => ?_)
      exact wm_ireturn hC hE dX11_later_36 ⟨trivial, hw⟩
def P11_mood (l0 : Nat) (l1 : Int) (l2 : Int) (I : mI) (J : mI) (R : mR) (Q : Int → mI → mI → mR → Prop) : Prop := (kK (R l0 12) = 3 ∧ (P3_isThere (R l0 12) 0 l1 I R (fun r1 => (if r1 = 0 then (Q (-1) I J R) else (P11_canPass l0 l2 I R (fun r2 => (if r2 = 0 then (Q (-1) I J R) else (P11_lookAhead l0 l2 I J R (fun I1 J1 R1 => (kK (R1 l0 3) = 7 ∧ (kK (R1 (R1 l0 3) 4) = 21 ∧ (((0 : Int) ≤ l1 ∧ l1 < (kN (R1 (R1 l0 3) 4) : Int)) ∧ (Q (I1 (R1 (R1 l0 3) 4) l1) I1 J1 R1)))))))))))))
set_option maxRecDepth 20000 in
theorem C11_mood {ad : Nat → Nat} {n : Nat} {I J : mI} {R : mR} {Q : Int → mI → mI → mR → Prop} {l0 : Nat} {l1 : Int} {l2 : Int} (hk0 : kK l0 = 11) (hw : P11_mood l0 l1 l2 I J R Q) : wMet yX11_mood cX11_mood 3 (some .int) 8 190 ad n I J R [vr l0, vi l1, vi l2] (fun r I' J' R' => (True) ∧ Q r I' J' R') := by
  refine wMet_of (by decide) (Nat.le_of_ble_eq_true rfl) (fun C hC hRm hE => ?_)
  refine (show WM C ad n I J R 0 0 0 [(0, vr l0), (1, vi l1), (2, vi l2)] [] from ?_)
  unfold P11_mood at hw
  refine wm_aload_n hC 0 dX11_mood_0 rfl (k_ne0 hk0 (by decide)) ?_
  refine x_getR2 hC 12 fl_X11_57 rfl hk0 dX11_mood_1 hw (fun g1 hw => ?_)
  refine wm_iconst hC dX11_mood_4 (k := ?_)
  refine wm_iload_n hC 1 dX11_mood_5 rfl ?_
  refine y_callV_z_n hC hRm ml_X11_167 g1 (C3_isThere g1 hw) (Nat.le_of_ble_eq_true rfl) (Nat.le_of_ble_eq_true rfl) ⟨Nat.zero_le _, Nat.zero_le _⟩ rfl (st := []) rfl (Nat.le_of_ble_eq_true rfl) dX11_mood_6 (fun r1 hw => ?_)
  refine wm_if_eq (tgt := 20) hC dX11_mood_9 (by decide) hw (fun hw => ?_) (fun hw => ?_)
  · refine wm_iconst hC dX11_mood_20 (k := ?_)
    exact wm_ireturn hC hE dX11_mood_21 ⟨trivial, hw⟩
  · refine wm_aload_n hC 0 dX11_mood_12 rfl (k_ne0 hk0 (by decide)) ?_
    refine wm_iload_n hC 2 dX11_mood_13 rfl ?_
    refine y_callV_z_n hC hRm ml_X11_227 hk0 (C11_canPass hk0 hw) (Nat.le_of_ble_eq_true rfl) (Nat.le_of_ble_eq_true rfl) ⟨Nat.zero_le _, Nat.zero_le _⟩ rfl (st := []) rfl (Nat.le_of_ble_eq_true rfl) dX11_mood_14 (fun r2 hw => ?_)
    refine wm_if_ne (tgt := 22) hC dX11_mood_17 (by decide) hw (fun hw => ?_) (fun hw => ?_)
    · refine wm_iconst hC dX11_mood_20 (k := ?_)
      exact wm_ireturn hC hE dX11_mood_21 ⟨trivial, hw⟩
    · refine wm_aload_n hC 0 dX11_mood_22 rfl (k_ne0 hk0 (by decide)) ?_
      refine wm_iload_n hC 2 dX11_mood_23 rfl ?_
      refine y_callV_v_IJR hC hRm ml_X11_230 hk0 (C11_lookAhead hk0 hw) (Nat.le_of_ble_eq_true rfl) (Nat.le_of_ble_eq_true rfl) ⟨Nat.zero_le _, Nat.zero_le _⟩ rfl (st := []) rfl (Nat.le_of_ble_eq_true rfl) dX11_mood_24 (fun I1 J1 R1 hw => ?_)
      refine wm_aload_n hC 0 dX11_mood_27 rfl (k_ne0 hk0 (by decide)) ?_
      refine x_getR2 hC 3 fl_X11_30 rfl hk0 dX11_mood_28 hw (fun g2 hw => ?_)
      refine x_getR2 hC 4 fl_X11_181 rfl g2 dX11_mood_31 hw (fun g3 hw => ?_)
      refine wm_iload_n hC 1 dX11_mood_34 rfl ?_
      refine x_iald hC g3 dX11_mood_35 hw (fun hw => ?_)
      exact wm_ireturn hC hE dX11_mood_36 ⟨trivial, hw⟩
def P11_purse (l0 : Nat) (l1 : Int) (I : mI) (J : mI) (R : mR) (Q : Int → mI → mI → mR → Prop) : Prop := (P11_canPass l0 l1 I R (fun r1 => (if r1 = 0 then (Q (-1) I J R) else (P11_lookAhead l0 l1 I J R (fun I1 J1 R1 => (kK (R1 l0 3) = 7 ∧ (Q (I1 (R1 l0 3) 1) I1 J1 R1)))))))
set_option maxRecDepth 20000 in
theorem C11_purse {ad : Nat → Nat} {n : Nat} {I J : mI} {R : mR} {Q : Int → mI → mI → mR → Prop} {l0 : Nat} {l1 : Int} (hk0 : kK l0 = 11) (hw : P11_purse l0 l1 I J R Q) : wMet yX11_purse cX11_purse 2 (some .int) 8 190 ad n I J R [vr l0, vi l1] (fun r I' J' R' => (True) ∧ Q r I' J' R') := by
  refine wMet_of (by decide) (Nat.le_of_ble_eq_true rfl) (fun C hC hRm hE => ?_)
  refine (show WM C ad n I J R 0 0 0 [(0, vr l0), (1, vi l1)] [] from ?_)
  unfold P11_purse at hw
  refine wm_aload_n hC 0 dX11_purse_0 rfl (k_ne0 hk0 (by decide)) ?_
  refine wm_iload_n hC 1 dX11_purse_1 rfl ?_
  refine y_callV_z_n hC hRm ml_X11_227 hk0 (C11_canPass hk0 hw) (Nat.le_of_ble_eq_true rfl) (Nat.le_of_ble_eq_true rfl) ⟨Nat.zero_le _, Nat.zero_le _⟩ rfl (st := []) rfl (Nat.le_of_ble_eq_true rfl) dX11_purse_2 (fun r1 hw => ?_)
  refine wm_if_ne (tgt := 10) hC dX11_purse_5 (by decide) hw (fun hw => ?_) (fun hw => ?_)
  · refine wm_iconst hC dX11_purse_8 (k := ?_)
    exact wm_ireturn hC hE dX11_purse_9 ⟨trivial, hw⟩
  · refine wm_aload_n hC 0 dX11_purse_10 rfl (k_ne0 hk0 (by decide)) ?_
    refine wm_iload_n hC 1 dX11_purse_11 rfl ?_
    refine y_callV_v_IJR hC hRm ml_X11_230 hk0 (C11_lookAhead hk0 hw) (Nat.le_of_ble_eq_true rfl) (Nat.le_of_ble_eq_true rfl) ⟨Nat.zero_le _, Nat.zero_le _⟩ rfl (st := []) rfl (Nat.le_of_ble_eq_true rfl) dX11_purse_12 (fun I1 J1 R1 hw => ?_)
    refine wm_aload_n hC 0 dX11_purse_15 rfl (k_ne0 hk0 (by decide)) ?_
    refine x_getR2 hC 3 fl_X11_30 rfl hk0 dX11_purse_16 hw (fun g1 hw => ?_)
    refine x_getI hC 1 fl_X11_150 rfl g1 dX11_purse_19 ?_
    exact wm_ireturn hC hE dX11_purse_22 ⟨trivial, hw⟩
def P11_order (l0 : Nat) (l1 : Int) (l2 : Int) (l3 : Int) (I : mI) (J : mI) (R : mR) (Q : Int → mI → mI → mR → Prop) : Prop := (kK (R l0 12) = 3 ∧ (P3_isThere (R l0 12) 2 l1 I R (fun r1 => (if r1 = 0 then (Q (-1) I J R) else (kK (R l0 12) = 3 ∧ (P3_isThere (R l0 12) 1 l2 I R (fun r2 => (if r2 = 0 then (Q (-1) I J R) else (kK (R l0 12) = 3 ∧ (P3_isThere (R l0 12) 0 l3 I R (fun r3 => (if r3 = 0 then (Q (-1) I J R) else (kK (R l0 9) = 1 ∧ (kK (R l0 12) = 3 ∧ (kK (R l0 2) = 7 ∧ (P1_sit (R l0 9) (R l0 12) (R l0 2) l1 I J R (fun I1 J1 R1 => (kK (R1 l0 9) = 1 ∧ (kK (R1 l0 6) = 21 ∧ (P1_firstOrder (R1 l0 9) (R1 l0 6) l2 I1 J1 R1 (fun r4 I2 J2 => (if r4 = 0 then (Q (-1) I2 J2 R1) else (kK (R1 l0 6) = 21 ∧ (((0 : Int) ≤ l3 ∧ l3 < (kN (R1 l0 6) : Int)) ∧ (Q (I2 (R1 l0 6) l3) I2 J2 R1)))))))))))))))))))))))))
set_option maxRecDepth 20000 in
theorem C11_order {ad : Nat → Nat} {n : Nat} {I J : mI} {R : mR} {Q : Int → mI → mI → mR → Prop} {l0 : Nat} {l1 : Int} {l2 : Int} {l3 : Int} (hk0 : kK l0 = 11) (hw : P11_order l0 l1 l2 l3 I J R Q) : wMet yX11_order cX11_order 4 (some .int) 7 163 ad n I J R [vr l0, vi l1, vi l2, vi l3] (fun r I' J' R' => (True) ∧ Q r I' J' R') := by
  refine wMet_of (by decide) (Nat.le_of_ble_eq_true rfl) (fun C hC hRm hE => ?_)
  refine (show WM C ad n I J R 0 0 0 [(0, vr l0), (1, vi l1), (2, vi l2), (3, vi l3)] [] from ?_)
  unfold P11_order at hw
  refine wm_aload_n hC 0 dX11_order_0 rfl (k_ne0 hk0 (by decide)) ?_
  refine x_getR2 hC 12 fl_X11_57 rfl hk0 dX11_order_1 hw (fun g1 hw => ?_)
  refine wm_iconst hC dX11_order_4 (k := ?_)
  refine wm_iload_n hC 1 dX11_order_5 rfl ?_
  refine y_callV_z_n hC hRm ml_X11_167 g1 (C3_isThere g1 hw) (Nat.le_of_ble_eq_true rfl) (Nat.le_of_ble_eq_true rfl) ⟨Nat.zero_le _, Nat.zero_le _⟩ rfl (st := []) rfl (Nat.le_of_ble_eq_true rfl) dX11_order_6 (fun r1 hw => ?_)
  refine wm_if_eq (tgt := 36) hC dX11_order_9 (by decide) hw (fun hw => ?_) (fun hw => ?_)
  · refine wm_iconst hC dX11_order_36 (k := ?_)
    exact wm_ireturn hC hE dX11_order_37 ⟨trivial, hw⟩
  · refine wm_aload_n hC 0 dX11_order_12 rfl (k_ne0 hk0 (by decide)) ?_
    refine x_getR2 hC 12 fl_X11_57 rfl hk0 dX11_order_13 hw (fun g2 hw => ?_)
    refine wm_iconst hC dX11_order_16 (k := ?_)
    refine wm_iload_n hC 2 dX11_order_17 rfl ?_
    refine y_callV_z_n hC hRm ml_X11_167 g2 (C3_isThere g2 hw) (Nat.le_of_ble_eq_true rfl) (Nat.le_of_ble_eq_true rfl) ⟨Nat.zero_le _, Nat.zero_le _⟩ rfl (st := []) rfl (Nat.le_of_ble_eq_true rfl) dX11_order_18 (fun r2 hw => ?_)
    refine wm_if_eq (tgt := 36) hC dX11_order_21 (by decide) hw (fun hw => ?_) (fun hw => ?_)
    · refine wm_iconst hC dX11_order_36 (k := ?_)
      exact wm_ireturn hC hE dX11_order_37 ⟨trivial, hw⟩
    · refine wm_aload_n hC 0 dX11_order_24 rfl (k_ne0 hk0 (by decide)) ?_
      refine x_getR2 hC 12 fl_X11_57 rfl hk0 dX11_order_25 hw (fun g3 hw => ?_)
      refine wm_iconst hC dX11_order_28 (k := ?_)
      refine wm_iload_n hC 3 dX11_order_29 rfl ?_
      refine y_callV_z_n hC hRm ml_X11_167 g3 (C3_isThere g3 hw) (Nat.le_of_ble_eq_true rfl) (Nat.le_of_ble_eq_true rfl) ⟨Nat.zero_le _, Nat.zero_le _⟩ rfl (st := []) rfl (Nat.le_of_ble_eq_true rfl) dX11_order_30 (fun r3 hw => ?_)
      refine wm_if_ne (tgt := 38) hC dX11_order_33 (by decide) hw (fun hw => ?_) (fun hw => ?_)
      · refine wm_iconst hC dX11_order_36 (k := ?_)
        exact wm_ireturn hC hE dX11_order_37 ⟨trivial, hw⟩
      · refine wm_aload_n hC 0 dX11_order_38 rfl (k_ne0 hk0 (by decide)) ?_
        refine x_getR2 hC 9 fl_X11_88 rfl hk0 dX11_order_39 hw (fun g4 hw => ?_)
        refine wm_aload_n hC 0 dX11_order_42 rfl (k_ne0 hk0 (by decide)) ?_
        refine x_getR2 hC 12 fl_X11_57 rfl hk0 dX11_order_43 hw (fun g5 hw => ?_)
        refine wm_aload_n hC 0 dX11_order_46 rfl (k_ne0 hk0 (by decide)) ?_
        refine x_getR2 hC 2 fl_X11_26 rfl hk0 dX11_order_47 hw (fun g6 hw => ?_)
        refine wm_iload_n hC 1 dX11_order_50 rfl ?_
        refine y_callV_v_IJR hC hRm ml_X11_187 g4 (C1_sit g4 g5 g6 hw) (Nat.le_of_ble_eq_true rfl) (Nat.le_of_ble_eq_true rfl) ⟨Nat.zero_le _, Nat.zero_le _⟩ rfl (st := []) rfl (Nat.le_of_ble_eq_true rfl) dX11_order_51 (fun I1 J1 R1 hw => ?_)
        refine wm_aload_n hC 0 dX11_order_54 rfl (k_ne0 hk0 (by decide)) ?_
        refine x_getR2 hC 9 fl_X11_88 rfl hk0 dX11_order_55 hw (fun g7 hw => ?_)
        refine wm_aload_n hC 0 dX11_order_58 rfl (k_ne0 hk0 (by decide)) ?_
        refine x_getR2 hC 6 fl_X11_47 rfl hk0 dX11_order_59 hw (fun g8 hw => ?_)
        refine wm_iload_n hC 2 dX11_order_62 rfl ?_
        refine y_callV_z_IJ hC hRm ml_X11_233 g7 (C1_firstOrder g7 g8 hw) (Nat.le_of_ble_eq_true rfl) (Nat.le_of_ble_eq_true rfl) ⟨Nat.zero_le _, Nat.zero_le _⟩ rfl (st := []) rfl (Nat.le_of_ble_eq_true rfl) dX11_order_63 (fun r4 I2 J2 hw => ?_)
        refine wm_if_eq (tgt := 78) hC dX11_order_66 (by decide) hw (fun hw => ?_) (fun hw => ?_)
        · refine wm_iconst hC dX11_order_78 (k := ?_)
          exact wm_ireturn hC hE dX11_order_79 ⟨trivial, hw⟩
        · refine wm_aload_n hC 0 dX11_order_69 rfl (k_ne0 hk0 (by decide)) ?_
          refine x_getR2 hC 6 fl_X11_47 rfl hk0 dX11_order_70 hw (fun g9 hw => ?_)
          refine wm_iload_n hC 3 dX11_order_73 rfl ?_
          refine x_iald hC g9 dX11_order_74 hw (fun hw => ?_)
          refine wm_goto (tgt := 79) hC dX11_order_75 (by decide) ?_
          exact wm_ireturn hC hE dX11_order_79 ⟨trivial, hw⟩
def P11_orders (l0 : Nat) (l1 : Int) (l2 : Int) (I : mI) (J : mI) (R : mR) (Q : Int → mI → mI → mR → Prop) : Prop := (kK (R l0 12) = 3 ∧ (P3_isThere (R l0 12) 2 l1 I R (fun r1 => (if r1 = 0 then (Q (-1) I J R) else (kK (R l0 12) = 3 ∧ (P3_isThere (R l0 12) 1 l2 I R (fun r2 => (if r2 = 0 then (Q (-1) I J R) else (kK (R l0 9) = 1 ∧ (kK (R l0 12) = 3 ∧ (kK (R l0 2) = 7 ∧ (P1_sit (R l0 9) (R l0 12) (R l0 2) l1 I J R (fun I1 J1 R1 => (kK (R1 l0 9) = 1 ∧ (kK (R1 l0 6) = 21 ∧ (P1_countOrders (R1 l0 9) (R1 l0 6) l2 I1 J1 R1 (fun r3 I2 J2 => (Q r3 I2 J2 R1))))))))))))))))))
set_option maxRecDepth 20000 in
theorem C11_orders {ad : Nat → Nat} {n : Nat} {I J : mI} {R : mR} {Q : Int → mI → mI → mR → Prop} {l0 : Nat} {l1 : Int} {l2 : Int} (hk0 : kK l0 = 11) (hw : P11_orders l0 l1 l2 I J R Q) : wMet yX11_orders cX11_orders 3 (some .int) 7 164 ad n I J R [vr l0, vi l1, vi l2] (fun r I' J' R' => (True) ∧ Q r I' J' R') := by
  refine wMet_of (by decide) (Nat.le_of_ble_eq_true rfl) (fun C hC hRm hE => ?_)
  refine (show WM C ad n I J R 0 0 0 [(0, vr l0), (1, vi l1), (2, vi l2)] [] from ?_)
  unfold P11_orders at hw
  refine wm_aload_n hC 0 dX11_orders_0 rfl (k_ne0 hk0 (by decide)) ?_
  refine x_getR2 hC 12 fl_X11_57 rfl hk0 dX11_orders_1 hw (fun g1 hw => ?_)
  refine wm_iconst hC dX11_orders_4 (k := ?_)
  refine wm_iload_n hC 1 dX11_orders_5 rfl ?_
  refine y_callV_z_n hC hRm ml_X11_167 g1 (C3_isThere g1 hw) (Nat.le_of_ble_eq_true rfl) (Nat.le_of_ble_eq_true rfl) ⟨Nat.zero_le _, Nat.zero_le _⟩ rfl (st := []) rfl (Nat.le_of_ble_eq_true rfl) dX11_orders_6 (fun r1 hw => ?_)
  refine wm_if_eq (tgt := 24) hC dX11_orders_9 (by decide) hw (fun hw => ?_) (fun hw => ?_)
  · refine wm_iconst hC dX11_orders_24 (k := ?_)
    exact wm_ireturn hC hE dX11_orders_25 ⟨trivial, hw⟩
  · refine wm_aload_n hC 0 dX11_orders_12 rfl (k_ne0 hk0 (by decide)) ?_
    refine x_getR2 hC 12 fl_X11_57 rfl hk0 dX11_orders_13 hw (fun g2 hw => ?_)
    refine wm_iconst hC dX11_orders_16 (k := ?_)
    refine wm_iload_n hC 2 dX11_orders_17 rfl ?_
    refine y_callV_z_n hC hRm ml_X11_167 g2 (C3_isThere g2 hw) (Nat.le_of_ble_eq_true rfl) (Nat.le_of_ble_eq_true rfl) ⟨Nat.zero_le _, Nat.zero_le _⟩ rfl (st := []) rfl (Nat.le_of_ble_eq_true rfl) dX11_orders_18 (fun r2 hw => ?_)
    refine wm_if_ne (tgt := 26) hC dX11_orders_21 (by decide) hw (fun hw => ?_) (fun hw => ?_)
    · refine wm_iconst hC dX11_orders_24 (k := ?_)
      exact wm_ireturn hC hE dX11_orders_25 ⟨trivial, hw⟩
    · refine wm_aload_n hC 0 dX11_orders_26 rfl (k_ne0 hk0 (by decide)) ?_
      refine x_getR2 hC 9 fl_X11_88 rfl hk0 dX11_orders_27 hw (fun g3 hw => ?_)
      refine wm_aload_n hC 0 dX11_orders_30 rfl (k_ne0 hk0 (by decide)) ?_
      refine x_getR2 hC 12 fl_X11_57 rfl hk0 dX11_orders_31 hw (fun g4 hw => ?_)
      refine wm_aload_n hC 0 dX11_orders_34 rfl (k_ne0 hk0 (by decide)) ?_
      refine x_getR2 hC 2 fl_X11_26 rfl hk0 dX11_orders_35 hw (fun g5 hw => ?_)
      refine wm_iload_n hC 1 dX11_orders_38 rfl ?_
      refine y_callV_v_IJR hC hRm ml_X11_187 g3 (C1_sit g3 g4 g5 hw) (Nat.le_of_ble_eq_true rfl) (Nat.le_of_ble_eq_true rfl) ⟨Nat.zero_le _, Nat.zero_le _⟩ rfl (st := []) rfl (Nat.le_of_ble_eq_true rfl) dX11_orders_39 (fun I1 J1 R1 hw => ?_)
      refine wm_aload_n hC 0 dX11_orders_42 rfl (k_ne0 hk0 (by decide)) ?_
      refine x_getR2 hC 9 fl_X11_88 rfl hk0 dX11_orders_43 hw (fun g6 hw => ?_)
      refine wm_aload_n hC 0 dX11_orders_46 rfl (k_ne0 hk0 (by decide)) ?_
      refine x_getR2 hC 6 fl_X11_47 rfl hk0 dX11_orders_47 hw (fun g7 hw => ?_)
      refine wm_iload_n hC 2 dX11_orders_50 rfl ?_
      refine y_callV_i_IJ hC hRm ml_X11_237 g6 (C1_countOrders g6 g7 hw) (Nat.le_of_ble_eq_true rfl) (Nat.le_of_ble_eq_true rfl) ⟨Nat.zero_le _, Nat.zero_le _⟩ rfl (st := []) rfl (Nat.le_of_ble_eq_true rfl) dX11_orders_51 (fun r3 I2 J2 hw => ?_)
      exact wm_ireturn hC hE dX11_orders_54 ⟨trivial, hw⟩
def P11_power (l0 : Nat) (l1 : Int) (l2 : Int) (I : mI) (J : mI) (R : mR) (Q : Int → mI → mI → mR → Prop) : Prop := (P11_areThere l0 l1 l2 I R (fun r1 => (if r1 = 0 then (Q (-1) I J R) else (kK (R l0 9) = 1 ∧ (kK (R l0 12) = 3 ∧ (kK (R l0 2) = 7 ∧ (P1_sit (R l0 9) (R l0 12) (R l0 2) l2 I J R (fun I1 J1 R1 => (kK (R1 l0 9) = 1 ∧ (P1_powerOf (R1 l0 9) l1 I1 J1 R1 (fun r2 I2 J2 => (Q r2 I2 J2 R1))))))))))))
set_option maxRecDepth 20000 in
theorem C11_power {ad : Nat → Nat} {n : Nat} {I J : mI} {R : mR} {Q : Int → mI → mI → mR → Prop} {l0 : Nat} {l1 : Int} {l2 : Int} (hk0 : kK l0 = 11) (hw : P11_power l0 l1 l2 I J R Q) : wMet yX11_power cX11_power 3 (some .int) 7 162 ad n I J R [vr l0, vi l1, vi l2] (fun r I' J' R' => (True) ∧ Q r I' J' R') := by
  refine wMet_of (by decide) (Nat.le_of_ble_eq_true rfl) (fun C hC hRm hE => ?_)
  refine (show WM C ad n I J R 0 0 0 [(0, vr l0), (1, vi l1), (2, vi l2)] [] from ?_)
  unfold P11_power at hw
  refine wm_aload_n hC 0 dX11_power_0 rfl (k_ne0 hk0 (by decide)) ?_
  refine wm_iload_n hC 1 dX11_power_1 rfl ?_
  refine wm_iload_n hC 2 dX11_power_2 rfl ?_
  refine y_callV_z_n hC hRm ml_X11_202 hk0 (C11_areThere hk0 hw) (Nat.le_of_ble_eq_true rfl) (Nat.le_of_ble_eq_true rfl) ⟨Nat.zero_le _, Nat.zero_le _⟩ rfl (st := []) rfl (Nat.le_of_ble_eq_true rfl) dX11_power_3 (fun r1 hw => ?_)
  refine wm_if_ne (tgt := 11) hC dX11_power_6 (by decide) hw (fun hw => ?_) (fun hw => ?_)
  · refine wm_iconst hC dX11_power_9 (k := ?_)
    exact wm_ireturn hC hE dX11_power_10 ⟨trivial, hw⟩
  · refine wm_aload_n hC 0 dX11_power_11 rfl (k_ne0 hk0 (by decide)) ?_
    refine x_getR2 hC 9 fl_X11_88 rfl hk0 dX11_power_12 hw (fun g1 hw => ?_)
    refine wm_aload_n hC 0 dX11_power_15 rfl (k_ne0 hk0 (by decide)) ?_
    refine x_getR2 hC 12 fl_X11_57 rfl hk0 dX11_power_16 hw (fun g2 hw => ?_)
    refine wm_aload_n hC 0 dX11_power_19 rfl (k_ne0 hk0 (by decide)) ?_
    refine x_getR2 hC 2 fl_X11_26 rfl hk0 dX11_power_20 hw (fun g3 hw => ?_)
    refine wm_iload_n hC 2 dX11_power_23 rfl ?_
    refine y_callV_v_IJR hC hRm ml_X11_187 g1 (C1_sit g1 g2 g3 hw) (Nat.le_of_ble_eq_true rfl) (Nat.le_of_ble_eq_true rfl) ⟨Nat.zero_le _, Nat.zero_le _⟩ rfl (st := []) rfl (Nat.le_of_ble_eq_true rfl) dX11_power_24 (fun I1 J1 R1 hw => ?_)
    refine wm_aload_n hC 0 dX11_power_27 rfl (k_ne0 hk0 (by decide)) ?_
    refine x_getR2 hC 9 fl_X11_88 rfl hk0 dX11_power_28 hw (fun g4 hw => ?_)
    refine wm_iload_n hC 1 dX11_power_31 rfl ?_
    refine y_callV_i_IJ hC hRm ml_X11_240 g4 (C1_powerOf g4 hw) (Nat.le_of_ble_eq_true rfl) (Nat.le_of_ble_eq_true rfl) ⟨Nat.zero_le _, Nat.zero_le _⟩ rfl (st := []) rfl (Nat.le_of_ble_eq_true rfl) dX11_power_32 (fun r2 I2 J2 hw => ?_)
    exact wm_ireturn hC hE dX11_power_35 ⟨trivial, hw⟩
def P11_odds_b19 (l0 : Nat) (l1 : Int) (I : mI) (J : mI) (R : mR) (Q : Int → mI → mI → mR → Prop) : Prop := (kK (R l0 12) = 3 ∧ (kK (R (R l0 12) 0) = 21 ∧ (((0 : Int) ≤ (0 : Int) ∧ (0 : Int) < (kN (R (R l0 12) 0) : Int)) ∧ (wLet (I (R (R l0 12) 0) (0 : Int)) (fun x1 => (kK (R l0 12) = 3 ∧ (kK (R (R l0 12) 0) = 21 ∧ (((0 : Int) ≤ (2 : Int) ∧ (2 : Int) < (kN (R (R l0 12) 0) : Int)) ∧ (wLet (I (R (R l0 12) 0) (2 : Int)) (fun x2 => (if x1 = 0 then (Q (-1) I J R) else (if x2 = 0 then (Q (-1) I J R) else (kK (R l0 2) = 7 ∧ (if (I (R l0 2) 0) < 999 then (if l1 = (-1) then (rg (100 * x1) ∧ (Q (100 * x1) I J R)) else (kK (R l0 9) = 1 ∧ (kK (R l0 12) = 3 ∧ (kK (R l0 2) = 7 ∧ (kK (R l0 2) = 7 ∧ (x2 ≠ 0 ∧ (P1_sit (R l0 9) (R l0 12) (R l0 2) (Int.tmod (I (R l0 2) 0) x2) I J R (fun I1 J1 R1 => (kK (R1 l0 9) = 1 ∧ (P1_oddsOf (R1 l0 9) l1 I1 J1 R1 (fun r2 I2 J2 => (Q r2 I2 J2 R1)))))))))))) else (Q (-1) I J R)))))))))))))))
set_option maxRecDepth 20000 in
theorem W11_odds_b19 {C : wX} {ad : Nat → Nat} {n : Nat} {I J : mI} {R : mR} {Q : Int → mI → mI → mR → Prop} (hC : wOK C cX11_odds 4 RX11) (hRm : wRm C 7 164 0 0) (hE : wEnd C (some .int) ad n (fun r I' J' R' => (True) ∧ Q r I' J' R')) {l0 : Nat} {l1 : Int}   (hk0 : kK l0 = 11)  (hw : P11_odds_b19 l0 l1 I J R Q) : WM C ad n I J R 0 0 19 [(0, vr l0), (1, vi l1)] [] := by
  unfold P11_odds_b19 at hw
  refine wm_aload_n hC 0 dX11_odds_19 rfl (k_ne0 hk0 (by decide)) ?_
  refine x_getR2 hC 12 fl_X11_57 rfl hk0 dX11_odds_20 hw (fun g2 hw => ?_)
  refine x_getR2 hC 0 fl_X11_145 rfl g2 dX11_odds_23 hw (fun g3 hw => ?_)
  refine wm_iconst hC dX11_odds_26 (k := ?_)
  refine x_iald hC g3 dX11_odds_27 hw (fun hw => ?_)
  refine x_nameI hw (fun x1 hw => ?_)
  refine wm_istore_n hC dX11_odds_28 (by decide) (L2 := [(2, vi x1), (0, vr l0), (1, vi l1)]) rfl ?_
  refine wm_aload_n hC 1 dX11_odds_29 rfl (k_ne0 hk0 (by decide)) ?_
  refine x_getR2 hC 12 fl_X11_57 rfl hk0 dX11_odds_30 hw (fun g4 hw => ?_)
  refine x_getR2 hC 0 fl_X11_145 rfl g4 dX11_odds_33 hw (fun g5 hw => ?_)
  refine wm_iconst hC dX11_odds_36 (k := ?_)
  refine x_iald hC g5 dX11_odds_37 hw (fun hw => ?_)
  refine x_nameI hw (fun x2 hw => ?_)
  refine wm_istore_n hC dX11_odds_38 (by decide) (L2 := [(3, vi x2), (2, vi x1), (0, vr l0), (1, vi l1)]) rfl ?_
  refine wm_iload_n hC 1 dX11_odds_39 rfl ?_
  refine wm_if_eq (tgt := 60) hC dX11_odds_40 (by decide) hw (fun hw => ?_) (fun hw => ?_)
  · refine wm_iconst hC dX11_odds_60 (k := ?_)
    exact wm_ireturn hC hE dX11_odds_61 ⟨trivial, hw⟩
  · refine wm_iload_n hC 0 dX11_odds_43 rfl ?_
    refine wm_if_eq (tgt := 60) hC dX11_odds_44 (by decide) hw (fun hw => ?_) (fun hw => ?_)
    · refine wm_iconst hC dX11_odds_60 (k := ?_)
      exact wm_ireturn hC hE dX11_odds_61 ⟨trivial, hw⟩
    · refine wm_aload_n hC 2 dX11_odds_47 rfl (k_ne0 hk0 (by decide)) ?_
      refine x_getR2 hC 2 fl_X11_26 rfl hk0 dX11_odds_48 hw (fun g6 hw => ?_)
      refine x_getI hC 0 fl_X11_147 rfl g6 dX11_odds_51 ?_
      refine wm_sipush hC dX11_odds_54 (k := ?_)
      refine wm_icmp_lt (tgt := 62) hC dX11_odds_57 (by decide) hw (fun hw => ?_) (fun hw => ?_)
      · refine wm_iload_n hC 3 dX11_odds_62 rfl ?_
        refine wm_iconst hC dX11_odds_63 (k := ?_)
        refine wm_icmp_ne (tgt := 72) hC dX11_odds_64 (by decide) hw (fun hw => ?_) (fun hw => ?_)
        · refine wm_bipush hC dX11_odds_67 (k := ?_)
          refine wm_iload_n hC 1 dX11_odds_69 rfl ?_
          refine x_imul hC dX11_odds_70 hw (fun hw => ?_)
          exact wm_ireturn hC hE dX11_odds_71 ⟨trivial, hw⟩
        · refine wm_aload_n hC 2 dX11_odds_72 rfl (k_ne0 hk0 (by decide)) ?_
          refine x_getR2 hC 9 fl_X11_88 rfl hk0 dX11_odds_73 hw (fun g7 hw => ?_)
          refine wm_aload_n hC 2 dX11_odds_76 rfl (k_ne0 hk0 (by decide)) ?_
          refine x_getR2 hC 12 fl_X11_57 rfl hk0 dX11_odds_77 hw (fun g8 hw => ?_)
          refine wm_aload_n hC 2 dX11_odds_80 rfl (k_ne0 hk0 (by decide)) ?_
          refine x_getR2 hC 2 fl_X11_26 rfl hk0 dX11_odds_81 hw (fun g9 hw => ?_)
          refine wm_aload_n hC 2 dX11_odds_84 rfl (k_ne0 hk0 (by decide)) ?_
          refine x_getR2 hC 2 fl_X11_26 rfl hk0 dX11_odds_85 hw (fun g10 hw => ?_)
          refine x_getI hC 0 fl_X11_147 rfl g10 dX11_odds_88 ?_
          refine wm_iload_n hC 0 dX11_odds_91 rfl ?_
          refine x_irem hC dX11_odds_92 hw (fun hw => ?_)
          refine y_callV_v_IJR hC hRm ml_X11_187 g7 (C1_sit g7 g8 g9 hw) (Nat.le_of_ble_eq_true rfl) (Nat.le_of_ble_eq_true rfl) ⟨Nat.zero_le _, Nat.zero_le _⟩ rfl (st := []) rfl (Nat.le_of_ble_eq_true rfl) dX11_odds_93 (fun I1 J1 R1 hw => ?_)
          refine wm_aload_n hC 2 dX11_odds_96 rfl (k_ne0 hk0 (by decide)) ?_
          refine x_getR2 hC 9 fl_X11_88 rfl hk0 dX11_odds_97 hw (fun g11 hw => ?_)
          refine wm_iload_n hC 3 dX11_odds_100 rfl ?_
          refine y_callV_i_IJ hC hRm ml_X11_247 g11 (C1_oddsOf g11 hw) (Nat.le_of_ble_eq_true rfl) (Nat.le_of_ble_eq_true rfl) ⟨Nat.zero_le _, Nat.zero_le _⟩ rfl (st := []) rfl (Nat.le_of_ble_eq_true rfl) dX11_odds_101 (fun r2 I2 J2 hw => ?_)
          exact wm_ireturn hC hE dX11_odds_104 ⟨trivial, hw⟩
      · refine wm_iconst hC dX11_odds_60 (k := ?_)
        exact wm_ireturn hC hE dX11_odds_61 ⟨trivial, hw⟩
def P11_odds (l0 : Nat) (l1 : Int) (I : mI) (J : mI) (R : mR) (Q : Int → mI → mI → mR → Prop) : Prop := (if l1 = (-1) then (P11_odds_b19 l0 l1 I J R Q) else (kK (R l0 12) = 3 ∧ (P3_isThere (R l0 12) 1 l1 I R (fun r1 => (if r1 = 0 then (Q (-1) I J R) else (P11_odds_b19 l0 l1 I J R Q))))))
set_option maxRecDepth 20000 in
theorem C11_odds {ad : Nat → Nat} {n : Nat} {I J : mI} {R : mR} {Q : Int → mI → mI → mR → Prop} {l0 : Nat} {l1 : Int} (hk0 : kK l0 = 11) (hw : P11_odds l0 l1 I J R Q) : wMet yX11_odds cX11_odds 4 (some .int) 7 164 ad n I J R [vr l0, vi l1] (fun r I' J' R' => (True) ∧ Q r I' J' R') := by
  refine wMet_of (by decide) (Nat.le_of_ble_eq_true rfl) (fun C hC hRm hE => ?_)
  refine (show WM C ad n I J R 0 0 0 [(0, vr l0), (1, vi l1)] [] from ?_)
  unfold P11_odds at hw
  refine wm_iload_n hC 1 dX11_odds_0 rfl ?_
  refine wm_iconst hC dX11_odds_1 (k := ?_)
  refine wm_icmp_eq (tgt := 19) hC dX11_odds_2 (by decide) hw (fun hw => ?_) (fun hw => ?_)
  · exact W11_odds_b19 hC hRm hE hk0 hw
  · refine wm_aload_n hC 0 dX11_odds_5 rfl (k_ne0 hk0 (by decide)) ?_
    refine x_getR2 hC 12 fl_X11_57 rfl hk0 dX11_odds_6 hw (fun g1 hw => ?_)
    refine wm_iconst hC dX11_odds_9 (k := ?_)
    refine wm_iload_n hC 1 dX11_odds_10 rfl ?_
    refine y_callV_z_n hC hRm ml_X11_167 g1 (C3_isThere g1 hw) (Nat.le_of_ble_eq_true rfl) (Nat.le_of_ble_eq_true rfl) ⟨Nat.zero_le _, Nat.zero_le _⟩ rfl (st := []) rfl (Nat.le_of_ble_eq_true rfl) dX11_odds_11 (fun r1 hw => ?_)
    refine wm_if_ne (tgt := 19) hC dX11_odds_14 (by decide) hw (fun hw => ?_) (fun hw => ?_)
    · refine wm_iconst hC dX11_odds_17 (k := ?_)
      exact wm_ireturn hC hE dX11_odds_18 ⟨trivial, hw⟩
    · exact W11_odds_b19 hC hRm hE hk0 hw
def P11_meet (l0 : Nat) (I : mI) (R : mR) (Q : Int → mI → Prop) : Prop := (kK (R l0 11) = 2 ∧ (kK (R l0 0) = 9 ∧ (kK (R l0 12) = 3 ∧ (P2_take (R l0 11) (R l0 0) (R l0 12) I R (fun r1 I1 => (kK (R l0 0) = 9 ∧ (wLet (up I1 (R l0 0) 1 0) (fun I2 => (if r1 = 0 then (P11_refuse l0 5 I2 R (fun r2 I3 => (Q r2 I3))) else (kK (R l0 11) = 2 ∧ (Q (I2 (R l0 11) 5) I2)))))))))))
set_option maxRecDepth 20000 in
theorem C11_meet {ad : Nat → Nat} {n : Nat} {I J : mI} {R : mR} {Q : Int → mI → Prop} {l0 : Nat} (hk0 : kK l0 = 11) (hw : P11_meet l0 I R Q) : wMet yX11_meet cX11_meet 2 (some .int) 3 59 ad n I J R [vr l0] (fun r I' J' R' => (J' = J ∧ R' = R) ∧ Q r I') := by
  refine wMet_of (by decide) (Nat.le_of_ble_eq_true rfl) (fun C hC hRm hE => ?_)
  refine (show WM C ad n I J R 0 0 0 [(0, vr l0)] [] from ?_)
  unfold P11_meet at hw
  refine wm_aload_n hC 0 dX11_meet_0 rfl (k_ne0 hk0 (by decide)) ?_
  refine x_getR2 hC 11 fl_X11_106 rfl hk0 dX11_meet_1 hw (fun g1 hw => ?_)
  refine wm_aload_n hC 0 dX11_meet_4 rfl (k_ne0 hk0 (by decide)) ?_
  refine x_getR2 hC 0 fl_X11_10 rfl hk0 dX11_meet_5 hw (fun g2 hw => ?_)
  refine wm_aload_n hC 0 dX11_meet_8 rfl (k_ne0 hk0 (by decide)) ?_
  refine x_getR2 hC 12 fl_X11_57 rfl hk0 dX11_meet_9 hw (fun g3 hw => ?_)
  refine y_callV_z_I hC hRm ml_X11_250 g1 (C2_take g1 g2 g3 hw) (Nat.le_of_ble_eq_true rfl) (Nat.le_of_ble_eq_true rfl) ⟨Nat.zero_le _, Nat.zero_le _⟩ rfl (st := []) rfl (Nat.le_of_ble_eq_true rfl) dX11_meet_12 (fun r1 I1 hw => ?_)
  refine wm_istore_n hC dX11_meet_15 (by decide) (L2 := [(1, vi r1), (0, vr l0)]) rfl ?_
  refine wm_aload_n hC 1 dX11_meet_16 rfl (k_ne0 hk0 (by decide)) ?_
  refine x_getR2 hC 0 fl_X11_10 rfl hk0 dX11_meet_17 hw (fun g4 hw => ?_)
  refine wm_iconst hC dX11_meet_20 (k := ?_)
  refine x_putI hC 1 fl_X11_114 rfl g4 dX11_meet_21 hw (fun I2 hw => ?_)
  refine wm_iload_n hC 0 dX11_meet_24 rfl ?_
  refine wm_if_eq (tgt := 38) hC dX11_meet_25 (by decide) hw (fun hw => ?_) (fun hw => ?_)
  · refine wm_aload_n hC 1 dX11_meet_38 rfl (k_ne0 hk0 (by decide)) ?_
    refine wm_iconst hC dX11_meet_39 (k := ?_)
    refine y_callV_i_I hC hRm ml_X11_117 hk0 (C11_refuse hk0 hw) (Nat.le_of_ble_eq_true rfl) (Nat.le_of_ble_eq_true rfl) ⟨Nat.zero_le _, Nat.zero_le _⟩ rfl (st := []) rfl (Nat.le_of_ble_eq_true rfl) dX11_meet_40 (fun r2 I3 hw => ?_)
    exact wm_ireturn hC hE dX11_meet_43 ⟨⟨rfl, rfl⟩, hw⟩
  · refine wm_aload_n hC 1 dX11_meet_28 rfl (k_ne0 hk0 (by decide)) ?_
    refine x_getR2 hC 11 fl_X11_106 rfl hk0 dX11_meet_29 hw (fun g5 hw => ?_)
    refine x_getI hC 5 fl_X11_142 rfl g5 dX11_meet_32 ?_
    refine wm_goto (tgt := 43) hC dX11_meet_35 (by decide) ?_
    exact wm_ireturn hC hE dX11_meet_43 ⟨⟨rfl, rfl⟩, hw⟩
def P11_tastes (l0 : Nat) (l1 : Int) (I : mI) (J : mI) (R : mR) (Q : Int → mI → mI → mR → Prop) : Prop := (kK (R l0 12) = 3 ∧ (P3_isThere (R l0 12) 0 l1 I R (fun r1 => (if r1 = 0 then (Q (-1) I J R) else (kK (R l0 11) = 2 ∧ (kK (R l0 12) = 3 ∧ (kK (R l0 2) = 7 ∧ (P2_left (R l0 11) (R l0 12) (R l0 2) l1 I J R (fun r2 I1 J1 R1 => (Q r2 I1 J1 R1))))))))))
set_option maxRecDepth 20000 in
theorem C11_tastes {ad : Nat → Nat} {n : Nat} {I J : mI} {R : mR} {Q : Int → mI → mI → mR → Prop} {l0 : Nat} {l1 : Int} (hk0 : kK l0 = 11) (hw : P11_tastes l0 l1 I J R Q) : wMet yX11_tastes cX11_tastes 2 (some .int) 8 196 ad n I J R [vr l0, vi l1] (fun r I' J' R' => (True) ∧ Q r I' J' R') := by
  refine wMet_of (by decide) (Nat.le_of_ble_eq_true rfl) (fun C hC hRm hE => ?_)
  refine (show WM C ad n I J R 0 0 0 [(0, vr l0), (1, vi l1)] [] from ?_)
  unfold P11_tastes at hw
  refine wm_aload_n hC 0 dX11_tastes_0 rfl (k_ne0 hk0 (by decide)) ?_
  refine x_getR2 hC 12 fl_X11_57 rfl hk0 dX11_tastes_1 hw (fun g1 hw => ?_)
  refine wm_iconst hC dX11_tastes_4 (k := ?_)
  refine wm_iload_n hC 1 dX11_tastes_5 rfl ?_
  refine y_callV_z_n hC hRm ml_X11_167 g1 (C3_isThere g1 hw) (Nat.le_of_ble_eq_true rfl) (Nat.le_of_ble_eq_true rfl) ⟨Nat.zero_le _, Nat.zero_le _⟩ rfl (st := []) rfl (Nat.le_of_ble_eq_true rfl) dX11_tastes_6 (fun r1 hw => ?_)
  refine wm_if_ne (tgt := 14) hC dX11_tastes_9 (by decide) hw (fun hw => ?_) (fun hw => ?_)
  · refine wm_iconst hC dX11_tastes_12 (k := ?_)
    exact wm_ireturn hC hE dX11_tastes_13 ⟨trivial, hw⟩
  · refine wm_aload_n hC 0 dX11_tastes_14 rfl (k_ne0 hk0 (by decide)) ?_
    refine x_getR2 hC 11 fl_X11_106 rfl hk0 dX11_tastes_15 hw (fun g2 hw => ?_)
    refine wm_aload_n hC 0 dX11_tastes_18 rfl (k_ne0 hk0 (by decide)) ?_
    refine x_getR2 hC 12 fl_X11_57 rfl hk0 dX11_tastes_19 hw (fun g3 hw => ?_)
    refine wm_aload_n hC 0 dX11_tastes_22 rfl (k_ne0 hk0 (by decide)) ?_
    refine x_getR2 hC 2 fl_X11_26 rfl hk0 dX11_tastes_23 hw (fun g4 hw => ?_)
    refine wm_iload_n hC 1 dX11_tastes_26 rfl ?_
    refine y_callV_i_IJR hC hRm ml_X11_254 g2 (C2_left g2 g3 g4 hw) (Nat.le_of_ble_eq_true rfl) (Nat.le_of_ble_eq_true rfl) ⟨Nat.zero_le _, Nat.zero_le _⟩ rfl (st := []) rfl (Nat.le_of_ble_eq_true rfl) dX11_tastes_27 (fun r2 I1 J1 R1 hw => ?_)
    exact wm_ireturn hC hE dX11_tastes_30 ⟨trivial, hw⟩
def P11_tells (l0 : Nat) (l1 : Int) (l2 : Int) (I : mI) (J : mI) (R : mR) (Q : Int → mI → mI → mR → Prop) : Prop := (kK (R l0 12) = 3 ∧ (P3_isThere (R l0 12) 0 l1 I R (fun r1 => (if r1 = 0 then (Q (-1) I J R) else (if l2 < 0 then (Q (-1) I J R) else (if (2 : Int) < l2 then (Q (-1) I J R) else (kK (R l0 12) = 3 ∧ (kK (R (R l0 12) 0) = 21 ∧ (((0 : Int) ≤ (2 : Int) ∧ (2 : Int) < (kN (R (R l0 12) 0) : Int)) ∧ (if (I (R (R l0 12) 0) (2 : Int)) = 0 then (Q (-1) I J R) else (kK (R l0 2) = 7 ∧ (if (I (R l0 2) 0) < 999 then (kK (R l0 11) = 2 ∧ (kK (R l0 12) = 3 ∧ (kK (R l0 2) = 7 ∧ (P2_left (R l0 11) (R l0 12) (R l0 2) l1 I J R (fun r2 I1 J1 R1 => (if r2 = 0 then (Q (-1) I1 J1 R1) else (kK (R1 l0 11) = 2 ∧ (kK (R1 l0 12) = 3 ∧ (kK (R1 l0 2) = 7 ∧ (P2_count (R1 l0 11) (R1 l0 12) (R1 l0 2) l1 r2 I1 J1 R1 (fun I2 J2 R2 => (kK (R2 l0 11) = 2 ∧ (kK (R2 l0 12) = 3 ∧ (kK (R2 (R2 l0 12) 0) = 21 ∧ (((0 : Int) ≤ (2 : Int) ∧ (2 : Int) < (kN (R2 (R2 l0 12) 0) : Int)) ∧ (kK (R2 l0 2) = 7 ∧ (rg (999 - (I2 (R2 l0 2) 0)) ∧ (P2_findTelling (R2 l0 11) (I2 (R2 (R2 l0 12) 0) (2 : Int)) (999 - (I2 (R2 l0 2) 0)) I2 R2 (fun I3 => (if l2 = 0 then (kK (R2 l0 11) = 2 ∧ (Q (I3 (R2 l0 11) 6) I3 J2 R2)) else (if l2 = 1 then (kK (R2 l0 11) = 2 ∧ (Q (I3 (R2 l0 11) 7) I3 J2 R2)) else (kK (R2 l0 11) = 2 ∧ (Q (I3 (R2 l0 11) 8) I3 J2 R2))))))))))))))))))))))) else (Q (-1) I J R)))))))))))))
set_option maxRecDepth 20000 in
theorem C11_tells {ad : Nat → Nat} {n : Nat} {I J : mI} {R : mR} {Q : Int → mI → mI → mR → Prop} {l0 : Nat} {l1 : Int} {l2 : Int} (hk0 : kK l0 = 11) (hw : P11_tells l0 l1 l2 I J R Q) : wMet yX11_tells cX11_tells 4 (some .int) 8 196 ad n I J R [vr l0, vi l1, vi l2] (fun r I' J' R' => (True) ∧ Q r I' J' R') := by
  refine wMet_of (by decide) (Nat.le_of_ble_eq_true rfl) (fun C hC hRm hE => ?_)
  refine (show WM C ad n I J R 0 0 0 [(0, vr l0), (1, vi l1), (2, vi l2)] [] from ?_)
  unfold P11_tells at hw
  refine wm_aload_n hC 0 dX11_tells_0 rfl (k_ne0 hk0 (by decide)) ?_
  refine x_getR2 hC 12 fl_X11_57 rfl hk0 dX11_tells_1 hw (fun g1 hw => ?_)
  refine wm_iconst hC dX11_tells_4 (k := ?_)
  refine wm_iload_n hC 1 dX11_tells_5 rfl ?_
  refine y_callV_z_n hC hRm ml_X11_167 g1 (C3_isThere g1 hw) (Nat.le_of_ble_eq_true rfl) (Nat.le_of_ble_eq_true rfl) ⟨Nat.zero_le _, Nat.zero_le _⟩ rfl (st := []) rfl (Nat.le_of_ble_eq_true rfl) dX11_tells_6 (fun r1 hw => ?_)
  refine wm_if_eq (tgt := 46) hC dX11_tells_9 (by decide) hw (fun hw => ?_) (fun hw => ?_)
  · refine wm_iconst hC dX11_tells_46 (k := ?_)
    exact wm_ireturn hC hE dX11_tells_47 ⟨trivial, hw⟩
  · refine wm_iload_n hC 2 dX11_tells_12 rfl ?_
    refine wm_if_lt (tgt := 46) hC dX11_tells_13 (by decide) hw (fun hw => ?_) (fun hw => ?_)
    · refine wm_iconst hC dX11_tells_46 (k := ?_)
      exact wm_ireturn hC hE dX11_tells_47 ⟨trivial, hw⟩
    · refine wm_iload_n hC 2 dX11_tells_16 rfl ?_
      refine wm_iconst hC dX11_tells_17 (k := ?_)
      refine wm_icmp_gt (tgt := 46) hC dX11_tells_18 (by decide) hw (fun hw => ?_) (fun hw => ?_)
      · refine wm_iconst hC dX11_tells_46 (k := ?_)
        exact wm_ireturn hC hE dX11_tells_47 ⟨trivial, hw⟩
      · refine wm_aload_n hC 0 dX11_tells_21 rfl (k_ne0 hk0 (by decide)) ?_
        refine x_getR2 hC 12 fl_X11_57 rfl hk0 dX11_tells_22 hw (fun g2 hw => ?_)
        refine x_getR2 hC 0 fl_X11_145 rfl g2 dX11_tells_25 hw (fun g3 hw => ?_)
        refine wm_iconst hC dX11_tells_28 (k := ?_)
        refine x_iald hC g3 dX11_tells_29 hw (fun hw => ?_)
        refine wm_if_eq (tgt := 46) hC dX11_tells_30 (by decide) hw (fun hw => ?_) (fun hw => ?_)
        · refine wm_iconst hC dX11_tells_46 (k := ?_)
          exact wm_ireturn hC hE dX11_tells_47 ⟨trivial, hw⟩
        · refine wm_aload_n hC 0 dX11_tells_33 rfl (k_ne0 hk0 (by decide)) ?_
          refine x_getR2 hC 2 fl_X11_26 rfl hk0 dX11_tells_34 hw (fun g4 hw => ?_)
          refine x_getI hC 0 fl_X11_147 rfl g4 dX11_tells_37 ?_
          refine wm_sipush hC dX11_tells_40 (k := ?_)
          refine wm_icmp_lt (tgt := 48) hC dX11_tells_43 (by decide) hw (fun hw => ?_) (fun hw => ?_)
          · refine wm_aload_n hC 0 dX11_tells_48 rfl (k_ne0 hk0 (by decide)) ?_
            refine x_getR2 hC 11 fl_X11_106 rfl hk0 dX11_tells_49 hw (fun g5 hw => ?_)
            refine wm_aload_n hC 0 dX11_tells_52 rfl (k_ne0 hk0 (by decide)) ?_
            refine x_getR2 hC 12 fl_X11_57 rfl hk0 dX11_tells_53 hw (fun g6 hw => ?_)
            refine wm_aload_n hC 0 dX11_tells_56 rfl (k_ne0 hk0 (by decide)) ?_
            refine x_getR2 hC 2 fl_X11_26 rfl hk0 dX11_tells_57 hw (fun g7 hw => ?_)
            refine wm_iload_n hC 1 dX11_tells_60 rfl ?_
            refine y_callV_i_IJR hC hRm ml_X11_254 g5 (C2_left g5 g6 g7 hw) (Nat.le_of_ble_eq_true rfl) (Nat.le_of_ble_eq_true rfl) ⟨Nat.zero_le _, Nat.zero_le _⟩ rfl (st := []) rfl (Nat.le_of_ble_eq_true rfl) dX11_tells_61 (fun r2 I1 J1 R1 hw => ?_)
            refine wm_istore_n hC dX11_tells_64 (by decide) (L2 := [(3, vi r2), (0, vr l0), (1, vi l1), (2, vi l2)]) rfl ?_
            refine wm_iload_n hC 0 dX11_tells_65 rfl ?_
            refine wm_if_ne (tgt := 71) hC dX11_tells_66 (by decide) hw (fun hw => ?_) (fun hw => ?_)
            · refine wm_iconst hC dX11_tells_69 (k := ?_)
              exact wm_ireturn hC hE dX11_tells_70 ⟨trivial, hw⟩
            · refine wm_aload_n hC 1 dX11_tells_71 rfl (k_ne0 hk0 (by decide)) ?_
              refine x_getR2 hC 11 fl_X11_106 rfl hk0 dX11_tells_72 hw (fun g8 hw => ?_)
              refine wm_aload_n hC 1 dX11_tells_75 rfl (k_ne0 hk0 (by decide)) ?_
              refine x_getR2 hC 12 fl_X11_57 rfl hk0 dX11_tells_76 hw (fun g9 hw => ?_)
              refine wm_aload_n hC 1 dX11_tells_79 rfl (k_ne0 hk0 (by decide)) ?_
              refine x_getR2 hC 2 fl_X11_26 rfl hk0 dX11_tells_80 hw (fun g10 hw => ?_)
              refine wm_iload_n hC 2 dX11_tells_83 rfl ?_
              refine wm_iload_n hC 0 dX11_tells_84 rfl ?_
              refine y_callV_v_IJR hC hRm ml_X11_258 g8 (C2_count g8 g9 g10 hw) (Nat.le_of_ble_eq_true rfl) (Nat.le_of_ble_eq_true rfl) ⟨Nat.zero_le _, Nat.zero_le _⟩ rfl (st := []) rfl (Nat.le_of_ble_eq_true rfl) dX11_tells_85 (fun I2 J2 R2 hw => ?_)
              refine wm_aload_n hC 1 dX11_tells_88 rfl (k_ne0 hk0 (by decide)) ?_
              refine x_getR2 hC 11 fl_X11_106 rfl hk0 dX11_tells_89 hw (fun g11 hw => ?_)
              refine wm_aload_n hC 1 dX11_tells_92 rfl (k_ne0 hk0 (by decide)) ?_
              refine x_getR2 hC 12 fl_X11_57 rfl hk0 dX11_tells_93 hw (fun g12 hw => ?_)
              refine x_getR2 hC 0 fl_X11_145 rfl g12 dX11_tells_96 hw (fun g13 hw => ?_)
              refine wm_iconst hC dX11_tells_99 (k := ?_)
              refine x_iald hC g13 dX11_tells_100 hw (fun hw => ?_)
              refine wm_sipush hC dX11_tells_101 (k := ?_)
              refine wm_aload_n hC 1 dX11_tells_104 rfl (k_ne0 hk0 (by decide)) ?_
              refine x_getR2 hC 2 fl_X11_26 rfl hk0 dX11_tells_105 hw (fun g14 hw => ?_)
              refine x_getI hC 0 fl_X11_147 rfl g14 dX11_tells_108 ?_
              refine x_isub hC dX11_tells_111 hw (fun hw => ?_)
              refine y_callV_v_I hC hRm ml_X11_261 g11 (C2_findTelling g11 hw) (Nat.le_of_ble_eq_true rfl) (Nat.le_of_ble_eq_true rfl) ⟨Nat.zero_le _, Nat.zero_le _⟩ rfl (st := []) rfl (Nat.le_of_ble_eq_true rfl) dX11_tells_112 (fun I3 hw => ?_)
              refine wm_iload_n hC 3 dX11_tells_115 rfl ?_
              refine wm_if_ne (tgt := 129) hC dX11_tells_116 (by decide) hw (fun hw => ?_) (fun hw => ?_)
              · refine wm_aload_n hC 1 dX11_tells_119 rfl (k_ne0 hk0 (by decide)) ?_
                refine x_getR2 hC 11 fl_X11_106 rfl hk0 dX11_tells_120 hw (fun g17 hw => ?_)
                refine x_getI hC 6 fl_X11_265 rfl g17 dX11_tells_123 ?_
                refine wm_goto (tgt := 151) hC dX11_tells_126 (by decide) ?_
                exact wm_ireturn hC hE dX11_tells_151 ⟨trivial, hw⟩
              · refine wm_iload_n hC 3 dX11_tells_129 rfl ?_
                refine wm_iconst hC dX11_tells_130 (k := ?_)
                refine wm_icmp_ne (tgt := 144) hC dX11_tells_131 (by decide) hw (fun hw => ?_) (fun hw => ?_)
                · refine wm_aload_n hC 1 dX11_tells_134 rfl (k_ne0 hk0 (by decide)) ?_
                  refine x_getR2 hC 11 fl_X11_106 rfl hk0 dX11_tells_135 hw (fun g16 hw => ?_)
                  refine x_getI hC 7 fl_X11_268 rfl g16 dX11_tells_138 ?_
                  refine wm_goto (tgt := 151) hC dX11_tells_141 (by decide) ?_
                  exact wm_ireturn hC hE dX11_tells_151 ⟨trivial, hw⟩
                · refine wm_aload_n hC 1 dX11_tells_144 rfl (k_ne0 hk0 (by decide)) ?_
                  refine x_getR2 hC 11 fl_X11_106 rfl hk0 dX11_tells_145 hw (fun g15 hw => ?_)
                  refine x_getI hC 8 fl_X11_271 rfl g15 dX11_tells_148 ?_
                  exact wm_ireturn hC hE dX11_tells_151 ⟨trivial, hw⟩
          · refine wm_iconst hC dX11_tells_46 (k := ?_)
            exact wm_ireturn hC hE dX11_tells_47 ⟨trivial, hw⟩
