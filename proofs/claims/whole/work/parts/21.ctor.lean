def PC9_init (l0 : Nat) (n : Nat) (I J : mI) (R : mR) (Q : wPc) : Prop := ((kK (n + 1) = 20 ∧ kN (n + 1) = 1600 ∧ wz I J R (n + 1)) ∧ (wLet (up R l0 0 (n + 1)) (fun R1 => (wLet (up I l0 1 0) (fun I1 => (Q (n + 1) I1 J R1))))))
set_option maxRecDepth 20000 in
theorem CC9_init {ad : Nat → Nat} {n : Nat} {I J : mI} {R : mR} {Q : wPc} {l0 : Nat} (hk0 : kK l0 = 9) (hw : PC9_init l0 n I J R Q) : wMetC yX9_init cX9_init 1 1 24 1 1600 ad n I J R [vr l0] Q := by
  refine wMetC_of (by decide) rfl (Nat.le_of_ble_eq_true rfl) (fun C hC hRm hE => ?_)
  refine (show WM C ad n I J R 0 0 0 [(0, vr l0)] [] from ?_)
  unfold PC9_init at hw
  have hag0 : wAg ad ad n := wAg_rf
  have hle0 : n ≤ n := Nat.le_refl n
  refine wm_aload_n hC 0 dX9_init_0 rfl (k_ne0 hk0 (by decide)) ?_
  refine x_objInit hC hRm (k_ne0 hk0 (by decide)) oi_X9_3 oi_inst oi_code (Nat.le_of_ble_eq_true rfl) (Nat.le_of_ble_eq_true rfl) dX9_init_1 ?_
  refine wm_aload_n hC 0 dX9_init_4 rfl (k_ne0 hk0 (by decide)) ?_
  refine wm_sipush hC dX9_init_5 (k := ?_)
  refine x_newarr hC hRm (atype := .byte) (len := 1600) 0 (by decide) ac_byte (by decide) 1 1600 rfl rfl (Nat.le_of_ble_eq_true rfl) (Nat.le_of_ble_eq_true rfl) dX9_init_8 hw (fun ad1 had1 g1 hw => ?_)
  have hagad1 := wAg_tr hag0 had1 hle0
  have hlead1 := Nat.le_succ_of_le hle0
  refine x_putFR hC hE 0 fl_X9_9 rfl hk0 (fun q h => by cases h; rfl) (Or.inr ⟨_, rfl⟩) (k_lt g1 (by decide)) dX9_init_10 hw (fun R1 hw => ?_)
  refine wm_aload_n hC 0 dX9_init_13 rfl (k_ne0 hk0 (by decide)) ?_
  refine wm_iconst hC dX9_init_14 (k := ?_)
  refine x_putI hC 1 fl_X9_15 rfl hk0 dX9_init_15 hw (fun I1 hw => ?_)
  exact wm_returnC hC hE hagad1 hlead1 dX9_init_18 hw
def PC8_init (l0 : Nat) (n : Nat) (I J : mI) (R : mR) (Q : wPc) : Prop := ((kK (n + 1) = 21 ∧ kN (n + 1) = 9 ∧ wz I J R (n + 1)) ∧ (wLet (up R l0 0 (n + 1)) (fun R1 => ((kK ((n + 1) + 1) = 22 ∧ kN ((n + 1) + 1) = 96 ∧ wz I J R1 ((n + 1) + 1)) ∧ (wLet (up R1 l0 1 ((n + 1) + 1)) (fun R2 => (Q ((n + 1) + 1) I J R2)))))))
set_option maxRecDepth 20000 in
theorem CC8_init {ad : Nat → Nat} {n : Nat} {I J : mI} {R : mR} {Q : wPc} {l0 : Nat} (hk0 : kK l0 = 8) (hw : PC8_init l0 n I J R Q) : wMetC yX8_init cX8_init 1 1 24 2 105 ad n I J R [vr l0] Q := by
  refine wMetC_of (by decide) rfl (Nat.le_of_ble_eq_true rfl) (fun C hC hRm hE => ?_)
  refine (show WM C ad n I J R 0 0 0 [(0, vr l0)] [] from ?_)
  unfold PC8_init at hw
  have hag0 : wAg ad ad n := wAg_rf
  have hle0 : n ≤ n := Nat.le_refl n
  refine wm_aload_n hC 0 dX8_init_0 rfl (k_ne0 hk0 (by decide)) ?_
  refine x_objInit hC hRm (k_ne0 hk0 (by decide)) oi_X8_1 oi_inst oi_code (Nat.le_of_ble_eq_true rfl) (Nat.le_of_ble_eq_true rfl) dX8_init_1 ?_
  refine wm_aload_n hC 0 dX8_init_4 rfl (k_ne0 hk0 (by decide)) ?_
  refine wm_bipush hC dX8_init_5 (k := ?_)
  refine x_newarr hC hRm (atype := .int) (len := 9) 1 (by decide) ac_int (by decide) 1 9 rfl rfl (Nat.le_of_ble_eq_true rfl) (Nat.le_of_ble_eq_true rfl) dX8_init_7 hw (fun ad1 had1 g1 hw => ?_)
  have hagad1 := wAg_tr hag0 had1 hle0
  have hlead1 := Nat.le_succ_of_le hle0
  refine x_putFR hC hE 0 fl_X8_7 rfl hk0 (fun q h => by cases h; rfl) (Or.inr ⟨_, rfl⟩) (k_lt g1 (by decide)) dX8_init_9 hw (fun R1 hw => ?_)
  refine wm_aload_n hC 0 dX8_init_12 rfl (k_ne0 hk0 (by decide)) ?_
  refine wm_bipush hC dX8_init_13 (k := ?_)
  refine x_newarrJ hC hRm (len := 96) ac_long (by decide) 2 105 rfl rfl (Nat.le_of_ble_eq_true rfl) (Nat.le_of_ble_eq_true rfl) dX8_init_15 hw (fun ad2 had2 g2 hw => ?_)
  have hagad2 := wAg_tr hagad1 had2 hlead1
  have hlead2 := Nat.le_succ_of_le hlead1
  refine x_putFR hC hE 1 fl_X8_13 rfl hk0 (fun q h => by cases h; rfl) (Or.inr ⟨_, rfl⟩) (k_lt g2 (by decide)) dX8_init_17 hw (fun R2 hw => ?_)
  exact wm_returnC hC hE hagad2 hlead2 dX8_init_20 hw
def PC7_init (l0 : Nat) (n : Nat) (I J : mI) (R : mR) (Q : wPc) : Prop := (wLet (up I l0 0 0) (fun I1 => (wLet (up I1 l0 1 0) (fun I2 => (wLet (up I2 l0 2 0) (fun I3 => ((kK (n + 1) = 21 ∧ kN (n + 1) = 6 ∧ wz I3 J R (n + 1)) ∧ (wLet (up R l0 3 (n + 1)) (fun R1 => ((kK ((n + 1) + 1) = 21 ∧ kN ((n + 1) + 1) = 6 ∧ wz I3 J R1 ((n + 1) + 1)) ∧ (wLet (up R1 l0 4 ((n + 1) + 1)) (fun R2 => ((kK (((n + 1) + 1) + 1) = 21 ∧ kN (((n + 1) + 1) + 1) = 6 ∧ wz I3 J R2 (((n + 1) + 1) + 1)) ∧ (wLet (up R2 l0 5 (((n + 1) + 1) + 1)) (fun R3 => ((kK ((((n + 1) + 1) + 1) + 1) = 21 ∧ kN ((((n + 1) + 1) + 1) + 1) = 120 ∧ wz I3 J R3 ((((n + 1) + 1) + 1) + 1)) ∧ (wLet (up R3 l0 6 ((((n + 1) + 1) + 1) + 1)) (fun R4 => (Q ((((n + 1) + 1) + 1) + 1) I3 J R4)))))))))))))))))))
set_option maxRecDepth 20000 in
theorem CC7_init {ad : Nat → Nat} {n : Nat} {I J : mI} {R : mR} {Q : wPc} {l0 : Nat} (hk0 : kK l0 = 7) (hw : PC7_init l0 n I J R Q) : wMetC yX7_init cX7_init 1 1 24 4 138 ad n I J R [vr l0] Q := by
  refine wMetC_of (by decide) rfl (Nat.le_of_ble_eq_true rfl) (fun C hC hRm hE => ?_)
  refine (show WM C ad n I J R 0 0 0 [(0, vr l0)] [] from ?_)
  unfold PC7_init at hw
  have hag0 : wAg ad ad n := wAg_rf
  have hle0 : n ≤ n := Nat.le_refl n
  refine wm_aload_n hC 0 dX7_init_0 rfl (k_ne0 hk0 (by decide)) ?_
  refine x_objInit hC hRm (k_ne0 hk0 (by decide)) oi_X7_3 oi_inst oi_code (Nat.le_of_ble_eq_true rfl) (Nat.le_of_ble_eq_true rfl) dX7_init_1 ?_
  refine wm_aload_n hC 0 dX7_init_4 rfl (k_ne0 hk0 (by decide)) ?_
  refine wm_iconst hC dX7_init_5 (k := ?_)
  refine x_putI hC 0 fl_X7_9 rfl hk0 dX7_init_6 hw (fun I1 hw => ?_)
  refine wm_aload_n hC 0 dX7_init_9 rfl (k_ne0 hk0 (by decide)) ?_
  refine wm_iconst hC dX7_init_10 (k := ?_)
  refine x_putI hC 1 fl_X7_15 rfl hk0 dX7_init_11 hw (fun I2 hw => ?_)
  refine wm_aload_n hC 0 dX7_init_14 rfl (k_ne0 hk0 (by decide)) ?_
  refine wm_iconst hC dX7_init_15 (k := ?_)
  refine x_putI hC 2 fl_X7_18 rfl hk0 dX7_init_16 hw (fun I3 hw => ?_)
  refine wm_aload_n hC 0 dX7_init_19 rfl (k_ne0 hk0 (by decide)) ?_
  refine wm_bipush hC dX7_init_20 (k := ?_)
  refine x_newarr hC hRm (atype := .int) (len := 6) 1 (by decide) ac_int (by decide) 1 6 rfl rfl (Nat.le_of_ble_eq_true rfl) (Nat.le_of_ble_eq_true rfl) dX7_init_22 hw (fun ad1 had1 g1 hw => ?_)
  have hagad1 := wAg_tr hag0 had1 hle0
  have hlead1 := Nat.le_succ_of_le hle0
  refine x_putFR hC hE 3 fl_X7_21 rfl hk0 (fun q h => by cases h; rfl) (Or.inr ⟨_, rfl⟩) (k_lt g1 (by decide)) dX7_init_24 hw (fun R1 hw => ?_)
  refine wm_aload_n hC 0 dX7_init_27 rfl (k_ne0 hk0 (by decide)) ?_
  refine wm_bipush hC dX7_init_28 (k := ?_)
  refine x_newarr hC hRm (atype := .int) (len := 6) 1 (by decide) ac_int (by decide) 2 12 rfl rfl (Nat.le_of_ble_eq_true rfl) (Nat.le_of_ble_eq_true rfl) dX7_init_30 hw (fun ad2 had2 g2 hw => ?_)
  have hagad2 := wAg_tr hagad1 had2 hlead1
  have hlead2 := Nat.le_succ_of_le hlead1
  refine x_putFR hC hE 4 fl_X7_25 rfl hk0 (fun q h => by cases h; rfl) (Or.inr ⟨_, rfl⟩) (k_lt g2 (by decide)) dX7_init_32 hw (fun R2 hw => ?_)
  refine wm_aload_n hC 0 dX7_init_35 rfl (k_ne0 hk0 (by decide)) ?_
  refine wm_bipush hC dX7_init_36 (k := ?_)
  refine x_newarr hC hRm (atype := .int) (len := 6) 1 (by decide) ac_int (by decide) 3 18 rfl rfl (Nat.le_of_ble_eq_true rfl) (Nat.le_of_ble_eq_true rfl) dX7_init_38 hw (fun ad3 had3 g3 hw => ?_)
  have hagad3 := wAg_tr hagad2 had3 hlead2
  have hlead3 := Nat.le_succ_of_le hlead2
  refine x_putFR hC hE 5 fl_X7_28 rfl hk0 (fun q h => by cases h; rfl) (Or.inr ⟨_, rfl⟩) (k_lt g3 (by decide)) dX7_init_40 hw (fun R3 hw => ?_)
  refine wm_aload_n hC 0 dX7_init_43 rfl (k_ne0 hk0 (by decide)) ?_
  refine wm_bipush hC dX7_init_44 (k := ?_)
  refine x_newarr hC hRm (atype := .int) (len := 120) 1 (by decide) ac_int (by decide) 4 138 rfl rfl (Nat.le_of_ble_eq_true rfl) (Nat.le_of_ble_eq_true rfl) dX7_init_46 hw (fun ad4 had4 g4 hw => ?_)
  have hagad4 := wAg_tr hagad3 had4 hlead3
  have hlead4 := Nat.le_succ_of_le hlead3
  refine x_putFR hC hE 6 fl_X7_31 rfl hk0 (fun q h => by cases h; rfl) (Or.inr ⟨_, rfl⟩) (k_lt g4 (by decide)) dX7_init_48 hw (fun R4 hw => ?_)
  exact wm_returnC hC hE hagad4 hlead4 dX7_init_51 hw
def PC4_init (l0 : Nat) (n : Nat) (I J : mI) (R : mR) (Q : wPc) : Prop := ((kK (n + 1) = 24 ∧ kN (n + 1) = 20 ∧ wz I J R (n + 1)) ∧ (wLet (up R l0 0 (n + 1)) (fun R1 => (wLet (up I l0 1 0) (fun I1 => (wLet (up I1 l0 2 0) (fun I2 => (kK (R1 l0 0) = 24 ∧ ((kK ((n + 1) + 1) = 7 ∧ wz I2 J R1 ((n + 1) + 1)) ∧ (PC7_init ((n + 1) + 1) ((n + 1) + 1) I2 J R1 (fun n1 I3 J1 R2 => (((0 : Int) ≤ 0 ∧ (0 : Int) < (kN (R1 l0 0) : Int)) ∧ wLet (up R2 (R1 l0 0) 0 ((n + 1) + 1)) (fun R3 => (kK (R3 l0 0) = 24 ∧ ((kK (n1 + 1) = 7 ∧ wz I3 J1 R3 (n1 + 1)) ∧ (PC7_init (n1 + 1) (n1 + 1) I3 J1 R3 (fun n2 I4 J2 R4 => (((0 : Int) ≤ 1 ∧ (1 : Int) < (kN (R3 l0 0) : Int)) ∧ wLet (up R4 (R3 l0 0) 1 (n1 + 1)) (fun R5 => (kK (R5 l0 0) = 24 ∧ ((kK (n2 + 1) = 7 ∧ wz I4 J2 R5 (n2 + 1)) ∧ (PC7_init (n2 + 1) (n2 + 1) I4 J2 R5 (fun n3 I5 J3 R6 => (((0 : Int) ≤ 2 ∧ (2 : Int) < (kN (R5 l0 0) : Int)) ∧ wLet (up R6 (R5 l0 0) 2 (n2 + 1)) (fun R7 => (kK (R7 l0 0) = 24 ∧ ((kK (n3 + 1) = 7 ∧ wz I5 J3 R7 (n3 + 1)) ∧ (PC7_init (n3 + 1) (n3 + 1) I5 J3 R7 (fun n4 I6 J4 R8 => (((0 : Int) ≤ 3 ∧ (3 : Int) < (kN (R7 l0 0) : Int)) ∧ wLet (up R8 (R7 l0 0) 3 (n3 + 1)) (fun R9 => (kK (R9 l0 0) = 24 ∧ ((kK (n4 + 1) = 7 ∧ wz I6 J4 R9 (n4 + 1)) ∧ (PC7_init (n4 + 1) (n4 + 1) I6 J4 R9 (fun n5 I7 J5 R10 => (((0 : Int) ≤ 4 ∧ (4 : Int) < (kN (R9 l0 0) : Int)) ∧ wLet (up R10 (R9 l0 0) 4 (n4 + 1)) (fun R11 => (kK (R11 l0 0) = 24 ∧ ((kK (n5 + 1) = 7 ∧ wz I7 J5 R11 (n5 + 1)) ∧ (PC7_init (n5 + 1) (n5 + 1) I7 J5 R11 (fun n6 I8 J6 R12 => (((0 : Int) ≤ 5 ∧ (5 : Int) < (kN (R11 l0 0) : Int)) ∧ wLet (up R12 (R11 l0 0) 5 (n5 + 1)) (fun R13 => (kK (R13 l0 0) = 24 ∧ ((kK (n6 + 1) = 7 ∧ wz I8 J6 R13 (n6 + 1)) ∧ (PC7_init (n6 + 1) (n6 + 1) I8 J6 R13 (fun n7 I9 J7 R14 => (((0 : Int) ≤ 6 ∧ (6 : Int) < (kN (R13 l0 0) : Int)) ∧ wLet (up R14 (R13 l0 0) 6 (n6 + 1)) (fun R15 => (kK (R15 l0 0) = 24 ∧ ((kK (n7 + 1) = 7 ∧ wz I9 J7 R15 (n7 + 1)) ∧ (PC7_init (n7 + 1) (n7 + 1) I9 J7 R15 (fun n8 I10 J8 R16 => (((0 : Int) ≤ 7 ∧ (7 : Int) < (kN (R15 l0 0) : Int)) ∧ wLet (up R16 (R15 l0 0) 7 (n7 + 1)) (fun R17 => (kK (R17 l0 0) = 24 ∧ ((kK (n8 + 1) = 7 ∧ wz I10 J8 R17 (n8 + 1)) ∧ (PC7_init (n8 + 1) (n8 + 1) I10 J8 R17 (fun n9 I11 J9 R18 => (((0 : Int) ≤ 8 ∧ (8 : Int) < (kN (R17 l0 0) : Int)) ∧ wLet (up R18 (R17 l0 0) 8 (n8 + 1)) (fun R19 => (kK (R19 l0 0) = 24 ∧ ((kK (n9 + 1) = 7 ∧ wz I11 J9 R19 (n9 + 1)) ∧ (PC7_init (n9 + 1) (n9 + 1) I11 J9 R19 (fun n10 I12 J10 R20 => (((0 : Int) ≤ 9 ∧ (9 : Int) < (kN (R19 l0 0) : Int)) ∧ wLet (up R20 (R19 l0 0) 9 (n9 + 1)) (fun R21 => (kK (R21 l0 0) = 24 ∧ ((kK (n10 + 1) = 7 ∧ wz I12 J10 R21 (n10 + 1)) ∧ (PC7_init (n10 + 1) (n10 + 1) I12 J10 R21 (fun n11 I13 J11 R22 => (((0 : Int) ≤ 10 ∧ (10 : Int) < (kN (R21 l0 0) : Int)) ∧ wLet (up R22 (R21 l0 0) 10 (n10 + 1)) (fun R23 => (kK (R23 l0 0) = 24 ∧ ((kK (n11 + 1) = 7 ∧ wz I13 J11 R23 (n11 + 1)) ∧ (PC7_init (n11 + 1) (n11 + 1) I13 J11 R23 (fun n12 I14 J12 R24 => (((0 : Int) ≤ 11 ∧ (11 : Int) < (kN (R23 l0 0) : Int)) ∧ wLet (up R24 (R23 l0 0) 11 (n11 + 1)) (fun R25 => (kK (R25 l0 0) = 24 ∧ ((kK (n12 + 1) = 7 ∧ wz I14 J12 R25 (n12 + 1)) ∧ (PC7_init (n12 + 1) (n12 + 1) I14 J12 R25 (fun n13 I15 J13 R26 => (((0 : Int) ≤ 12 ∧ (12 : Int) < (kN (R25 l0 0) : Int)) ∧ wLet (up R26 (R25 l0 0) 12 (n12 + 1)) (fun R27 => (kK (R27 l0 0) = 24 ∧ ((kK (n13 + 1) = 7 ∧ wz I15 J13 R27 (n13 + 1)) ∧ (PC7_init (n13 + 1) (n13 + 1) I15 J13 R27 (fun n14 I16 J14 R28 => (((0 : Int) ≤ 13 ∧ (13 : Int) < (kN (R27 l0 0) : Int)) ∧ wLet (up R28 (R27 l0 0) 13 (n13 + 1)) (fun R29 => (kK (R29 l0 0) = 24 ∧ ((kK (n14 + 1) = 7 ∧ wz I16 J14 R29 (n14 + 1)) ∧ (PC7_init (n14 + 1) (n14 + 1) I16 J14 R29 (fun n15 I17 J15 R30 => (((0 : Int) ≤ 14 ∧ (14 : Int) < (kN (R29 l0 0) : Int)) ∧ wLet (up R30 (R29 l0 0) 14 (n14 + 1)) (fun R31 => (kK (R31 l0 0) = 24 ∧ ((kK (n15 + 1) = 7 ∧ wz I17 J15 R31 (n15 + 1)) ∧ (PC7_init (n15 + 1) (n15 + 1) I17 J15 R31 (fun n16 I18 J16 R32 => (((0 : Int) ≤ 15 ∧ (15 : Int) < (kN (R31 l0 0) : Int)) ∧ wLet (up R32 (R31 l0 0) 15 (n15 + 1)) (fun R33 => (kK (R33 l0 0) = 24 ∧ ((kK (n16 + 1) = 7 ∧ wz I18 J16 R33 (n16 + 1)) ∧ (PC7_init (n16 + 1) (n16 + 1) I18 J16 R33 (fun n17 I19 J17 R34 => (((0 : Int) ≤ 16 ∧ (16 : Int) < (kN (R33 l0 0) : Int)) ∧ wLet (up R34 (R33 l0 0) 16 (n16 + 1)) (fun R35 => (kK (R35 l0 0) = 24 ∧ ((kK (n17 + 1) = 7 ∧ wz I19 J17 R35 (n17 + 1)) ∧ (PC7_init (n17 + 1) (n17 + 1) I19 J17 R35 (fun n18 I20 J18 R36 => (((0 : Int) ≤ 17 ∧ (17 : Int) < (kN (R35 l0 0) : Int)) ∧ wLet (up R36 (R35 l0 0) 17 (n17 + 1)) (fun R37 => (kK (R37 l0 0) = 24 ∧ ((kK (n18 + 1) = 7 ∧ wz I20 J18 R37 (n18 + 1)) ∧ (PC7_init (n18 + 1) (n18 + 1) I20 J18 R37 (fun n19 I21 J19 R38 => (((0 : Int) ≤ 18 ∧ (18 : Int) < (kN (R37 l0 0) : Int)) ∧ wLet (up R38 (R37 l0 0) 18 (n18 + 1)) (fun R39 => (kK (R39 l0 0) = 24 ∧ ((kK (n19 + 1) = 7 ∧ wz I21 J19 R39 (n19 + 1)) ∧ (PC7_init (n19 + 1) (n19 + 1) I21 J19 R39 (fun n20 I22 J20 R40 => (((0 : Int) ≤ 19 ∧ (19 : Int) < (kN (R39 l0 0) : Int)) ∧ wLet (up R40 (R39 l0 0) 19 (n19 + 1)) (fun R41 => (Q n20 I22 J20 R41))))))))))))))))))))))))))))))))))))))))))))))))))))))))))))))))))))))))))))))))))))))))))))))))))))))))))))))))))))))))))))))))
set_option maxRecDepth 20000 in
theorem CC4_init {ad : Nat → Nat} {n : Nat} {I J : mI} {R : mR} {Q : wPc} {l0 : Nat} (hk0 : kK l0 = 4) (hw : PC4_init l0 n I J R Q) : wMetC yX4_init cX4_init 2 2 44 101 2920 ad n I J R [vr l0] Q := by
  refine wMetC_of (by decide) rfl (Nat.le_of_ble_eq_true rfl) (fun C hC hRm hE => ?_)
  refine (show WM C ad n I J R 0 0 0 [(0, vr l0)] [] from ?_)
  unfold PC4_init at hw
  have hag0 : wAg ad ad n := wAg_rf
  have hle0 : n ≤ n := Nat.le_refl n
  refine wm_aload_n hC 0 dX4_init_0 rfl (k_ne0 hk0 (by decide)) ?_
  refine x_objInit hC hRm (k_ne0 hk0 (by decide)) oi_X4_1 oi_inst oi_code (Nat.le_of_ble_eq_true rfl) (Nat.le_of_ble_eq_true rfl) dX4_init_1 ?_
  refine wm_aload_n hC 0 dX4_init_4 rfl (k_ne0 hk0 (by decide)) ?_
  refine wm_bipush hC dX4_init_5 (k := ?_)
  refine x_newq hC hRm (len := 20) an_X4_9 ao_State (by decide) 1 20 rfl rfl (Nat.le_of_ble_eq_true rfl) (Nat.le_of_ble_eq_true rfl) dX4_init_7 hw (fun ad1 had1 g1 hw => ?_)
  have hagad1 := wAg_tr hag0 had1 hle0
  have hlead1 := Nat.le_succ_of_le hle0
  refine x_putFR hC hE 0 fl_X4_11 rfl hk0 (fun q h => by cases h; rfl) (Or.inr ⟨_, rfl⟩) (k_lt g1 (by decide)) dX4_init_10 hw (fun R1 hw => ?_)
  refine wm_aload_n hC 0 dX4_init_13 rfl (k_ne0 hk0 (by decide)) ?_
  refine wm_iconst hC dX4_init_14 (k := ?_)
  refine x_putI hC 1 fl_X4_15 rfl hk0 dX4_init_15 hw (fun I1 hw => ?_)
  refine wm_aload_n hC 0 dX4_init_18 rfl (k_ne0 hk0 (by decide)) ?_
  refine wm_iconst hC dX4_init_19 (k := ?_)
  refine x_putI hC 2 fl_X4_19 rfl hk0 dX4_init_20 hw (fun I2 hw => ?_)
  refine wm_iconst hC dX4_init_23 (k := ?_)
  refine wm_istore_n hC dX4_init_24 (by decide) (L2 := [(1, vi 0), (0, vr l0)]) rfl ?_
  refine wm_iload_n hC 0 dX4_init_25 rfl ?_
  refine wm_bipush hC dX4_init_26 (k := ?_)
  refine xs_ge_f (tgt := 50) hC dX4_init_28 (by decide) (by decide) ?_
  refine wm_aload_n hC 1 dX4_init_31 rfl (k_ne0 hk0 (by decide)) ?_
  refine x_getR2 hC 0 fl_X4_11 rfl hk0 dX4_init_32 hw (fun g2 hw => ?_)
  refine wm_iload_n hC 0 dX4_init_35 rfl ?_
  refine x_new hC hRm nl_X4_9 2 27 rfl rfl (Nat.le_of_ble_eq_true rfl) (Nat.le_of_ble_eq_true rfl) dX4_init_36 hw (fun ad2 had2 g3 hw => ?_)
  have hagad2 := wAg_tr hagad1 had2 hlead1
  have hlead2 := Nat.le_succ_of_le hlead1
  refine wm_dup hC dX4_init_39 (k := ?_)
  refine x_callN hC hRm (CC7_init g3 hw) cn_X4_22 (k_ne0 g3 (by decide)) (Nat.le_of_ble_eq_true rfl) (Nat.le_of_ble_eq_true rfl) 6 165 rfl rfl ⟨(Nat.le_of_ble_eq_true rfl), (Nat.le_of_ble_eq_true rfl)⟩ rfl (st := [vr ((n + 1) + 1), vi 0, vr (R1 l0 0)]) rfl (Nat.le_of_ble_eq_true rfl) dX4_init_40 (fun ad3 n1 I3 J1 R2 had3 lad3 hw => ?_)
  have hagad3 := wAg_tr hagad2 had3 hlead2
  have hlead3 := Nat.le_trans hlead2 lad3
  refine x_aast hC g2 g3 dX4_init_43 hw (fun R3 hw => ?_)
  refine x_iinc hC 0 dX4_init_44 rfl (by decide) (L2 := [(1, vi 1), (0, vr l0)]) rfl ⟨by omega, hw⟩ (fun hw => ?_)
  refine wm_goto (tgt := 25) hC dX4_init_47 (by decide) ?_
  refine wm_iload_n hC 0 dX4_init_25 rfl ?_
  refine wm_bipush hC dX4_init_26 (k := ?_)
  refine xs_ge_f (tgt := 50) hC dX4_init_28 (by decide) (by decide) ?_
  refine wm_aload_n hC 1 dX4_init_31 rfl (k_ne0 hk0 (by decide)) ?_
  refine x_getR2 hC 0 fl_X4_11 rfl hk0 dX4_init_32 hw (fun g4 hw => ?_)
  refine wm_iload_n hC 0 dX4_init_35 rfl ?_
  refine x_new hC hRm nl_X4_9 7 172 rfl rfl (Nat.le_of_ble_eq_true rfl) (Nat.le_of_ble_eq_true rfl) dX4_init_36 hw (fun ad4 had4 g5 hw => ?_)
  have hagad4 := wAg_tr hagad3 had4 hlead3
  have hlead4 := Nat.le_succ_of_le hlead3
  refine wm_dup hC dX4_init_39 (k := ?_)
  refine x_callN hC hRm (CC7_init g5 hw) cn_X4_22 (k_ne0 g5 (by decide)) (Nat.le_of_ble_eq_true rfl) (Nat.le_of_ble_eq_true rfl) 11 310 rfl rfl ⟨(Nat.le_of_ble_eq_true rfl), (Nat.le_of_ble_eq_true rfl)⟩ rfl (st := [vr (n1 + 1), vi 1, vr (R3 l0 0)]) rfl (Nat.le_of_ble_eq_true rfl) dX4_init_40 (fun ad5 n2 I4 J2 R4 had5 lad5 hw => ?_)
  have hagad5 := wAg_tr hagad4 had5 hlead4
  have hlead5 := Nat.le_trans hlead4 lad5
  refine x_aast hC g4 g5 dX4_init_43 hw (fun R5 hw => ?_)
  refine x_iinc hC 0 dX4_init_44 rfl (by decide) (L2 := [(1, vi 2), (0, vr l0)]) rfl ⟨by omega, hw⟩ (fun hw => ?_)
  refine wm_goto (tgt := 25) hC dX4_init_47 (by decide) ?_
  refine wm_iload_n hC 0 dX4_init_25 rfl ?_
  refine wm_bipush hC dX4_init_26 (k := ?_)
  refine xs_ge_f (tgt := 50) hC dX4_init_28 (by decide) (by decide) ?_
  refine wm_aload_n hC 1 dX4_init_31 rfl (k_ne0 hk0 (by decide)) ?_
  refine x_getR2 hC 0 fl_X4_11 rfl hk0 dX4_init_32 hw (fun g6 hw => ?_)
  refine wm_iload_n hC 0 dX4_init_35 rfl ?_
  refine x_new hC hRm nl_X4_9 12 317 rfl rfl (Nat.le_of_ble_eq_true rfl) (Nat.le_of_ble_eq_true rfl) dX4_init_36 hw (fun ad6 had6 g7 hw => ?_)
  have hagad6 := wAg_tr hagad5 had6 hlead5
  have hlead6 := Nat.le_succ_of_le hlead5
  refine wm_dup hC dX4_init_39 (k := ?_)
  refine x_callN hC hRm (CC7_init g7 hw) cn_X4_22 (k_ne0 g7 (by decide)) (Nat.le_of_ble_eq_true rfl) (Nat.le_of_ble_eq_true rfl) 16 455 rfl rfl ⟨(Nat.le_of_ble_eq_true rfl), (Nat.le_of_ble_eq_true rfl)⟩ rfl (st := [vr (n2 + 1), vi 2, vr (R5 l0 0)]) rfl (Nat.le_of_ble_eq_true rfl) dX4_init_40 (fun ad7 n3 I5 J3 R6 had7 lad7 hw => ?_)
  have hagad7 := wAg_tr hagad6 had7 hlead6
  have hlead7 := Nat.le_trans hlead6 lad7
  refine x_aast hC g6 g7 dX4_init_43 hw (fun R7 hw => ?_)
  refine x_iinc hC 0 dX4_init_44 rfl (by decide) (L2 := [(1, vi 3), (0, vr l0)]) rfl ⟨by omega, hw⟩ (fun hw => ?_)
  refine wm_goto (tgt := 25) hC dX4_init_47 (by decide) ?_
  refine wm_iload_n hC 0 dX4_init_25 rfl ?_
  refine wm_bipush hC dX4_init_26 (k := ?_)
  refine xs_ge_f (tgt := 50) hC dX4_init_28 (by decide) (by decide) ?_
  refine wm_aload_n hC 1 dX4_init_31 rfl (k_ne0 hk0 (by decide)) ?_
  refine x_getR2 hC 0 fl_X4_11 rfl hk0 dX4_init_32 hw (fun g8 hw => ?_)
  refine wm_iload_n hC 0 dX4_init_35 rfl ?_
  refine x_new hC hRm nl_X4_9 17 462 rfl rfl (Nat.le_of_ble_eq_true rfl) (Nat.le_of_ble_eq_true rfl) dX4_init_36 hw (fun ad8 had8 g9 hw => ?_)
  have hagad8 := wAg_tr hagad7 had8 hlead7
  have hlead8 := Nat.le_succ_of_le hlead7
  refine wm_dup hC dX4_init_39 (k := ?_)
  refine x_callN hC hRm (CC7_init g9 hw) cn_X4_22 (k_ne0 g9 (by decide)) (Nat.le_of_ble_eq_true rfl) (Nat.le_of_ble_eq_true rfl) 21 600 rfl rfl ⟨(Nat.le_of_ble_eq_true rfl), (Nat.le_of_ble_eq_true rfl)⟩ rfl (st := [vr (n3 + 1), vi 3, vr (R7 l0 0)]) rfl (Nat.le_of_ble_eq_true rfl) dX4_init_40 (fun ad9 n4 I6 J4 R8 had9 lad9 hw => ?_)
  have hagad9 := wAg_tr hagad8 had9 hlead8
  have hlead9 := Nat.le_trans hlead8 lad9
  refine x_aast hC g8 g9 dX4_init_43 hw (fun R9 hw => ?_)
  refine x_iinc hC 0 dX4_init_44 rfl (by decide) (L2 := [(1, vi 4), (0, vr l0)]) rfl ⟨by omega, hw⟩ (fun hw => ?_)
  refine wm_goto (tgt := 25) hC dX4_init_47 (by decide) ?_
  refine wm_iload_n hC 0 dX4_init_25 rfl ?_
  refine wm_bipush hC dX4_init_26 (k := ?_)
  refine xs_ge_f (tgt := 50) hC dX4_init_28 (by decide) (by decide) ?_
  refine wm_aload_n hC 1 dX4_init_31 rfl (k_ne0 hk0 (by decide)) ?_
  refine x_getR2 hC 0 fl_X4_11 rfl hk0 dX4_init_32 hw (fun g10 hw => ?_)
  refine wm_iload_n hC 0 dX4_init_35 rfl ?_
  refine x_new hC hRm nl_X4_9 22 607 rfl rfl (Nat.le_of_ble_eq_true rfl) (Nat.le_of_ble_eq_true rfl) dX4_init_36 hw (fun ad10 had10 g11 hw => ?_)
  have hagad10 := wAg_tr hagad9 had10 hlead9
  have hlead10 := Nat.le_succ_of_le hlead9
  refine wm_dup hC dX4_init_39 (k := ?_)
  refine x_callN hC hRm (CC7_init g11 hw) cn_X4_22 (k_ne0 g11 (by decide)) (Nat.le_of_ble_eq_true rfl) (Nat.le_of_ble_eq_true rfl) 26 745 rfl rfl ⟨(Nat.le_of_ble_eq_true rfl), (Nat.le_of_ble_eq_true rfl)⟩ rfl (st := [vr (n4 + 1), vi 4, vr (R9 l0 0)]) rfl (Nat.le_of_ble_eq_true rfl) dX4_init_40 (fun ad11 n5 I7 J5 R10 had11 lad11 hw => ?_)
  have hagad11 := wAg_tr hagad10 had11 hlead10
  have hlead11 := Nat.le_trans hlead10 lad11
  refine x_aast hC g10 g11 dX4_init_43 hw (fun R11 hw => ?_)
  refine x_iinc hC 0 dX4_init_44 rfl (by decide) (L2 := [(1, vi 5), (0, vr l0)]) rfl ⟨by omega, hw⟩ (fun hw => ?_)
  refine wm_goto (tgt := 25) hC dX4_init_47 (by decide) ?_
  refine wm_iload_n hC 0 dX4_init_25 rfl ?_
  refine wm_bipush hC dX4_init_26 (k := ?_)
  refine xs_ge_f (tgt := 50) hC dX4_init_28 (by decide) (by decide) ?_
  refine wm_aload_n hC 1 dX4_init_31 rfl (k_ne0 hk0 (by decide)) ?_
  refine x_getR2 hC 0 fl_X4_11 rfl hk0 dX4_init_32 hw (fun g12 hw => ?_)
  refine wm_iload_n hC 0 dX4_init_35 rfl ?_
  refine x_new hC hRm nl_X4_9 27 752 rfl rfl (Nat.le_of_ble_eq_true rfl) (Nat.le_of_ble_eq_true rfl) dX4_init_36 hw (fun ad12 had12 g13 hw => ?_)
  have hagad12 := wAg_tr hagad11 had12 hlead11
  have hlead12 := Nat.le_succ_of_le hlead11
  refine wm_dup hC dX4_init_39 (k := ?_)
  refine x_callN hC hRm (CC7_init g13 hw) cn_X4_22 (k_ne0 g13 (by decide)) (Nat.le_of_ble_eq_true rfl) (Nat.le_of_ble_eq_true rfl) 31 890 rfl rfl ⟨(Nat.le_of_ble_eq_true rfl), (Nat.le_of_ble_eq_true rfl)⟩ rfl (st := [vr (n5 + 1), vi 5, vr (R11 l0 0)]) rfl (Nat.le_of_ble_eq_true rfl) dX4_init_40 (fun ad13 n6 I8 J6 R12 had13 lad13 hw => ?_)
  have hagad13 := wAg_tr hagad12 had13 hlead12
  have hlead13 := Nat.le_trans hlead12 lad13
  refine x_aast hC g12 g13 dX4_init_43 hw (fun R13 hw => ?_)
  refine x_iinc hC 0 dX4_init_44 rfl (by decide) (L2 := [(1, vi 6), (0, vr l0)]) rfl ⟨by omega, hw⟩ (fun hw => ?_)
  refine wm_goto (tgt := 25) hC dX4_init_47 (by decide) ?_
  refine wm_iload_n hC 0 dX4_init_25 rfl ?_
  refine wm_bipush hC dX4_init_26 (k := ?_)
  refine xs_ge_f (tgt := 50) hC dX4_init_28 (by decide) (by decide) ?_
  refine wm_aload_n hC 1 dX4_init_31 rfl (k_ne0 hk0 (by decide)) ?_
  refine x_getR2 hC 0 fl_X4_11 rfl hk0 dX4_init_32 hw (fun g14 hw => ?_)
  refine wm_iload_n hC 0 dX4_init_35 rfl ?_
  refine x_new hC hRm nl_X4_9 32 897 rfl rfl (Nat.le_of_ble_eq_true rfl) (Nat.le_of_ble_eq_true rfl) dX4_init_36 hw (fun ad14 had14 g15 hw => ?_)
  have hagad14 := wAg_tr hagad13 had14 hlead13
  have hlead14 := Nat.le_succ_of_le hlead13
  refine wm_dup hC dX4_init_39 (k := ?_)
  refine x_callN hC hRm (CC7_init g15 hw) cn_X4_22 (k_ne0 g15 (by decide)) (Nat.le_of_ble_eq_true rfl) (Nat.le_of_ble_eq_true rfl) 36 1035 rfl rfl ⟨(Nat.le_of_ble_eq_true rfl), (Nat.le_of_ble_eq_true rfl)⟩ rfl (st := [vr (n6 + 1), vi 6, vr (R13 l0 0)]) rfl (Nat.le_of_ble_eq_true rfl) dX4_init_40 (fun ad15 n7 I9 J7 R14 had15 lad15 hw => ?_)
  have hagad15 := wAg_tr hagad14 had15 hlead14
  have hlead15 := Nat.le_trans hlead14 lad15
  refine x_aast hC g14 g15 dX4_init_43 hw (fun R15 hw => ?_)
  refine x_iinc hC 0 dX4_init_44 rfl (by decide) (L2 := [(1, vi 7), (0, vr l0)]) rfl ⟨by omega, hw⟩ (fun hw => ?_)
  refine wm_goto (tgt := 25) hC dX4_init_47 (by decide) ?_
  refine wm_iload_n hC 0 dX4_init_25 rfl ?_
  refine wm_bipush hC dX4_init_26 (k := ?_)
  refine xs_ge_f (tgt := 50) hC dX4_init_28 (by decide) (by decide) ?_
  refine wm_aload_n hC 1 dX4_init_31 rfl (k_ne0 hk0 (by decide)) ?_
  refine x_getR2 hC 0 fl_X4_11 rfl hk0 dX4_init_32 hw (fun g16 hw => ?_)
  refine wm_iload_n hC 0 dX4_init_35 rfl ?_
  refine x_new hC hRm nl_X4_9 37 1042 rfl rfl (Nat.le_of_ble_eq_true rfl) (Nat.le_of_ble_eq_true rfl) dX4_init_36 hw (fun ad16 had16 g17 hw => ?_)
  have hagad16 := wAg_tr hagad15 had16 hlead15
  have hlead16 := Nat.le_succ_of_le hlead15
  refine wm_dup hC dX4_init_39 (k := ?_)
  refine x_callN hC hRm (CC7_init g17 hw) cn_X4_22 (k_ne0 g17 (by decide)) (Nat.le_of_ble_eq_true rfl) (Nat.le_of_ble_eq_true rfl) 41 1180 rfl rfl ⟨(Nat.le_of_ble_eq_true rfl), (Nat.le_of_ble_eq_true rfl)⟩ rfl (st := [vr (n7 + 1), vi 7, vr (R15 l0 0)]) rfl (Nat.le_of_ble_eq_true rfl) dX4_init_40 (fun ad17 n8 I10 J8 R16 had17 lad17 hw => ?_)
  have hagad17 := wAg_tr hagad16 had17 hlead16
  have hlead17 := Nat.le_trans hlead16 lad17
  refine x_aast hC g16 g17 dX4_init_43 hw (fun R17 hw => ?_)
  refine x_iinc hC 0 dX4_init_44 rfl (by decide) (L2 := [(1, vi 8), (0, vr l0)]) rfl ⟨by omega, hw⟩ (fun hw => ?_)
  refine wm_goto (tgt := 25) hC dX4_init_47 (by decide) ?_
  refine wm_iload_n hC 0 dX4_init_25 rfl ?_
  refine wm_bipush hC dX4_init_26 (k := ?_)
  refine xs_ge_f (tgt := 50) hC dX4_init_28 (by decide) (by decide) ?_
  refine wm_aload_n hC 1 dX4_init_31 rfl (k_ne0 hk0 (by decide)) ?_
  refine x_getR2 hC 0 fl_X4_11 rfl hk0 dX4_init_32 hw (fun g18 hw => ?_)
  refine wm_iload_n hC 0 dX4_init_35 rfl ?_
  refine x_new hC hRm nl_X4_9 42 1187 rfl rfl (Nat.le_of_ble_eq_true rfl) (Nat.le_of_ble_eq_true rfl) dX4_init_36 hw (fun ad18 had18 g19 hw => ?_)
  have hagad18 := wAg_tr hagad17 had18 hlead17
  have hlead18 := Nat.le_succ_of_le hlead17
  refine wm_dup hC dX4_init_39 (k := ?_)
  refine x_callN hC hRm (CC7_init g19 hw) cn_X4_22 (k_ne0 g19 (by decide)) (Nat.le_of_ble_eq_true rfl) (Nat.le_of_ble_eq_true rfl) 46 1325 rfl rfl ⟨(Nat.le_of_ble_eq_true rfl), (Nat.le_of_ble_eq_true rfl)⟩ rfl (st := [vr (n8 + 1), vi 8, vr (R17 l0 0)]) rfl (Nat.le_of_ble_eq_true rfl) dX4_init_40 (fun ad19 n9 I11 J9 R18 had19 lad19 hw => ?_)
  have hagad19 := wAg_tr hagad18 had19 hlead18
  have hlead19 := Nat.le_trans hlead18 lad19
  refine x_aast hC g18 g19 dX4_init_43 hw (fun R19 hw => ?_)
  refine x_iinc hC 0 dX4_init_44 rfl (by decide) (L2 := [(1, vi 9), (0, vr l0)]) rfl ⟨by omega, hw⟩ (fun hw => ?_)
  refine wm_goto (tgt := 25) hC dX4_init_47 (by decide) ?_
  refine wm_iload_n hC 0 dX4_init_25 rfl ?_
  refine wm_bipush hC dX4_init_26 (k := ?_)
  refine xs_ge_f (tgt := 50) hC dX4_init_28 (by decide) (by decide) ?_
  refine wm_aload_n hC 1 dX4_init_31 rfl (k_ne0 hk0 (by decide)) ?_
  refine x_getR2 hC 0 fl_X4_11 rfl hk0 dX4_init_32 hw (fun g20 hw => ?_)
  refine wm_iload_n hC 0 dX4_init_35 rfl ?_
  refine x_new hC hRm nl_X4_9 47 1332 rfl rfl (Nat.le_of_ble_eq_true rfl) (Nat.le_of_ble_eq_true rfl) dX4_init_36 hw (fun ad20 had20 g21 hw => ?_)
  have hagad20 := wAg_tr hagad19 had20 hlead19
  have hlead20 := Nat.le_succ_of_le hlead19
  refine wm_dup hC dX4_init_39 (k := ?_)
  refine x_callN hC hRm (CC7_init g21 hw) cn_X4_22 (k_ne0 g21 (by decide)) (Nat.le_of_ble_eq_true rfl) (Nat.le_of_ble_eq_true rfl) 51 1470 rfl rfl ⟨(Nat.le_of_ble_eq_true rfl), (Nat.le_of_ble_eq_true rfl)⟩ rfl (st := [vr (n9 + 1), vi 9, vr (R19 l0 0)]) rfl (Nat.le_of_ble_eq_true rfl) dX4_init_40 (fun ad21 n10 I12 J10 R20 had21 lad21 hw => ?_)
  have hagad21 := wAg_tr hagad20 had21 hlead20
  have hlead21 := Nat.le_trans hlead20 lad21
  refine x_aast hC g20 g21 dX4_init_43 hw (fun R21 hw => ?_)
  refine x_iinc hC 0 dX4_init_44 rfl (by decide) (L2 := [(1, vi 10), (0, vr l0)]) rfl ⟨by omega, hw⟩ (fun hw => ?_)
  refine wm_goto (tgt := 25) hC dX4_init_47 (by decide) ?_
  refine wm_iload_n hC 0 dX4_init_25 rfl ?_
  refine wm_bipush hC dX4_init_26 (k := ?_)
  refine xs_ge_f (tgt := 50) hC dX4_init_28 (by decide) (by decide) ?_
  refine wm_aload_n hC 1 dX4_init_31 rfl (k_ne0 hk0 (by decide)) ?_
  refine x_getR2 hC 0 fl_X4_11 rfl hk0 dX4_init_32 hw (fun g22 hw => ?_)
  refine wm_iload_n hC 0 dX4_init_35 rfl ?_
  refine x_new hC hRm nl_X4_9 52 1477 rfl rfl (Nat.le_of_ble_eq_true rfl) (Nat.le_of_ble_eq_true rfl) dX4_init_36 hw (fun ad22 had22 g23 hw => ?_)
  have hagad22 := wAg_tr hagad21 had22 hlead21
  have hlead22 := Nat.le_succ_of_le hlead21
  refine wm_dup hC dX4_init_39 (k := ?_)
  refine x_callN hC hRm (CC7_init g23 hw) cn_X4_22 (k_ne0 g23 (by decide)) (Nat.le_of_ble_eq_true rfl) (Nat.le_of_ble_eq_true rfl) 56 1615 rfl rfl ⟨(Nat.le_of_ble_eq_true rfl), (Nat.le_of_ble_eq_true rfl)⟩ rfl (st := [vr (n10 + 1), vi 10, vr (R21 l0 0)]) rfl (Nat.le_of_ble_eq_true rfl) dX4_init_40 (fun ad23 n11 I13 J11 R22 had23 lad23 hw => ?_)
  have hagad23 := wAg_tr hagad22 had23 hlead22
  have hlead23 := Nat.le_trans hlead22 lad23
  refine x_aast hC g22 g23 dX4_init_43 hw (fun R23 hw => ?_)
  refine x_iinc hC 0 dX4_init_44 rfl (by decide) (L2 := [(1, vi 11), (0, vr l0)]) rfl ⟨by omega, hw⟩ (fun hw => ?_)
  refine wm_goto (tgt := 25) hC dX4_init_47 (by decide) ?_
  refine wm_iload_n hC 0 dX4_init_25 rfl ?_
  refine wm_bipush hC dX4_init_26 (k := ?_)
  refine xs_ge_f (tgt := 50) hC dX4_init_28 (by decide) (by decide) ?_
  refine wm_aload_n hC 1 dX4_init_31 rfl (k_ne0 hk0 (by decide)) ?_
  refine x_getR2 hC 0 fl_X4_11 rfl hk0 dX4_init_32 hw (fun g24 hw => ?_)
  refine wm_iload_n hC 0 dX4_init_35 rfl ?_
  refine x_new hC hRm nl_X4_9 57 1622 rfl rfl (Nat.le_of_ble_eq_true rfl) (Nat.le_of_ble_eq_true rfl) dX4_init_36 hw (fun ad24 had24 g25 hw => ?_)
  have hagad24 := wAg_tr hagad23 had24 hlead23
  have hlead24 := Nat.le_succ_of_le hlead23
  refine wm_dup hC dX4_init_39 (k := ?_)
  refine x_callN hC hRm (CC7_init g25 hw) cn_X4_22 (k_ne0 g25 (by decide)) (Nat.le_of_ble_eq_true rfl) (Nat.le_of_ble_eq_true rfl) 61 1760 rfl rfl ⟨(Nat.le_of_ble_eq_true rfl), (Nat.le_of_ble_eq_true rfl)⟩ rfl (st := [vr (n11 + 1), vi 11, vr (R23 l0 0)]) rfl (Nat.le_of_ble_eq_true rfl) dX4_init_40 (fun ad25 n12 I14 J12 R24 had25 lad25 hw => ?_)
  have hagad25 := wAg_tr hagad24 had25 hlead24
  have hlead25 := Nat.le_trans hlead24 lad25
  refine x_aast hC g24 g25 dX4_init_43 hw (fun R25 hw => ?_)
  refine x_iinc hC 0 dX4_init_44 rfl (by decide) (L2 := [(1, vi 12), (0, vr l0)]) rfl ⟨by omega, hw⟩ (fun hw => ?_)
  refine wm_goto (tgt := 25) hC dX4_init_47 (by decide) ?_
  refine wm_iload_n hC 0 dX4_init_25 rfl ?_
  refine wm_bipush hC dX4_init_26 (k := ?_)
  refine xs_ge_f (tgt := 50) hC dX4_init_28 (by decide) (by decide) ?_
  refine wm_aload_n hC 1 dX4_init_31 rfl (k_ne0 hk0 (by decide)) ?_
  refine x_getR2 hC 0 fl_X4_11 rfl hk0 dX4_init_32 hw (fun g26 hw => ?_)
  refine wm_iload_n hC 0 dX4_init_35 rfl ?_
  refine x_new hC hRm nl_X4_9 62 1767 rfl rfl (Nat.le_of_ble_eq_true rfl) (Nat.le_of_ble_eq_true rfl) dX4_init_36 hw (fun ad26 had26 g27 hw => ?_)
  have hagad26 := wAg_tr hagad25 had26 hlead25
  have hlead26 := Nat.le_succ_of_le hlead25
  refine wm_dup hC dX4_init_39 (k := ?_)
  refine x_callN hC hRm (CC7_init g27 hw) cn_X4_22 (k_ne0 g27 (by decide)) (Nat.le_of_ble_eq_true rfl) (Nat.le_of_ble_eq_true rfl) 66 1905 rfl rfl ⟨(Nat.le_of_ble_eq_true rfl), (Nat.le_of_ble_eq_true rfl)⟩ rfl (st := [vr (n12 + 1), vi 12, vr (R25 l0 0)]) rfl (Nat.le_of_ble_eq_true rfl) dX4_init_40 (fun ad27 n13 I15 J13 R26 had27 lad27 hw => ?_)
  have hagad27 := wAg_tr hagad26 had27 hlead26
  have hlead27 := Nat.le_trans hlead26 lad27
  refine x_aast hC g26 g27 dX4_init_43 hw (fun R27 hw => ?_)
  refine x_iinc hC 0 dX4_init_44 rfl (by decide) (L2 := [(1, vi 13), (0, vr l0)]) rfl ⟨by omega, hw⟩ (fun hw => ?_)
  refine wm_goto (tgt := 25) hC dX4_init_47 (by decide) ?_
  refine wm_iload_n hC 0 dX4_init_25 rfl ?_
  refine wm_bipush hC dX4_init_26 (k := ?_)
  refine xs_ge_f (tgt := 50) hC dX4_init_28 (by decide) (by decide) ?_
  refine wm_aload_n hC 1 dX4_init_31 rfl (k_ne0 hk0 (by decide)) ?_
  refine x_getR2 hC 0 fl_X4_11 rfl hk0 dX4_init_32 hw (fun g28 hw => ?_)
  refine wm_iload_n hC 0 dX4_init_35 rfl ?_
  refine x_new hC hRm nl_X4_9 67 1912 rfl rfl (Nat.le_of_ble_eq_true rfl) (Nat.le_of_ble_eq_true rfl) dX4_init_36 hw (fun ad28 had28 g29 hw => ?_)
  have hagad28 := wAg_tr hagad27 had28 hlead27
  have hlead28 := Nat.le_succ_of_le hlead27
  refine wm_dup hC dX4_init_39 (k := ?_)
  refine x_callN hC hRm (CC7_init g29 hw) cn_X4_22 (k_ne0 g29 (by decide)) (Nat.le_of_ble_eq_true rfl) (Nat.le_of_ble_eq_true rfl) 71 2050 rfl rfl ⟨(Nat.le_of_ble_eq_true rfl), (Nat.le_of_ble_eq_true rfl)⟩ rfl (st := [vr (n13 + 1), vi 13, vr (R27 l0 0)]) rfl (Nat.le_of_ble_eq_true rfl) dX4_init_40 (fun ad29 n14 I16 J14 R28 had29 lad29 hw => ?_)
  have hagad29 := wAg_tr hagad28 had29 hlead28
  have hlead29 := Nat.le_trans hlead28 lad29
  refine x_aast hC g28 g29 dX4_init_43 hw (fun R29 hw => ?_)
  refine x_iinc hC 0 dX4_init_44 rfl (by decide) (L2 := [(1, vi 14), (0, vr l0)]) rfl ⟨by omega, hw⟩ (fun hw => ?_)
  refine wm_goto (tgt := 25) hC dX4_init_47 (by decide) ?_
  refine wm_iload_n hC 0 dX4_init_25 rfl ?_
  refine wm_bipush hC dX4_init_26 (k := ?_)
  refine xs_ge_f (tgt := 50) hC dX4_init_28 (by decide) (by decide) ?_
  refine wm_aload_n hC 1 dX4_init_31 rfl (k_ne0 hk0 (by decide)) ?_
  refine x_getR2 hC 0 fl_X4_11 rfl hk0 dX4_init_32 hw (fun g30 hw => ?_)
  refine wm_iload_n hC 0 dX4_init_35 rfl ?_
  refine x_new hC hRm nl_X4_9 72 2057 rfl rfl (Nat.le_of_ble_eq_true rfl) (Nat.le_of_ble_eq_true rfl) dX4_init_36 hw (fun ad30 had30 g31 hw => ?_)
  have hagad30 := wAg_tr hagad29 had30 hlead29
  have hlead30 := Nat.le_succ_of_le hlead29
  refine wm_dup hC dX4_init_39 (k := ?_)
  refine x_callN hC hRm (CC7_init g31 hw) cn_X4_22 (k_ne0 g31 (by decide)) (Nat.le_of_ble_eq_true rfl) (Nat.le_of_ble_eq_true rfl) 76 2195 rfl rfl ⟨(Nat.le_of_ble_eq_true rfl), (Nat.le_of_ble_eq_true rfl)⟩ rfl (st := [vr (n14 + 1), vi 14, vr (R29 l0 0)]) rfl (Nat.le_of_ble_eq_true rfl) dX4_init_40 (fun ad31 n15 I17 J15 R30 had31 lad31 hw => ?_)
  have hagad31 := wAg_tr hagad30 had31 hlead30
  have hlead31 := Nat.le_trans hlead30 lad31
  refine x_aast hC g30 g31 dX4_init_43 hw (fun R31 hw => ?_)
  refine x_iinc hC 0 dX4_init_44 rfl (by decide) (L2 := [(1, vi 15), (0, vr l0)]) rfl ⟨by omega, hw⟩ (fun hw => ?_)
  refine wm_goto (tgt := 25) hC dX4_init_47 (by decide) ?_
  refine wm_iload_n hC 0 dX4_init_25 rfl ?_
  refine wm_bipush hC dX4_init_26 (k := ?_)
  refine xs_ge_f (tgt := 50) hC dX4_init_28 (by decide) (by decide) ?_
  refine wm_aload_n hC 1 dX4_init_31 rfl (k_ne0 hk0 (by decide)) ?_
  refine x_getR2 hC 0 fl_X4_11 rfl hk0 dX4_init_32 hw (fun g32 hw => ?_)
  refine wm_iload_n hC 0 dX4_init_35 rfl ?_
  refine x_new hC hRm nl_X4_9 77 2202 rfl rfl (Nat.le_of_ble_eq_true rfl) (Nat.le_of_ble_eq_true rfl) dX4_init_36 hw (fun ad32 had32 g33 hw => ?_)
  have hagad32 := wAg_tr hagad31 had32 hlead31
  have hlead32 := Nat.le_succ_of_le hlead31
  refine wm_dup hC dX4_init_39 (k := ?_)
  refine x_callN hC hRm (CC7_init g33 hw) cn_X4_22 (k_ne0 g33 (by decide)) (Nat.le_of_ble_eq_true rfl) (Nat.le_of_ble_eq_true rfl) 81 2340 rfl rfl ⟨(Nat.le_of_ble_eq_true rfl), (Nat.le_of_ble_eq_true rfl)⟩ rfl (st := [vr (n15 + 1), vi 15, vr (R31 l0 0)]) rfl (Nat.le_of_ble_eq_true rfl) dX4_init_40 (fun ad33 n16 I18 J16 R32 had33 lad33 hw => ?_)
  have hagad33 := wAg_tr hagad32 had33 hlead32
  have hlead33 := Nat.le_trans hlead32 lad33
  refine x_aast hC g32 g33 dX4_init_43 hw (fun R33 hw => ?_)
  refine x_iinc hC 0 dX4_init_44 rfl (by decide) (L2 := [(1, vi 16), (0, vr l0)]) rfl ⟨by omega, hw⟩ (fun hw => ?_)
  refine wm_goto (tgt := 25) hC dX4_init_47 (by decide) ?_
  refine wm_iload_n hC 0 dX4_init_25 rfl ?_
  refine wm_bipush hC dX4_init_26 (k := ?_)
  refine xs_ge_f (tgt := 50) hC dX4_init_28 (by decide) (by decide) ?_
  refine wm_aload_n hC 1 dX4_init_31 rfl (k_ne0 hk0 (by decide)) ?_
  refine x_getR2 hC 0 fl_X4_11 rfl hk0 dX4_init_32 hw (fun g34 hw => ?_)
  refine wm_iload_n hC 0 dX4_init_35 rfl ?_
  refine x_new hC hRm nl_X4_9 82 2347 rfl rfl (Nat.le_of_ble_eq_true rfl) (Nat.le_of_ble_eq_true rfl) dX4_init_36 hw (fun ad34 had34 g35 hw => ?_)
  have hagad34 := wAg_tr hagad33 had34 hlead33
  have hlead34 := Nat.le_succ_of_le hlead33
  refine wm_dup hC dX4_init_39 (k := ?_)
  refine x_callN hC hRm (CC7_init g35 hw) cn_X4_22 (k_ne0 g35 (by decide)) (Nat.le_of_ble_eq_true rfl) (Nat.le_of_ble_eq_true rfl) 86 2485 rfl rfl ⟨(Nat.le_of_ble_eq_true rfl), (Nat.le_of_ble_eq_true rfl)⟩ rfl (st := [vr (n16 + 1), vi 16, vr (R33 l0 0)]) rfl (Nat.le_of_ble_eq_true rfl) dX4_init_40 (fun ad35 n17 I19 J17 R34 had35 lad35 hw => ?_)
  have hagad35 := wAg_tr hagad34 had35 hlead34
  have hlead35 := Nat.le_trans hlead34 lad35
  refine x_aast hC g34 g35 dX4_init_43 hw (fun R35 hw => ?_)
  refine x_iinc hC 0 dX4_init_44 rfl (by decide) (L2 := [(1, vi 17), (0, vr l0)]) rfl ⟨by omega, hw⟩ (fun hw => ?_)
  refine wm_goto (tgt := 25) hC dX4_init_47 (by decide) ?_
  refine wm_iload_n hC 0 dX4_init_25 rfl ?_
  refine wm_bipush hC dX4_init_26 (k := ?_)
  refine xs_ge_f (tgt := 50) hC dX4_init_28 (by decide) (by decide) ?_
  refine wm_aload_n hC 1 dX4_init_31 rfl (k_ne0 hk0 (by decide)) ?_
  refine x_getR2 hC 0 fl_X4_11 rfl hk0 dX4_init_32 hw (fun g36 hw => ?_)
  refine wm_iload_n hC 0 dX4_init_35 rfl ?_
  refine x_new hC hRm nl_X4_9 87 2492 rfl rfl (Nat.le_of_ble_eq_true rfl) (Nat.le_of_ble_eq_true rfl) dX4_init_36 hw (fun ad36 had36 g37 hw => ?_)
  have hagad36 := wAg_tr hagad35 had36 hlead35
  have hlead36 := Nat.le_succ_of_le hlead35
  refine wm_dup hC dX4_init_39 (k := ?_)
  refine x_callN hC hRm (CC7_init g37 hw) cn_X4_22 (k_ne0 g37 (by decide)) (Nat.le_of_ble_eq_true rfl) (Nat.le_of_ble_eq_true rfl) 91 2630 rfl rfl ⟨(Nat.le_of_ble_eq_true rfl), (Nat.le_of_ble_eq_true rfl)⟩ rfl (st := [vr (n17 + 1), vi 17, vr (R35 l0 0)]) rfl (Nat.le_of_ble_eq_true rfl) dX4_init_40 (fun ad37 n18 I20 J18 R36 had37 lad37 hw => ?_)
  have hagad37 := wAg_tr hagad36 had37 hlead36
  have hlead37 := Nat.le_trans hlead36 lad37
  refine x_aast hC g36 g37 dX4_init_43 hw (fun R37 hw => ?_)
  refine x_iinc hC 0 dX4_init_44 rfl (by decide) (L2 := [(1, vi 18), (0, vr l0)]) rfl ⟨by omega, hw⟩ (fun hw => ?_)
  refine wm_goto (tgt := 25) hC dX4_init_47 (by decide) ?_
  refine wm_iload_n hC 0 dX4_init_25 rfl ?_
  refine wm_bipush hC dX4_init_26 (k := ?_)
  refine xs_ge_f (tgt := 50) hC dX4_init_28 (by decide) (by decide) ?_
  refine wm_aload_n hC 1 dX4_init_31 rfl (k_ne0 hk0 (by decide)) ?_
  refine x_getR2 hC 0 fl_X4_11 rfl hk0 dX4_init_32 hw (fun g38 hw => ?_)
  refine wm_iload_n hC 0 dX4_init_35 rfl ?_
  refine x_new hC hRm nl_X4_9 92 2637 rfl rfl (Nat.le_of_ble_eq_true rfl) (Nat.le_of_ble_eq_true rfl) dX4_init_36 hw (fun ad38 had38 g39 hw => ?_)
  have hagad38 := wAg_tr hagad37 had38 hlead37
  have hlead38 := Nat.le_succ_of_le hlead37
  refine wm_dup hC dX4_init_39 (k := ?_)
  refine x_callN hC hRm (CC7_init g39 hw) cn_X4_22 (k_ne0 g39 (by decide)) (Nat.le_of_ble_eq_true rfl) (Nat.le_of_ble_eq_true rfl) 96 2775 rfl rfl ⟨(Nat.le_of_ble_eq_true rfl), (Nat.le_of_ble_eq_true rfl)⟩ rfl (st := [vr (n18 + 1), vi 18, vr (R37 l0 0)]) rfl (Nat.le_of_ble_eq_true rfl) dX4_init_40 (fun ad39 n19 I21 J19 R38 had39 lad39 hw => ?_)
  have hagad39 := wAg_tr hagad38 had39 hlead38
  have hlead39 := Nat.le_trans hlead38 lad39
  refine x_aast hC g38 g39 dX4_init_43 hw (fun R39 hw => ?_)
  refine x_iinc hC 0 dX4_init_44 rfl (by decide) (L2 := [(1, vi 19), (0, vr l0)]) rfl ⟨by omega, hw⟩ (fun hw => ?_)
  refine wm_goto (tgt := 25) hC dX4_init_47 (by decide) ?_
  refine wm_iload_n hC 0 dX4_init_25 rfl ?_
  refine wm_bipush hC dX4_init_26 (k := ?_)
  refine xs_ge_f (tgt := 50) hC dX4_init_28 (by decide) (by decide) ?_
  refine wm_aload_n hC 1 dX4_init_31 rfl (k_ne0 hk0 (by decide)) ?_
  refine x_getR2 hC 0 fl_X4_11 rfl hk0 dX4_init_32 hw (fun g40 hw => ?_)
  refine wm_iload_n hC 0 dX4_init_35 rfl ?_
  refine x_new hC hRm nl_X4_9 97 2782 rfl rfl (Nat.le_of_ble_eq_true rfl) (Nat.le_of_ble_eq_true rfl) dX4_init_36 hw (fun ad40 had40 g41 hw => ?_)
  have hagad40 := wAg_tr hagad39 had40 hlead39
  have hlead40 := Nat.le_succ_of_le hlead39
  refine wm_dup hC dX4_init_39 (k := ?_)
  refine x_callN hC hRm (CC7_init g41 hw) cn_X4_22 (k_ne0 g41 (by decide)) (Nat.le_of_ble_eq_true rfl) (Nat.le_of_ble_eq_true rfl) 101 2920 rfl rfl ⟨(Nat.le_of_ble_eq_true rfl), (Nat.le_of_ble_eq_true rfl)⟩ rfl (st := [vr (n19 + 1), vi 19, vr (R39 l0 0)]) rfl (Nat.le_of_ble_eq_true rfl) dX4_init_40 (fun ad41 n20 I22 J20 R40 had41 lad41 hw => ?_)
  have hagad41 := wAg_tr hagad40 had41 hlead40
  have hlead41 := Nat.le_trans hlead40 lad41
  refine x_aast hC g40 g41 dX4_init_43 hw (fun R41 hw => ?_)
  refine x_iinc hC 0 dX4_init_44 rfl (by decide) (L2 := [(1, vi 20), (0, vr l0)]) rfl ⟨by omega, hw⟩ (fun hw => ?_)
  refine wm_goto (tgt := 25) hC dX4_init_47 (by decide) ?_
  refine wm_iload_n hC 0 dX4_init_25 rfl ?_
  refine wm_bipush hC dX4_init_26 (k := ?_)
  refine xs_ge_t (tgt := 50) hC dX4_init_28 (by decide) (by decide) ?_
  exact wm_returnC hC hE hagad41 hlead41 dX4_init_50 hw
def PC5_init (l0 : Nat) (n : Nat) (I J : mI) (R : mR) (Q : wPc) : Prop := ((kK (n + 1) = 21 ∧ kN (n + 1) = 23 ∧ wz I J R (n + 1)) ∧ (wLet (up R l0 0 (n + 1)) (fun R1 => (wLet (up I l0 1 0) (fun I1 => (Q (n + 1) I1 J R1))))))
set_option maxRecDepth 20000 in
theorem CC5_init {ad : Nat → Nat} {n : Nat} {I J : mI} {R : mR} {Q : wPc} {l0 : Nat} (hk0 : kK l0 = 5) (hw : PC5_init l0 n I J R Q) : wMetC yX5_init cX5_init 1 1 24 1 23 ad n I J R [vr l0] Q := by
  refine wMetC_of (by decide) rfl (Nat.le_of_ble_eq_true rfl) (fun C hC hRm hE => ?_)
  refine (show WM C ad n I J R 0 0 0 [(0, vr l0)] [] from ?_)
  unfold PC5_init at hw
  have hag0 : wAg ad ad n := wAg_rf
  have hle0 : n ≤ n := Nat.le_refl n
  refine wm_aload_n hC 0 dX5_init_0 rfl (k_ne0 hk0 (by decide)) ?_
  refine x_objInit hC hRm (k_ne0 hk0 (by decide)) oi_X5_3 oi_inst oi_code (Nat.le_of_ble_eq_true rfl) (Nat.le_of_ble_eq_true rfl) dX5_init_1 ?_
  refine wm_aload_n hC 0 dX5_init_4 rfl (k_ne0 hk0 (by decide)) ?_
  refine wm_bipush hC dX5_init_5 (k := ?_)
  refine x_newarr hC hRm (atype := .int) (len := 23) 1 (by decide) ac_int (by decide) 1 23 rfl rfl (Nat.le_of_ble_eq_true rfl) (Nat.le_of_ble_eq_true rfl) dX5_init_7 hw (fun ad1 had1 g1 hw => ?_)
  have hagad1 := wAg_tr hag0 had1 hle0
  have hlead1 := Nat.le_succ_of_le hle0
  refine x_putFR hC hE 0 fl_X5_9 rfl hk0 (fun q h => by cases h; rfl) (Or.inr ⟨_, rfl⟩) (k_lt g1 (by decide)) dX5_init_9 hw (fun R1 hw => ?_)
  refine wm_aload_n hC 0 dX5_init_12 rfl (k_ne0 hk0 (by decide)) ?_
  refine wm_iconst hC dX5_init_13 (k := ?_)
  refine x_putI hC 1 fl_X5_15 rfl hk0 dX5_init_14 hw (fun I1 hw => ?_)
  exact wm_returnC hC hE hagad1 hlead1 dX5_init_17 hw
def PC3_init (l0 : Nat) (n : Nat) (I J : mI) (R : mR) (Q : wPc) : Prop := ((kK (n + 1) = 21 ∧ kN (n + 1) = 3 ∧ wz I J R (n + 1)) ∧ (wLet (up R l0 0 (n + 1)) (fun R1 => ((kK ((n + 1) + 1) = 21 ∧ kN ((n + 1) + 1) = 18 ∧ wz I J R1 ((n + 1) + 1)) ∧ (wLet (up R1 l0 1 ((n + 1) + 1)) (fun R2 => ((kK (((n + 1) + 1) + 1) = 21 ∧ kN (((n + 1) + 1) + 1) = 72 ∧ wz I J R2 (((n + 1) + 1) + 1)) ∧ (wLet (up R2 l0 2 (((n + 1) + 1) + 1)) (fun R3 => ((kK ((((n + 1) + 1) + 1) + 1) = 21 ∧ kN ((((n + 1) + 1) + 1) + 1) = 6 ∧ wz I J R3 ((((n + 1) + 1) + 1) + 1)) ∧ (wLet (up R3 l0 3 ((((n + 1) + 1) + 1) + 1)) (fun R4 => ((kK (((((n + 1) + 1) + 1) + 1) + 1) = 21 ∧ kN (((((n + 1) + 1) + 1) + 1) + 1) = 6 ∧ wz I J R4 (((((n + 1) + 1) + 1) + 1) + 1)) ∧ (wLet (up R4 l0 4 (((((n + 1) + 1) + 1) + 1) + 1)) (fun R5 => ((kK ((((((n + 1) + 1) + 1) + 1) + 1) + 1) = 21 ∧ kN ((((((n + 1) + 1) + 1) + 1) + 1) + 1) = 1600 ∧ wz I J R5 ((((((n + 1) + 1) + 1) + 1) + 1) + 1)) ∧ (wLet (up R5 l0 5 ((((((n + 1) + 1) + 1) + 1) + 1) + 1)) (fun R6 => ((kK (((((((n + 1) + 1) + 1) + 1) + 1) + 1) + 1) = 21 ∧ kN (((((((n + 1) + 1) + 1) + 1) + 1) + 1) + 1) = 3 ∧ wz I J R6 (((((((n + 1) + 1) + 1) + 1) + 1) + 1) + 1)) ∧ (wLet (up R6 l0 6 (((((((n + 1) + 1) + 1) + 1) + 1) + 1) + 1)) (fun R7 => ((kK ((((((((n + 1) + 1) + 1) + 1) + 1) + 1) + 1) + 1) = 21 ∧ kN ((((((((n + 1) + 1) + 1) + 1) + 1) + 1) + 1) + 1) = 3 ∧ wz I J R7 ((((((((n + 1) + 1) + 1) + 1) + 1) + 1) + 1) + 1)) ∧ (wLet (up R7 l0 7 ((((((((n + 1) + 1) + 1) + 1) + 1) + 1) + 1) + 1)) (fun R8 => (wLet (up I l0 8 0) (fun I1 => (wLet (up I1 l0 9 0) (fun I2 => (wLet (up I2 l0 10 0) (fun I3 => (wLet (up I3 l0 11 0) (fun I4 => (P3_empty l0 I4 R8 (fun I5 => (Q ((((((((n + 1) + 1) + 1) + 1) + 1) + 1) + 1) + 1) I5 J R8)))))))))))))))))))))))))))))))))))
set_option maxRecDepth 20000 in
theorem CC3_init {ad : Nat → Nat} {n : Nat} {I J : mI} {R : mR} {Q : wPc} {l0 : Nat} (hk0 : kK l0 = 3) (hw : PC3_init l0 n I J R Q) : wMetC yX3_init cX3_init 1 3 55 8 1711 ad n I J R [vr l0] Q := by
  refine wMetC_of (by decide) rfl (Nat.le_of_ble_eq_true rfl) (fun C hC hRm hE => ?_)
  refine (show WM C ad n I J R 0 0 0 [(0, vr l0)] [] from ?_)
  unfold PC3_init at hw
  have hag0 : wAg ad ad n := wAg_rf
  have hle0 : n ≤ n := Nat.le_refl n
  refine wm_aload_n hC 0 dX3_init_0 rfl (k_ne0 hk0 (by decide)) ?_
  refine x_objInit hC hRm (k_ne0 hk0 (by decide)) oi_X3_3 oi_inst oi_code (Nat.le_of_ble_eq_true rfl) (Nat.le_of_ble_eq_true rfl) dX3_init_1 ?_
  refine wm_aload_n hC 0 dX3_init_4 rfl (k_ne0 hk0 (by decide)) ?_
  refine wm_iconst hC dX3_init_5 (k := ?_)
  refine x_newarr hC hRm (atype := .int) (len := 3) 1 (by decide) ac_int (by decide) 1 3 rfl rfl (Nat.le_of_ble_eq_true rfl) (Nat.le_of_ble_eq_true rfl) dX3_init_6 hw (fun ad1 had1 g1 hw => ?_)
  have hagad1 := wAg_tr hag0 had1 hle0
  have hlead1 := Nat.le_succ_of_le hle0
  refine x_putFR hC hE 0 fl_X3_9 rfl hk0 (fun q h => by cases h; rfl) (Or.inr ⟨_, rfl⟩) (k_lt g1 (by decide)) dX3_init_8 hw (fun R1 hw => ?_)
  refine wm_aload_n hC 0 dX3_init_11 rfl (k_ne0 hk0 (by decide)) ?_
  refine wm_bipush hC dX3_init_12 (k := ?_)
  refine x_newarr hC hRm (atype := .int) (len := 18) 1 (by decide) ac_int (by decide) 2 21 rfl rfl (Nat.le_of_ble_eq_true rfl) (Nat.le_of_ble_eq_true rfl) dX3_init_14 hw (fun ad2 had2 g2 hw => ?_)
  have hagad2 := wAg_tr hagad1 had2 hlead1
  have hlead2 := Nat.le_succ_of_le hlead1
  refine x_putFR hC hE 1 fl_X3_15 rfl hk0 (fun q h => by cases h; rfl) (Or.inr ⟨_, rfl⟩) (k_lt g2 (by decide)) dX3_init_16 hw (fun R2 hw => ?_)
  refine wm_aload_n hC 0 dX3_init_19 rfl (k_ne0 hk0 (by decide)) ?_
  refine wm_bipush hC dX3_init_20 (k := ?_)
  refine x_newarr hC hRm (atype := .int) (len := 72) 1 (by decide) ac_int (by decide) 3 93 rfl rfl (Nat.le_of_ble_eq_true rfl) (Nat.le_of_ble_eq_true rfl) dX3_init_22 hw (fun ad3 had3 g3 hw => ?_)
  have hagad3 := wAg_tr hagad2 had3 hlead2
  have hlead3 := Nat.le_succ_of_le hlead2
  refine x_putFR hC hE 2 fl_X3_18 rfl hk0 (fun q h => by cases h; rfl) (Or.inr ⟨_, rfl⟩) (k_lt g3 (by decide)) dX3_init_24 hw (fun R3 hw => ?_)
  refine wm_aload_n hC 0 dX3_init_27 rfl (k_ne0 hk0 (by decide)) ?_
  refine wm_bipush hC dX3_init_28 (k := ?_)
  refine x_newarr hC hRm (atype := .int) (len := 6) 1 (by decide) ac_int (by decide) 4 99 rfl rfl (Nat.le_of_ble_eq_true rfl) (Nat.le_of_ble_eq_true rfl) dX3_init_30 hw (fun ad4 had4 g4 hw => ?_)
  have hagad4 := wAg_tr hagad3 had4 hlead3
  have hlead4 := Nat.le_succ_of_le hlead3
  refine x_putFR hC hE 3 fl_X3_21 rfl hk0 (fun q h => by cases h; rfl) (Or.inr ⟨_, rfl⟩) (k_lt g4 (by decide)) dX3_init_32 hw (fun R4 hw => ?_)
  refine wm_aload_n hC 0 dX3_init_35 rfl (k_ne0 hk0 (by decide)) ?_
  refine wm_bipush hC dX3_init_36 (k := ?_)
  refine x_newarr hC hRm (atype := .int) (len := 6) 1 (by decide) ac_int (by decide) 5 105 rfl rfl (Nat.le_of_ble_eq_true rfl) (Nat.le_of_ble_eq_true rfl) dX3_init_38 hw (fun ad5 had5 g5 hw => ?_)
  have hagad5 := wAg_tr hagad4 had5 hlead4
  have hlead5 := Nat.le_succ_of_le hlead4
  refine x_putFR hC hE 4 fl_X3_24 rfl hk0 (fun q h => by cases h; rfl) (Or.inr ⟨_, rfl⟩) (k_lt g5 (by decide)) dX3_init_40 hw (fun R5 hw => ?_)
  refine wm_aload_n hC 0 dX3_init_43 rfl (k_ne0 hk0 (by decide)) ?_
  refine wm_sipush hC dX3_init_44 (k := ?_)
  refine x_newarr hC hRm (atype := .int) (len := 1600) 1 (by decide) ac_int (by decide) 6 1705 rfl rfl (Nat.le_of_ble_eq_true rfl) (Nat.le_of_ble_eq_true rfl) dX3_init_47 hw (fun ad6 had6 g6 hw => ?_)
  have hagad6 := wAg_tr hagad5 had6 hlead5
  have hlead6 := Nat.le_succ_of_le hlead5
  refine x_putFR hC hE 5 fl_X3_27 rfl hk0 (fun q h => by cases h; rfl) (Or.inr ⟨_, rfl⟩) (k_lt g6 (by decide)) dX3_init_49 hw (fun R6 hw => ?_)
  refine wm_aload_n hC 0 dX3_init_52 rfl (k_ne0 hk0 (by decide)) ?_
  refine wm_iconst hC dX3_init_53 (k := ?_)
  refine x_newarr hC hRm (atype := .int) (len := 3) 1 (by decide) ac_int (by decide) 7 1708 rfl rfl (Nat.le_of_ble_eq_true rfl) (Nat.le_of_ble_eq_true rfl) dX3_init_54 hw (fun ad7 had7 g7 hw => ?_)
  have hagad7 := wAg_tr hagad6 had7 hlead6
  have hlead7 := Nat.le_succ_of_le hlead6
  refine x_putFR hC hE 6 fl_X3_30 rfl hk0 (fun q h => by cases h; rfl) (Or.inr ⟨_, rfl⟩) (k_lt g7 (by decide)) dX3_init_56 hw (fun R7 hw => ?_)
  refine wm_aload_n hC 0 dX3_init_59 rfl (k_ne0 hk0 (by decide)) ?_
  refine wm_iconst hC dX3_init_60 (k := ?_)
  refine x_newarr hC hRm (atype := .int) (len := 3) 1 (by decide) ac_int (by decide) 8 1711 rfl rfl (Nat.le_of_ble_eq_true rfl) (Nat.le_of_ble_eq_true rfl) dX3_init_61 hw (fun ad8 had8 g8 hw => ?_)
  have hagad8 := wAg_tr hagad7 had8 hlead7
  have hlead8 := Nat.le_succ_of_le hlead7
  refine x_putFR hC hE 7 fl_X3_33 rfl hk0 (fun q h => by cases h; rfl) (Or.inr ⟨_, rfl⟩) (k_lt g8 (by decide)) dX3_init_63 hw (fun R8 hw => ?_)
  refine wm_aload_n hC 0 dX3_init_66 rfl (k_ne0 hk0 (by decide)) ?_
  refine wm_iconst hC dX3_init_67 (k := ?_)
  refine x_putI hC 8 fl_X3_36 rfl hk0 dX3_init_68 hw (fun I1 hw => ?_)
  refine wm_aload_n hC 0 dX3_init_71 rfl (k_ne0 hk0 (by decide)) ?_
  refine wm_iconst hC dX3_init_72 (k := ?_)
  refine x_putI hC 9 fl_X3_40 rfl hk0 dX3_init_73 hw (fun I2 hw => ?_)
  refine wm_aload_n hC 0 dX3_init_76 rfl (k_ne0 hk0 (by decide)) ?_
  refine wm_iconst hC dX3_init_77 (k := ?_)
  refine x_putI hC 10 fl_X3_43 rfl hk0 dX3_init_78 hw (fun I3 hw => ?_)
  refine wm_aload_n hC 0 dX3_init_81 rfl (k_ne0 hk0 (by decide)) ?_
  refine wm_iconst hC dX3_init_82 (k := ?_)
  refine x_putI hC 11 fl_X3_46 rfl hk0 dX3_init_83 hw (fun I4 hw => ?_)
  refine wm_aload_n hC 0 dX3_init_86 rfl (k_ne0 hk0 (by decide)) ?_
  refine y_callV_v_I hC hRm noS ml_X3_49 hk0 (C3_empty hk0 hw) (Nat.le_of_ble_eq_true rfl) (Nat.le_of_ble_eq_true rfl) ⟨(Nat.le_of_ble_eq_true rfl), (Nat.le_of_ble_eq_true rfl)⟩ rfl (st := []) rfl (Nat.le_of_ble_eq_true rfl) dX3_init_87 (fun I5 hw => ?_)
  exact wm_returnC hC hE hagad8 hlead8 dX3_init_90 hw
def PC10_init (l0 : Nat) (n : Nat) (I J : mI) (R : mR) (Q : wPc) : Prop := ((kK (n + 1) = 21 ∧ kN (n + 1) = 1601 ∧ wz I J R (n + 1)) ∧ (wLet (up R l0 0 (n + 1)) (fun R1 => ((kK ((n + 1) + 1) = 21 ∧ kN ((n + 1) + 1) = 1601 ∧ wz I J R1 ((n + 1) + 1)) ∧ (wLet (up R1 l0 1 ((n + 1) + 1)) (fun R2 => ((kK (((n + 1) + 1) + 1) = 21 ∧ kN (((n + 1) + 1) + 1) = 1601 ∧ wz I J R2 (((n + 1) + 1) + 1)) ∧ (wLet (up R2 l0 2 (((n + 1) + 1) + 1)) (fun R3 => (wLet (up I l0 3 0) (fun I1 => (wLet (up I1 l0 4 0) (fun I2 => (wLet (up I2 l0 5 0) (fun I3 => (Q (((n + 1) + 1) + 1) I3 J R3))))))))))))))))
set_option maxRecDepth 20000 in
theorem CC10_init {ad : Nat → Nat} {n : Nat} {I J : mI} {R : mR} {Q : wPc} {l0 : Nat} (hk0 : kK l0 = 10) (hw : PC10_init l0 n I J R Q) : wMetC yX10_init cX10_init 1 1 24 3 4803 ad n I J R [vr l0] Q := by
  refine wMetC_of (by decide) rfl (Nat.le_of_ble_eq_true rfl) (fun C hC hRm hE => ?_)
  refine (show WM C ad n I J R 0 0 0 [(0, vr l0)] [] from ?_)
  unfold PC10_init at hw
  have hag0 : wAg ad ad n := wAg_rf
  have hle0 : n ≤ n := Nat.le_refl n
  refine wm_aload_n hC 0 dX10_init_0 rfl (k_ne0 hk0 (by decide)) ?_
  refine x_objInit hC hRm (k_ne0 hk0 (by decide)) oi_X10_3 oi_inst oi_code (Nat.le_of_ble_eq_true rfl) (Nat.le_of_ble_eq_true rfl) dX10_init_1 ?_
  refine wm_aload_n hC 0 dX10_init_4 rfl (k_ne0 hk0 (by decide)) ?_
  refine wm_sipush hC dX10_init_5 (k := ?_)
  refine x_newarr hC hRm (atype := .int) (len := 1601) 1 (by decide) ac_int (by decide) 1 1601 rfl rfl (Nat.le_of_ble_eq_true rfl) (Nat.le_of_ble_eq_true rfl) dX10_init_8 hw (fun ad1 had1 g1 hw => ?_)
  have hagad1 := wAg_tr hag0 had1 hle0
  have hlead1 := Nat.le_succ_of_le hle0
  refine x_putFR hC hE 0 fl_X10_9 rfl hk0 (fun q h => by cases h; rfl) (Or.inr ⟨_, rfl⟩) (k_lt g1 (by decide)) dX10_init_10 hw (fun R1 hw => ?_)
  refine wm_aload_n hC 0 dX10_init_13 rfl (k_ne0 hk0 (by decide)) ?_
  refine wm_sipush hC dX10_init_14 (k := ?_)
  refine x_newarr hC hRm (atype := .int) (len := 1601) 1 (by decide) ac_int (by decide) 2 3202 rfl rfl (Nat.le_of_ble_eq_true rfl) (Nat.le_of_ble_eq_true rfl) dX10_init_17 hw (fun ad2 had2 g2 hw => ?_)
  have hagad2 := wAg_tr hagad1 had2 hlead1
  have hlead2 := Nat.le_succ_of_le hlead1
  refine x_putFR hC hE 1 fl_X10_15 rfl hk0 (fun q h => by cases h; rfl) (Or.inr ⟨_, rfl⟩) (k_lt g2 (by decide)) dX10_init_19 hw (fun R2 hw => ?_)
  refine wm_aload_n hC 0 dX10_init_22 rfl (k_ne0 hk0 (by decide)) ?_
  refine wm_sipush hC dX10_init_23 (k := ?_)
  refine x_newarr hC hRm (atype := .int) (len := 1601) 1 (by decide) ac_int (by decide) 3 4803 rfl rfl (Nat.le_of_ble_eq_true rfl) (Nat.le_of_ble_eq_true rfl) dX10_init_26 hw (fun ad3 had3 g3 hw => ?_)
  have hagad3 := wAg_tr hagad2 had3 hlead2
  have hlead3 := Nat.le_succ_of_le hlead2
  refine x_putFR hC hE 2 fl_X10_18 rfl hk0 (fun q h => by cases h; rfl) (Or.inr ⟨_, rfl⟩) (k_lt g3 (by decide)) dX10_init_28 hw (fun R3 hw => ?_)
  refine wm_aload_n hC 0 dX10_init_31 rfl (k_ne0 hk0 (by decide)) ?_
  refine wm_iconst hC dX10_init_32 (k := ?_)
  refine x_putI hC 3 fl_X10_21 rfl hk0 dX10_init_33 hw (fun I1 hw => ?_)
  refine wm_aload_n hC 0 dX10_init_36 rfl (k_ne0 hk0 (by decide)) ?_
  refine wm_iconst hC dX10_init_37 (k := ?_)
  refine x_putI hC 4 fl_X10_25 rfl hk0 dX10_init_38 hw (fun I2 hw => ?_)
  refine wm_aload_n hC 0 dX10_init_41 rfl (k_ne0 hk0 (by decide)) ?_
  refine wm_iconst hC dX10_init_42 (k := ?_)
  refine x_putI hC 5 fl_X10_28 rfl hk0 dX10_init_43 hw (fun I3 hw => ?_)
  exact wm_returnC hC hE hagad3 hlead3 dX10_init_46 hw
def PC6_init (l0 : Nat) (l1 : Nat) (l2 : Nat) (n : Nat) (I J : mI) (R : mR) (Q : wPc) : Prop := ((kK (n + 1) = 10 ∧ wz I J R (n + 1)) ∧ (PC10_init (n + 1) (n + 1) I J R (fun n1 I1 J1 R1 => (wLet (up R1 l0 1 (n + 1)) (fun R2 => (wLet (up I1 l0 3 0) (fun I2 => (wLet (up I2 l0 4 0) (fun I3 => (wLet (up I3 l0 5 0) (fun I4 => (wLet (up I4 l0 6 0) (fun I5 => (wLet (up I5 l0 7 (-1)) (fun I6 => (wLet (up R2 l0 0 l1) (fun R3 => (wLet (up R3 l0 2 l2) (fun R4 => (Q n1 I6 J1 R4))))))))))))))))))))
set_option maxRecDepth 20000 in
theorem CC6_init {ad : Nat → Nat} {n : Nat} {I J : mI} {R : mR} {Q : wPc} {l0 : Nat} {l1 : Nat} {l2 : Nat} (hk0 : kK l0 = 6) (hk1 : kK l1 = 9) (hk2 : kK l2 = 3) (hw : PC6_init l0 l1 l2 n I J R Q) : wMetC yX6_init cX6_init 3 2 44 4 4809 ad n I J R [vr l0, vr l1, vr l2] Q := by
  refine wMetC_of (by decide) rfl (Nat.le_of_ble_eq_true rfl) (fun C hC hRm hE => ?_)
  refine (show WM C ad n I J R 0 0 0 [(0, vr l0), (1, vr l1), (2, vr l2)] [] from ?_)
  unfold PC6_init at hw
  have hag0 : wAg ad ad n := wAg_rf
  have hle0 : n ≤ n := Nat.le_refl n
  refine wm_aload_n hC 0 dX6_init_0 rfl (k_ne0 hk0 (by decide)) ?_
  refine x_objInit hC hRm (k_ne0 hk0 (by decide)) oi_X6_3 oi_inst oi_code (Nat.le_of_ble_eq_true rfl) (Nat.le_of_ble_eq_true rfl) dX6_init_1 ?_
  refine wm_aload_n hC 0 dX6_init_4 rfl (k_ne0 hk0 (by decide)) ?_
  refine x_new hC hRm nl_X6_9 1 6 rfl rfl (Nat.le_of_ble_eq_true rfl) (Nat.le_of_ble_eq_true rfl) dX6_init_5 hw (fun ad1 had1 g1 hw => ?_)
  have hagad1 := wAg_tr hag0 had1 hle0
  have hlead1 := Nat.le_succ_of_le hle0
  refine wm_dup hC dX6_init_8 (k := ?_)
  refine x_callN hC hRm (CC10_init g1 hw) cn_X6_11 (k_ne0 g1 (by decide)) (Nat.le_of_ble_eq_true rfl) (Nat.le_of_ble_eq_true rfl) 4 4809 rfl rfl ⟨(Nat.le_of_ble_eq_true rfl), (Nat.le_of_ble_eq_true rfl)⟩ rfl (st := [vr (n + 1), vr l0]) rfl (Nat.le_of_ble_eq_true rfl) dX6_init_9 (fun ad2 n1 I1 J1 R1 had2 lad2 hw => ?_)
  have hagad2 := wAg_tr hagad1 had2 hlead1
  have hlead2 := Nat.le_trans hlead1 lad2
  refine x_putFR hC hE 1 fl_X6_12 rfl hk0 (fun q h => by cases h; rfl) (Or.inl ⟨_, rfl⟩) (k_lt g1 (by decide)) dX6_init_12 hw (fun R2 hw => ?_)
  refine wm_aload_n hC 0 dX6_init_15 rfl (k_ne0 hk0 (by decide)) ?_
  refine wm_iconst hC dX6_init_16 (k := ?_)
  refine x_putI hC 3 fl_X6_18 rfl hk0 dX6_init_17 hw (fun I2 hw => ?_)
  refine wm_aload_n hC 0 dX6_init_20 rfl (k_ne0 hk0 (by decide)) ?_
  refine wm_iconst hC dX6_init_21 (k := ?_)
  refine x_putI hC 4 fl_X6_22 rfl hk0 dX6_init_22 hw (fun I3 hw => ?_)
  refine wm_aload_n hC 0 dX6_init_25 rfl (k_ne0 hk0 (by decide)) ?_
  refine wm_iconst hC dX6_init_26 (k := ?_)
  refine x_putI hC 5 fl_X6_25 rfl hk0 dX6_init_27 hw (fun I4 hw => ?_)
  refine wm_aload_n hC 0 dX6_init_30 rfl (k_ne0 hk0 (by decide)) ?_
  refine wm_iconst hC dX6_init_31 (k := ?_)
  refine x_putI hC 6 fl_X6_28 rfl hk0 dX6_init_32 hw (fun I5 hw => ?_)
  refine wm_aload_n hC 0 dX6_init_35 rfl (k_ne0 hk0 (by decide)) ?_
  refine wm_iconst hC dX6_init_36 (k := ?_)
  refine x_putI hC 7 fl_X6_31 rfl hk0 dX6_init_37 hw (fun I6 hw => ?_)
  refine wm_aload_n hC 0 dX6_init_40 rfl (k_ne0 hk0 (by decide)) ?_
  refine wm_aload_n hC 1 dX6_init_41 rfl (k_ne0 hk1 (by decide)) ?_
  refine x_putFR hC hE 0 fl_X6_34 rfl hk0 (fun q h => by cases h; rfl) (Or.inl ⟨_, rfl⟩) (k_lt hk1 (by decide)) dX6_init_42 hw (fun R3 hw => ?_)
  refine wm_aload_n hC 0 dX6_init_45 rfl (k_ne0 hk0 (by decide)) ?_
  refine wm_aload_n hC 2 dX6_init_46 rfl (k_ne0 hk2 (by decide)) ?_
  refine x_putR hC 2 fl_X6_38 rfl hk0 (Or.inl ⟨_, rfl⟩) (k_lt hk2 (by decide)) dX6_init_47 hw (fun R4 hw => ?_)
  exact wm_returnC hC hE hagad2 hlead2 dX6_init_50 hw
def PC1_init (l0 : Nat) (l1 : Nat) (l2 : Nat) (l3 : Nat) (n : Nat) (I J : mI) (R : mR) (Q : wPc) : Prop := ((kK (n + 1) = 21 ∧ kN (n + 1) = 216 ∧ wz I J R (n + 1)) ∧ (wLet (up R l0 1 (n + 1)) (fun R1 => ((kK ((n + 1) + 1) = 21 ∧ kN ((n + 1) + 1) = 6 ∧ wz I J R1 ((n + 1) + 1)) ∧ (wLet (up R1 l0 2 ((n + 1) + 1)) (fun R2 => ((kK (((n + 1) + 1) + 1) = 21 ∧ kN (((n + 1) + 1) + 1) = 6 ∧ wz I J R2 (((n + 1) + 1) + 1)) ∧ (wLet (up R2 l0 3 (((n + 1) + 1) + 1)) (fun R3 => (wLet (up I l0 6 0) (fun I1 => (wLet (up I1 l0 7 0) (fun I2 => (wLet (up I2 l0 8 (-1)) (fun I3 => (wLet (up I3 l0 9 0) (fun I4 => (wLet (up R3 l0 0 l1) (fun R4 => (wLet (up R4 l0 4 l2) (fun R5 => (wLet (up R5 l0 5 l3) (fun R6 => (Q (((n + 1) + 1) + 1) I4 J R6))))))))))))))))))))))))
set_option maxRecDepth 20000 in
theorem CC1_init {ad : Nat → Nat} {n : Nat} {I J : mI} {R : mR} {Q : wPc} {l0 : Nat} {l1 : Nat} {l2 : Nat} {l3 : Nat} (hk0 : kK l0 = 1) (hk1 : kK l1 = 8) (hk2 : kK l2 = 3) (hk3 : kK l3 = 7) (hw : PC1_init l0 l1 l2 l3 n I J R Q) : wMetC yX1_init cX1_init 4 1 24 3 228 ad n I J R [vr l0, vr l1, vr l2, vr l3] Q := by
  refine wMetC_of (by decide) rfl (Nat.le_of_ble_eq_true rfl) (fun C hC hRm hE => ?_)
  refine (show WM C ad n I J R 0 0 0 [(0, vr l0), (1, vr l1), (2, vr l2), (3, vr l3)] [] from ?_)
  unfold PC1_init at hw
  have hag0 : wAg ad ad n := wAg_rf
  have hle0 : n ≤ n := Nat.le_refl n
  refine wm_aload_n hC 0 dX1_init_0 rfl (k_ne0 hk0 (by decide)) ?_
  refine x_objInit hC hRm (k_ne0 hk0 (by decide)) oi_X1_3 oi_inst oi_code (Nat.le_of_ble_eq_true rfl) (Nat.le_of_ble_eq_true rfl) dX1_init_1 ?_
  refine wm_aload_n hC 0 dX1_init_4 rfl (k_ne0 hk0 (by decide)) ?_
  refine wm_sipush hC dX1_init_5 (k := ?_)
  refine x_newarr hC hRm (atype := .int) (len := 216) 1 (by decide) ac_int (by decide) 1 216 rfl rfl (Nat.le_of_ble_eq_true rfl) (Nat.le_of_ble_eq_true rfl) dX1_init_8 hw (fun ad1 had1 g1 hw => ?_)
  have hagad1 := wAg_tr hag0 had1 hle0
  have hlead1 := Nat.le_succ_of_le hle0
  refine x_putFR hC hE 1 fl_X1_9 rfl hk0 (fun q h => by cases h; rfl) (Or.inr ⟨_, rfl⟩) (k_lt g1 (by decide)) dX1_init_10 hw (fun R1 hw => ?_)
  refine wm_aload_n hC 0 dX1_init_13 rfl (k_ne0 hk0 (by decide)) ?_
  refine wm_bipush hC dX1_init_14 (k := ?_)
  refine x_newarr hC hRm (atype := .int) (len := 6) 1 (by decide) ac_int (by decide) 2 222 rfl rfl (Nat.le_of_ble_eq_true rfl) (Nat.le_of_ble_eq_true rfl) dX1_init_16 hw (fun ad2 had2 g2 hw => ?_)
  have hagad2 := wAg_tr hagad1 had2 hlead1
  have hlead2 := Nat.le_succ_of_le hlead1
  refine x_putFR hC hE 2 fl_X1_15 rfl hk0 (fun q h => by cases h; rfl) (Or.inr ⟨_, rfl⟩) (k_lt g2 (by decide)) dX1_init_18 hw (fun R2 hw => ?_)
  refine wm_aload_n hC 0 dX1_init_21 rfl (k_ne0 hk0 (by decide)) ?_
  refine wm_bipush hC dX1_init_22 (k := ?_)
  refine x_newarr hC hRm (atype := .int) (len := 6) 1 (by decide) ac_int (by decide) 3 228 rfl rfl (Nat.le_of_ble_eq_true rfl) (Nat.le_of_ble_eq_true rfl) dX1_init_24 hw (fun ad3 had3 g3 hw => ?_)
  have hagad3 := wAg_tr hagad2 had3 hlead2
  have hlead3 := Nat.le_succ_of_le hlead2
  refine x_putFR hC hE 3 fl_X1_18 rfl hk0 (fun q h => by cases h; rfl) (Or.inr ⟨_, rfl⟩) (k_lt g3 (by decide)) dX1_init_26 hw (fun R3 hw => ?_)
  refine wm_aload_n hC 0 dX1_init_29 rfl (k_ne0 hk0 (by decide)) ?_
  refine wm_iconst hC dX1_init_30 (k := ?_)
  refine x_putI hC 6 fl_X1_21 rfl hk0 dX1_init_31 hw (fun I1 hw => ?_)
  refine wm_aload_n hC 0 dX1_init_34 rfl (k_ne0 hk0 (by decide)) ?_
  refine wm_iconst hC dX1_init_35 (k := ?_)
  refine x_putI hC 7 fl_X1_25 rfl hk0 dX1_init_36 hw (fun I2 hw => ?_)
  refine wm_aload_n hC 0 dX1_init_39 rfl (k_ne0 hk0 (by decide)) ?_
  refine wm_iconst hC dX1_init_40 (k := ?_)
  refine x_putI hC 8 fl_X1_28 rfl hk0 dX1_init_41 hw (fun I3 hw => ?_)
  refine wm_aload_n hC 0 dX1_init_44 rfl (k_ne0 hk0 (by decide)) ?_
  refine wm_iconst hC dX1_init_45 (k := ?_)
  refine x_putI hC 9 fl_X1_31 rfl hk0 dX1_init_46 hw (fun I4 hw => ?_)
  refine wm_aload_n hC 0 dX1_init_49 rfl (k_ne0 hk0 (by decide)) ?_
  refine wm_aload_n hC 1 dX1_init_50 rfl (k_ne0 hk1 (by decide)) ?_
  refine x_putFR hC hE 0 fl_X1_34 rfl hk0 (fun q h => by cases h; rfl) (Or.inl ⟨_, rfl⟩) (k_lt hk1 (by decide)) dX1_init_51 hw (fun R4 hw => ?_)
  refine wm_aload_n hC 0 dX1_init_54 rfl (k_ne0 hk0 (by decide)) ?_
  refine wm_aload_n hC 2 dX1_init_55 rfl (k_ne0 hk2 (by decide)) ?_
  refine x_putR hC 4 fl_X1_38 rfl hk0 (Or.inl ⟨_, rfl⟩) (k_lt hk2 (by decide)) dX1_init_56 hw (fun R5 hw => ?_)
  refine wm_aload_n hC 0 dX1_init_59 rfl (k_ne0 hk0 (by decide)) ?_
  refine wm_aload_n hC 3 dX1_init_60 rfl (k_ne0 hk3 (by decide)) ?_
  refine x_putR hC 5 fl_X1_42 rfl hk0 (Or.inl ⟨_, rfl⟩) (k_lt hk3 (by decide)) dX1_init_61 hw (fun R6 hw => ?_)
  exact wm_returnC hC hE hagad3 hlead3 dX1_init_64 hw
def PC0_init (l0 : Nat) (l1 : Nat) (l2 : Nat) (n : Nat) (I J : mI) (R : mR) (Q : wPc) : Prop := (wLet (up R l0 0 l1) (fun R1 => (wLet (up R1 l0 1 l2) (fun R2 => (Q n I J R2)))))
set_option maxRecDepth 20000 in
theorem CC0_init {ad : Nat → Nat} {n : Nat} {I J : mI} {R : mR} {Q : wPc} {l0 : Nat} {l1 : Nat} {l2 : Nat} (hk0 : kK l0 = 0) (hk1 : kK l1 = 1) (hk2 : kK l2 = 8) (hw : PC0_init l0 l1 l2 n I J R Q) : wMetC yX0_init cX0_init 3 1 24 0 0 ad n I J R [vr l0, vr l1, vr l2] Q := by
  refine wMetC_of (by decide) rfl (Nat.le_of_ble_eq_true rfl) (fun C hC hRm hE => ?_)
  refine (show WM C ad n I J R 0 0 0 [(0, vr l0), (1, vr l1), (2, vr l2)] [] from ?_)
  unfold PC0_init at hw
  have hag0 : wAg ad ad n := wAg_rf
  have hle0 : n ≤ n := Nat.le_refl n
  refine wm_aload_n hC 0 dX0_init_0 rfl (k_ne0 hk0 (by decide)) ?_
  refine x_objInit hC hRm (k_ne0 hk0 (by decide)) oi_X0_3 oi_inst oi_code (Nat.le_of_ble_eq_true rfl) (Nat.le_of_ble_eq_true rfl) dX0_init_1 ?_
  refine wm_aload_n hC 0 dX0_init_4 rfl (k_ne0 hk0 (by decide)) ?_
  refine wm_aload_n hC 1 dX0_init_5 rfl (k_ne0 hk1 (by decide)) ?_
  refine x_putFR hC hE 0 fl_X0_9 rfl hk0 (fun q h => by cases h; rfl) (Or.inl ⟨_, rfl⟩) (k_lt hk1 (by decide)) dX0_init_6 hw (fun R1 hw => ?_)
  refine wm_aload_n hC 0 dX0_init_9 rfl (k_ne0 hk0 (by decide)) ?_
  refine wm_aload_n hC 2 dX0_init_10 rfl (k_ne0 hk2 (by decide)) ?_
  refine x_putFR hC hE 1 fl_X0_15 rfl hk0 (fun q h => by cases h; rfl) (Or.inl ⟨_, rfl⟩) (k_lt hk2 (by decide)) dX0_init_11 hw (fun R2 hw => ?_)
  exact wm_returnC hC hE hag0 hle0 dX0_init_14 hw
def PC2_init (l0 : Nat) (l1 : Nat) (l2 : Nat) (n : Nat) (I J : mI) (R : mR) (Q : wPc) : Prop := ((kK (n + 1) = 7 ∧ wz I J R (n + 1)) ∧ (PC7_init (n + 1) (n + 1) I J R (fun n1 I1 J1 R1 => (wLet (up R1 l0 2 (n + 1)) (fun R2 => ((kK (n1 + 1) = 21 ∧ kN (n1 + 1) = 48 ∧ wz I1 J1 R2 (n1 + 1)) ∧ (wLet (up R2 l0 3 (n1 + 1)) (fun R3 => ((kK ((n1 + 1) + 1) = 21 ∧ kN ((n1 + 1) + 1) = 1260 ∧ wz I1 J1 R3 ((n1 + 1) + 1)) ∧ (wLet (up R3 l0 4 ((n1 + 1) + 1)) (fun R4 => (wLet (up I1 l0 5 0) (fun I2 => (wLet (up I2 l0 6 (-1)) (fun I3 => (wLet (up I3 l0 7 (-1)) (fun I4 => (wLet (up I4 l0 8 (-1)) (fun I5 => (wLet (up R4 l0 0 l1) (fun R5 => (wLet (up R5 l0 1 l2) (fun R6 => (Q ((n1 + 1) + 1) I5 J1 R6))))))))))))))))))))))))
set_option maxRecDepth 20000 in
theorem CC2_init {ad : Nat → Nat} {n : Nat} {I J : mI} {R : mR} {Q : wPc} {l0 : Nat} {l1 : Nat} {l2 : Nat} (hk0 : kK l0 = 2) (hk1 : kK l1 = 1) (hk2 : kK l2 = 0) (hw : PC2_init l0 l1 l2 n I J R Q) : wMetC yX2_init cX2_init 3 2 44 7 1453 ad n I J R [vr l0, vr l1, vr l2] Q := by
  refine wMetC_of (by decide) rfl (Nat.le_of_ble_eq_true rfl) (fun C hC hRm hE => ?_)
  refine (show WM C ad n I J R 0 0 0 [(0, vr l0), (1, vr l1), (2, vr l2)] [] from ?_)
  unfold PC2_init at hw
  have hag0 : wAg ad ad n := wAg_rf
  have hle0 : n ≤ n := Nat.le_refl n
  refine wm_aload_n hC 0 dX2_init_0 rfl (k_ne0 hk0 (by decide)) ?_
  refine x_objInit hC hRm (k_ne0 hk0 (by decide)) oi_X2_3 oi_inst oi_code (Nat.le_of_ble_eq_true rfl) (Nat.le_of_ble_eq_true rfl) dX2_init_1 ?_
  refine wm_aload_n hC 0 dX2_init_4 rfl (k_ne0 hk0 (by decide)) ?_
  refine x_new hC hRm nl_X2_9 1 7 rfl rfl (Nat.le_of_ble_eq_true rfl) (Nat.le_of_ble_eq_true rfl) dX2_init_5 hw (fun ad1 had1 g1 hw => ?_)
  have hagad1 := wAg_tr hag0 had1 hle0
  have hlead1 := Nat.le_succ_of_le hle0
  refine wm_dup hC dX2_init_8 (k := ?_)
  refine x_callN hC hRm (CC7_init g1 hw) cn_X2_11 (k_ne0 g1 (by decide)) (Nat.le_of_ble_eq_true rfl) (Nat.le_of_ble_eq_true rfl) 5 145 rfl rfl ⟨(Nat.le_of_ble_eq_true rfl), (Nat.le_of_ble_eq_true rfl)⟩ rfl (st := [vr (n + 1), vr l0]) rfl (Nat.le_of_ble_eq_true rfl) dX2_init_9 (fun ad2 n1 I1 J1 R1 had2 lad2 hw => ?_)
  have hagad2 := wAg_tr hagad1 had2 hlead1
  have hlead2 := Nat.le_trans hlead1 lad2
  refine x_putFR hC hE 2 fl_X2_12 rfl hk0 (fun q h => by cases h; rfl) (Or.inl ⟨_, rfl⟩) (k_lt g1 (by decide)) dX2_init_12 hw (fun R2 hw => ?_)
  refine wm_aload_n hC 0 dX2_init_15 rfl (k_ne0 hk0 (by decide)) ?_
  refine wm_bipush hC dX2_init_16 (k := ?_)
  refine x_newarr hC hRm (atype := .int) (len := 48) 1 (by decide) ac_int (by decide) 6 193 rfl rfl (Nat.le_of_ble_eq_true rfl) (Nat.le_of_ble_eq_true rfl) dX2_init_18 hw (fun ad3 had3 g2 hw => ?_)
  have hagad3 := wAg_tr hagad2 had3 hlead2
  have hlead3 := Nat.le_succ_of_le hlead2
  refine x_putFR hC hE 3 fl_X2_18 rfl hk0 (fun q h => by cases h; rfl) (Or.inr ⟨_, rfl⟩) (k_lt g2 (by decide)) dX2_init_20 hw (fun R3 hw => ?_)
  refine wm_aload_n hC 0 dX2_init_23 rfl (k_ne0 hk0 (by decide)) ?_
  refine wm_sipush hC dX2_init_24 (k := ?_)
  refine x_newarr hC hRm (atype := .int) (len := 1260) 1 (by decide) ac_int (by decide) 7 1453 rfl rfl (Nat.le_of_ble_eq_true rfl) (Nat.le_of_ble_eq_true rfl) dX2_init_27 hw (fun ad4 had4 g3 hw => ?_)
  have hagad4 := wAg_tr hagad3 had4 hlead3
  have hlead4 := Nat.le_succ_of_le hlead3
  refine x_putFR hC hE 4 fl_X2_22 rfl hk0 (fun q h => by cases h; rfl) (Or.inr ⟨_, rfl⟩) (k_lt g3 (by decide)) dX2_init_29 hw (fun R4 hw => ?_)
  refine wm_aload_n hC 0 dX2_init_32 rfl (k_ne0 hk0 (by decide)) ?_
  refine wm_iconst hC dX2_init_33 (k := ?_)
  refine x_putI hC 5 fl_X2_25 rfl hk0 dX2_init_34 hw (fun I2 hw => ?_)
  refine wm_aload_n hC 0 dX2_init_37 rfl (k_ne0 hk0 (by decide)) ?_
  refine wm_iconst hC dX2_init_38 (k := ?_)
  refine x_putI hC 6 fl_X2_29 rfl hk0 dX2_init_39 hw (fun I3 hw => ?_)
  refine wm_aload_n hC 0 dX2_init_42 rfl (k_ne0 hk0 (by decide)) ?_
  refine wm_iconst hC dX2_init_43 (k := ?_)
  refine x_putI hC 7 fl_X2_32 rfl hk0 dX2_init_44 hw (fun I4 hw => ?_)
  refine wm_aload_n hC 0 dX2_init_47 rfl (k_ne0 hk0 (by decide)) ?_
  refine wm_iconst hC dX2_init_48 (k := ?_)
  refine x_putI hC 8 fl_X2_35 rfl hk0 dX2_init_49 hw (fun I5 hw => ?_)
  refine wm_aload_n hC 0 dX2_init_52 rfl (k_ne0 hk0 (by decide)) ?_
  refine wm_aload_n hC 1 dX2_init_53 rfl (k_ne0 hk1 (by decide)) ?_
  refine x_putFR hC hE 0 fl_X2_38 rfl hk0 (fun q h => by cases h; rfl) (Or.inl ⟨_, rfl⟩) (k_lt hk1 (by decide)) dX2_init_54 hw (fun R5 hw => ?_)
  refine wm_aload_n hC 0 dX2_init_57 rfl (k_ne0 hk0 (by decide)) ?_
  refine wm_aload_n hC 2 dX2_init_58 rfl (k_ne0 hk2 (by decide)) ?_
  refine x_putFR hC hE 1 fl_X2_42 rfl hk0 (fun q h => by cases h; rfl) (Or.inl ⟨_, rfl⟩) (k_lt hk2 (by decide)) dX2_init_59 hw (fun R6 hw => ?_)
  exact wm_returnC hC hE hagad4 hlead4 dX2_init_62 hw
def PC11_init (l0 : Nat) (n : Nat) (I J : mI) (R : mR) (Q : wPc) : Prop := ((kK (n + 1) = 9 ∧ wz I J R (n + 1)) ∧ (PC9_init (n + 1) (n + 1) I J R (fun n1 I1 J1 R1 => (wLet (up R1 l0 0 (n + 1)) (fun R2 => ((kK (n1 + 1) = 8 ∧ wz I1 J1 R2 (n1 + 1)) ∧ (PC8_init (n1 + 1) (n1 + 1) I1 J1 R2 (fun n2 I2 J2 R3 => (wLet (up R3 l0 1 (n1 + 1)) (fun R4 => ((kK (n2 + 1) = 7 ∧ wz I2 J2 R4 (n2 + 1)) ∧ (PC7_init (n2 + 1) (n2 + 1) I2 J2 R4 (fun n3 I3 J3 R5 => (wLet (up R5 l0 2 (n2 + 1)) (fun R6 => ((kK (n3 + 1) = 7 ∧ wz I3 J3 R6 (n3 + 1)) ∧ (PC7_init (n3 + 1) (n3 + 1) I3 J3 R6 (fun n4 I4 J4 R7 => (wLet (up R7 l0 3 (n3 + 1)) (fun R8 => ((kK (n4 + 1) = 4 ∧ wz I4 J4 R8 (n4 + 1)) ∧ (PC4_init (n4 + 1) (n4 + 1) I4 J4 R8 (fun n5 I5 J5 R9 => (wLet (up R9 l0 4 (n4 + 1)) (fun R10 => ((kK (n5 + 1) = 5 ∧ wz I5 J5 R10 (n5 + 1)) ∧ (PC5_init (n5 + 1) (n5 + 1) I5 J5 R10 (fun n6 I6 J6 R11 => (wLet (up R11 l0 5 (n5 + 1)) (fun R12 => ((kK (n6 + 1) = 21 ∧ kN (n6 + 1) = 6 ∧ wz I6 J6 R12 (n6 + 1)) ∧ (wLet (up R12 l0 6 (n6 + 1)) (fun R13 => ((kK ((n6 + 1) + 1) = 21 ∧ kN ((n6 + 1) + 1) = 6 ∧ wz I6 J6 R13 ((n6 + 1) + 1)) ∧ (wLet (up R13 l0 7 ((n6 + 1) + 1)) (fun R14 => ((kK (((n6 + 1) + 1) + 1) = 3 ∧ wz I6 J6 R14 (((n6 + 1) + 1) + 1)) ∧ (PC3_init (((n6 + 1) + 1) + 1) (((n6 + 1) + 1) + 1) I6 J6 R14 (fun n7 I7 J7 R15 => (wLet (up R15 l0 12 (((n6 + 1) + 1) + 1)) (fun R16 => ((kK (n7 + 1) = 3 ∧ wz I7 J7 R16 (n7 + 1)) ∧ (PC3_init (n7 + 1) (n7 + 1) I7 J7 R16 (fun n8 I8 J8 R17 => (wLet (up R17 l0 13 (n7 + 1)) (fun R18 => (wLet (up I8 l0 14 0) (fun I9 => (wLet (up I9 l0 15 (-1)) (fun I10 => (wLet (up I10 l0 16 1) (fun I11 => ((kK (n8 + 1) = 6 ∧ wz I11 J8 R18 (n8 + 1)) ∧ (kK (R18 l0 0) = 9 ∧ (kK (R18 l0 13) = 3 ∧ (PC6_init (n8 + 1) (R18 l0 0) (R18 l0 13) (n8 + 1) I11 J8 R18 (fun n9 I12 J9 R19 => (wLet (up R19 l0 8 (n8 + 1)) (fun R20 => ((kK (n9 + 1) = 1 ∧ wz I12 J9 R20 (n9 + 1)) ∧ (kK (R20 l0 1) = 8 ∧ (kK (R20 l0 12) = 3 ∧ (kK (R20 l0 2) = 7 ∧ (PC1_init (n9 + 1) (R20 l0 1) (R20 l0 12) (R20 l0 2) (n9 + 1) I12 J9 R20 (fun n10 I13 J10 R21 => (wLet (up R21 l0 9 (n9 + 1)) (fun R22 => ((kK (n10 + 1) = 0 ∧ wz I13 J10 R22 (n10 + 1)) ∧ (kK (R22 l0 9) = 1 ∧ (kK (R22 l0 1) = 8 ∧ (PC0_init (n10 + 1) (R22 l0 9) (R22 l0 1) (n10 + 1) I13 J10 R22 (fun n11 I14 J11 R23 => (wLet (up R23 l0 10 (n10 + 1)) (fun R24 => ((kK (n11 + 1) = 2 ∧ wz I14 J11 R24 (n11 + 1)) ∧ (kK (R24 l0 9) = 1 ∧ (kK (R24 l0 10) = 0 ∧ (PC2_init (n11 + 1) (R24 l0 9) (R24 l0 10) (n11 + 1) I14 J11 R24 (fun n12 I15 J12 R25 => (wLet (up R25 l0 11 (n11 + 1)) (fun R26 => (kK (R26 l0 2) = 7 ∧ (kK (R26 l0 12) = 3 ∧ (P7_begin (R26 l0 2) (R26 l0 12) I15 R26 (fun I16 => (Q n12 I16 J12 R26))))))))))))))))))))))))))))))))))))))))))))))))))))))))))))))))))))))))))))))))))))))
set_option maxRecDepth 20000 in
theorem CC11_init {ad : Nat → Nat} {n : Nat} {I J : mI} {R : mR} {Q : wPc} {l0 : Nat} (hk0 : kK l0 = 11) (hw : PC11_init l0 n I J R Q) : wMetC yX11_init cX11_init 1 4 75 157 14924 ad n I J R [vr l0] Q := by
  refine wMetC_of (by decide) rfl (Nat.le_of_ble_eq_true rfl) (fun C hC hRm hE => ?_)
  refine (show WM C ad n I J R 0 0 0 [(0, vr l0)] [] from ?_)
  unfold PC11_init at hw
  have hag0 : wAg ad ad n := wAg_rf
  have hle0 : n ≤ n := Nat.le_refl n
  refine wm_aload_n hC 0 dX11_init_0 rfl (k_ne0 hk0 (by decide)) ?_
  refine x_objInit hC hRm (k_ne0 hk0 (by decide)) oi_X11_1 oi_inst oi_code (Nat.le_of_ble_eq_true rfl) (Nat.le_of_ble_eq_true rfl) dX11_init_1 ?_
  refine wm_aload_n hC 0 dX11_init_4 rfl (k_ne0 hk0 (by decide)) ?_
  refine x_new hC hRm nl_X11_7 1 2 rfl rfl (Nat.le_of_ble_eq_true rfl) (Nat.le_of_ble_eq_true rfl) dX11_init_5 hw (fun ad1 had1 g1 hw => ?_)
  have hagad1 := wAg_tr hag0 had1 hle0
  have hlead1 := Nat.le_succ_of_le hle0
  refine wm_dup hC dX11_init_8 (k := ?_)
  refine x_callN hC hRm (CC9_init g1 hw) cn_X11_9 (k_ne0 g1 (by decide)) (Nat.le_of_ble_eq_true rfl) (Nat.le_of_ble_eq_true rfl) 2 1602 rfl rfl ⟨(Nat.le_of_ble_eq_true rfl), (Nat.le_of_ble_eq_true rfl)⟩ rfl (st := [vr (n + 1), vr l0]) rfl (Nat.le_of_ble_eq_true rfl) dX11_init_9 (fun ad2 n1 I1 J1 R1 had2 lad2 hw => ?_)
  have hagad2 := wAg_tr hagad1 had2 hlead1
  have hlead2 := Nat.le_trans hlead1 lad2
  refine x_putFR hC hE 0 fl_X11_10 rfl hk0 (fun q h => by cases h; rfl) (Or.inl ⟨_, rfl⟩) (k_lt g1 (by decide)) dX11_init_12 hw (fun R2 hw => ?_)
  refine wm_aload_n hC 0 dX11_init_15 rfl (k_ne0 hk0 (by decide)) ?_
  refine x_new hC hRm nl_X11_16 3 1604 rfl rfl (Nat.le_of_ble_eq_true rfl) (Nat.le_of_ble_eq_true rfl) dX11_init_16 hw (fun ad3 had3 g2 hw => ?_)
  have hagad3 := wAg_tr hagad2 had3 hlead2
  have hlead3 := Nat.le_succ_of_le hlead2
  refine wm_dup hC dX11_init_19 (k := ?_)
  refine x_callN hC hRm (CC8_init g2 hw) cn_X11_18 (k_ne0 g2 (by decide)) (Nat.le_of_ble_eq_true rfl) (Nat.le_of_ble_eq_true rfl) 5 1709 rfl rfl ⟨(Nat.le_of_ble_eq_true rfl), (Nat.le_of_ble_eq_true rfl)⟩ rfl (st := [vr (n1 + 1), vr l0]) rfl (Nat.le_of_ble_eq_true rfl) dX11_init_20 (fun ad4 n2 I2 J2 R3 had4 lad4 hw => ?_)
  have hagad4 := wAg_tr hagad3 had4 hlead3
  have hlead4 := Nat.le_trans hlead3 lad4
  refine x_putFR hC hE 1 fl_X11_19 rfl hk0 (fun q h => by cases h; rfl) (Or.inl ⟨_, rfl⟩) (k_lt g2 (by decide)) dX11_init_23 hw (fun R4 hw => ?_)
  refine wm_aload_n hC 0 dX11_init_26 rfl (k_ne0 hk0 (by decide)) ?_
  refine x_new hC hRm nl_X11_23 6 1716 rfl rfl (Nat.le_of_ble_eq_true rfl) (Nat.le_of_ble_eq_true rfl) dX11_init_27 hw (fun ad5 had5 g3 hw => ?_)
  have hagad5 := wAg_tr hagad4 had5 hlead4
  have hlead5 := Nat.le_succ_of_le hlead4
  refine wm_dup hC dX11_init_30 (k := ?_)
  refine x_callN hC hRm (CC7_init g3 hw) cn_X11_25 (k_ne0 g3 (by decide)) (Nat.le_of_ble_eq_true rfl) (Nat.le_of_ble_eq_true rfl) 10 1854 rfl rfl ⟨(Nat.le_of_ble_eq_true rfl), (Nat.le_of_ble_eq_true rfl)⟩ rfl (st := [vr (n2 + 1), vr l0]) rfl (Nat.le_of_ble_eq_true rfl) dX11_init_31 (fun ad6 n3 I3 J3 R5 had6 lad6 hw => ?_)
  have hagad6 := wAg_tr hagad5 had6 hlead5
  have hlead6 := Nat.le_trans hlead5 lad6
  refine x_putFR hC hE 2 fl_X11_26 rfl hk0 (fun q h => by cases h; rfl) (Or.inl ⟨_, rfl⟩) (k_lt g3 (by decide)) dX11_init_34 hw (fun R6 hw => ?_)
  refine wm_aload_n hC 0 dX11_init_37 rfl (k_ne0 hk0 (by decide)) ?_
  refine x_new hC hRm nl_X11_23 11 1861 rfl rfl (Nat.le_of_ble_eq_true rfl) (Nat.le_of_ble_eq_true rfl) dX11_init_38 hw (fun ad7 had7 g4 hw => ?_)
  have hagad7 := wAg_tr hagad6 had7 hlead6
  have hlead7 := Nat.le_succ_of_le hlead6
  refine wm_dup hC dX11_init_41 (k := ?_)
  refine x_callN hC hRm (CC7_init g4 hw) cn_X11_25 (k_ne0 g4 (by decide)) (Nat.le_of_ble_eq_true rfl) (Nat.le_of_ble_eq_true rfl) 15 1999 rfl rfl ⟨(Nat.le_of_ble_eq_true rfl), (Nat.le_of_ble_eq_true rfl)⟩ rfl (st := [vr (n3 + 1), vr l0]) rfl (Nat.le_of_ble_eq_true rfl) dX11_init_42 (fun ad8 n4 I4 J4 R7 had8 lad8 hw => ?_)
  have hagad8 := wAg_tr hagad7 had8 hlead7
  have hlead8 := Nat.le_trans hlead7 lad8
  refine x_putFR hC hE 3 fl_X11_30 rfl hk0 (fun q h => by cases h; rfl) (Or.inl ⟨_, rfl⟩) (k_lt g4 (by decide)) dX11_init_45 hw (fun R8 hw => ?_)
  refine wm_aload_n hC 0 dX11_init_48 rfl (k_ne0 hk0 (by decide)) ?_
  refine x_new hC hRm nl_X11_33 16 2002 rfl rfl (Nat.le_of_ble_eq_true rfl) (Nat.le_of_ble_eq_true rfl) dX11_init_49 hw (fun ad9 had9 g5 hw => ?_)
  have hagad9 := wAg_tr hagad8 had9 hlead8
  have hlead9 := Nat.le_succ_of_le hlead8
  refine wm_dup hC dX11_init_52 (k := ?_)
  refine x_callI hC hRm (CC4_init g5 hw) ci_X11_35 (k_ne0 g5 (by decide)) (Nat.le_of_ble_eq_true rfl) (Nat.le_of_ble_eq_true rfl) 117 4922 rfl rfl ⟨(Nat.le_of_ble_eq_true rfl), (Nat.le_of_ble_eq_true rfl)⟩ rfl (st := [vr (n4 + 1), vr l0]) rfl (Nat.le_of_ble_eq_true rfl) dX11_init_53 (fun ad10 n5 I5 J5 R9 had10 lad10 hw => ?_)
  have hagad10 := wAg_tr hagad9 had10 hlead9
  have hlead10 := Nat.le_trans hlead9 lad10
  refine x_putFR hC hE 4 fl_X11_36 rfl hk0 (fun q h => by cases h; rfl) (Or.inl ⟨_, rfl⟩) (k_lt g5 (by decide)) dX11_init_56 hw (fun R10 hw => ?_)
  refine wm_aload_n hC 0 dX11_init_59 rfl (k_ne0 hk0 (by decide)) ?_
  refine x_new hC hRm nl_X11_40 118 4924 rfl rfl (Nat.le_of_ble_eq_true rfl) (Nat.le_of_ble_eq_true rfl) dX11_init_60 hw (fun ad11 had11 g6 hw => ?_)
  have hagad11 := wAg_tr hagad10 had11 hlead10
  have hlead11 := Nat.le_succ_of_le hlead10
  refine wm_dup hC dX11_init_63 (k := ?_)
  refine x_callN hC hRm (CC5_init g6 hw) cn_X11_42 (k_ne0 g6 (by decide)) (Nat.le_of_ble_eq_true rfl) (Nat.le_of_ble_eq_true rfl) 119 4947 rfl rfl ⟨(Nat.le_of_ble_eq_true rfl), (Nat.le_of_ble_eq_true rfl)⟩ rfl (st := [vr (n5 + 1), vr l0]) rfl (Nat.le_of_ble_eq_true rfl) dX11_init_64 (fun ad12 n6 I6 J6 R11 had12 lad12 hw => ?_)
  have hagad12 := wAg_tr hagad11 had12 hlead11
  have hlead12 := Nat.le_trans hlead11 lad12
  refine x_putFR hC hE 5 fl_X11_43 rfl hk0 (fun q h => by cases h; rfl) (Or.inl ⟨_, rfl⟩) (k_lt g6 (by decide)) dX11_init_67 hw (fun R12 hw => ?_)
  refine wm_aload_n hC 0 dX11_init_70 rfl (k_ne0 hk0 (by decide)) ?_
  refine wm_bipush hC dX11_init_71 (k := ?_)
  refine x_newarr hC hRm (atype := .int) (len := 6) 1 (by decide) ac_int (by decide) 120 4953 rfl rfl (Nat.le_of_ble_eq_true rfl) (Nat.le_of_ble_eq_true rfl) dX11_init_73 hw (fun ad13 had13 g7 hw => ?_)
  have hagad13 := wAg_tr hagad12 had13 hlead12
  have hlead13 := Nat.le_succ_of_le hlead12
  refine x_putFR hC hE 6 fl_X11_47 rfl hk0 (fun q h => by cases h; rfl) (Or.inr ⟨_, rfl⟩) (k_lt g7 (by decide)) dX11_init_75 hw (fun R13 hw => ?_)
  refine wm_aload_n hC 0 dX11_init_78 rfl (k_ne0 hk0 (by decide)) ?_
  refine wm_bipush hC dX11_init_79 (k := ?_)
  refine x_newarr hC hRm (atype := .int) (len := 6) 1 (by decide) ac_int (by decide) 121 4959 rfl rfl (Nat.le_of_ble_eq_true rfl) (Nat.le_of_ble_eq_true rfl) dX11_init_81 hw (fun ad14 had14 g8 hw => ?_)
  have hagad14 := wAg_tr hagad13 had14 hlead13
  have hlead14 := Nat.le_succ_of_le hlead13
  refine x_putFR hC hE 7 fl_X11_51 rfl hk0 (fun q h => by cases h; rfl) (Or.inr ⟨_, rfl⟩) (k_lt g8 (by decide)) dX11_init_83 hw (fun R14 hw => ?_)
  refine wm_aload_n hC 0 dX11_init_86 rfl (k_ne0 hk0 (by decide)) ?_
  refine x_new hC hRm nl_X11_54 122 4971 rfl rfl (Nat.le_of_ble_eq_true rfl) (Nat.le_of_ble_eq_true rfl) dX11_init_87 hw (fun ad15 had15 g9 hw => ?_)
  have hagad15 := wAg_tr hagad14 had15 hlead14
  have hlead15 := Nat.le_succ_of_le hlead14
  refine wm_dup hC dX11_init_90 (k := ?_)
  refine x_callI hC hRm (CC3_init g9 hw) ci_X11_56 (k_ne0 g9 (by decide)) (Nat.le_of_ble_eq_true rfl) (Nat.le_of_ble_eq_true rfl) 130 6682 rfl rfl ⟨(Nat.le_of_ble_eq_true rfl), (Nat.le_of_ble_eq_true rfl)⟩ rfl (st := [vr (((n6 + 1) + 1) + 1), vr l0]) rfl (Nat.le_of_ble_eq_true rfl) dX11_init_91 (fun ad16 n7 I7 J7 R15 had16 lad16 hw => ?_)
  have hagad16 := wAg_tr hagad15 had16 hlead15
  have hlead16 := Nat.le_trans hlead15 lad16
  refine x_putR hC 12 fl_X11_57 rfl hk0 (Or.inl ⟨_, rfl⟩) (k_lt g9 (by decide)) dX11_init_94 hw (fun R16 hw => ?_)
  refine wm_aload_n hC 0 dX11_init_97 rfl (k_ne0 hk0 (by decide)) ?_
  refine x_new hC hRm nl_X11_54 131 6694 rfl rfl (Nat.le_of_ble_eq_true rfl) (Nat.le_of_ble_eq_true rfl) dX11_init_98 hw (fun ad17 had17 g10 hw => ?_)
  have hagad17 := wAg_tr hagad16 had17 hlead16
  have hlead17 := Nat.le_succ_of_le hlead16
  refine wm_dup hC dX11_init_101 (k := ?_)
  refine x_callI hC hRm (CC3_init g10 hw) ci_X11_56 (k_ne0 g10 (by decide)) (Nat.le_of_ble_eq_true rfl) (Nat.le_of_ble_eq_true rfl) 139 8405 rfl rfl ⟨(Nat.le_of_ble_eq_true rfl), (Nat.le_of_ble_eq_true rfl)⟩ rfl (st := [vr (n7 + 1), vr l0]) rfl (Nat.le_of_ble_eq_true rfl) dX11_init_102 (fun ad18 n8 I8 J8 R17 had18 lad18 hw => ?_)
  have hagad18 := wAg_tr hagad17 had18 hlead17
  have hlead18 := Nat.le_trans hlead17 lad18
  refine x_putR hC 13 fl_X11_61 rfl hk0 (Or.inl ⟨_, rfl⟩) (k_lt g10 (by decide)) dX11_init_105 hw (fun R18 hw => ?_)
  refine wm_aload_n hC 0 dX11_init_108 rfl (k_ne0 hk0 (by decide)) ?_
  refine wm_iconst hC dX11_init_109 (k := ?_)
  refine x_putI hC 14 fl_X11_64 rfl hk0 dX11_init_110 hw (fun I9 hw => ?_)
  refine wm_aload_n hC 0 dX11_init_113 rfl (k_ne0 hk0 (by decide)) ?_
  refine wm_iconst hC dX11_init_114 (k := ?_)
  refine x_putI hC 15 fl_X11_68 rfl hk0 dX11_init_115 hw (fun I10 hw => ?_)
  refine wm_aload_n hC 0 dX11_init_118 rfl (k_ne0 hk0 (by decide)) ?_
  refine wm_iconst hC dX11_init_119 (k := ?_)
  refine x_putI hC 16 fl_X11_71 rfl hk0 dX11_init_120 hw (fun I11 hw => ?_)
  refine wm_aload_n hC 0 dX11_init_123 rfl (k_ne0 hk0 (by decide)) ?_
  refine x_new hC hRm nl_X11_74 140 8413 rfl rfl (Nat.le_of_ble_eq_true rfl) (Nat.le_of_ble_eq_true rfl) dX11_init_124 hw (fun ad19 had19 g11 hw => ?_)
  have hagad19 := wAg_tr hagad18 had19 hlead18
  have hlead19 := Nat.le_succ_of_le hlead18
  refine wm_dup hC dX11_init_127 (k := ?_)
  refine wm_aload_n hC 0 dX11_init_128 rfl (k_ne0 hk0 (by decide)) ?_
  refine x_getR2 hC 0 fl_X11_10 rfl hk0 dX11_init_129 hw (fun g12 hw => ?_)
  refine wm_aload_n hC 0 dX11_init_132 rfl (k_ne0 hk0 (by decide)) ?_
  refine x_getR2 hC 13 fl_X11_61 rfl hk0 dX11_init_133 hw (fun g13 hw => ?_)
  refine x_callI hC hRm (CC6_init g11 g12 g13 hw) ci_X11_76 (k_ne0 g11 (by decide)) (Nat.le_of_ble_eq_true rfl) (Nat.le_of_ble_eq_true rfl) 144 13222 rfl rfl ⟨(Nat.le_of_ble_eq_true rfl), (Nat.le_of_ble_eq_true rfl)⟩ rfl (st := [vr (n8 + 1), vr l0]) rfl (Nat.le_of_ble_eq_true rfl) dX11_init_136 (fun ad20 n9 I12 J9 R19 had20 lad20 hw => ?_)
  have hagad20 := wAg_tr hagad19 had20 hlead19
  have hlead20 := Nat.le_trans hlead19 lad20
  refine x_putFR hC hE 8 fl_X11_79 rfl hk0 (fun q h => by cases h; rfl) (Or.inl ⟨_, rfl⟩) (k_lt g11 (by decide)) dX11_init_139 hw (fun R20 hw => ?_)
  refine wm_aload_n hC 0 dX11_init_142 rfl (k_ne0 hk0 (by decide)) ?_
  refine x_new hC hRm nl_X11_83 145 13232 rfl rfl (Nat.le_of_ble_eq_true rfl) (Nat.le_of_ble_eq_true rfl) dX11_init_143 hw (fun ad21 had21 g14 hw => ?_)
  have hagad21 := wAg_tr hagad20 had21 hlead20
  have hlead21 := Nat.le_succ_of_le hlead20
  refine wm_dup hC dX11_init_146 (k := ?_)
  refine wm_aload_n hC 0 dX11_init_147 rfl (k_ne0 hk0 (by decide)) ?_
  refine x_getR2 hC 1 fl_X11_19 rfl hk0 dX11_init_148 hw (fun g15 hw => ?_)
  refine wm_aload_n hC 0 dX11_init_151 rfl (k_ne0 hk0 (by decide)) ?_
  refine x_getR2 hC 12 fl_X11_57 rfl hk0 dX11_init_152 hw (fun g16 hw => ?_)
  refine wm_aload_n hC 0 dX11_init_155 rfl (k_ne0 hk0 (by decide)) ?_
  refine x_getR2 hC 2 fl_X11_26 rfl hk0 dX11_init_156 hw (fun g17 hw => ?_)
  refine x_callI hC hRm (CC1_init g14 g15 g16 g17 hw) ci_X11_85 (k_ne0 g14 (by decide)) (Nat.le_of_ble_eq_true rfl) (Nat.le_of_ble_eq_true rfl) 148 13460 rfl rfl ⟨(Nat.le_of_ble_eq_true rfl), (Nat.le_of_ble_eq_true rfl)⟩ rfl (st := [vr (n9 + 1), vr l0]) rfl (Nat.le_of_ble_eq_true rfl) dX11_init_159 (fun ad22 n10 I13 J10 R21 had22 lad22 hw => ?_)
  have hagad22 := wAg_tr hagad21 had22 hlead21
  have hlead22 := Nat.le_trans hlead21 lad22
  refine x_putFR hC hE 9 fl_X11_88 rfl hk0 (fun q h => by cases h; rfl) (Or.inl ⟨_, rfl⟩) (k_lt g14 (by decide)) dX11_init_162 hw (fun R22 hw => ?_)
  refine wm_aload_n hC 0 dX11_init_165 rfl (k_ne0 hk0 (by decide)) ?_
  refine x_new hC hRm nl_X11_92 149 13462 rfl rfl (Nat.le_of_ble_eq_true rfl) (Nat.le_of_ble_eq_true rfl) dX11_init_166 hw (fun ad23 had23 g18 hw => ?_)
  have hagad23 := wAg_tr hagad22 had23 hlead22
  have hlead23 := Nat.le_succ_of_le hlead22
  refine wm_dup hC dX11_init_169 (k := ?_)
  refine wm_aload_n hC 0 dX11_init_170 rfl (k_ne0 hk0 (by decide)) ?_
  refine x_getR2 hC 9 fl_X11_88 rfl hk0 dX11_init_171 hw (fun g19 hw => ?_)
  refine wm_aload_n hC 0 dX11_init_174 rfl (k_ne0 hk0 (by decide)) ?_
  refine x_getR2 hC 1 fl_X11_19 rfl hk0 dX11_init_175 hw (fun g20 hw => ?_)
  refine x_callI hC hRm (CC0_init g18 g19 g20 hw) ci_X11_94 (k_ne0 g18 (by decide)) (Nat.le_of_ble_eq_true rfl) (Nat.le_of_ble_eq_true rfl) 149 13462 rfl rfl ⟨(Nat.le_of_ble_eq_true rfl), (Nat.le_of_ble_eq_true rfl)⟩ rfl (st := [vr (n10 + 1), vr l0]) rfl (Nat.le_of_ble_eq_true rfl) dX11_init_178 (fun ad24 n11 I14 J11 R23 had24 lad24 hw => ?_)
  have hagad24 := wAg_tr hagad23 had24 hlead23
  have hlead24 := Nat.le_trans hlead23 lad24
  refine x_putFR hC hE 10 fl_X11_97 rfl hk0 (fun q h => by cases h; rfl) (Or.inl ⟨_, rfl⟩) (k_lt g18 (by decide)) dX11_init_181 hw (fun R24 hw => ?_)
  refine wm_aload_n hC 0 dX11_init_184 rfl (k_ne0 hk0 (by decide)) ?_
  refine x_new hC hRm nl_X11_101 150 13471 rfl rfl (Nat.le_of_ble_eq_true rfl) (Nat.le_of_ble_eq_true rfl) dX11_init_185 hw (fun ad25 had25 g21 hw => ?_)
  have hagad25 := wAg_tr hagad24 had25 hlead24
  have hlead25 := Nat.le_succ_of_le hlead24
  refine wm_dup hC dX11_init_188 (k := ?_)
  refine wm_aload_n hC 0 dX11_init_189 rfl (k_ne0 hk0 (by decide)) ?_
  refine x_getR2 hC 9 fl_X11_88 rfl hk0 dX11_init_190 hw (fun g22 hw => ?_)
  refine wm_aload_n hC 0 dX11_init_193 rfl (k_ne0 hk0 (by decide)) ?_
  refine x_getR2 hC 10 fl_X11_97 rfl hk0 dX11_init_194 hw (fun g23 hw => ?_)
  refine x_callI hC hRm (CC2_init g21 g22 g23 hw) ci_X11_103 (k_ne0 g21 (by decide)) (Nat.le_of_ble_eq_true rfl) (Nat.le_of_ble_eq_true rfl) 157 14924 rfl rfl ⟨(Nat.le_of_ble_eq_true rfl), (Nat.le_of_ble_eq_true rfl)⟩ rfl (st := [vr (n11 + 1), vr l0]) rfl (Nat.le_of_ble_eq_true rfl) dX11_init_197 (fun ad26 n12 I15 J12 R25 had26 lad26 hw => ?_)
  have hagad26 := wAg_tr hagad25 had26 hlead25
  have hlead26 := Nat.le_trans hlead25 lad26
  refine x_putFR hC hE 11 fl_X11_106 rfl hk0 (fun q h => by cases h; rfl) (Or.inl ⟨_, rfl⟩) (k_lt g21 (by decide)) dX11_init_200 hw (fun R26 hw => ?_)
  refine wm_aload_n hC 0 dX11_init_203 rfl (k_ne0 hk0 (by decide)) ?_
  refine x_getR2 hC 2 fl_X11_26 rfl hk0 dX11_init_204 hw (fun g24 hw => ?_)
  refine wm_aload_n hC 0 dX11_init_207 rfl (k_ne0 hk0 (by decide)) ?_
  refine x_getR2 hC 12 fl_X11_57 rfl hk0 dX11_init_208 hw (fun g25 hw => ?_)
  refine y_callV_v_I hC hRm noS ml_X11_110 g24 (C7_begin g24 g25 hw) (Nat.le_of_ble_eq_true rfl) (Nat.le_of_ble_eq_true rfl) ⟨(Nat.le_of_ble_eq_true rfl), (Nat.le_of_ble_eq_true rfl)⟩ rfl (st := []) rfl (Nat.le_of_ble_eq_true rfl) dX11_init_211 (fun I16 hw => ?_)
  exact wm_returnC hC hE hagad26 hlead26 dX11_init_214 hw
def PC12_init (l0 : Nat) (n : Nat) (I J : mI) (R : mR) (Q : wPc) : Prop := ((kK (n + 1) = 21 ∧ kN (n + 1) = 1800 ∧ wz I J R (n + 1)) ∧ (wLet (up R l0 0 (n + 1)) (fun R1 => (wLet (up I l0 1 0) (fun I1 => (wLet (up I1 l0 2 0) (fun I2 => (wLet (up I2 l0 3 0) (fun I3 => (wLet (up I3 l0 4 0) (fun I4 => (wLet (up I4 l0 5 0) (fun I5 => (wLet (up I5 l0 6 0) (fun I6 => (wLet (up J l0 7 0) (fun J1 => (wLet (up I6 l0 8 0) (fun I7 => (wLet (up I7 l0 9 (-1)) (fun I8 => (wLet (up I8 l0 10 0) (fun I9 => (wLet (up I9 l0 11 (-1)) (fun I10 => (wLet (up I10 l0 12 (-1)) (fun I11 => (wLet (up I11 l0 13 0) (fun I12 => ((kK ((n + 1) + 1) = 21 ∧ kN ((n + 1) + 1) = 2 ∧ wz I12 J1 R1 ((n + 1) + 1)) ∧ (wLet (up R1 l0 14 ((n + 1) + 1)) (fun R2 => ((kK (((n + 1) + 1) + 1) = 21 ∧ kN (((n + 1) + 1) + 1) = 36 ∧ wz I12 J1 R2 (((n + 1) + 1) + 1)) ∧ (wLet (up R2 l0 15 (((n + 1) + 1) + 1)) (fun R3 => ((kK ((((n + 1) + 1) + 1) + 1) = 21 ∧ kN ((((n + 1) + 1) + 1) + 1) = 2 ∧ wz I12 J1 R3 ((((n + 1) + 1) + 1) + 1)) ∧ (wLet (up R3 l0 16 ((((n + 1) + 1) + 1) + 1)) (fun R4 => ((kK (((((n + 1) + 1) + 1) + 1) + 1) = 21 ∧ kN (((((n + 1) + 1) + 1) + 1) + 1) = 2 ∧ wz I12 J1 R4 (((((n + 1) + 1) + 1) + 1) + 1)) ∧ (wLet (up R4 l0 17 (((((n + 1) + 1) + 1) + 1) + 1)) (fun R5 => ((kK ((((((n + 1) + 1) + 1) + 1) + 1) + 1) = 21 ∧ kN ((((((n + 1) + 1) + 1) + 1) + 1) + 1) = 36 ∧ wz I12 J1 R5 ((((((n + 1) + 1) + 1) + 1) + 1) + 1)) ∧ (wLet (up R5 l0 18 ((((((n + 1) + 1) + 1) + 1) + 1) + 1)) (fun R6 => ((kK (((((((n + 1) + 1) + 1) + 1) + 1) + 1) + 1) = 21 ∧ kN (((((((n + 1) + 1) + 1) + 1) + 1) + 1) + 1) = 12 ∧ wz I12 J1 R6 (((((((n + 1) + 1) + 1) + 1) + 1) + 1) + 1)) ∧ (wLet (up R6 l0 19 (((((((n + 1) + 1) + 1) + 1) + 1) + 1) + 1)) (fun R7 => ((kK ((((((((n + 1) + 1) + 1) + 1) + 1) + 1) + 1) + 1) = 21 ∧ kN ((((((((n + 1) + 1) + 1) + 1) + 1) + 1) + 1) + 1) = 2 ∧ wz I12 J1 R7 ((((((((n + 1) + 1) + 1) + 1) + 1) + 1) + 1) + 1)) ∧ (wLet (up R7 l0 20 ((((((((n + 1) + 1) + 1) + 1) + 1) + 1) + 1) + 1)) (fun R8 => ((kK (((((((((n + 1) + 1) + 1) + 1) + 1) + 1) + 1) + 1) + 1) = 21 ∧ kN (((((((((n + 1) + 1) + 1) + 1) + 1) + 1) + 1) + 1) + 1) = 36 ∧ wz I12 J1 R8 (((((((((n + 1) + 1) + 1) + 1) + 1) + 1) + 1) + 1) + 1)) ∧ (wLet (up R8 l0 21 (((((((((n + 1) + 1) + 1) + 1) + 1) + 1) + 1) + 1) + 1)) (fun R9 => ((kK ((((((((((n + 1) + 1) + 1) + 1) + 1) + 1) + 1) + 1) + 1) + 1) = 21 ∧ kN ((((((((((n + 1) + 1) + 1) + 1) + 1) + 1) + 1) + 1) + 1) + 1) = 12 ∧ wz I12 J1 R9 ((((((((((n + 1) + 1) + 1) + 1) + 1) + 1) + 1) + 1) + 1) + 1)) ∧ (wLet (up R9 l0 22 ((((((((((n + 1) + 1) + 1) + 1) + 1) + 1) + 1) + 1) + 1) + 1)) (fun R10 => ((kK (((((((((((n + 1) + 1) + 1) + 1) + 1) + 1) + 1) + 1) + 1) + 1) + 1) = 21 ∧ kN (((((((((((n + 1) + 1) + 1) + 1) + 1) + 1) + 1) + 1) + 1) + 1) + 1) = 12 ∧ wz I12 J1 R10 (((((((((((n + 1) + 1) + 1) + 1) + 1) + 1) + 1) + 1) + 1) + 1) + 1)) ∧ (wLet (up R10 l0 23 (((((((((((n + 1) + 1) + 1) + 1) + 1) + 1) + 1) + 1) + 1) + 1) + 1)) (fun R11 => ((kK ((((((((((((n + 1) + 1) + 1) + 1) + 1) + 1) + 1) + 1) + 1) + 1) + 1) + 1) = 21 ∧ kN ((((((((((((n + 1) + 1) + 1) + 1) + 1) + 1) + 1) + 1) + 1) + 1) + 1) + 1) = 2 ∧ wz I12 J1 R11 ((((((((((((n + 1) + 1) + 1) + 1) + 1) + 1) + 1) + 1) + 1) + 1) + 1) + 1)) ∧ (wLet (up R11 l0 24 ((((((((((((n + 1) + 1) + 1) + 1) + 1) + 1) + 1) + 1) + 1) + 1) + 1) + 1)) (fun R12 => ((kK (((((((((((((n + 1) + 1) + 1) + 1) + 1) + 1) + 1) + 1) + 1) + 1) + 1) + 1) + 1) = 21 ∧ kN (((((((((((((n + 1) + 1) + 1) + 1) + 1) + 1) + 1) + 1) + 1) + 1) + 1) + 1) + 1) = 2 ∧ wz I12 J1 R12 (((((((((((((n + 1) + 1) + 1) + 1) + 1) + 1) + 1) + 1) + 1) + 1) + 1) + 1) + 1)) ∧ (wLet (up R12 l0 25 (((((((((((((n + 1) + 1) + 1) + 1) + 1) + 1) + 1) + 1) + 1) + 1) + 1) + 1) + 1)) (fun R13 => ((kK ((((((((((((((n + 1) + 1) + 1) + 1) + 1) + 1) + 1) + 1) + 1) + 1) + 1) + 1) + 1) + 1) = 21 ∧ kN ((((((((((((((n + 1) + 1) + 1) + 1) + 1) + 1) + 1) + 1) + 1) + 1) + 1) + 1) + 1) + 1) = 6 ∧ wz I12 J1 R13 ((((((((((((((n + 1) + 1) + 1) + 1) + 1) + 1) + 1) + 1) + 1) + 1) + 1) + 1) + 1) + 1)) ∧ (wLet (up R13 l0 26 ((((((((((((((n + 1) + 1) + 1) + 1) + 1) + 1) + 1) + 1) + 1) + 1) + 1) + 1) + 1) + 1)) (fun R14 => ((kK (((((((((((((((n + 1) + 1) + 1) + 1) + 1) + 1) + 1) + 1) + 1) + 1) + 1) + 1) + 1) + 1) + 1) = 21 ∧ kN (((((((((((((((n + 1) + 1) + 1) + 1) + 1) + 1) + 1) + 1) + 1) + 1) + 1) + 1) + 1) + 1) + 1) = 6 ∧ wz I12 J1 R14 (((((((((((((((n + 1) + 1) + 1) + 1) + 1) + 1) + 1) + 1) + 1) + 1) + 1) + 1) + 1) + 1) + 1)) ∧ (wLet (up R14 l0 27 (((((((((((((((n + 1) + 1) + 1) + 1) + 1) + 1) + 1) + 1) + 1) + 1) + 1) + 1) + 1) + 1) + 1)) (fun R15 => ((kK ((((((((((((((((n + 1) + 1) + 1) + 1) + 1) + 1) + 1) + 1) + 1) + 1) + 1) + 1) + 1) + 1) + 1) + 1) = 21 ∧ kN ((((((((((((((((n + 1) + 1) + 1) + 1) + 1) + 1) + 1) + 1) + 1) + 1) + 1) + 1) + 1) + 1) + 1) + 1) = 3200 ∧ wz I12 J1 R15 ((((((((((((((((n + 1) + 1) + 1) + 1) + 1) + 1) + 1) + 1) + 1) + 1) + 1) + 1) + 1) + 1) + 1) + 1)) ∧ (wLet (up R15 l0 28 ((((((((((((((((n + 1) + 1) + 1) + 1) + 1) + 1) + 1) + 1) + 1) + 1) + 1) + 1) + 1) + 1) + 1) + 1)) (fun R16 => ((kK (((((((((((((((((n + 1) + 1) + 1) + 1) + 1) + 1) + 1) + 1) + 1) + 1) + 1) + 1) + 1) + 1) + 1) + 1) + 1) = 21 ∧ kN (((((((((((((((((n + 1) + 1) + 1) + 1) + 1) + 1) + 1) + 1) + 1) + 1) + 1) + 1) + 1) + 1) + 1) + 1) + 1) = 3200 ∧ wz I12 J1 R16 (((((((((((((((((n + 1) + 1) + 1) + 1) + 1) + 1) + 1) + 1) + 1) + 1) + 1) + 1) + 1) + 1) + 1) + 1) + 1)) ∧ (wLet (up R16 l0 29 (((((((((((((((((n + 1) + 1) + 1) + 1) + 1) + 1) + 1) + 1) + 1) + 1) + 1) + 1) + 1) + 1) + 1) + 1) + 1)) (fun R17 => ((kK ((((((((((((((((((n + 1) + 1) + 1) + 1) + 1) + 1) + 1) + 1) + 1) + 1) + 1) + 1) + 1) + 1) + 1) + 1) + 1) + 1) = 22 ∧ kN ((((((((((((((((((n + 1) + 1) + 1) + 1) + 1) + 1) + 1) + 1) + 1) + 1) + 1) + 1) + 1) + 1) + 1) + 1) + 1) + 1) = 36 ∧ wz I12 J1 R17 ((((((((((((((((((n + 1) + 1) + 1) + 1) + 1) + 1) + 1) + 1) + 1) + 1) + 1) + 1) + 1) + 1) + 1) + 1) + 1) + 1)) ∧ (wLet (up R17 l0 30 ((((((((((((((((((n + 1) + 1) + 1) + 1) + 1) + 1) + 1) + 1) + 1) + 1) + 1) + 1) + 1) + 1) + 1) + 1) + 1) + 1)) (fun R18 => (wLet (up I12 l0 31 0) (fun I13 => (wLet (up I13 l0 32 1) (fun I14 => (wLet (up I14 l0 33 0) (fun I15 => ((kK (((((((((((((((((((n + 1) + 1) + 1) + 1) + 1) + 1) + 1) + 1) + 1) + 1) + 1) + 1) + 1) + 1) + 1) + 1) + 1) + 1) + 1) = 21 ∧ kN (((((((((((((((((((n + 1) + 1) + 1) + 1) + 1) + 1) + 1) + 1) + 1) + 1) + 1) + 1) + 1) + 1) + 1) + 1) + 1) + 1) + 1) = 20 ∧ wz I15 J1 R18 (((((((((((((((((((n + 1) + 1) + 1) + 1) + 1) + 1) + 1) + 1) + 1) + 1) + 1) + 1) + 1) + 1) + 1) + 1) + 1) + 1) + 1)) ∧ (wLet (up R18 l0 34 (((((((((((((((((((n + 1) + 1) + 1) + 1) + 1) + 1) + 1) + 1) + 1) + 1) + 1) + 1) + 1) + 1) + 1) + 1) + 1) + 1) + 1)) (fun R19 => ((kK ((((((((((((((((((((n + 1) + 1) + 1) + 1) + 1) + 1) + 1) + 1) + 1) + 1) + 1) + 1) + 1) + 1) + 1) + 1) + 1) + 1) + 1) + 1) = 21 ∧ kN ((((((((((((((((((((n + 1) + 1) + 1) + 1) + 1) + 1) + 1) + 1) + 1) + 1) + 1) + 1) + 1) + 1) + 1) + 1) + 1) + 1) + 1) + 1) = 20 ∧ wz I15 J1 R19 ((((((((((((((((((((n + 1) + 1) + 1) + 1) + 1) + 1) + 1) + 1) + 1) + 1) + 1) + 1) + 1) + 1) + 1) + 1) + 1) + 1) + 1) + 1)) ∧ (wLet (up R19 l0 35 ((((((((((((((((((((n + 1) + 1) + 1) + 1) + 1) + 1) + 1) + 1) + 1) + 1) + 1) + 1) + 1) + 1) + 1) + 1) + 1) + 1) + 1) + 1)) (fun R20 => ((kK (((((((((((((((((((((n + 1) + 1) + 1) + 1) + 1) + 1) + 1) + 1) + 1) + 1) + 1) + 1) + 1) + 1) + 1) + 1) + 1) + 1) + 1) + 1) + 1) = 23 ∧ kN (((((((((((((((((((((n + 1) + 1) + 1) + 1) + 1) + 1) + 1) + 1) + 1) + 1) + 1) + 1) + 1) + 1) + 1) + 1) + 1) + 1) + 1) + 1) + 1) = 20 ∧ wz I15 J1 R20 (((((((((((((((((((((n + 1) + 1) + 1) + 1) + 1) + 1) + 1) + 1) + 1) + 1) + 1) + 1) + 1) + 1) + 1) + 1) + 1) + 1) + 1) + 1) + 1)) ∧ (wLet (up R20 l0 36 (((((((((((((((((((((n + 1) + 1) + 1) + 1) + 1) + 1) + 1) + 1) + 1) + 1) + 1) + 1) + 1) + 1) + 1) + 1) + 1) + 1) + 1) + 1) + 1)) (fun R21 => ((kK ((((((((((((((((((((((n + 1) + 1) + 1) + 1) + 1) + 1) + 1) + 1) + 1) + 1) + 1) + 1) + 1) + 1) + 1) + 1) + 1) + 1) + 1) + 1) + 1) + 1) = 21 ∧ kN ((((((((((((((((((((((n + 1) + 1) + 1) + 1) + 1) + 1) + 1) + 1) + 1) + 1) + 1) + 1) + 1) + 1) + 1) + 1) + 1) + 1) + 1) + 1) + 1) + 1) = 20 ∧ wz I15 J1 R21 ((((((((((((((((((((((n + 1) + 1) + 1) + 1) + 1) + 1) + 1) + 1) + 1) + 1) + 1) + 1) + 1) + 1) + 1) + 1) + 1) + 1) + 1) + 1) + 1) + 1)) ∧ (wLet (up R21 l0 37 ((((((((((((((((((((((n + 1) + 1) + 1) + 1) + 1) + 1) + 1) + 1) + 1) + 1) + 1) + 1) + 1) + 1) + 1) + 1) + 1) + 1) + 1) + 1) + 1) + 1)) (fun R22 => ((kK (((((((((((((((((((((((n + 1) + 1) + 1) + 1) + 1) + 1) + 1) + 1) + 1) + 1) + 1) + 1) + 1) + 1) + 1) + 1) + 1) + 1) + 1) + 1) + 1) + 1) + 1) = 21 ∧ kN (((((((((((((((((((((((n + 1) + 1) + 1) + 1) + 1) + 1) + 1) + 1) + 1) + 1) + 1) + 1) + 1) + 1) + 1) + 1) + 1) + 1) + 1) + 1) + 1) + 1) + 1) = 20 ∧ wz I15 J1 R22 (((((((((((((((((((((((n + 1) + 1) + 1) + 1) + 1) + 1) + 1) + 1) + 1) + 1) + 1) + 1) + 1) + 1) + 1) + 1) + 1) + 1) + 1) + 1) + 1) + 1) + 1)) ∧ (wLet (up R22 l0 38 (((((((((((((((((((((((n + 1) + 1) + 1) + 1) + 1) + 1) + 1) + 1) + 1) + 1) + 1) + 1) + 1) + 1) + 1) + 1) + 1) + 1) + 1) + 1) + 1) + 1) + 1)) (fun R23 => (wLet (up I15 l0 39 0) (fun I16 => (wLet (up I16 l0 40 0) (fun I17 => ((kK ((((((((((((((((((((((((n + 1) + 1) + 1) + 1) + 1) + 1) + 1) + 1) + 1) + 1) + 1) + 1) + 1) + 1) + 1) + 1) + 1) + 1) + 1) + 1) + 1) + 1) + 1) + 1) = 21 ∧ kN ((((((((((((((((((((((((n + 1) + 1) + 1) + 1) + 1) + 1) + 1) + 1) + 1) + 1) + 1) + 1) + 1) + 1) + 1) + 1) + 1) + 1) + 1) + 1) + 1) + 1) + 1) + 1) = 500 ∧ wz I17 J1 R23 ((((((((((((((((((((((((n + 1) + 1) + 1) + 1) + 1) + 1) + 1) + 1) + 1) + 1) + 1) + 1) + 1) + 1) + 1) + 1) + 1) + 1) + 1) + 1) + 1) + 1) + 1) + 1)) ∧ (wLet (up R23 l0 41 ((((((((((((((((((((((((n + 1) + 1) + 1) + 1) + 1) + 1) + 1) + 1) + 1) + 1) + 1) + 1) + 1) + 1) + 1) + 1) + 1) + 1) + 1) + 1) + 1) + 1) + 1) + 1)) (fun R24 => (wLet (up I17 l0 42 0) (fun I18 => (wLet (up I18 l0 43 0) (fun I19 => ((kK (((((((((((((((((((((((((n + 1) + 1) + 1) + 1) + 1) + 1) + 1) + 1) + 1) + 1) + 1) + 1) + 1) + 1) + 1) + 1) + 1) + 1) + 1) + 1) + 1) + 1) + 1) + 1) + 1) = 21 ∧ kN (((((((((((((((((((((((((n + 1) + 1) + 1) + 1) + 1) + 1) + 1) + 1) + 1) + 1) + 1) + 1) + 1) + 1) + 1) + 1) + 1) + 1) + 1) + 1) + 1) + 1) + 1) + 1) + 1) = 6 ∧ wz I19 J1 R24 (((((((((((((((((((((((((n + 1) + 1) + 1) + 1) + 1) + 1) + 1) + 1) + 1) + 1) + 1) + 1) + 1) + 1) + 1) + 1) + 1) + 1) + 1) + 1) + 1) + 1) + 1) + 1) + 1)) ∧ (wLet (up R24 l0 44 (((((((((((((((((((((((((n + 1) + 1) + 1) + 1) + 1) + 1) + 1) + 1) + 1) + 1) + 1) + 1) + 1) + 1) + 1) + 1) + 1) + 1) + 1) + 1) + 1) + 1) + 1) + 1) + 1)) (fun R25 => ((kK ((((((((((((((((((((((((((n + 1) + 1) + 1) + 1) + 1) + 1) + 1) + 1) + 1) + 1) + 1) + 1) + 1) + 1) + 1) + 1) + 1) + 1) + 1) + 1) + 1) + 1) + 1) + 1) + 1) + 1) = 21 ∧ kN ((((((((((((((((((((((((((n + 1) + 1) + 1) + 1) + 1) + 1) + 1) + 1) + 1) + 1) + 1) + 1) + 1) + 1) + 1) + 1) + 1) + 1) + 1) + 1) + 1) + 1) + 1) + 1) + 1) + 1) = 22 ∧ wz I19 J1 R25 ((((((((((((((((((((((((((n + 1) + 1) + 1) + 1) + 1) + 1) + 1) + 1) + 1) + 1) + 1) + 1) + 1) + 1) + 1) + 1) + 1) + 1) + 1) + 1) + 1) + 1) + 1) + 1) + 1) + 1)) ∧ (wLet (up R25 l0 45 ((((((((((((((((((((((((((n + 1) + 1) + 1) + 1) + 1) + 1) + 1) + 1) + 1) + 1) + 1) + 1) + 1) + 1) + 1) + 1) + 1) + 1) + 1) + 1) + 1) + 1) + 1) + 1) + 1) + 1)) (fun R26 => ((kK (((((((((((((((((((((((((((n + 1) + 1) + 1) + 1) + 1) + 1) + 1) + 1) + 1) + 1) + 1) + 1) + 1) + 1) + 1) + 1) + 1) + 1) + 1) + 1) + 1) + 1) + 1) + 1) + 1) + 1) + 1) = 21 ∧ kN (((((((((((((((((((((((((((n + 1) + 1) + 1) + 1) + 1) + 1) + 1) + 1) + 1) + 1) + 1) + 1) + 1) + 1) + 1) + 1) + 1) + 1) + 1) + 1) + 1) + 1) + 1) + 1) + 1) + 1) + 1) = 22 ∧ wz I19 J1 R26 (((((((((((((((((((((((((((n + 1) + 1) + 1) + 1) + 1) + 1) + 1) + 1) + 1) + 1) + 1) + 1) + 1) + 1) + 1) + 1) + 1) + 1) + 1) + 1) + 1) + 1) + 1) + 1) + 1) + 1) + 1)) ∧ (wLet (up R26 l0 46 (((((((((((((((((((((((((((n + 1) + 1) + 1) + 1) + 1) + 1) + 1) + 1) + 1) + 1) + 1) + 1) + 1) + 1) + 1) + 1) + 1) + 1) + 1) + 1) + 1) + 1) + 1) + 1) + 1) + 1) + 1)) (fun R27 => ((kK ((((((((((((((((((((((((((((n + 1) + 1) + 1) + 1) + 1) + 1) + 1) + 1) + 1) + 1) + 1) + 1) + 1) + 1) + 1) + 1) + 1) + 1) + 1) + 1) + 1) + 1) + 1) + 1) + 1) + 1) + 1) + 1) = 21 ∧ kN ((((((((((((((((((((((((((((n + 1) + 1) + 1) + 1) + 1) + 1) + 1) + 1) + 1) + 1) + 1) + 1) + 1) + 1) + 1) + 1) + 1) + 1) + 1) + 1) + 1) + 1) + 1) + 1) + 1) + 1) + 1) + 1) = 132 ∧ wz I19 J1 R27 ((((((((((((((((((((((((((((n + 1) + 1) + 1) + 1) + 1) + 1) + 1) + 1) + 1) + 1) + 1) + 1) + 1) + 1) + 1) + 1) + 1) + 1) + 1) + 1) + 1) + 1) + 1) + 1) + 1) + 1) + 1) + 1)) ∧ (wLet (up R27 l0 47 ((((((((((((((((((((((((((((n + 1) + 1) + 1) + 1) + 1) + 1) + 1) + 1) + 1) + 1) + 1) + 1) + 1) + 1) + 1) + 1) + 1) + 1) + 1) + 1) + 1) + 1) + 1) + 1) + 1) + 1) + 1) + 1)) (fun R28 => ((kK (((((((((((((((((((((((((((((n + 1) + 1) + 1) + 1) + 1) + 1) + 1) + 1) + 1) + 1) + 1) + 1) + 1) + 1) + 1) + 1) + 1) + 1) + 1) + 1) + 1) + 1) + 1) + 1) + 1) + 1) + 1) + 1) + 1) = 21 ∧ kN (((((((((((((((((((((((((((((n + 1) + 1) + 1) + 1) + 1) + 1) + 1) + 1) + 1) + 1) + 1) + 1) + 1) + 1) + 1) + 1) + 1) + 1) + 1) + 1) + 1) + 1) + 1) + 1) + 1) + 1) + 1) + 1) + 1) = 132 ∧ wz I19 J1 R28 (((((((((((((((((((((((((((((n + 1) + 1) + 1) + 1) + 1) + 1) + 1) + 1) + 1) + 1) + 1) + 1) + 1) + 1) + 1) + 1) + 1) + 1) + 1) + 1) + 1) + 1) + 1) + 1) + 1) + 1) + 1) + 1) + 1)) ∧ (wLet (up R28 l0 48 (((((((((((((((((((((((((((((n + 1) + 1) + 1) + 1) + 1) + 1) + 1) + 1) + 1) + 1) + 1) + 1) + 1) + 1) + 1) + 1) + 1) + 1) + 1) + 1) + 1) + 1) + 1) + 1) + 1) + 1) + 1) + 1) + 1)) (fun R29 => ((kK ((((((((((((((((((((((((((((((n + 1) + 1) + 1) + 1) + 1) + 1) + 1) + 1) + 1) + 1) + 1) + 1) + 1) + 1) + 1) + 1) + 1) + 1) + 1) + 1) + 1) + 1) + 1) + 1) + 1) + 1) + 1) + 1) + 1) + 1) = 21 ∧ kN ((((((((((((((((((((((((((((((n + 1) + 1) + 1) + 1) + 1) + 1) + 1) + 1) + 1) + 1) + 1) + 1) + 1) + 1) + 1) + 1) + 1) + 1) + 1) + 1) + 1) + 1) + 1) + 1) + 1) + 1) + 1) + 1) + 1) + 1) = 132 ∧ wz I19 J1 R29 ((((((((((((((((((((((((((((((n + 1) + 1) + 1) + 1) + 1) + 1) + 1) + 1) + 1) + 1) + 1) + 1) + 1) + 1) + 1) + 1) + 1) + 1) + 1) + 1) + 1) + 1) + 1) + 1) + 1) + 1) + 1) + 1) + 1) + 1)) ∧ (wLet (up R29 l0 49 ((((((((((((((((((((((((((((((n + 1) + 1) + 1) + 1) + 1) + 1) + 1) + 1) + 1) + 1) + 1) + 1) + 1) + 1) + 1) + 1) + 1) + 1) + 1) + 1) + 1) + 1) + 1) + 1) + 1) + 1) + 1) + 1) + 1) + 1)) (fun R30 => ((kK (((((((((((((((((((((((((((((((n + 1) + 1) + 1) + 1) + 1) + 1) + 1) + 1) + 1) + 1) + 1) + 1) + 1) + 1) + 1) + 1) + 1) + 1) + 1) + 1) + 1) + 1) + 1) + 1) + 1) + 1) + 1) + 1) + 1) + 1) + 1) = 21 ∧ kN (((((((((((((((((((((((((((((((n + 1) + 1) + 1) + 1) + 1) + 1) + 1) + 1) + 1) + 1) + 1) + 1) + 1) + 1) + 1) + 1) + 1) + 1) + 1) + 1) + 1) + 1) + 1) + 1) + 1) + 1) + 1) + 1) + 1) + 1) + 1) = 22 ∧ wz I19 J1 R30 (((((((((((((((((((((((((((((((n + 1) + 1) + 1) + 1) + 1) + 1) + 1) + 1) + 1) + 1) + 1) + 1) + 1) + 1) + 1) + 1) + 1) + 1) + 1) + 1) + 1) + 1) + 1) + 1) + 1) + 1) + 1) + 1) + 1) + 1) + 1)) ∧ (wLet (up R30 l0 50 (((((((((((((((((((((((((((((((n + 1) + 1) + 1) + 1) + 1) + 1) + 1) + 1) + 1) + 1) + 1) + 1) + 1) + 1) + 1) + 1) + 1) + 1) + 1) + 1) + 1) + 1) + 1) + 1) + 1) + 1) + 1) + 1) + 1) + 1) + 1)) (fun R31 => ((kK ((((((((((((((((((((((((((((((((n + 1) + 1) + 1) + 1) + 1) + 1) + 1) + 1) + 1) + 1) + 1) + 1) + 1) + 1) + 1) + 1) + 1) + 1) + 1) + 1) + 1) + 1) + 1) + 1) + 1) + 1) + 1) + 1) + 1) + 1) + 1) + 1) = 21 ∧ kN ((((((((((((((((((((((((((((((((n + 1) + 1) + 1) + 1) + 1) + 1) + 1) + 1) + 1) + 1) + 1) + 1) + 1) + 1) + 1) + 1) + 1) + 1) + 1) + 1) + 1) + 1) + 1) + 1) + 1) + 1) + 1) + 1) + 1) + 1) + 1) + 1) = 2640 ∧ wz I19 J1 R31 ((((((((((((((((((((((((((((((((n + 1) + 1) + 1) + 1) + 1) + 1) + 1) + 1) + 1) + 1) + 1) + 1) + 1) + 1) + 1) + 1) + 1) + 1) + 1) + 1) + 1) + 1) + 1) + 1) + 1) + 1) + 1) + 1) + 1) + 1) + 1) + 1)) ∧ (wLet (up R31 l0 51 ((((((((((((((((((((((((((((((((n + 1) + 1) + 1) + 1) + 1) + 1) + 1) + 1) + 1) + 1) + 1) + 1) + 1) + 1) + 1) + 1) + 1) + 1) + 1) + 1) + 1) + 1) + 1) + 1) + 1) + 1) + 1) + 1) + 1) + 1) + 1) + 1)) (fun R32 => (wLet (up I19 l0 52 0) (fun I20 => (wLet (up I20 l0 53 0) (fun I21 => (wLet (up J1 l0 54 1) (fun J2 => ((kK (((((((((((((((((((((((((((((((((n + 1) + 1) + 1) + 1) + 1) + 1) + 1) + 1) + 1) + 1) + 1) + 1) + 1) + 1) + 1) + 1) + 1) + 1) + 1) + 1) + 1) + 1) + 1) + 1) + 1) + 1) + 1) + 1) + 1) + 1) + 1) + 1) + 1) = 21 ∧ kN (((((((((((((((((((((((((((((((((n + 1) + 1) + 1) + 1) + 1) + 1) + 1) + 1) + 1) + 1) + 1) + 1) + 1) + 1) + 1) + 1) + 1) + 1) + 1) + 1) + 1) + 1) + 1) + 1) + 1) + 1) + 1) + 1) + 1) + 1) + 1) + 1) + 1) = 18 ∧ wz I21 J2 R32 (((((((((((((((((((((((((((((((((n + 1) + 1) + 1) + 1) + 1) + 1) + 1) + 1) + 1) + 1) + 1) + 1) + 1) + 1) + 1) + 1) + 1) + 1) + 1) + 1) + 1) + 1) + 1) + 1) + 1) + 1) + 1) + 1) + 1) + 1) + 1) + 1) + 1)) ∧ (wLet (up R32 l0 55 (((((((((((((((((((((((((((((((((n + 1) + 1) + 1) + 1) + 1) + 1) + 1) + 1) + 1) + 1) + 1) + 1) + 1) + 1) + 1) + 1) + 1) + 1) + 1) + 1) + 1) + 1) + 1) + 1) + 1) + 1) + 1) + 1) + 1) + 1) + 1) + 1) + 1)) (fun R33 => ((kK ((((((((((((((((((((((((((((((((((n + 1) + 1) + 1) + 1) + 1) + 1) + 1) + 1) + 1) + 1) + 1) + 1) + 1) + 1) + 1) + 1) + 1) + 1) + 1) + 1) + 1) + 1) + 1) + 1) + 1) + 1) + 1) + 1) + 1) + 1) + 1) + 1) + 1) + 1) = 22 ∧ kN ((((((((((((((((((((((((((((((((((n + 1) + 1) + 1) + 1) + 1) + 1) + 1) + 1) + 1) + 1) + 1) + 1) + 1) + 1) + 1) + 1) + 1) + 1) + 1) + 1) + 1) + 1) + 1) + 1) + 1) + 1) + 1) + 1) + 1) + 1) + 1) + 1) + 1) + 1) = 500 ∧ wz I21 J2 R33 ((((((((((((((((((((((((((((((((((n + 1) + 1) + 1) + 1) + 1) + 1) + 1) + 1) + 1) + 1) + 1) + 1) + 1) + 1) + 1) + 1) + 1) + 1) + 1) + 1) + 1) + 1) + 1) + 1) + 1) + 1) + 1) + 1) + 1) + 1) + 1) + 1) + 1) + 1)) ∧ (wLet (up R33 l0 56 ((((((((((((((((((((((((((((((((((n + 1) + 1) + 1) + 1) + 1) + 1) + 1) + 1) + 1) + 1) + 1) + 1) + 1) + 1) + 1) + 1) + 1) + 1) + 1) + 1) + 1) + 1) + 1) + 1) + 1) + 1) + 1) + 1) + 1) + 1) + 1) + 1) + 1) + 1)) (fun R34 => ((kK (((((((((((((((((((((((((((((((((((n + 1) + 1) + 1) + 1) + 1) + 1) + 1) + 1) + 1) + 1) + 1) + 1) + 1) + 1) + 1) + 1) + 1) + 1) + 1) + 1) + 1) + 1) + 1) + 1) + 1) + 1) + 1) + 1) + 1) + 1) + 1) + 1) + 1) + 1) + 1) = 21 ∧ kN (((((((((((((((((((((((((((((((((((n + 1) + 1) + 1) + 1) + 1) + 1) + 1) + 1) + 1) + 1) + 1) + 1) + 1) + 1) + 1) + 1) + 1) + 1) + 1) + 1) + 1) + 1) + 1) + 1) + 1) + 1) + 1) + 1) + 1) + 1) + 1) + 1) + 1) + 1) + 1) = 12 ∧ wz I21 J2 R34 (((((((((((((((((((((((((((((((((((n + 1) + 1) + 1) + 1) + 1) + 1) + 1) + 1) + 1) + 1) + 1) + 1) + 1) + 1) + 1) + 1) + 1) + 1) + 1) + 1) + 1) + 1) + 1) + 1) + 1) + 1) + 1) + 1) + 1) + 1) + 1) + 1) + 1) + 1) + 1)) ∧ (wLet (up R34 l0 57 (((((((((((((((((((((((((((((((((((n + 1) + 1) + 1) + 1) + 1) + 1) + 1) + 1) + 1) + 1) + 1) + 1) + 1) + 1) + 1) + 1) + 1) + 1) + 1) + 1) + 1) + 1) + 1) + 1) + 1) + 1) + 1) + 1) + 1) + 1) + 1) + 1) + 1) + 1) + 1)) (fun R35 => ((kK ((((((((((((((((((((((((((((((((((((n + 1) + 1) + 1) + 1) + 1) + 1) + 1) + 1) + 1) + 1) + 1) + 1) + 1) + 1) + 1) + 1) + 1) + 1) + 1) + 1) + 1) + 1) + 1) + 1) + 1) + 1) + 1) + 1) + 1) + 1) + 1) + 1) + 1) + 1) + 1) + 1) = 21 ∧ kN ((((((((((((((((((((((((((((((((((((n + 1) + 1) + 1) + 1) + 1) + 1) + 1) + 1) + 1) + 1) + 1) + 1) + 1) + 1) + 1) + 1) + 1) + 1) + 1) + 1) + 1) + 1) + 1) + 1) + 1) + 1) + 1) + 1) + 1) + 1) + 1) + 1) + 1) + 1) + 1) + 1) = 6 ∧ wz I21 J2 R35 ((((((((((((((((((((((((((((((((((((n + 1) + 1) + 1) + 1) + 1) + 1) + 1) + 1) + 1) + 1) + 1) + 1) + 1) + 1) + 1) + 1) + 1) + 1) + 1) + 1) + 1) + 1) + 1) + 1) + 1) + 1) + 1) + 1) + 1) + 1) + 1) + 1) + 1) + 1) + 1) + 1)) ∧ (wLet (up R35 l0 58 ((((((((((((((((((((((((((((((((((((n + 1) + 1) + 1) + 1) + 1) + 1) + 1) + 1) + 1) + 1) + 1) + 1) + 1) + 1) + 1) + 1) + 1) + 1) + 1) + 1) + 1) + 1) + 1) + 1) + 1) + 1) + 1) + 1) + 1) + 1) + 1) + 1) + 1) + 1) + 1) + 1)) (fun R36 => ((kK (((((((((((((((((((((((((((((((((((((n + 1) + 1) + 1) + 1) + 1) + 1) + 1) + 1) + 1) + 1) + 1) + 1) + 1) + 1) + 1) + 1) + 1) + 1) + 1) + 1) + 1) + 1) + 1) + 1) + 1) + 1) + 1) + 1) + 1) + 1) + 1) + 1) + 1) + 1) + 1) + 1) + 1) = 21 ∧ kN (((((((((((((((((((((((((((((((((((((n + 1) + 1) + 1) + 1) + 1) + 1) + 1) + 1) + 1) + 1) + 1) + 1) + 1) + 1) + 1) + 1) + 1) + 1) + 1) + 1) + 1) + 1) + 1) + 1) + 1) + 1) + 1) + 1) + 1) + 1) + 1) + 1) + 1) + 1) + 1) + 1) + 1) = 6 ∧ wz I21 J2 R36 (((((((((((((((((((((((((((((((((((((n + 1) + 1) + 1) + 1) + 1) + 1) + 1) + 1) + 1) + 1) + 1) + 1) + 1) + 1) + 1) + 1) + 1) + 1) + 1) + 1) + 1) + 1) + 1) + 1) + 1) + 1) + 1) + 1) + 1) + 1) + 1) + 1) + 1) + 1) + 1) + 1) + 1)) ∧ (wLet (up R36 l0 59 (((((((((((((((((((((((((((((((((((((n + 1) + 1) + 1) + 1) + 1) + 1) + 1) + 1) + 1) + 1) + 1) + 1) + 1) + 1) + 1) + 1) + 1) + 1) + 1) + 1) + 1) + 1) + 1) + 1) + 1) + 1) + 1) + 1) + 1) + 1) + 1) + 1) + 1) + 1) + 1) + 1) + 1)) (fun R37 => ((kK ((((((((((((((((((((((((((((((((((((((n + 1) + 1) + 1) + 1) + 1) + 1) + 1) + 1) + 1) + 1) + 1) + 1) + 1) + 1) + 1) + 1) + 1) + 1) + 1) + 1) + 1) + 1) + 1) + 1) + 1) + 1) + 1) + 1) + 1) + 1) + 1) + 1) + 1) + 1) + 1) + 1) + 1) + 1) = 21 ∧ kN ((((((((((((((((((((((((((((((((((((((n + 1) + 1) + 1) + 1) + 1) + 1) + 1) + 1) + 1) + 1) + 1) + 1) + 1) + 1) + 1) + 1) + 1) + 1) + 1) + 1) + 1) + 1) + 1) + 1) + 1) + 1) + 1) + 1) + 1) + 1) + 1) + 1) + 1) + 1) + 1) + 1) + 1) + 1) = 6 ∧ wz I21 J2 R37 ((((((((((((((((((((((((((((((((((((((n + 1) + 1) + 1) + 1) + 1) + 1) + 1) + 1) + 1) + 1) + 1) + 1) + 1) + 1) + 1) + 1) + 1) + 1) + 1) + 1) + 1) + 1) + 1) + 1) + 1) + 1) + 1) + 1) + 1) + 1) + 1) + 1) + 1) + 1) + 1) + 1) + 1) + 1)) ∧ (wLet (up R37 l0 60 ((((((((((((((((((((((((((((((((((((((n + 1) + 1) + 1) + 1) + 1) + 1) + 1) + 1) + 1) + 1) + 1) + 1) + 1) + 1) + 1) + 1) + 1) + 1) + 1) + 1) + 1) + 1) + 1) + 1) + 1) + 1) + 1) + 1) + 1) + 1) + 1) + 1) + 1) + 1) + 1) + 1) + 1) + 1)) (fun R38 => ((kK (((((((((((((((((((((((((((((((((((((((n + 1) + 1) + 1) + 1) + 1) + 1) + 1) + 1) + 1) + 1) + 1) + 1) + 1) + 1) + 1) + 1) + 1) + 1) + 1) + 1) + 1) + 1) + 1) + 1) + 1) + 1) + 1) + 1) + 1) + 1) + 1) + 1) + 1) + 1) + 1) + 1) + 1) + 1) + 1) = 21 ∧ kN (((((((((((((((((((((((((((((((((((((((n + 1) + 1) + 1) + 1) + 1) + 1) + 1) + 1) + 1) + 1) + 1) + 1) + 1) + 1) + 1) + 1) + 1) + 1) + 1) + 1) + 1) + 1) + 1) + 1) + 1) + 1) + 1) + 1) + 1) + 1) + 1) + 1) + 1) + 1) + 1) + 1) + 1) + 1) + 1) = 6 ∧ wz I21 J2 R38 (((((((((((((((((((((((((((((((((((((((n + 1) + 1) + 1) + 1) + 1) + 1) + 1) + 1) + 1) + 1) + 1) + 1) + 1) + 1) + 1) + 1) + 1) + 1) + 1) + 1) + 1) + 1) + 1) + 1) + 1) + 1) + 1) + 1) + 1) + 1) + 1) + 1) + 1) + 1) + 1) + 1) + 1) + 1) + 1)) ∧ (wLet (up R38 l0 61 (((((((((((((((((((((((((((((((((((((((n + 1) + 1) + 1) + 1) + 1) + 1) + 1) + 1) + 1) + 1) + 1) + 1) + 1) + 1) + 1) + 1) + 1) + 1) + 1) + 1) + 1) + 1) + 1) + 1) + 1) + 1) + 1) + 1) + 1) + 1) + 1) + 1) + 1) + 1) + 1) + 1) + 1) + 1) + 1)) (fun R39 => (wLet (up I21 l0 62 0) (fun I22 => ((kK ((((((((((((((((((((((((((((((((((((((((n + 1) + 1) + 1) + 1) + 1) + 1) + 1) + 1) + 1) + 1) + 1) + 1) + 1) + 1) + 1) + 1) + 1) + 1) + 1) + 1) + 1) + 1) + 1) + 1) + 1) + 1) + 1) + 1) + 1) + 1) + 1) + 1) + 1) + 1) + 1) + 1) + 1) + 1) + 1) + 1) = 21 ∧ kN ((((((((((((((((((((((((((((((((((((((((n + 1) + 1) + 1) + 1) + 1) + 1) + 1) + 1) + 1) + 1) + 1) + 1) + 1) + 1) + 1) + 1) + 1) + 1) + 1) + 1) + 1) + 1) + 1) + 1) + 1) + 1) + 1) + 1) + 1) + 1) + 1) + 1) + 1) + 1) + 1) + 1) + 1) + 1) + 1) + 1) = 16 ∧ wz I22 J2 R39 ((((((((((((((((((((((((((((((((((((((((n + 1) + 1) + 1) + 1) + 1) + 1) + 1) + 1) + 1) + 1) + 1) + 1) + 1) + 1) + 1) + 1) + 1) + 1) + 1) + 1) + 1) + 1) + 1) + 1) + 1) + 1) + 1) + 1) + 1) + 1) + 1) + 1) + 1) + 1) + 1) + 1) + 1) + 1) + 1) + 1)) ∧ (wLet (up R39 l0 63 ((((((((((((((((((((((((((((((((((((((((n + 1) + 1) + 1) + 1) + 1) + 1) + 1) + 1) + 1) + 1) + 1) + 1) + 1) + 1) + 1) + 1) + 1) + 1) + 1) + 1) + 1) + 1) + 1) + 1) + 1) + 1) + 1) + 1) + 1) + 1) + 1) + 1) + 1) + 1) + 1) + 1) + 1) + 1) + 1) + 1)) (fun R40 => ((kK (((((((((((((((((((((((((((((((((((((((((n + 1) + 1) + 1) + 1) + 1) + 1) + 1) + 1) + 1) + 1) + 1) + 1) + 1) + 1) + 1) + 1) + 1) + 1) + 1) + 1) + 1) + 1) + 1) + 1) + 1) + 1) + 1) + 1) + 1) + 1) + 1) + 1) + 1) + 1) + 1) + 1) + 1) + 1) + 1) + 1) + 1) = 21 ∧ kN (((((((((((((((((((((((((((((((((((((((((n + 1) + 1) + 1) + 1) + 1) + 1) + 1) + 1) + 1) + 1) + 1) + 1) + 1) + 1) + 1) + 1) + 1) + 1) + 1) + 1) + 1) + 1) + 1) + 1) + 1) + 1) + 1) + 1) + 1) + 1) + 1) + 1) + 1) + 1) + 1) + 1) + 1) + 1) + 1) + 1) + 1) = 16 ∧ wz I22 J2 R40 (((((((((((((((((((((((((((((((((((((((((n + 1) + 1) + 1) + 1) + 1) + 1) + 1) + 1) + 1) + 1) + 1) + 1) + 1) + 1) + 1) + 1) + 1) + 1) + 1) + 1) + 1) + 1) + 1) + 1) + 1) + 1) + 1) + 1) + 1) + 1) + 1) + 1) + 1) + 1) + 1) + 1) + 1) + 1) + 1) + 1) + 1)) ∧ (wLet (up R40 l0 64 (((((((((((((((((((((((((((((((((((((((((n + 1) + 1) + 1) + 1) + 1) + 1) + 1) + 1) + 1) + 1) + 1) + 1) + 1) + 1) + 1) + 1) + 1) + 1) + 1) + 1) + 1) + 1) + 1) + 1) + 1) + 1) + 1) + 1) + 1) + 1) + 1) + 1) + 1) + 1) + 1) + 1) + 1) + 1) + 1) + 1) + 1)) (fun R41 => ((kK ((((((((((((((((((((((((((((((((((((((((((n + 1) + 1) + 1) + 1) + 1) + 1) + 1) + 1) + 1) + 1) + 1) + 1) + 1) + 1) + 1) + 1) + 1) + 1) + 1) + 1) + 1) + 1) + 1) + 1) + 1) + 1) + 1) + 1) + 1) + 1) + 1) + 1) + 1) + 1) + 1) + 1) + 1) + 1) + 1) + 1) + 1) + 1) = 21 ∧ kN ((((((((((((((((((((((((((((((((((((((((((n + 1) + 1) + 1) + 1) + 1) + 1) + 1) + 1) + 1) + 1) + 1) + 1) + 1) + 1) + 1) + 1) + 1) + 1) + 1) + 1) + 1) + 1) + 1) + 1) + 1) + 1) + 1) + 1) + 1) + 1) + 1) + 1) + 1) + 1) + 1) + 1) + 1) + 1) + 1) + 1) + 1) + 1) = 16 ∧ wz I22 J2 R41 ((((((((((((((((((((((((((((((((((((((((((n + 1) + 1) + 1) + 1) + 1) + 1) + 1) + 1) + 1) + 1) + 1) + 1) + 1) + 1) + 1) + 1) + 1) + 1) + 1) + 1) + 1) + 1) + 1) + 1) + 1) + 1) + 1) + 1) + 1) + 1) + 1) + 1) + 1) + 1) + 1) + 1) + 1) + 1) + 1) + 1) + 1) + 1)) ∧ (wLet (up R41 l0 65 ((((((((((((((((((((((((((((((((((((((((((n + 1) + 1) + 1) + 1) + 1) + 1) + 1) + 1) + 1) + 1) + 1) + 1) + 1) + 1) + 1) + 1) + 1) + 1) + 1) + 1) + 1) + 1) + 1) + 1) + 1) + 1) + 1) + 1) + 1) + 1) + 1) + 1) + 1) + 1) + 1) + 1) + 1) + 1) + 1) + 1) + 1) + 1)) (fun R42 => ((kK (((((((((((((((((((((((((((((((((((((((((((n + 1) + 1) + 1) + 1) + 1) + 1) + 1) + 1) + 1) + 1) + 1) + 1) + 1) + 1) + 1) + 1) + 1) + 1) + 1) + 1) + 1) + 1) + 1) + 1) + 1) + 1) + 1) + 1) + 1) + 1) + 1) + 1) + 1) + 1) + 1) + 1) + 1) + 1) + 1) + 1) + 1) + 1) + 1) = 21 ∧ kN (((((((((((((((((((((((((((((((((((((((((((n + 1) + 1) + 1) + 1) + 1) + 1) + 1) + 1) + 1) + 1) + 1) + 1) + 1) + 1) + 1) + 1) + 1) + 1) + 1) + 1) + 1) + 1) + 1) + 1) + 1) + 1) + 1) + 1) + 1) + 1) + 1) + 1) + 1) + 1) + 1) + 1) + 1) + 1) + 1) + 1) + 1) + 1) + 1) = 1860 ∧ wz I22 J2 R42 (((((((((((((((((((((((((((((((((((((((((((n + 1) + 1) + 1) + 1) + 1) + 1) + 1) + 1) + 1) + 1) + 1) + 1) + 1) + 1) + 1) + 1) + 1) + 1) + 1) + 1) + 1) + 1) + 1) + 1) + 1) + 1) + 1) + 1) + 1) + 1) + 1) + 1) + 1) + 1) + 1) + 1) + 1) + 1) + 1) + 1) + 1) + 1) + 1)) ∧ (wLet (up R42 l0 66 (((((((((((((((((((((((((((((((((((((((((((n + 1) + 1) + 1) + 1) + 1) + 1) + 1) + 1) + 1) + 1) + 1) + 1) + 1) + 1) + 1) + 1) + 1) + 1) + 1) + 1) + 1) + 1) + 1) + 1) + 1) + 1) + 1) + 1) + 1) + 1) + 1) + 1) + 1) + 1) + 1) + 1) + 1) + 1) + 1) + 1) + 1) + 1) + 1)) (fun R43 => ((kK ((((((((((((((((((((((((((((((((((((((((((((n + 1) + 1) + 1) + 1) + 1) + 1) + 1) + 1) + 1) + 1) + 1) + 1) + 1) + 1) + 1) + 1) + 1) + 1) + 1) + 1) + 1) + 1) + 1) + 1) + 1) + 1) + 1) + 1) + 1) + 1) + 1) + 1) + 1) + 1) + 1) + 1) + 1) + 1) + 1) + 1) + 1) + 1) + 1) + 1) = 21 ∧ kN ((((((((((((((((((((((((((((((((((((((((((((n + 1) + 1) + 1) + 1) + 1) + 1) + 1) + 1) + 1) + 1) + 1) + 1) + 1) + 1) + 1) + 1) + 1) + 1) + 1) + 1) + 1) + 1) + 1) + 1) + 1) + 1) + 1) + 1) + 1) + 1) + 1) + 1) + 1) + 1) + 1) + 1) + 1) + 1) + 1) + 1) + 1) + 1) + 1) + 1) = 30 ∧ wz I22 J2 R43 ((((((((((((((((((((((((((((((((((((((((((((n + 1) + 1) + 1) + 1) + 1) + 1) + 1) + 1) + 1) + 1) + 1) + 1) + 1) + 1) + 1) + 1) + 1) + 1) + 1) + 1) + 1) + 1) + 1) + 1) + 1) + 1) + 1) + 1) + 1) + 1) + 1) + 1) + 1) + 1) + 1) + 1) + 1) + 1) + 1) + 1) + 1) + 1) + 1) + 1)) ∧ (wLet (up R43 l0 67 ((((((((((((((((((((((((((((((((((((((((((((n + 1) + 1) + 1) + 1) + 1) + 1) + 1) + 1) + 1) + 1) + 1) + 1) + 1) + 1) + 1) + 1) + 1) + 1) + 1) + 1) + 1) + 1) + 1) + 1) + 1) + 1) + 1) + 1) + 1) + 1) + 1) + 1) + 1) + 1) + 1) + 1) + 1) + 1) + 1) + 1) + 1) + 1) + 1) + 1)) (fun R44 => (wLet (up I22 l0 68 0) (fun I23 => (kK (R44 l0 26) = 21 ∧ (((0 : Int) ≤ 0 ∧ (0 : Int) < (kN (R44 l0 26) : Int)) ∧ wLet (up I23 (R44 l0 26) 0 (-1)) (fun I24 => (kK (R44 l0 26) = 21 ∧ (((0 : Int) ≤ 1 ∧ (1 : Int) < (kN (R44 l0 26) : Int)) ∧ wLet (up I24 (R44 l0 26) 1 (-1)) (fun I25 => (kK (R44 l0 26) = 21 ∧ (((0 : Int) ≤ 2 ∧ (2 : Int) < (kN (R44 l0 26) : Int)) ∧ wLet (up I25 (R44 l0 26) 2 (-1)) (fun I26 => (kK (R44 l0 26) = 21 ∧ (((0 : Int) ≤ 3 ∧ (3 : Int) < (kN (R44 l0 26) : Int)) ∧ wLet (up I26 (R44 l0 26) 3 (-1)) (fun I27 => (kK (R44 l0 26) = 21 ∧ (((0 : Int) ≤ 4 ∧ (4 : Int) < (kN (R44 l0 26) : Int)) ∧ wLet (up I27 (R44 l0 26) 4 (-1)) (fun I28 => (kK (R44 l0 26) = 21 ∧ (((0 : Int) ≤ 5 ∧ (5 : Int) < (kN (R44 l0 26) : Int)) ∧ wLet (up I28 (R44 l0 26) 5 (-1)) (fun I29 => (Q ((((((((((((((((((((((((((((((((((((((((((((n + 1) + 1) + 1) + 1) + 1) + 1) + 1) + 1) + 1) + 1) + 1) + 1) + 1) + 1) + 1) + 1) + 1) + 1) + 1) + 1) + 1) + 1) + 1) + 1) + 1) + 1) + 1) + 1) + 1) + 1) + 1) + 1) + 1) + 1) + 1) + 1) + 1) + 1) + 1) + 1) + 1) + 1) + 1) + 1) I29 J2 R44)))))))))))))))))))))))))))))))))))))))))))))))))))))))))))))))))))))))))))))))))))))))))))))))))))))))))))))))))))))))))))))))))))))))))))))))))))))))))))))))))))))))))))))))))))))))))))))))))))))))))
set_option maxRecDepth 20000 in
theorem CC12_init {ad : Nat → Nat} {n : Nat} {I J : mI} {R : mR} {Q : wPc} {l0 : Nat} (hk0 : kK l0 = 12) (hw : PC12_init l0 n I J R Q) : wMetC yX12_init cX12_init 2 1 24 44 14604 ad n I J R [vr l0] Q := by
  refine wMetC_of (by decide) rfl (Nat.le_of_ble_eq_true rfl) (fun C hC hRm hE => ?_)
  refine (show WM C ad n I J R 0 0 0 [(0, vr l0)] [] from ?_)
  unfold PC12_init at hw
  have hag0 : wAg ad ad n := wAg_rf
  have hle0 : n ≤ n := Nat.le_refl n
  refine wm_aload_n hC 0 dX12_init_0 rfl (k_ne0 hk0 (by decide)) ?_
  refine x_objInit hC hRm (k_ne0 hk0 (by decide)) oi_X12_1 oi_inst oi_code (Nat.le_of_ble_eq_true rfl) (Nat.le_of_ble_eq_true rfl) dX12_init_1 ?_
  refine wm_aload_n hC 0 dX12_init_4 rfl (k_ne0 hk0 (by decide)) ?_
  refine wm_sipush hC dX12_init_5 (k := ?_)
  refine x_newarr hC hRm (atype := .int) (len := 1800) 1 (by decide) ac_int (by decide) 1 1800 rfl rfl (Nat.le_of_ble_eq_true rfl) (Nat.le_of_ble_eq_true rfl) dX12_init_8 hw (fun ad1 had1 g1 hw => ?_)
  have hagad1 := wAg_tr hag0 had1 hle0
  have hlead1 := Nat.le_succ_of_le hle0
  refine x_putFR hC hE 0 fl_X12_7 rfl hk0 (fun q h => by cases h; rfl) (Or.inr ⟨_, rfl⟩) (k_lt g1 (by decide)) dX12_init_10 hw (fun R1 hw => ?_)
  refine wm_aload_n hC 0 dX12_init_13 rfl (k_ne0 hk0 (by decide)) ?_
  refine wm_iconst hC dX12_init_14 (k := ?_)
  refine x_putI hC 1 fl_X12_13 rfl hk0 dX12_init_15 hw (fun I1 hw => ?_)
  refine wm_aload_n hC 0 dX12_init_18 rfl (k_ne0 hk0 (by decide)) ?_
  refine wm_iconst hC dX12_init_19 (k := ?_)
  refine x_putI hC 2 fl_X12_17 rfl hk0 dX12_init_20 hw (fun I2 hw => ?_)
  refine wm_aload_n hC 0 dX12_init_23 rfl (k_ne0 hk0 (by decide)) ?_
  refine wm_iconst hC dX12_init_24 (k := ?_)
  refine x_putI hC 3 fl_X12_20 rfl hk0 dX12_init_25 hw (fun I3 hw => ?_)
  refine wm_aload_n hC 0 dX12_init_28 rfl (k_ne0 hk0 (by decide)) ?_
  refine wm_iconst hC dX12_init_29 (k := ?_)
  refine x_putI hC 4 fl_X12_23 rfl hk0 dX12_init_30 hw (fun I4 hw => ?_)
  refine wm_aload_n hC 0 dX12_init_33 rfl (k_ne0 hk0 (by decide)) ?_
  refine wm_iconst hC dX12_init_34 (k := ?_)
  refine x_putI hC 5 fl_X12_26 rfl hk0 dX12_init_35 hw (fun I5 hw => ?_)
  refine wm_aload_n hC 0 dX12_init_38 rfl (k_ne0 hk0 (by decide)) ?_
  refine wm_iconst hC dX12_init_39 (k := ?_)
  refine x_putI hC 6 fl_X12_29 rfl hk0 dX12_init_40 hw (fun I6 hw => ?_)
  refine wm_aload_n hC 0 dX12_init_43 rfl (k_ne0 hk0 (by decide)) ?_
  refine wm_lconst hC (x := 0) dX12_init_44 (k := ?_)
  refine x_putJ hC 7 fl_X12_32 rfl hk0 dX12_init_45 hw (fun J1 hw => ?_)
  refine wm_aload_n hC 0 dX12_init_48 rfl (k_ne0 hk0 (by decide)) ?_
  refine wm_iconst hC dX12_init_49 (k := ?_)
  refine x_putI hC 8 fl_X12_36 rfl hk0 dX12_init_50 hw (fun I7 hw => ?_)
  refine wm_aload_n hC 0 dX12_init_53 rfl (k_ne0 hk0 (by decide)) ?_
  refine wm_iconst hC dX12_init_54 (k := ?_)
  refine x_putI hC 9 fl_X12_39 rfl hk0 dX12_init_55 hw (fun I8 hw => ?_)
  refine wm_aload_n hC 0 dX12_init_58 rfl (k_ne0 hk0 (by decide)) ?_
  refine wm_iconst hC dX12_init_59 (k := ?_)
  refine x_putI hC 10 fl_X12_42 rfl hk0 dX12_init_60 hw (fun I9 hw => ?_)
  refine wm_aload_n hC 0 dX12_init_63 rfl (k_ne0 hk0 (by decide)) ?_
  refine wm_iconst hC dX12_init_64 (k := ?_)
  refine x_putI hC 11 fl_X12_45 rfl hk0 dX12_init_65 hw (fun I10 hw => ?_)
  refine wm_aload_n hC 0 dX12_init_68 rfl (k_ne0 hk0 (by decide)) ?_
  refine wm_iconst hC dX12_init_69 (k := ?_)
  refine x_putI hC 12 fl_X12_48 rfl hk0 dX12_init_70 hw (fun I11 hw => ?_)
  refine wm_aload_n hC 0 dX12_init_73 rfl (k_ne0 hk0 (by decide)) ?_
  refine wm_iconst hC dX12_init_74 (k := ?_)
  refine x_putI hC 13 fl_X12_51 rfl hk0 dX12_init_75 hw (fun I12 hw => ?_)
  refine wm_aload_n hC 0 dX12_init_78 rfl (k_ne0 hk0 (by decide)) ?_
  refine wm_iconst hC dX12_init_79 (k := ?_)
  refine x_newarr hC hRm (atype := .int) (len := 2) 1 (by decide) ac_int (by decide) 2 1802 rfl rfl (Nat.le_of_ble_eq_true rfl) (Nat.le_of_ble_eq_true rfl) dX12_init_80 hw (fun ad2 had2 g2 hw => ?_)
  have hagad2 := wAg_tr hagad1 had2 hlead1
  have hlead2 := Nat.le_succ_of_le hlead1
  refine x_putFR hC hE 14 fl_X12_54 rfl hk0 (fun q h => by cases h; rfl) (Or.inr ⟨_, rfl⟩) (k_lt g2 (by decide)) dX12_init_82 hw (fun R2 hw => ?_)
  refine wm_aload_n hC 0 dX12_init_85 rfl (k_ne0 hk0 (by decide)) ?_
  refine wm_bipush hC dX12_init_86 (k := ?_)
  refine x_newarr hC hRm (atype := .int) (len := 36) 1 (by decide) ac_int (by decide) 3 1838 rfl rfl (Nat.le_of_ble_eq_true rfl) (Nat.le_of_ble_eq_true rfl) dX12_init_88 hw (fun ad3 had3 g3 hw => ?_)
  have hagad3 := wAg_tr hagad2 had3 hlead2
  have hlead3 := Nat.le_succ_of_le hlead2
  refine x_putFR hC hE 15 fl_X12_57 rfl hk0 (fun q h => by cases h; rfl) (Or.inr ⟨_, rfl⟩) (k_lt g3 (by decide)) dX12_init_90 hw (fun R3 hw => ?_)
  refine wm_aload_n hC 0 dX12_init_93 rfl (k_ne0 hk0 (by decide)) ?_
  refine wm_iconst hC dX12_init_94 (k := ?_)
  refine x_newarr hC hRm (atype := .int) (len := 2) 1 (by decide) ac_int (by decide) 4 1840 rfl rfl (Nat.le_of_ble_eq_true rfl) (Nat.le_of_ble_eq_true rfl) dX12_init_95 hw (fun ad4 had4 g4 hw => ?_)
  have hagad4 := wAg_tr hagad3 had4 hlead3
  have hlead4 := Nat.le_succ_of_le hlead3
  refine x_putFR hC hE 16 fl_X12_60 rfl hk0 (fun q h => by cases h; rfl) (Or.inr ⟨_, rfl⟩) (k_lt g4 (by decide)) dX12_init_97 hw (fun R4 hw => ?_)
  refine wm_aload_n hC 0 dX12_init_100 rfl (k_ne0 hk0 (by decide)) ?_
  refine wm_iconst hC dX12_init_101 (k := ?_)
  refine x_newarr hC hRm (atype := .int) (len := 2) 1 (by decide) ac_int (by decide) 5 1842 rfl rfl (Nat.le_of_ble_eq_true rfl) (Nat.le_of_ble_eq_true rfl) dX12_init_102 hw (fun ad5 had5 g5 hw => ?_)
  have hagad5 := wAg_tr hagad4 had5 hlead4
  have hlead5 := Nat.le_succ_of_le hlead4
  refine x_putFR hC hE 17 fl_X12_63 rfl hk0 (fun q h => by cases h; rfl) (Or.inr ⟨_, rfl⟩) (k_lt g5 (by decide)) dX12_init_104 hw (fun R5 hw => ?_)
  refine wm_aload_n hC 0 dX12_init_107 rfl (k_ne0 hk0 (by decide)) ?_
  refine wm_bipush hC dX12_init_108 (k := ?_)
  refine x_newarr hC hRm (atype := .int) (len := 36) 1 (by decide) ac_int (by decide) 6 1878 rfl rfl (Nat.le_of_ble_eq_true rfl) (Nat.le_of_ble_eq_true rfl) dX12_init_110 hw (fun ad6 had6 g6 hw => ?_)
  have hagad6 := wAg_tr hagad5 had6 hlead5
  have hlead6 := Nat.le_succ_of_le hlead5
  refine x_putFR hC hE 18 fl_X12_66 rfl hk0 (fun q h => by cases h; rfl) (Or.inr ⟨_, rfl⟩) (k_lt g6 (by decide)) dX12_init_112 hw (fun R6 hw => ?_)
  refine wm_aload_n hC 0 dX12_init_115 rfl (k_ne0 hk0 (by decide)) ?_
  refine wm_bipush hC dX12_init_116 (k := ?_)
  refine x_newarr hC hRm (atype := .int) (len := 12) 1 (by decide) ac_int (by decide) 7 1890 rfl rfl (Nat.le_of_ble_eq_true rfl) (Nat.le_of_ble_eq_true rfl) dX12_init_118 hw (fun ad7 had7 g7 hw => ?_)
  have hagad7 := wAg_tr hagad6 had7 hlead6
  have hlead7 := Nat.le_succ_of_le hlead6
  refine x_putFR hC hE 19 fl_X12_69 rfl hk0 (fun q h => by cases h; rfl) (Or.inr ⟨_, rfl⟩) (k_lt g7 (by decide)) dX12_init_120 hw (fun R7 hw => ?_)
  refine wm_aload_n hC 0 dX12_init_123 rfl (k_ne0 hk0 (by decide)) ?_
  refine wm_iconst hC dX12_init_124 (k := ?_)
  refine x_newarr hC hRm (atype := .int) (len := 2) 1 (by decide) ac_int (by decide) 8 1892 rfl rfl (Nat.le_of_ble_eq_true rfl) (Nat.le_of_ble_eq_true rfl) dX12_init_125 hw (fun ad8 had8 g8 hw => ?_)
  have hagad8 := wAg_tr hagad7 had8 hlead7
  have hlead8 := Nat.le_succ_of_le hlead7
  refine x_putFR hC hE 20 fl_X12_72 rfl hk0 (fun q h => by cases h; rfl) (Or.inr ⟨_, rfl⟩) (k_lt g8 (by decide)) dX12_init_127 hw (fun R8 hw => ?_)
  refine wm_aload_n hC 0 dX12_init_130 rfl (k_ne0 hk0 (by decide)) ?_
  refine wm_bipush hC dX12_init_131 (k := ?_)
  refine x_newarr hC hRm (atype := .int) (len := 36) 1 (by decide) ac_int (by decide) 9 1928 rfl rfl (Nat.le_of_ble_eq_true rfl) (Nat.le_of_ble_eq_true rfl) dX12_init_133 hw (fun ad9 had9 g9 hw => ?_)
  have hagad9 := wAg_tr hagad8 had9 hlead8
  have hlead9 := Nat.le_succ_of_le hlead8
  refine x_putFR hC hE 21 fl_X12_75 rfl hk0 (fun q h => by cases h; rfl) (Or.inr ⟨_, rfl⟩) (k_lt g9 (by decide)) dX12_init_135 hw (fun R9 hw => ?_)
  refine wm_aload_n hC 0 dX12_init_138 rfl (k_ne0 hk0 (by decide)) ?_
  refine wm_bipush hC dX12_init_139 (k := ?_)
  refine x_newarr hC hRm (atype := .int) (len := 12) 1 (by decide) ac_int (by decide) 10 1940 rfl rfl (Nat.le_of_ble_eq_true rfl) (Nat.le_of_ble_eq_true rfl) dX12_init_141 hw (fun ad10 had10 g10 hw => ?_)
  have hagad10 := wAg_tr hagad9 had10 hlead9
  have hlead10 := Nat.le_succ_of_le hlead9
  refine x_putFR hC hE 22 fl_X12_78 rfl hk0 (fun q h => by cases h; rfl) (Or.inr ⟨_, rfl⟩) (k_lt g10 (by decide)) dX12_init_143 hw (fun R10 hw => ?_)
  refine wm_aload_n hC 0 dX12_init_146 rfl (k_ne0 hk0 (by decide)) ?_
  refine wm_bipush hC dX12_init_147 (k := ?_)
  refine x_newarr hC hRm (atype := .int) (len := 12) 1 (by decide) ac_int (by decide) 11 1952 rfl rfl (Nat.le_of_ble_eq_true rfl) (Nat.le_of_ble_eq_true rfl) dX12_init_149 hw (fun ad11 had11 g11 hw => ?_)
  have hagad11 := wAg_tr hagad10 had11 hlead10
  have hlead11 := Nat.le_succ_of_le hlead10
  refine x_putFR hC hE 23 fl_X12_81 rfl hk0 (fun q h => by cases h; rfl) (Or.inr ⟨_, rfl⟩) (k_lt g11 (by decide)) dX12_init_151 hw (fun R11 hw => ?_)
  refine wm_aload_n hC 0 dX12_init_154 rfl (k_ne0 hk0 (by decide)) ?_
  refine wm_iconst hC dX12_init_155 (k := ?_)
  refine x_newarr hC hRm (atype := .int) (len := 2) 1 (by decide) ac_int (by decide) 12 1954 rfl rfl (Nat.le_of_ble_eq_true rfl) (Nat.le_of_ble_eq_true rfl) dX12_init_156 hw (fun ad12 had12 g12 hw => ?_)
  have hagad12 := wAg_tr hagad11 had12 hlead11
  have hlead12 := Nat.le_succ_of_le hlead11
  refine x_putFR hC hE 24 fl_X12_84 rfl hk0 (fun q h => by cases h; rfl) (Or.inr ⟨_, rfl⟩) (k_lt g12 (by decide)) dX12_init_158 hw (fun R12 hw => ?_)
  refine wm_aload_n hC 0 dX12_init_161 rfl (k_ne0 hk0 (by decide)) ?_
  refine wm_iconst hC dX12_init_162 (k := ?_)
  refine x_newarr hC hRm (atype := .int) (len := 2) 1 (by decide) ac_int (by decide) 13 1956 rfl rfl (Nat.le_of_ble_eq_true rfl) (Nat.le_of_ble_eq_true rfl) dX12_init_163 hw (fun ad13 had13 g13 hw => ?_)
  have hagad13 := wAg_tr hagad12 had13 hlead12
  have hlead13 := Nat.le_succ_of_le hlead12
  refine x_putFR hC hE 25 fl_X12_87 rfl hk0 (fun q h => by cases h; rfl) (Or.inr ⟨_, rfl⟩) (k_lt g13 (by decide)) dX12_init_165 hw (fun R13 hw => ?_)
  refine wm_aload_n hC 0 dX12_init_168 rfl (k_ne0 hk0 (by decide)) ?_
  refine wm_bipush hC dX12_init_169 (k := ?_)
  refine x_newarr hC hRm (atype := .int) (len := 6) 1 (by decide) ac_int (by decide) 14 1962 rfl rfl (Nat.le_of_ble_eq_true rfl) (Nat.le_of_ble_eq_true rfl) dX12_init_171 hw (fun ad14 had14 g14 hw => ?_)
  have hagad14 := wAg_tr hagad13 had14 hlead13
  have hlead14 := Nat.le_succ_of_le hlead13
  refine x_putFR hC hE 26 fl_X12_90 rfl hk0 (fun q h => by cases h; rfl) (Or.inr ⟨_, rfl⟩) (k_lt g14 (by decide)) dX12_init_173 hw (fun R14 hw => ?_)
  refine wm_aload_n hC 0 dX12_init_176 rfl (k_ne0 hk0 (by decide)) ?_
  refine wm_bipush hC dX12_init_177 (k := ?_)
  refine x_newarr hC hRm (atype := .int) (len := 6) 1 (by decide) ac_int (by decide) 15 1968 rfl rfl (Nat.le_of_ble_eq_true rfl) (Nat.le_of_ble_eq_true rfl) dX12_init_179 hw (fun ad15 had15 g15 hw => ?_)
  have hagad15 := wAg_tr hagad14 had15 hlead14
  have hlead15 := Nat.le_succ_of_le hlead14
  refine x_putFR hC hE 27 fl_X12_93 rfl hk0 (fun q h => by cases h; rfl) (Or.inr ⟨_, rfl⟩) (k_lt g15 (by decide)) dX12_init_181 hw (fun R15 hw => ?_)
  refine wm_aload_n hC 0 dX12_init_184 rfl (k_ne0 hk0 (by decide)) ?_
  refine wm_sipush hC dX12_init_185 (k := ?_)
  refine x_newarr hC hRm (atype := .int) (len := 3200) 1 (by decide) ac_int (by decide) 16 5168 rfl rfl (Nat.le_of_ble_eq_true rfl) (Nat.le_of_ble_eq_true rfl) dX12_init_188 hw (fun ad16 had16 g16 hw => ?_)
  have hagad16 := wAg_tr hagad15 had16 hlead15
  have hlead16 := Nat.le_succ_of_le hlead15
  refine x_putFR hC hE 28 fl_X12_96 rfl hk0 (fun q h => by cases h; rfl) (Or.inr ⟨_, rfl⟩) (k_lt g16 (by decide)) dX12_init_190 hw (fun R16 hw => ?_)
  refine wm_aload_n hC 0 dX12_init_193 rfl (k_ne0 hk0 (by decide)) ?_
  refine wm_sipush hC dX12_init_194 (k := ?_)
  refine x_newarr hC hRm (atype := .int) (len := 3200) 1 (by decide) ac_int (by decide) 17 8368 rfl rfl (Nat.le_of_ble_eq_true rfl) (Nat.le_of_ble_eq_true rfl) dX12_init_197 hw (fun ad17 had17 g17 hw => ?_)
  have hagad17 := wAg_tr hagad16 had17 hlead16
  have hlead17 := Nat.le_succ_of_le hlead16
  refine x_putFR hC hE 29 fl_X12_99 rfl hk0 (fun q h => by cases h; rfl) (Or.inr ⟨_, rfl⟩) (k_lt g17 (by decide)) dX12_init_199 hw (fun R17 hw => ?_)
  refine wm_aload_n hC 0 dX12_init_202 rfl (k_ne0 hk0 (by decide)) ?_
  refine wm_bipush hC dX12_init_203 (k := ?_)
  refine x_newarrJ hC hRm (len := 36) ac_long (by decide) 18 8404 rfl rfl (Nat.le_of_ble_eq_true rfl) (Nat.le_of_ble_eq_true rfl) dX12_init_205 hw (fun ad18 had18 g18 hw => ?_)
  have hagad18 := wAg_tr hagad17 had18 hlead17
  have hlead18 := Nat.le_succ_of_le hlead17
  refine x_putFR hC hE 30 fl_X12_102 rfl hk0 (fun q h => by cases h; rfl) (Or.inr ⟨_, rfl⟩) (k_lt g18 (by decide)) dX12_init_207 hw (fun R18 hw => ?_)
  refine wm_aload_n hC 0 dX12_init_210 rfl (k_ne0 hk0 (by decide)) ?_
  refine wm_iconst hC dX12_init_211 (k := ?_)
  refine x_putI hC 31 fl_X12_106 rfl hk0 dX12_init_212 hw (fun I13 hw => ?_)
  refine wm_aload_n hC 0 dX12_init_215 rfl (k_ne0 hk0 (by decide)) ?_
  refine wm_iconst hC dX12_init_216 (k := ?_)
  refine x_putI hC 32 fl_X12_109 rfl hk0 dX12_init_217 hw (fun I14 hw => ?_)
  refine wm_aload_n hC 0 dX12_init_220 rfl (k_ne0 hk0 (by decide)) ?_
  refine wm_iconst hC dX12_init_221 (k := ?_)
  refine x_putI hC 33 fl_X12_112 rfl hk0 dX12_init_222 hw (fun I15 hw => ?_)
  refine wm_aload_n hC 0 dX12_init_225 rfl (k_ne0 hk0 (by decide)) ?_
  refine wm_bipush hC dX12_init_226 (k := ?_)
  refine x_newarr hC hRm (atype := .int) (len := 20) 1 (by decide) ac_int (by decide) 19 8424 rfl rfl (Nat.le_of_ble_eq_true rfl) (Nat.le_of_ble_eq_true rfl) dX12_init_228 hw (fun ad19 had19 g19 hw => ?_)
  have hagad19 := wAg_tr hagad18 had19 hlead18
  have hlead19 := Nat.le_succ_of_le hlead18
  refine x_putFR hC hE 34 fl_X12_115 rfl hk0 (fun q h => by cases h; rfl) (Or.inr ⟨_, rfl⟩) (k_lt g19 (by decide)) dX12_init_230 hw (fun R19 hw => ?_)
  refine wm_aload_n hC 0 dX12_init_233 rfl (k_ne0 hk0 (by decide)) ?_
  refine wm_bipush hC dX12_init_234 (k := ?_)
  refine x_newarr hC hRm (atype := .int) (len := 20) 1 (by decide) ac_int (by decide) 20 8444 rfl rfl (Nat.le_of_ble_eq_true rfl) (Nat.le_of_ble_eq_true rfl) dX12_init_236 hw (fun ad20 had20 g20 hw => ?_)
  have hagad20 := wAg_tr hagad19 had20 hlead19
  have hlead20 := Nat.le_succ_of_le hlead19
  refine x_putFR hC hE 35 fl_X12_118 rfl hk0 (fun q h => by cases h; rfl) (Or.inr ⟨_, rfl⟩) (k_lt g20 (by decide)) dX12_init_238 hw (fun R20 hw => ?_)
  refine wm_aload_n hC 0 dX12_init_241 rfl (k_ne0 hk0 (by decide)) ?_
  refine wm_bipush hC dX12_init_242 (k := ?_)
  refine x_newarr hC hRm (atype := .boolean) (len := 20) 3 (by decide) ac_boolean (by decide) 21 8464 rfl rfl (Nat.le_of_ble_eq_true rfl) (Nat.le_of_ble_eq_true rfl) dX12_init_244 hw (fun ad21 had21 g21 hw => ?_)
  have hagad21 := wAg_tr hagad20 had21 hlead20
  have hlead21 := Nat.le_succ_of_le hlead20
  refine x_putFR hC hE 36 fl_X12_121 rfl hk0 (fun q h => by cases h; rfl) (Or.inr ⟨_, rfl⟩) (k_lt g21 (by decide)) dX12_init_246 hw (fun R21 hw => ?_)
  refine wm_aload_n hC 0 dX12_init_249 rfl (k_ne0 hk0 (by decide)) ?_
  refine wm_bipush hC dX12_init_250 (k := ?_)
  refine x_newarr hC hRm (atype := .int) (len := 20) 1 (by decide) ac_int (by decide) 22 8484 rfl rfl (Nat.le_of_ble_eq_true rfl) (Nat.le_of_ble_eq_true rfl) dX12_init_252 hw (fun ad22 had22 g22 hw => ?_)
  have hagad22 := wAg_tr hagad21 had22 hlead21
  have hlead22 := Nat.le_succ_of_le hlead21
  refine x_putFR hC hE 37 fl_X12_125 rfl hk0 (fun q h => by cases h; rfl) (Or.inr ⟨_, rfl⟩) (k_lt g22 (by decide)) dX12_init_254 hw (fun R22 hw => ?_)
  refine wm_aload_n hC 0 dX12_init_257 rfl (k_ne0 hk0 (by decide)) ?_
  refine wm_bipush hC dX12_init_258 (k := ?_)
  refine x_newarr hC hRm (atype := .int) (len := 20) 1 (by decide) ac_int (by decide) 23 8504 rfl rfl (Nat.le_of_ble_eq_true rfl) (Nat.le_of_ble_eq_true rfl) dX12_init_260 hw (fun ad23 had23 g23 hw => ?_)
  have hagad23 := wAg_tr hagad22 had23 hlead22
  have hlead23 := Nat.le_succ_of_le hlead22
  refine x_putFR hC hE 38 fl_X12_128 rfl hk0 (fun q h => by cases h; rfl) (Or.inr ⟨_, rfl⟩) (k_lt g23 (by decide)) dX12_init_262 hw (fun R23 hw => ?_)
  refine wm_aload_n hC 0 dX12_init_265 rfl (k_ne0 hk0 (by decide)) ?_
  refine wm_iconst hC dX12_init_266 (k := ?_)
  refine x_putI hC 39 fl_X12_131 rfl hk0 dX12_init_267 hw (fun I16 hw => ?_)
  refine wm_aload_n hC 0 dX12_init_270 rfl (k_ne0 hk0 (by decide)) ?_
  refine wm_iconst hC dX12_init_271 (k := ?_)
  refine x_putI hC 40 fl_X12_134 rfl hk0 dX12_init_272 hw (fun I17 hw => ?_)
  refine wm_aload_n hC 0 dX12_init_275 rfl (k_ne0 hk0 (by decide)) ?_
  refine wm_sipush hC dX12_init_276 (k := ?_)
  refine x_newarr hC hRm (atype := .int) (len := 500) 1 (by decide) ac_int (by decide) 24 9004 rfl rfl (Nat.le_of_ble_eq_true rfl) (Nat.le_of_ble_eq_true rfl) dX12_init_279 hw (fun ad24 had24 g24 hw => ?_)
  have hagad24 := wAg_tr hagad23 had24 hlead23
  have hlead24 := Nat.le_succ_of_le hlead23
  refine x_putFR hC hE 41 fl_X12_137 rfl hk0 (fun q h => by cases h; rfl) (Or.inr ⟨_, rfl⟩) (k_lt g24 (by decide)) dX12_init_281 hw (fun R24 hw => ?_)
  refine wm_aload_n hC 0 dX12_init_284 rfl (k_ne0 hk0 (by decide)) ?_
  refine wm_iconst hC dX12_init_285 (k := ?_)
  refine x_putI hC 42 fl_X12_140 rfl hk0 dX12_init_286 hw (fun I18 hw => ?_)
  refine wm_aload_n hC 0 dX12_init_289 rfl (k_ne0 hk0 (by decide)) ?_
  refine wm_iconst hC dX12_init_290 (k := ?_)
  refine x_putZ hC 43 fl_X12_143 rfl hk0 (Or.inl rfl) dX12_init_291 hw (fun I19 hw => ?_)
  refine wm_aload_n hC 0 dX12_init_294 rfl (k_ne0 hk0 (by decide)) ?_
  refine wm_bipush hC dX12_init_295 (k := ?_)
  refine x_newarr hC hRm (atype := .int) (len := 6) 1 (by decide) ac_int (by decide) 25 9010 rfl rfl (Nat.le_of_ble_eq_true rfl) (Nat.le_of_ble_eq_true rfl) dX12_init_297 hw (fun ad25 had25 g25 hw => ?_)
  have hagad25 := wAg_tr hagad24 had25 hlead24
  have hlead25 := Nat.le_succ_of_le hlead24
  refine x_putFR hC hE 44 fl_X12_147 rfl hk0 (fun q h => by cases h; rfl) (Or.inr ⟨_, rfl⟩) (k_lt g25 (by decide)) dX12_init_299 hw (fun R25 hw => ?_)
  refine wm_aload_n hC 0 dX12_init_302 rfl (k_ne0 hk0 (by decide)) ?_
  refine wm_bipush hC dX12_init_303 (k := ?_)
  refine x_newarr hC hRm (atype := .int) (len := 22) 1 (by decide) ac_int (by decide) 26 9032 rfl rfl (Nat.le_of_ble_eq_true rfl) (Nat.le_of_ble_eq_true rfl) dX12_init_305 hw (fun ad26 had26 g26 hw => ?_)
  have hagad26 := wAg_tr hagad25 had26 hlead25
  have hlead26 := Nat.le_succ_of_le hlead25
  refine x_putFR hC hE 45 fl_X12_150 rfl hk0 (fun q h => by cases h; rfl) (Or.inr ⟨_, rfl⟩) (k_lt g26 (by decide)) dX12_init_307 hw (fun R26 hw => ?_)
  refine wm_aload_n hC 0 dX12_init_310 rfl (k_ne0 hk0 (by decide)) ?_
  refine wm_bipush hC dX12_init_311 (k := ?_)
  refine x_newarr hC hRm (atype := .int) (len := 22) 1 (by decide) ac_int (by decide) 27 9054 rfl rfl (Nat.le_of_ble_eq_true rfl) (Nat.le_of_ble_eq_true rfl) dX12_init_313 hw (fun ad27 had27 g27 hw => ?_)
  have hagad27 := wAg_tr hagad26 had27 hlead26
  have hlead27 := Nat.le_succ_of_le hlead26
  refine x_putFR hC hE 46 fl_X12_153 rfl hk0 (fun q h => by cases h; rfl) (Or.inr ⟨_, rfl⟩) (k_lt g27 (by decide)) dX12_init_315 hw (fun R27 hw => ?_)
  refine wm_aload_n hC 0 dX12_init_318 rfl (k_ne0 hk0 (by decide)) ?_
  refine wm_sipush hC dX12_init_319 (k := ?_)
  refine x_newarr hC hRm (atype := .int) (len := 132) 1 (by decide) ac_int (by decide) 28 9186 rfl rfl (Nat.le_of_ble_eq_true rfl) (Nat.le_of_ble_eq_true rfl) dX12_init_322 hw (fun ad28 had28 g28 hw => ?_)
  have hagad28 := wAg_tr hagad27 had28 hlead27
  have hlead28 := Nat.le_succ_of_le hlead27
  refine x_putFR hC hE 47 fl_X12_156 rfl hk0 (fun q h => by cases h; rfl) (Or.inr ⟨_, rfl⟩) (k_lt g28 (by decide)) dX12_init_324 hw (fun R28 hw => ?_)
  refine wm_aload_n hC 0 dX12_init_327 rfl (k_ne0 hk0 (by decide)) ?_
  refine wm_sipush hC dX12_init_328 (k := ?_)
  refine x_newarr hC hRm (atype := .int) (len := 132) 1 (by decide) ac_int (by decide) 29 9318 rfl rfl (Nat.le_of_ble_eq_true rfl) (Nat.le_of_ble_eq_true rfl) dX12_init_331 hw (fun ad29 had29 g29 hw => ?_)
  have hagad29 := wAg_tr hagad28 had29 hlead28
  have hlead29 := Nat.le_succ_of_le hlead28
  refine x_putFR hC hE 48 fl_X12_159 rfl hk0 (fun q h => by cases h; rfl) (Or.inr ⟨_, rfl⟩) (k_lt g29 (by decide)) dX12_init_333 hw (fun R29 hw => ?_)
  refine wm_aload_n hC 0 dX12_init_336 rfl (k_ne0 hk0 (by decide)) ?_
  refine wm_sipush hC dX12_init_337 (k := ?_)
  refine x_newarr hC hRm (atype := .int) (len := 132) 1 (by decide) ac_int (by decide) 30 9450 rfl rfl (Nat.le_of_ble_eq_true rfl) (Nat.le_of_ble_eq_true rfl) dX12_init_340 hw (fun ad30 had30 g30 hw => ?_)
  have hagad30 := wAg_tr hagad29 had30 hlead29
  have hlead30 := Nat.le_succ_of_le hlead29
  refine x_putFR hC hE 49 fl_X12_162 rfl hk0 (fun q h => by cases h; rfl) (Or.inr ⟨_, rfl⟩) (k_lt g30 (by decide)) dX12_init_342 hw (fun R30 hw => ?_)
  refine wm_aload_n hC 0 dX12_init_345 rfl (k_ne0 hk0 (by decide)) ?_
  refine wm_bipush hC dX12_init_346 (k := ?_)
  refine x_newarr hC hRm (atype := .int) (len := 22) 1 (by decide) ac_int (by decide) 31 9472 rfl rfl (Nat.le_of_ble_eq_true rfl) (Nat.le_of_ble_eq_true rfl) dX12_init_348 hw (fun ad31 had31 g31 hw => ?_)
  have hagad31 := wAg_tr hagad30 had31 hlead30
  have hlead31 := Nat.le_succ_of_le hlead30
  refine x_putFR hC hE 50 fl_X12_165 rfl hk0 (fun q h => by cases h; rfl) (Or.inr ⟨_, rfl⟩) (k_lt g31 (by decide)) dX12_init_350 hw (fun R31 hw => ?_)
  refine wm_aload_n hC 0 dX12_init_353 rfl (k_ne0 hk0 (by decide)) ?_
  refine wm_sipush hC dX12_init_354 (k := ?_)
  refine x_newarr hC hRm (atype := .int) (len := 2640) 1 (by decide) ac_int (by decide) 32 12112 rfl rfl (Nat.le_of_ble_eq_true rfl) (Nat.le_of_ble_eq_true rfl) dX12_init_357 hw (fun ad32 had32 g32 hw => ?_)
  have hagad32 := wAg_tr hagad31 had32 hlead31
  have hlead32 := Nat.le_succ_of_le hlead31
  refine x_putFR hC hE 51 fl_X12_168 rfl hk0 (fun q h => by cases h; rfl) (Or.inr ⟨_, rfl⟩) (k_lt g32 (by decide)) dX12_init_359 hw (fun R32 hw => ?_)
  refine wm_aload_n hC 0 dX12_init_362 rfl (k_ne0 hk0 (by decide)) ?_
  refine wm_iconst hC dX12_init_363 (k := ?_)
  refine x_putI hC 52 fl_X12_171 rfl hk0 dX12_init_364 hw (fun I20 hw => ?_)
  refine wm_aload_n hC 0 dX12_init_367 rfl (k_ne0 hk0 (by decide)) ?_
  refine wm_iconst hC dX12_init_368 (k := ?_)
  refine x_putI hC 53 fl_X12_174 rfl hk0 dX12_init_369 hw (fun I21 hw => ?_)
  refine wm_aload_n hC 0 dX12_init_372 rfl (k_ne0 hk0 (by decide)) ?_
  refine wm_lconst hC (x := 1) dX12_init_373 (k := ?_)
  refine x_putJ hC 54 fl_X12_177 rfl hk0 dX12_init_374 hw (fun J2 hw => ?_)
  refine wm_aload_n hC 0 dX12_init_377 rfl (k_ne0 hk0 (by decide)) ?_
  refine wm_bipush hC dX12_init_378 (k := ?_)
  refine x_newarr hC hRm (atype := .int) (len := 18) 1 (by decide) ac_int (by decide) 33 12130 rfl rfl (Nat.le_of_ble_eq_true rfl) (Nat.le_of_ble_eq_true rfl) dX12_init_380 hw (fun ad33 had33 g33 hw => ?_)
  have hagad33 := wAg_tr hagad32 had33 hlead32
  have hlead33 := Nat.le_succ_of_le hlead32
  refine x_putFR hC hE 55 fl_X12_180 rfl hk0 (fun q h => by cases h; rfl) (Or.inr ⟨_, rfl⟩) (k_lt g33 (by decide)) dX12_init_382 hw (fun R33 hw => ?_)
  refine wm_aload_n hC 0 dX12_init_385 rfl (k_ne0 hk0 (by decide)) ?_
  refine wm_sipush hC dX12_init_386 (k := ?_)
  refine x_newarrJ hC hRm (len := 500) ac_long (by decide) 34 12630 rfl rfl (Nat.le_of_ble_eq_true rfl) (Nat.le_of_ble_eq_true rfl) dX12_init_389 hw (fun ad34 had34 g34 hw => ?_)
  have hagad34 := wAg_tr hagad33 had34 hlead33
  have hlead34 := Nat.le_succ_of_le hlead33
  refine x_putFR hC hE 56 fl_X12_183 rfl hk0 (fun q h => by cases h; rfl) (Or.inr ⟨_, rfl⟩) (k_lt g34 (by decide)) dX12_init_391 hw (fun R34 hw => ?_)
  refine wm_aload_n hC 0 dX12_init_394 rfl (k_ne0 hk0 (by decide)) ?_
  refine wm_bipush hC dX12_init_395 (k := ?_)
  refine x_newarr hC hRm (atype := .int) (len := 12) 1 (by decide) ac_int (by decide) 35 12642 rfl rfl (Nat.le_of_ble_eq_true rfl) (Nat.le_of_ble_eq_true rfl) dX12_init_397 hw (fun ad35 had35 g35 hw => ?_)
  have hagad35 := wAg_tr hagad34 had35 hlead34
  have hlead35 := Nat.le_succ_of_le hlead34
  refine x_putFR hC hE 57 fl_X12_186 rfl hk0 (fun q h => by cases h; rfl) (Or.inr ⟨_, rfl⟩) (k_lt g35 (by decide)) dX12_init_399 hw (fun R35 hw => ?_)
  refine wm_aload_n hC 0 dX12_init_402 rfl (k_ne0 hk0 (by decide)) ?_
  refine wm_bipush hC dX12_init_403 (k := ?_)
  refine x_newarr hC hRm (atype := .int) (len := 6) 1 (by decide) ac_int (by decide) 36 12648 rfl rfl (Nat.le_of_ble_eq_true rfl) (Nat.le_of_ble_eq_true rfl) dX12_init_405 hw (fun ad36 had36 g36 hw => ?_)
  have hagad36 := wAg_tr hagad35 had36 hlead35
  have hlead36 := Nat.le_succ_of_le hlead35
  refine x_putFR hC hE 58 fl_X12_189 rfl hk0 (fun q h => by cases h; rfl) (Or.inr ⟨_, rfl⟩) (k_lt g36 (by decide)) dX12_init_407 hw (fun R36 hw => ?_)
  refine wm_aload_n hC 0 dX12_init_410 rfl (k_ne0 hk0 (by decide)) ?_
  refine wm_bipush hC dX12_init_411 (k := ?_)
  refine x_newarr hC hRm (atype := .int) (len := 6) 1 (by decide) ac_int (by decide) 37 12654 rfl rfl (Nat.le_of_ble_eq_true rfl) (Nat.le_of_ble_eq_true rfl) dX12_init_413 hw (fun ad37 had37 g37 hw => ?_)
  have hagad37 := wAg_tr hagad36 had37 hlead36
  have hlead37 := Nat.le_succ_of_le hlead36
  refine x_putFR hC hE 59 fl_X12_192 rfl hk0 (fun q h => by cases h; rfl) (Or.inr ⟨_, rfl⟩) (k_lt g37 (by decide)) dX12_init_415 hw (fun R37 hw => ?_)
  refine wm_aload_n hC 0 dX12_init_418 rfl (k_ne0 hk0 (by decide)) ?_
  refine wm_bipush hC dX12_init_419 (k := ?_)
  refine x_newarr hC hRm (atype := .int) (len := 6) 1 (by decide) ac_int (by decide) 38 12660 rfl rfl (Nat.le_of_ble_eq_true rfl) (Nat.le_of_ble_eq_true rfl) dX12_init_421 hw (fun ad38 had38 g38 hw => ?_)
  have hagad38 := wAg_tr hagad37 had38 hlead37
  have hlead38 := Nat.le_succ_of_le hlead37
  refine x_putFR hC hE 60 fl_X12_195 rfl hk0 (fun q h => by cases h; rfl) (Or.inr ⟨_, rfl⟩) (k_lt g38 (by decide)) dX12_init_423 hw (fun R38 hw => ?_)
  refine wm_aload_n hC 0 dX12_init_426 rfl (k_ne0 hk0 (by decide)) ?_
  refine wm_bipush hC dX12_init_427 (k := ?_)
  refine x_newarr hC hRm (atype := .int) (len := 6) 1 (by decide) ac_int (by decide) 39 12666 rfl rfl (Nat.le_of_ble_eq_true rfl) (Nat.le_of_ble_eq_true rfl) dX12_init_429 hw (fun ad39 had39 g39 hw => ?_)
  have hagad39 := wAg_tr hagad38 had39 hlead38
  have hlead39 := Nat.le_succ_of_le hlead38
  refine x_putFR hC hE 61 fl_X12_198 rfl hk0 (fun q h => by cases h; rfl) (Or.inr ⟨_, rfl⟩) (k_lt g39 (by decide)) dX12_init_431 hw (fun R39 hw => ?_)
  refine wm_aload_n hC 0 dX12_init_434 rfl (k_ne0 hk0 (by decide)) ?_
  refine wm_iconst hC dX12_init_435 (k := ?_)
  refine x_putI hC 62 fl_X12_201 rfl hk0 dX12_init_436 hw (fun I22 hw => ?_)
  refine wm_aload_n hC 0 dX12_init_439 rfl (k_ne0 hk0 (by decide)) ?_
  refine wm_bipush hC dX12_init_440 (k := ?_)
  refine x_newarr hC hRm (atype := .int) (len := 16) 1 (by decide) ac_int (by decide) 40 12682 rfl rfl (Nat.le_of_ble_eq_true rfl) (Nat.le_of_ble_eq_true rfl) dX12_init_442 hw (fun ad40 had40 g40 hw => ?_)
  have hagad40 := wAg_tr hagad39 had40 hlead39
  have hlead40 := Nat.le_succ_of_le hlead39
  refine x_putFR hC hE 63 fl_X12_204 rfl hk0 (fun q h => by cases h; rfl) (Or.inr ⟨_, rfl⟩) (k_lt g40 (by decide)) dX12_init_444 hw (fun R40 hw => ?_)
  refine wm_aload_n hC 0 dX12_init_447 rfl (k_ne0 hk0 (by decide)) ?_
  refine wm_bipush hC dX12_init_448 (k := ?_)
  refine x_newarr hC hRm (atype := .int) (len := 16) 1 (by decide) ac_int (by decide) 41 12698 rfl rfl (Nat.le_of_ble_eq_true rfl) (Nat.le_of_ble_eq_true rfl) dX12_init_450 hw (fun ad41 had41 g41 hw => ?_)
  have hagad41 := wAg_tr hagad40 had41 hlead40
  have hlead41 := Nat.le_succ_of_le hlead40
  refine x_putFR hC hE 64 fl_X12_207 rfl hk0 (fun q h => by cases h; rfl) (Or.inr ⟨_, rfl⟩) (k_lt g41 (by decide)) dX12_init_452 hw (fun R41 hw => ?_)
  refine wm_aload_n hC 0 dX12_init_455 rfl (k_ne0 hk0 (by decide)) ?_
  refine wm_bipush hC dX12_init_456 (k := ?_)
  refine x_newarr hC hRm (atype := .int) (len := 16) 1 (by decide) ac_int (by decide) 42 12714 rfl rfl (Nat.le_of_ble_eq_true rfl) (Nat.le_of_ble_eq_true rfl) dX12_init_458 hw (fun ad42 had42 g42 hw => ?_)
  have hagad42 := wAg_tr hagad41 had42 hlead41
  have hlead42 := Nat.le_succ_of_le hlead41
  refine x_putFR hC hE 65 fl_X12_210 rfl hk0 (fun q h => by cases h; rfl) (Or.inr ⟨_, rfl⟩) (k_lt g42 (by decide)) dX12_init_460 hw (fun R42 hw => ?_)
  refine wm_aload_n hC 0 dX12_init_463 rfl (k_ne0 hk0 (by decide)) ?_
  refine wm_sipush hC dX12_init_464 (k := ?_)
  refine x_newarr hC hRm (atype := .int) (len := 1860) 1 (by decide) ac_int (by decide) 43 14574 rfl rfl (Nat.le_of_ble_eq_true rfl) (Nat.le_of_ble_eq_true rfl) dX12_init_467 hw (fun ad43 had43 g43 hw => ?_)
  have hagad43 := wAg_tr hagad42 had43 hlead42
  have hlead43 := Nat.le_succ_of_le hlead42
  refine x_putFR hC hE 66 fl_X12_213 rfl hk0 (fun q h => by cases h; rfl) (Or.inr ⟨_, rfl⟩) (k_lt g43 (by decide)) dX12_init_469 hw (fun R43 hw => ?_)
  refine wm_aload_n hC 0 dX12_init_472 rfl (k_ne0 hk0 (by decide)) ?_
  refine wm_bipush hC dX12_init_473 (k := ?_)
  refine x_newarr hC hRm (atype := .int) (len := 30) 1 (by decide) ac_int (by decide) 44 14604 rfl rfl (Nat.le_of_ble_eq_true rfl) (Nat.le_of_ble_eq_true rfl) dX12_init_475 hw (fun ad44 had44 g44 hw => ?_)
  have hagad44 := wAg_tr hagad43 had44 hlead43
  have hlead44 := Nat.le_succ_of_le hlead43
  refine x_putFR hC hE 67 fl_X12_216 rfl hk0 (fun q h => by cases h; rfl) (Or.inr ⟨_, rfl⟩) (k_lt g44 (by decide)) dX12_init_477 hw (fun R44 hw => ?_)
  refine wm_aload_n hC 0 dX12_init_480 rfl (k_ne0 hk0 (by decide)) ?_
  refine wm_iconst hC dX12_init_481 (k := ?_)
  refine x_putI hC 68 fl_X12_219 rfl hk0 dX12_init_482 hw (fun I23 hw => ?_)
  refine wm_iconst hC dX12_init_485 (k := ?_)
  refine wm_istore_n hC dX12_init_486 (by decide) (L2 := [(1, vi 0), (0, vr l0)]) rfl ?_
  refine wm_iload_n hC 0 dX12_init_487 rfl ?_
  refine wm_bipush hC dX12_init_488 (k := ?_)
  refine xs_ge_f (tgt := 506) hC dX12_init_490 (by decide) (by decide) ?_
  refine wm_aload_n hC 1 dX12_init_493 rfl (k_ne0 hk0 (by decide)) ?_
  refine x_getR2 hC 26 fl_X12_90 rfl hk0 dX12_init_494 hw (fun g45 hw => ?_)
  refine wm_iload_n hC 0 dX12_init_497 rfl ?_
  refine wm_iconst hC dX12_init_498 (k := ?_)
  refine x_iast hC g45 dX12_init_499 hw (fun I24 hw => ?_)
  refine x_iinc hC 0 dX12_init_500 rfl (by decide) (L2 := [(1, vi 1), (0, vr l0)]) rfl ⟨by omega, hw⟩ (fun hw => ?_)
  refine wm_goto (tgt := 487) hC dX12_init_503 (by decide) ?_
  refine wm_iload_n hC 0 dX12_init_487 rfl ?_
  refine wm_bipush hC dX12_init_488 (k := ?_)
  refine xs_ge_f (tgt := 506) hC dX12_init_490 (by decide) (by decide) ?_
  refine wm_aload_n hC 1 dX12_init_493 rfl (k_ne0 hk0 (by decide)) ?_
  refine x_getR2 hC 26 fl_X12_90 rfl hk0 dX12_init_494 hw (fun g46 hw => ?_)
  refine wm_iload_n hC 0 dX12_init_497 rfl ?_
  refine wm_iconst hC dX12_init_498 (k := ?_)
  refine x_iast hC g46 dX12_init_499 hw (fun I25 hw => ?_)
  refine x_iinc hC 0 dX12_init_500 rfl (by decide) (L2 := [(1, vi 2), (0, vr l0)]) rfl ⟨by omega, hw⟩ (fun hw => ?_)
  refine wm_goto (tgt := 487) hC dX12_init_503 (by decide) ?_
  refine wm_iload_n hC 0 dX12_init_487 rfl ?_
  refine wm_bipush hC dX12_init_488 (k := ?_)
  refine xs_ge_f (tgt := 506) hC dX12_init_490 (by decide) (by decide) ?_
  refine wm_aload_n hC 1 dX12_init_493 rfl (k_ne0 hk0 (by decide)) ?_
  refine x_getR2 hC 26 fl_X12_90 rfl hk0 dX12_init_494 hw (fun g47 hw => ?_)
  refine wm_iload_n hC 0 dX12_init_497 rfl ?_
  refine wm_iconst hC dX12_init_498 (k := ?_)
  refine x_iast hC g47 dX12_init_499 hw (fun I26 hw => ?_)
  refine x_iinc hC 0 dX12_init_500 rfl (by decide) (L2 := [(1, vi 3), (0, vr l0)]) rfl ⟨by omega, hw⟩ (fun hw => ?_)
  refine wm_goto (tgt := 487) hC dX12_init_503 (by decide) ?_
  refine wm_iload_n hC 0 dX12_init_487 rfl ?_
  refine wm_bipush hC dX12_init_488 (k := ?_)
  refine xs_ge_f (tgt := 506) hC dX12_init_490 (by decide) (by decide) ?_
  refine wm_aload_n hC 1 dX12_init_493 rfl (k_ne0 hk0 (by decide)) ?_
  refine x_getR2 hC 26 fl_X12_90 rfl hk0 dX12_init_494 hw (fun g48 hw => ?_)
  refine wm_iload_n hC 0 dX12_init_497 rfl ?_
  refine wm_iconst hC dX12_init_498 (k := ?_)
  refine x_iast hC g48 dX12_init_499 hw (fun I27 hw => ?_)
  refine x_iinc hC 0 dX12_init_500 rfl (by decide) (L2 := [(1, vi 4), (0, vr l0)]) rfl ⟨by omega, hw⟩ (fun hw => ?_)
  refine wm_goto (tgt := 487) hC dX12_init_503 (by decide) ?_
  refine wm_iload_n hC 0 dX12_init_487 rfl ?_
  refine wm_bipush hC dX12_init_488 (k := ?_)
  refine xs_ge_f (tgt := 506) hC dX12_init_490 (by decide) (by decide) ?_
  refine wm_aload_n hC 1 dX12_init_493 rfl (k_ne0 hk0 (by decide)) ?_
  refine x_getR2 hC 26 fl_X12_90 rfl hk0 dX12_init_494 hw (fun g49 hw => ?_)
  refine wm_iload_n hC 0 dX12_init_497 rfl ?_
  refine wm_iconst hC dX12_init_498 (k := ?_)
  refine x_iast hC g49 dX12_init_499 hw (fun I28 hw => ?_)
  refine x_iinc hC 0 dX12_init_500 rfl (by decide) (L2 := [(1, vi 5), (0, vr l0)]) rfl ⟨by omega, hw⟩ (fun hw => ?_)
  refine wm_goto (tgt := 487) hC dX12_init_503 (by decide) ?_
  refine wm_iload_n hC 0 dX12_init_487 rfl ?_
  refine wm_bipush hC dX12_init_488 (k := ?_)
  refine xs_ge_f (tgt := 506) hC dX12_init_490 (by decide) (by decide) ?_
  refine wm_aload_n hC 1 dX12_init_493 rfl (k_ne0 hk0 (by decide)) ?_
  refine x_getR2 hC 26 fl_X12_90 rfl hk0 dX12_init_494 hw (fun g50 hw => ?_)
  refine wm_iload_n hC 0 dX12_init_497 rfl ?_
  refine wm_iconst hC dX12_init_498 (k := ?_)
  refine x_iast hC g50 dX12_init_499 hw (fun I29 hw => ?_)
  refine x_iinc hC 0 dX12_init_500 rfl (by decide) (L2 := [(1, vi 6), (0, vr l0)]) rfl ⟨by omega, hw⟩ (fun hw => ?_)
  refine wm_goto (tgt := 487) hC dX12_init_503 (by decide) ?_
  refine wm_iload_n hC 0 dX12_init_487 rfl ?_
  refine wm_bipush hC dX12_init_488 (k := ?_)
  refine xs_ge_t (tgt := 506) hC dX12_init_490 (by decide) (by decide) ?_
  exact wm_returnC hC hE hagad44 hlead44 dX12_init_506 hw
