def P12_slot (l0 : Nat) (l1 : Int) (I : mI) (Q : Int → Prop) : Prop := (rg ((I l0 52) + l1) ∧ (rg (2 + (Int.tmod ((I l0 52) + l1) 20)) ∧ (Q (2 + (Int.tmod ((I l0 52) + l1) 20)))))
set_option maxRecDepth 20000 in
theorem C12_slot {ad : Nat → Nat} {n : Nat} {I J : mI} {R : mR} {Q : Int → Prop}  {l0 : Nat} {l1 : Int} (hk0 : kK l0 = 12) (hw : P12_slot l0 l1 I Q) : wMet yX12_slot cX12_slot 2 (some .int) 1 12 false ad n I J R [vr l0, vi l1] (fun r I' J' R' => (I' = I ∧ J' = J ∧ R' = R) ∧ Q r) := by
  refine wMet_of (by decide) (Nat.le_of_ble_eq_true rfl) (fun C hC hRm hE hS => ?_)
  refine (show WM C ad n I J R 0 0 0 [(0, vr l0), (1, vi l1)] [] from ?_)
  unfold P12_slot at hw
  refine wm_iconst hC dX12_slot_0 (k := ?_)
  refine wm_aload_n hC 0 dX12_slot_1 rfl (k_ne0 hk0 (by decide)) ?_
  refine x_getI hC 52 fl_X12_171 rfl hk0 dX12_slot_2 ?_
  refine wm_iload_n hC 1 dX12_slot_5 rfl ?_
  refine x_iadd hC dX12_slot_6 hw (fun hw => ?_)
  refine wm_bipush hC dX12_slot_7 (k := ?_)
  refine x_iremP hC (by decide) dX12_slot_9 ?_
  refine x_iadd hC dX12_slot_10 hw (fun hw => ?_)
  exact wm_ireturn hC hE dX12_slot_11 ⟨⟨rfl, rfl, rfl⟩, hw⟩
def P12_keeps_b32 (l0 : Nat) (I : mI) (R : mR) (Q : mI → Prop) : Prop := (P12_slot l0 (I l0 53) I (fun r1 => (P12_copies l0 r1 0 I R (fun I3 => (rg ((I3 l0 53) + 1) ∧ (wLet (up I3 l0 53 ((I3 l0 53) + 1)) (fun I4 => (Q I4))))))))
set_option maxRecDepth 20000 in
theorem W12_keeps_b32 {C : wX} {ad : Nat → Nat} {n : Nat} {I J : mI} {R : mR} {Q : mI → Prop} (hC : wOK C cX12_keeps 1 RX12) (hRm : wRm C 2 35 0 0) (hE : wEnd C none ad n (fun _ I' J' R' => (J' = J ∧ R' = R) ∧ Q I')) {l0 : Nat}   (hk0 : kK l0 = 12)  (hw : P12_keeps_b32 l0 I R Q) : WM C ad n I J R 0 0 32 [(0, vr l0)] [] := by
  unfold P12_keeps_b32 at hw
  refine wm_aload_n hC 0 dX12_keeps_32 rfl (k_ne0 hk0 (by decide)) ?_
  refine wm_aload_n hC 0 dX12_keeps_33 rfl (k_ne0 hk0 (by decide)) ?_
  refine wm_aload_n hC 0 dX12_keeps_34 rfl (k_ne0 hk0 (by decide)) ?_
  refine x_getI hC 53 fl_X12_174 rfl hk0 dX12_keeps_35 ?_
  refine y_callV_i_n hC hRm noS ml_X12_421 hk0 (C12_slot hk0 hw) (Nat.le_of_ble_eq_true rfl) (Nat.le_of_ble_eq_true rfl) ⟨Nat.zero_le _, Nat.zero_le _⟩ rfl (st := [vr l0]) rfl (Nat.le_of_ble_eq_true rfl) dX12_keeps_38 (fun r1 hw => ?_)
  refine wm_iconst hC dX12_keeps_41 (k := ?_)
  refine y_callV_v_I hC hRm noS ml_X12_424 hk0 (C12_copies hk0 hw) (Nat.le_of_ble_eq_true rfl) (Nat.le_of_ble_eq_true rfl) ⟨Nat.zero_le _, Nat.zero_le _⟩ rfl (st := []) rfl (Nat.le_of_ble_eq_true rfl) dX12_keeps_42 (fun I3 hw => ?_)
  refine wm_aload_n hC 0 dX12_keeps_45 rfl (k_ne0 hk0 (by decide)) ?_
  refine wm_dup hC dX12_keeps_46 (k := ?_)
  refine x_getI hC 53 fl_X12_174 rfl hk0 dX12_keeps_47 ?_
  refine wm_iconst hC dX12_keeps_50 (k := ?_)
  refine x_iadd hC dX12_keeps_51 hw (fun hw => ?_)
  refine x_putI hC 53 fl_X12_174 rfl hk0 dX12_keeps_52 hw (fun I4 hw => ?_)
  exact wm_return hC hE dX12_keeps_55 ⟨⟨rfl, rfl⟩, hw⟩
def P12_keeps (l0 : Nat) (I : mI) (R : mR) (Q : mI → Prop) : Prop := (if (I l0 53) = 20 then (rg ((I l0 52) + 1) ∧ (wLet (up I l0 52 (Int.tmod ((I l0 52) + 1) 20)) (fun I1 => (rg ((I1 l0 53) - 1) ∧ (wLet (up I1 l0 53 ((I1 l0 53) - 1)) (fun I2 => (P12_keeps_b32 l0 I2 R Q))))))) else (P12_keeps_b32 l0 I R Q))
set_option maxRecDepth 20000 in
theorem C12_keeps {ad : Nat → Nat} {n : Nat} {I J : mI} {R : mR} {Q : mI → Prop}  {l0 : Nat} (hk0 : kK l0 = 12) (hw : P12_keeps l0 I R Q) : wMet yX12_keeps cX12_keeps 1 none 2 35 false ad n I J R [vr l0] (fun _ I' J' R' => (J' = J ∧ R' = R) ∧ Q I') := by
  refine wMet_of (by decide) (Nat.le_of_ble_eq_true rfl) (fun C hC hRm hE hS => ?_)
  refine (show WM C ad n I J R 0 0 0 [(0, vr l0)] [] from ?_)
  unfold P12_keeps at hw
  refine wm_aload_n hC 0 dX12_keeps_0 rfl (k_ne0 hk0 (by decide)) ?_
  refine x_getI hC 53 fl_X12_174 rfl hk0 dX12_keeps_1 ?_
  refine wm_bipush hC dX12_keeps_4 (k := ?_)
  refine wm_icmp_ne (tgt := 32) hC dX12_keeps_6 (by decide) hw (fun hw => ?_) (fun hw => ?_)
  · refine wm_aload_n hC 0 dX12_keeps_9 rfl (k_ne0 hk0 (by decide)) ?_
    refine wm_aload_n hC 0 dX12_keeps_10 rfl (k_ne0 hk0 (by decide)) ?_
    refine x_getI hC 52 fl_X12_171 rfl hk0 dX12_keeps_11 ?_
    refine wm_iconst hC dX12_keeps_14 (k := ?_)
    refine x_iadd hC dX12_keeps_15 hw (fun hw => ?_)
    refine wm_bipush hC dX12_keeps_16 (k := ?_)
    refine x_iremP hC (by decide) dX12_keeps_18 ?_
    refine x_putI hC 52 fl_X12_171 rfl hk0 dX12_keeps_19 hw (fun I1 hw => ?_)
    refine wm_aload_n hC 0 dX12_keeps_22 rfl (k_ne0 hk0 (by decide)) ?_
    refine wm_dup hC dX12_keeps_23 (k := ?_)
    refine x_getI hC 53 fl_X12_174 rfl hk0 dX12_keeps_24 ?_
    refine wm_iconst hC dX12_keeps_27 (k := ?_)
    refine x_isub hC dX12_keeps_28 hw (fun hw => ?_)
    refine x_putI hC 53 fl_X12_174 rfl hk0 dX12_keeps_29 hw (fun I2 hw => ?_)
    exact W12_keeps_b32 hC hRm hE hk0 hw
  · exact W12_keeps_b32 hC hRm hE hk0 hw
def P12_undo (l0 : Nat) (I : mI) (R : mR) (Q : Int → mI → Prop) : Prop := (if (I l0 53) = 0 then (P12_refuses l0 4 I R (fun r2 I3 => (if r2 < 0 then (Q 0 I3) else (Q 1 I3)))) else (rg ((I l0 53) - 1) ∧ (wLet (up I l0 53 ((I l0 53) - 1)) (fun I1 => (P12_slot l0 (I1 l0 53) I1 (fun r1 => (P12_copies l0 0 r1 I1 R (fun I2 => (Q 1 I2)))))))))
set_option maxRecDepth 20000 in
theorem C12_undo {ad : Nat → Nat} {n : Nat} {I J : mI} {R : mR} {Q : Int → mI → Prop}  {l0 : Nat} (hk0 : kK l0 = 12) (hw : P12_undo l0 I R Q) : wMet yX12_undo cX12_undo 1 (some .boolean) 2 35 false ad n I J R [vr l0] (fun r I' J' R' => (J' = J ∧ R' = R) ∧ Q r I') := by
  refine wMet_of (by decide) (Nat.le_of_ble_eq_true rfl) (fun C hC hRm hE hS => ?_)
  refine (show WM C ad n I J R 0 0 0 [(0, vr l0)] [] from ?_)
  unfold P12_undo at hw
  refine wm_aload_n hC 0 dX12_undo_0 rfl (k_ne0 hk0 (by decide)) ?_
  refine x_getI hC 53 fl_X12_174 rfl hk0 dX12_undo_1 ?_
  refine wm_if_ne (tgt := 21) hC dX12_undo_4 (by decide) hw (fun hw => ?_) (fun hw => ?_)
  · refine wm_aload_n hC 0 dX12_undo_7 rfl (k_ne0 hk0 (by decide)) ?_
    refine wm_iconst hC dX12_undo_8 (k := ?_)
    refine y_callV_i_I hC hRm noS ml_X12_222 hk0 (C12_refuses hk0 hw) (Nat.le_of_ble_eq_true rfl) (Nat.le_of_ble_eq_true rfl) ⟨Nat.zero_le _, Nat.zero_le _⟩ rfl (st := []) rfl (Nat.le_of_ble_eq_true rfl) dX12_undo_9 (fun r2 I3 hw => ?_)
    refine wm_if_lt (tgt := 19) hC dX12_undo_12 (by decide) hw (fun hw => ?_) (fun hw => ?_)
    · refine wm_iconst hC dX12_undo_19 (k := ?_)
      exact wm_zreturn hC hE (Or.inl rfl) dX12_undo_20 ⟨⟨rfl, rfl⟩, hw⟩
    · refine wm_iconst hC dX12_undo_15 (k := ?_)
      refine wm_goto (tgt := 20) hC dX12_undo_16 (by decide) ?_
      exact wm_zreturn hC hE (Or.inr rfl) dX12_undo_20 ⟨⟨rfl, rfl⟩, hw⟩
  · refine wm_aload_n hC 0 dX12_undo_21 rfl (k_ne0 hk0 (by decide)) ?_
    refine wm_dup hC dX12_undo_22 (k := ?_)
    refine x_getI hC 53 fl_X12_174 rfl hk0 dX12_undo_23 ?_
    refine wm_iconst hC dX12_undo_26 (k := ?_)
    refine x_isub hC dX12_undo_27 hw (fun hw => ?_)
    refine x_putI hC 53 fl_X12_174 rfl hk0 dX12_undo_28 hw (fun I1 hw => ?_)
    refine wm_aload_n hC 0 dX12_undo_31 rfl (k_ne0 hk0 (by decide)) ?_
    refine wm_iconst hC dX12_undo_32 (k := ?_)
    refine wm_aload_n hC 0 dX12_undo_33 rfl (k_ne0 hk0 (by decide)) ?_
    refine wm_aload_n hC 0 dX12_undo_34 rfl (k_ne0 hk0 (by decide)) ?_
    refine x_getI hC 53 fl_X12_174 rfl hk0 dX12_undo_35 ?_
    refine y_callV_i_n hC hRm noS ml_X12_421 hk0 (C12_slot hk0 hw) (Nat.le_of_ble_eq_true rfl) (Nat.le_of_ble_eq_true rfl) ⟨Nat.zero_le _, Nat.zero_le _⟩ rfl (st := [vi 0, vr l0]) rfl (Nat.le_of_ble_eq_true rfl) dX12_undo_38 (fun r1 hw => ?_)
    refine y_callV_v_I hC hRm noS ml_X12_424 hk0 (C12_copies hk0 hw) (Nat.le_of_ble_eq_true rfl) (Nat.le_of_ble_eq_true rfl) ⟨Nat.zero_le _, Nat.zero_le _⟩ rfl (st := []) rfl (Nat.le_of_ble_eq_true rfl) dX12_undo_41 (fun I2 hw => ?_)
    refine wm_iconst hC dX12_undo_44 (k := ?_)
    exact wm_zreturn hC hE (Or.inr rfl) dX12_undo_45 ⟨⟨rfl, rfl⟩, hw⟩
def P12_within (l0 : Int)  (Q : Int → Prop) : Prop := (if l0 ≤ 1000000 then (if ((-1000000) : Int) ≤ l0 then (Q l0) else (Q (-1000000))) else (Q 1000000))
set_option maxRecDepth 20000 in
theorem C12_within {ad : Nat → Nat} {n : Nat} {I J : mI} {R : mR} {Q : Int → Prop}  {l0 : Int}  (hw : P12_within l0 Q) : wMet yX12_within cX12_within 2 (some .long) 1 12 false ad n I J R [vl l0] (fun r I' J' R' => (I' = I ∧ J' = J ∧ R' = R) ∧ Q r) := by
  refine wMet_of (by decide) (Nat.le_of_ble_eq_true rfl) (fun C hC hRm hE hS => ?_)
  refine (show WM C ad n I J R 0 0 0 [(0, vl l0)] [] from ?_)
  unfold P12_within at hw
  refine wm_lload_n hC 0 dX12_within_0 rfl ?_
  refine wm_ldc2 hC (x := 1000000) tc_X12_427 rfl dX12_within_1 (k := ?_)
  refine wm_lcmp_le (tgt := 14) hC dX12_within_4 dX12_within_5 (by decide) hw (fun hw => ?_) (fun hw => ?_)
  · refine wm_lload_n hC 0 dX12_within_14 rfl ?_
    refine wm_ldc2 hC (x := (-1000000)) tc_X12_429 rfl dX12_within_15 (k := ?_)
    refine wm_lcmp_ge (tgt := 28) hC dX12_within_18 dX12_within_19 (by decide) hw (fun hw => ?_) (fun hw => ?_)
    · refine wm_lload_n hC 0 dX12_within_28 rfl ?_
      exact wm_lreturn hC hE dX12_within_29 ⟨⟨rfl, rfl, rfl⟩, hw⟩
    · refine wm_ldc2 hC (x := (-1000000)) tc_X12_429 rfl dX12_within_22 (k := ?_)
      refine wm_goto (tgt := 29) hC dX12_within_25 (by decide) ?_
      exact wm_lreturn hC hE dX12_within_29 ⟨⟨rfl, rfl, rfl⟩, hw⟩
  · refine wm_ldc2 hC (x := 1000000) tc_X12_427 rfl dX12_within_8 (k := ?_)
    refine wm_goto (tgt := 29) hC dX12_within_11 (by decide) ?_
    exact wm_lreturn hC hE dX12_within_29 ⟨⟨rfl, rfl, rfl⟩, hw⟩
def P12_floor_b43 (l4 : Int) (s0 : Int) (s1 : Int) (Q : Int → Prop) : Prop := (if s0 = s1 then (Q l4) else (rl (l4 - 1) ∧ (Q (l4 - 1))))
set_option maxRecDepth 20000 in
theorem W12_floor_b43 {C : wX} {ad : Nat → Nat} {n : Nat} {I J : mI} {R : mR} {Q : Int → Prop} (hC : wOK C cX12_floor 6 RX12) (hRm : wRm C 1 12 0 0) (hE : wEnd C (some .long) ad n (fun r I' J' R' => (I' = I ∧ J' = J ∧ R' = R) ∧ Q r)) {l4 : Int} {s0 : Int} {s1 : Int}     (hw : P12_floor_b43 l4 s0 s1 Q) : WM C ad n I J R 0 0 43 [(4, vl l4)] [vi s1, vi s0] := by
  unfold P12_floor_b43 at hw
  refine wm_icmp_eq (tgt := 53) hC dX12_floor_43 (by decide) hw (fun hw => ?_) (fun hw => ?_)
  · refine wm_lload hC 0 dX12_floor_53 rfl ?_
    exact wm_lreturn hC hE dX12_floor_55 ⟨⟨rfl, rfl, rfl⟩, hw⟩
  · refine wm_lload hC 0 dX12_floor_46 rfl ?_
    refine wm_lconst hC (x := 1) dX12_floor_48 (k := ?_)
    refine x_lsub hC dX12_floor_49 hw (fun hw => ?_)
    refine wm_goto (tgt := 55) hC dX12_floor_50 (by decide) ?_
    exact wm_lreturn hC hE dX12_floor_55 ⟨⟨rfl, rfl, rfl⟩, hw⟩
def P12_floor_b32 (l2 : Int) (l4 : Int) (s0 : Int) (Q : Int → Prop) : Prop := (if (0 : Int) ≤ l2 then (P12_floor_b43 l4 s0 0 Q) else (P12_floor_b43 l4 s0 1 Q))
set_option maxRecDepth 20000 in
theorem W12_floor_b32 {C : wX} {ad : Nat → Nat} {n : Nat} {I J : mI} {R : mR} {Q : Int → Prop} (hC : wOK C cX12_floor 6 RX12) (hRm : wRm C 1 12 0 0) (hE : wEnd C (some .long) ad n (fun r I' J' R' => (I' = I ∧ J' = J ∧ R' = R) ∧ Q r)) {l2 : Int} {l4 : Int} {s0 : Int}     (hw : P12_floor_b32 l2 l4 s0 Q) : WM C ad n I J R 0 0 32 [(2, vl l2), (4, vl l4)] [vi s0] := by
  unfold P12_floor_b32 at hw
  refine wm_lload_n hC 0 dX12_floor_32 rfl ?_
  refine wm_lconst hC (x := 0) dX12_floor_33 (k := ?_)
  refine wm_lcmp_ge (tgt := 42) hC dX12_floor_34 dX12_floor_35 (by decide) hw (fun hw => ?_) (fun hw => ?_)
  · refine wm_iconst hC dX12_floor_42 (k := ?_)
    refine wm_sub [1] (L2 := [(4, vl l4)]) rfl ?_
    exact W12_floor_b43 hC hRm hE  hw
  · refine wm_iconst hC dX12_floor_38 (k := ?_)
    refine wm_goto (tgt := 43) hC dX12_floor_39 (by decide) ?_
    refine wm_sub [1] (L2 := [(4, vl l4)]) rfl ?_
    exact W12_floor_b43 hC hRm hE  hw
def P12_floor (l0 : Int) (l2 : Int)  (Q : Int → Prop) : Prop := (if l2 = 0 then (Q 0) else ((l2 ≠ 0 ∧ rl (Int.tdiv l0 l2)) ∧ (l2 ≠ 0 ∧ (if (Int.tmod l0 l2) = 0 then (Q (Int.tdiv l0 l2)) else (if (0 : Int) ≤ l0 then (P12_floor_b32 l2 (Int.tdiv l0 l2) 0 Q) else (P12_floor_b32 l2 (Int.tdiv l0 l2) 1 Q))))))
set_option maxRecDepth 20000 in
theorem C12_floor {ad : Nat → Nat} {n : Nat} {I J : mI} {R : mR} {Q : Int → Prop}  {l0 : Int} {l2 : Int}  (hw : P12_floor l0 l2 Q) : wMet yX12_floor cX12_floor 6 (some .long) 1 12 false ad n I J R [vl l0, vl l2] (fun r I' J' R' => (I' = I ∧ J' = J ∧ R' = R) ∧ Q r) := by
  refine wMet_of (by decide) (Nat.le_of_ble_eq_true rfl) (fun C hC hRm hE hS => ?_)
  refine (show WM C ad n I J R 0 0 0 [(0, vl l0), (2, vl l2)] [] from ?_)
  unfold P12_floor at hw
  refine wm_lload_n hC 1 dX12_floor_0 rfl ?_
  refine wm_lconst hC (x := 0) dX12_floor_1 (k := ?_)
  refine wm_lcmp_ne (tgt := 8) hC dX12_floor_2 dX12_floor_3 (by decide) hw (fun hw => ?_) (fun hw => ?_)
  · refine wm_lconst hC (x := 0) dX12_floor_6 (k := ?_)
    exact wm_lreturn hC hE dX12_floor_7 ⟨⟨rfl, rfl, rfl⟩, hw⟩
  · refine wm_lload_n hC 0 dX12_floor_8 rfl ?_
    refine wm_lload_n hC 1 dX12_floor_9 rfl ?_
    refine x_ldiv hC dX12_floor_10 hw (fun hw => ?_)
    refine wm_lstore hC dX12_floor_11 (by decide) (L2 := [(4, vl (Int.tdiv l0 l2)), (0, vl l0), (2, vl l2)]) rfl ?_
    refine wm_lload_n hC 1 dX12_floor_13 rfl ?_
    refine wm_lload_n hC 2 dX12_floor_14 rfl ?_
    refine x_lrem hC dX12_floor_15 hw (fun hw => ?_)
    refine wm_lconst hC (x := 0) dX12_floor_16 (k := ?_)
    refine wm_lcmp_eq (tgt := 53) hC dX12_floor_17 dX12_floor_18 (by decide) hw (fun hw => ?_) (fun hw => ?_)
    · refine wm_lload hC 0 dX12_floor_53 rfl ?_
      exact wm_lreturn hC hE dX12_floor_55 ⟨⟨rfl, rfl, rfl⟩, hw⟩
    · refine wm_lload_n hC 1 dX12_floor_21 rfl ?_
      refine wm_lconst hC (x := 0) dX12_floor_22 (k := ?_)
      refine wm_lcmp_ge (tgt := 31) hC dX12_floor_23 dX12_floor_24 (by decide) hw (fun hw => ?_) (fun hw => ?_)
      · refine wm_iconst hC dX12_floor_31 (k := ?_)
        refine wm_sub [2, 0] (L2 := [(2, vl l2), (4, vl (Int.tdiv l0 l2))]) rfl ?_
        exact W12_floor_b32 hC hRm hE  hw
      · refine wm_iconst hC dX12_floor_27 (k := ?_)
        refine wm_goto (tgt := 32) hC dX12_floor_28 (by decide) ?_
        refine wm_sub [2, 0] (L2 := [(2, vl l2), (4, vl (Int.tdiv l0 l2))]) rfl ?_
        exact W12_floor_b32 hC hRm hE  hw
def P12_two (l0 : Int) (l1 : Int) (l3 : Int)  (Q : Int → Prop) : Prop := (if l0 = 31 then (rl (l1 + l3) ∧ (P12_within (l1 + l3) (fun r1 => (Q r1)))) else (if l0 = 32 then (rl (l1 - l3) ∧ (P12_within (l1 - l3) (fun r2 => (Q r2)))) else (if l0 = 33 then (rl (l1 * l3) ∧ (P12_within (l1 * l3) (fun r3 => (Q r3)))) else (if l0 = 34 then (P12_floor l1 l3 (fun r4 => (P12_within r4 (fun r5 => (Q r5))))) else (if l0 = 35 then (if l3 = 0 then (Q 0) else (P12_floor l1 l3 (fun r6 => (rl (l3 * r6) ∧ (rl (l1 - (l3 * r6)) ∧ (P12_within (l1 - (l3 * r6)) (fun r7 => (Q r7)))))))) else (if l0 = 36 then (if l3 ≤ l1 then (Q l3) else (Q l1)) else (if l0 = 37 then (if l1 ≤ l3 then (Q l3) else (Q l1)) else (if l0 = 38 then (if l3 ≤ l1 then (Q 0) else (Q 1)) else (if l0 = 39 then (if l1 ≤ l3 then (Q 0) else (Q 1)) else (if l0 = 40 then (if l1 = l3 then (Q 1) else (Q 0)) else (if l0 = 41 then (Q (lAnd l1 l3)) else (Q (lOr l1 l3)))))))))))))
set_option maxRecDepth 20000 in
theorem C12_two {ad : Nat → Nat} {n : Nat} {I J : mI} {R : mR} {Q : Int → Prop}  {l0 : Int} {l1 : Int} {l3 : Int}  (hw : P12_two l0 l1 l3 Q) : wMet yX12_two cX12_two 5 (some .long) 2 37 false ad n I J R [vi l0, vl l1, vl l3] (fun r I' J' R' => (I' = I ∧ J' = J ∧ R' = R) ∧ Q r) := by
  refine wMet_of (by decide) (Nat.le_of_ble_eq_true rfl) (fun C hC hRm hE hS => ?_)
  refine (show WM C ad n I J R 0 0 0 [(0, vi l0), (1, vl l1), (3, vl l3)] [] from ?_)
  unfold P12_two at hw
  refine wm_iload_n hC 0 dX12_two_0 rfl ?_
  by_cases hc1 : l0 = 31
  · rw [if_pos hc1] at hw
    refine wm_tableIn (v := 31) (tgt := 60) hC dX12_two_1 hc1 (by decide) (by decide) rfl rfl ?_
    refine wm_lload_n hC 1 dX12_two_60 rfl ?_
    refine wm_lload_n hC 2 dX12_two_61 rfl ?_
    refine x_ladd hC dX12_two_62 hw (fun hw => ?_)
    refine y_callS_l_n hC hRm noS ml_X12_431 (C12_within  hw) (Nat.le_of_ble_eq_true rfl) (Nat.le_of_ble_eq_true rfl) ⟨Nat.zero_le _, Nat.zero_le _⟩ rfl (st := []) rfl (Nat.le_of_ble_eq_true rfl) dX12_two_63 (fun r1 hw => ?_)
    exact wm_lreturn hC hE dX12_two_66 ⟨⟨rfl, rfl, rfl⟩, hw⟩
  rw [if_neg hc1] at hw
  by_cases hc2 : l0 = 32
  · rw [if_pos hc2] at hw
    refine wm_tableIn (v := 32) (tgt := 67) hC dX12_two_1 hc2 (by decide) (by decide) rfl rfl ?_
    refine wm_lload_n hC 1 dX12_two_67 rfl ?_
    refine wm_lload_n hC 2 dX12_two_68 rfl ?_
    refine x_lsub hC dX12_two_69 hw (fun hw => ?_)
    refine y_callS_l_n hC hRm noS ml_X12_431 (C12_within  hw) (Nat.le_of_ble_eq_true rfl) (Nat.le_of_ble_eq_true rfl) ⟨Nat.zero_le _, Nat.zero_le _⟩ rfl (st := []) rfl (Nat.le_of_ble_eq_true rfl) dX12_two_70 (fun r2 hw => ?_)
    exact wm_lreturn hC hE dX12_two_73 ⟨⟨rfl, rfl, rfl⟩, hw⟩
  rw [if_neg hc2] at hw
  by_cases hc3 : l0 = 33
  · rw [if_pos hc3] at hw
    refine wm_tableIn (v := 33) (tgt := 74) hC dX12_two_1 hc3 (by decide) (by decide) rfl rfl ?_
    refine wm_lload_n hC 1 dX12_two_74 rfl ?_
    refine wm_lload_n hC 2 dX12_two_75 rfl ?_
    refine x_lmul hC dX12_two_76 hw (fun hw => ?_)
    refine y_callS_l_n hC hRm noS ml_X12_431 (C12_within  hw) (Nat.le_of_ble_eq_true rfl) (Nat.le_of_ble_eq_true rfl) ⟨Nat.zero_le _, Nat.zero_le _⟩ rfl (st := []) rfl (Nat.le_of_ble_eq_true rfl) dX12_two_77 (fun r3 hw => ?_)
    exact wm_lreturn hC hE dX12_two_80 ⟨⟨rfl, rfl, rfl⟩, hw⟩
  rw [if_neg hc3] at hw
  by_cases hc4 : l0 = 34
  · rw [if_pos hc4] at hw
    refine wm_tableIn (v := 34) (tgt := 81) hC dX12_two_1 hc4 (by decide) (by decide) rfl rfl ?_
    refine wm_lload_n hC 1 dX12_two_81 rfl ?_
    refine wm_lload_n hC 2 dX12_two_82 rfl ?_
    refine y_callS_l_n hC hRm noS ml_X12_435 (C12_floor  hw) (Nat.le_of_ble_eq_true rfl) (Nat.le_of_ble_eq_true rfl) ⟨Nat.zero_le _, Nat.zero_le _⟩ rfl (st := []) rfl (Nat.le_of_ble_eq_true rfl) dX12_two_83 (fun r4 hw => ?_)
    refine y_callS_l_n hC hRm noS ml_X12_431 (C12_within  hw) (Nat.le_of_ble_eq_true rfl) (Nat.le_of_ble_eq_true rfl) ⟨Nat.zero_le _, Nat.zero_le _⟩ rfl (st := []) rfl (Nat.le_of_ble_eq_true rfl) dX12_two_86 (fun r5 hw => ?_)
    exact wm_lreturn hC hE dX12_two_89 ⟨⟨rfl, rfl, rfl⟩, hw⟩
  rw [if_neg hc4] at hw
  by_cases hc5 : l0 = 35
  · rw [if_pos hc5] at hw
    refine wm_tableIn (v := 35) (tgt := 90) hC dX12_two_1 hc5 (by decide) (by decide) rfl rfl ?_
    refine wm_lload_n hC 2 dX12_two_90 rfl ?_
    refine wm_lconst hC (x := 0) dX12_two_91 (k := ?_)
    refine wm_lcmp_ne (tgt := 100) hC dX12_two_92 dX12_two_93 (by decide) hw (fun hw => ?_) (fun hw => ?_)
    · refine wm_lconst hC (x := 0) dX12_two_96 (k := ?_)
      refine wm_goto (tgt := 112) hC dX12_two_97 (by decide) ?_
      exact wm_lreturn hC hE dX12_two_112 ⟨⟨rfl, rfl, rfl⟩, hw⟩
    · refine wm_lload_n hC 1 dX12_two_100 rfl ?_
      refine wm_lload_n hC 2 dX12_two_101 rfl ?_
      refine wm_lload_n hC 1 dX12_two_102 rfl ?_
      refine wm_lload_n hC 2 dX12_two_103 rfl ?_
      refine y_callS_l_n hC hRm noS ml_X12_435 (C12_floor  hw) (Nat.le_of_ble_eq_true rfl) (Nat.le_of_ble_eq_true rfl) ⟨Nat.zero_le _, Nat.zero_le _⟩ rfl (st := [vl l3, vl l1]) rfl (Nat.le_of_ble_eq_true rfl) dX12_two_104 (fun r6 hw => ?_)
      refine x_lmul hC dX12_two_107 hw (fun hw => ?_)
      refine x_lsub hC dX12_two_108 hw (fun hw => ?_)
      refine y_callS_l_n hC hRm noS ml_X12_431 (C12_within  hw) (Nat.le_of_ble_eq_true rfl) (Nat.le_of_ble_eq_true rfl) ⟨Nat.zero_le _, Nat.zero_le _⟩ rfl (st := []) rfl (Nat.le_of_ble_eq_true rfl) dX12_two_109 (fun r7 hw => ?_)
      exact wm_lreturn hC hE dX12_two_112 ⟨⟨rfl, rfl, rfl⟩, hw⟩
  rw [if_neg hc5] at hw
  by_cases hc6 : l0 = 36
  · rw [if_pos hc6] at hw
    refine wm_tableIn (v := 36) (tgt := 113) hC dX12_two_1 hc6 (by decide) (by decide) rfl rfl ?_
    refine wm_lload_n hC 1 dX12_two_113 rfl ?_
    refine wm_lload_n hC 2 dX12_two_114 rfl ?_
    refine wm_lcmp_ge (tgt := 123) hC dX12_two_115 dX12_two_116 (by decide) hw (fun hw => ?_) (fun hw => ?_)
    · refine wm_lload_n hC 2 dX12_two_123 rfl ?_
      exact wm_lreturn hC hE dX12_two_124 ⟨⟨rfl, rfl, rfl⟩, hw⟩
    · refine wm_lload_n hC 1 dX12_two_119 rfl ?_
      refine wm_goto (tgt := 124) hC dX12_two_120 (by decide) ?_
      exact wm_lreturn hC hE dX12_two_124 ⟨⟨rfl, rfl, rfl⟩, hw⟩
  rw [if_neg hc6] at hw
  by_cases hc7 : l0 = 37
  · rw [if_pos hc7] at hw
    refine wm_tableIn (v := 37) (tgt := 125) hC dX12_two_1 hc7 (by decide) (by decide) rfl rfl ?_
    refine wm_lload_n hC 1 dX12_two_125 rfl ?_
    refine wm_lload_n hC 2 dX12_two_126 rfl ?_
    refine wm_lcmp_le (tgt := 135) hC dX12_two_127 dX12_two_128 (by decide) hw (fun hw => ?_) (fun hw => ?_)
    · refine wm_lload_n hC 2 dX12_two_135 rfl ?_
      exact wm_lreturn hC hE dX12_two_136 ⟨⟨rfl, rfl, rfl⟩, hw⟩
    · refine wm_lload_n hC 1 dX12_two_131 rfl ?_
      refine wm_goto (tgt := 136) hC dX12_two_132 (by decide) ?_
      exact wm_lreturn hC hE dX12_two_136 ⟨⟨rfl, rfl, rfl⟩, hw⟩
  rw [if_neg hc7] at hw
  by_cases hc8 : l0 = 38
  · rw [if_pos hc8] at hw
    refine wm_tableIn (v := 38) (tgt := 137) hC dX12_two_1 hc8 (by decide) (by decide) rfl rfl ?_
    refine wm_lload_n hC 1 dX12_two_137 rfl ?_
    refine wm_lload_n hC 2 dX12_two_138 rfl ?_
    refine wm_lcmp_ge (tgt := 147) hC dX12_two_139 dX12_two_140 (by decide) hw (fun hw => ?_) (fun hw => ?_)
    · refine wm_lconst hC (x := 0) dX12_two_147 (k := ?_)
      exact wm_lreturn hC hE dX12_two_148 ⟨⟨rfl, rfl, rfl⟩, hw⟩
    · refine wm_lconst hC (x := 1) dX12_two_143 (k := ?_)
      refine wm_goto (tgt := 148) hC dX12_two_144 (by decide) ?_
      exact wm_lreturn hC hE dX12_two_148 ⟨⟨rfl, rfl, rfl⟩, hw⟩
  rw [if_neg hc8] at hw
  by_cases hc9 : l0 = 39
  · rw [if_pos hc9] at hw
    refine wm_tableIn (v := 39) (tgt := 149) hC dX12_two_1 hc9 (by decide) (by decide) rfl rfl ?_
    refine wm_lload_n hC 1 dX12_two_149 rfl ?_
    refine wm_lload_n hC 2 dX12_two_150 rfl ?_
    refine wm_lcmp_le (tgt := 159) hC dX12_two_151 dX12_two_152 (by decide) hw (fun hw => ?_) (fun hw => ?_)
    · refine wm_lconst hC (x := 0) dX12_two_159 (k := ?_)
      exact wm_lreturn hC hE dX12_two_160 ⟨⟨rfl, rfl, rfl⟩, hw⟩
    · refine wm_lconst hC (x := 1) dX12_two_155 (k := ?_)
      refine wm_goto (tgt := 160) hC dX12_two_156 (by decide) ?_
      exact wm_lreturn hC hE dX12_two_160 ⟨⟨rfl, rfl, rfl⟩, hw⟩
  rw [if_neg hc9] at hw
  by_cases hc10 : l0 = 40
  · rw [if_pos hc10] at hw
    refine wm_tableIn (v := 40) (tgt := 161) hC dX12_two_1 hc10 (by decide) (by decide) rfl rfl ?_
    refine wm_lload_n hC 1 dX12_two_161 rfl ?_
    refine wm_lload_n hC 2 dX12_two_162 rfl ?_
    refine wm_lcmp_ne (tgt := 171) hC dX12_two_163 dX12_two_164 (by decide) hw (fun hw => ?_) (fun hw => ?_)
    · refine wm_lconst hC (x := 1) dX12_two_167 (k := ?_)
      refine wm_goto (tgt := 172) hC dX12_two_168 (by decide) ?_
      exact wm_lreturn hC hE dX12_two_172 ⟨⟨rfl, rfl, rfl⟩, hw⟩
    · refine wm_lconst hC (x := 0) dX12_two_171 (k := ?_)
      exact wm_lreturn hC hE dX12_two_172 ⟨⟨rfl, rfl, rfl⟩, hw⟩
  rw [if_neg hc10] at hw
  by_cases hc11 : l0 = 41
  · rw [if_pos hc11] at hw
    refine wm_tableIn (v := 41) (tgt := 173) hC dX12_two_1 hc11 (by decide) (by decide) rfl rfl ?_
    refine wm_lload_n hC 1 dX12_two_173 rfl ?_
    refine wm_lload_n hC 2 dX12_two_174 rfl ?_
    refine wm_land hC dX12_two_175 ?_
    exact wm_lreturn hC hE dX12_two_176 ⟨⟨rfl, rfl, rfl⟩, hw⟩
  rw [if_neg hc11] at hw
  refine wm_tableOut (tgt := 177) hC dX12_two_1 (by omega) rfl ?_
  refine wm_lload_n hC 1 dX12_two_177 rfl ?_
  refine wm_lload_n hC 2 dX12_two_178 rfl ?_
  refine wm_lor hC dX12_two_179 ?_
  exact wm_lreturn hC hE dX12_two_180 ⟨⟨rfl, rfl, rfl⟩, hw⟩
def P12_reckons_b25_body (l0 : Nat) (l1 : Int) (I : mI) (R : mR) (Q : Int → mI → Prop) (k25 : Int → Int → mI → Prop) (l2 : Int) (l3 : Int) (J : mI) : Prop := (rg (1600 * (I l0 13)) ∧ (kK (R l0 27) = 21 ∧ (rg (3 * (I l0 13)) ∧ (rg ((3 * (I l0 13)) + l1) ∧ (((0 : Int) ≤ ((3 * (I l0 13)) + l1) ∧ ((3 * (I l0 13)) + l1) < (kN (R l0 27) : Int)) ∧ (rg ((1600 * (I l0 13)) + (I (R l0 27) ((3 * (I l0 13)) + l1))) ∧ (if ((1600 * (I l0 13)) + (I (R l0 27) ((3 * (I l0 13)) + l1))) ≤ l3 then (kK (R l0 56) = 22 ∧ (((0 : Int) ≤ (0 : Int) ∧ (0 : Int) < (kN (R l0 56) : Int)) ∧ (Q (J (R l0 56) (0 : Int)) J))) else (kK (R l0 28) = 21 ∧ (((0 : Int) ≤ l3 ∧ l3 < (kN (R l0 28) : Int)) ∧ (if (30 : Int) < (I (R l0 28) l3) then (if (I (R l0 28) l3) = 43 then (kK (R l0 56) = 22 ∧ (rg (l2 - 1) ∧ (kK (R l0 56) = 22 ∧ (rg (l2 - 1) ∧ (((0 : Int) ≤ (l2 - 1) ∧ (l2 - 1) < (kN (R l0 56) : Int)) ∧ (rl (1 - (J (R l0 56) (l2 - 1))) ∧ (((0 : Int) ≤ (l2 - 1) ∧ (l2 - 1) < (kN (R l0 56) : Int)) ∧ wLet (up J (R l0 56) (l2 - 1) (1 - (J (R l0 56) (l2 - 1)))) (fun J4 => (rg (l3 + 1) ∧ (k25 l2 (l3 + 1) J4)))))))))) else (if (I (R l0 28) l3) = 44 then (rg (l2 + (-2)) ∧ (kK (R l0 56) = 22 ∧ (rg ((l2 + (-2)) - 1) ∧ (kK (R l0 56) = 22 ∧ (rg ((l2 + (-2)) - 1) ∧ (((0 : Int) ≤ ((l2 + (-2)) - 1) ∧ ((l2 + (-2)) - 1) < (kN (R l0 56) : Int)) ∧ (if (J (R l0 56) ((l2 + (-2)) - 1)) = 1 then (kK (R l0 56) = 22 ∧ (((0 : Int) ≤ (l2 + (-2)) ∧ (l2 + (-2)) < (kN (R l0 56) : Int)) ∧ (((0 : Int) ≤ ((l2 + (-2)) - 1) ∧ ((l2 + (-2)) - 1) < (kN (R l0 56) : Int)) ∧ wLet (up J (R l0 56) ((l2 + (-2)) - 1) (J (R l0 56) (l2 + (-2)))) (fun J3 => (rg (l3 + 1) ∧ (k25 (l2 + (-2)) (l3 + 1) J3)))))) else (kK (R l0 56) = 22 ∧ (rg ((l2 + (-2)) + 1) ∧ (((0 : Int) ≤ ((l2 + (-2)) + 1) ∧ ((l2 + (-2)) + 1) < (kN (R l0 56) : Int)) ∧ (((0 : Int) ≤ ((l2 + (-2)) - 1) ∧ ((l2 + (-2)) - 1) < (kN (R l0 56) : Int)) ∧ wLet (up J (R l0 56) ((l2 + (-2)) - 1) (J (R l0 56) ((l2 + (-2)) + 1))) (fun J2 => (rg (l3 + 1) ∧ (k25 (l2 + (-2)) (l3 + 1) J2)))))))))))))) else (rg (l2 + (-1)) ∧ (kK (R l0 56) = 22 ∧ (rg ((l2 + (-1)) - 1) ∧ (kK (R l0 56) = 22 ∧ (rg ((l2 + (-1)) - 1) ∧ (((0 : Int) ≤ ((l2 + (-1)) - 1) ∧ ((l2 + (-1)) - 1) < (kN (R l0 56) : Int)) ∧ (kK (R l0 56) = 22 ∧ (((0 : Int) ≤ (l2 + (-1)) ∧ (l2 + (-1)) < (kN (R l0 56) : Int)) ∧ (P12_two (I (R l0 28) l3) (J (R l0 56) ((l2 + (-1)) - 1)) (J (R l0 56) (l2 + (-1))) (fun r1 => (((0 : Int) ≤ ((l2 + (-1)) - 1) ∧ ((l2 + (-1)) - 1) < (kN (R l0 56) : Int)) ∧ wLet (up J (R l0 56) ((l2 + (-1)) - 1) r1) (fun J1 => (rg (l3 + 1) ∧ (k25 (l2 + (-1)) (l3 + 1) J1)))))))))))))))) else (kK (R l0 56) = 22 ∧ (if (I (R l0 28) l3) = 0 then (kK (R l0 29) = 21 ∧ (((0 : Int) ≤ l3 ∧ l3 < (kN (R l0 29) : Int)) ∧ (((0 : Int) ≤ l2 ∧ l2 < (kN (R l0 56) : Int)) ∧ wLet (up J (R l0 56) l2 (I (R l0 29) l3)) (fun J7 => (rg (l2 + 1) ∧ (rg (l3 + 1) ∧ (k25 (l2 + 1) (l3 + 1) J7))))))) else (if (I (R l0 28) l3) = 30 then (((0 : Int) ≤ l2 ∧ l2 < (kN (R l0 56) : Int)) ∧ wLet (up J (R l0 56) l2 1) (fun J6 => (rg (l2 + 1) ∧ (rg (l3 + 1) ∧ (k25 (l2 + 1) (l3 + 1) J6))))) else (kK (R l0 57) = 21 ∧ (((0 : Int) ≤ (I (R l0 28) l3) ∧ (I (R l0 28) l3) < (kN (R l0 57) : Int)) ∧ (((0 : Int) ≤ l2 ∧ l2 < (kN (R l0 56) : Int)) ∧ wLet (up J (R l0 56) l2 (I (R l0 57) (I (R l0 28) l3))) (fun J5 => (rg (l2 + 1) ∧ (rg (l3 + 1) ∧ (k25 (l2 + 1) (l3 + 1) J5))))))))))))))))))))
def P12_reckons_b25 (l0 : Nat) (l1 : Int) (I : mI) (R : mR) (Q : Int → mI → Prop) : Nat → Int → Int → mI → Prop
  | 0 => fun _ _ _ => False
  | f + 1 => fun l2 l3 J => P12_reckons_b25_body l0 l1 I R Q (P12_reckons_b25 l0 l1 I R Q f) l2 l3 J
set_option maxRecDepth 20000 in
theorem W12_reckons_b25_body {C : wX} {ad : Nat → Nat} {n : Nat} {I J : mI} {R : mR} {Q : Int → mI → Prop} (hC : wOK C cX12_reckons 5 RX12) (hRm : wRm C 3 61 0 0) (hE : wEnd C (some .long) ad n (fun r I' J' R' => (I' = I ∧ R' = R) ∧ Q r J')) {l0 : Nat} {l1 : Int} {l2 : Int} {l3 : Int}   (hk0 : kK l0 = 12)  {k25 : Int → Int → mI → Prop} (kk25 : ∀ (y2 : Int) (y3 : Int) (J' : mI), k25 y2 y3 J' → WM C ad n I J' R 0 0 25 [(0, vr l0), (1, vi l1), (2, vi y2), (3, vi y3)] []) (hw : P12_reckons_b25_body l0 l1 I R Q k25 l2 l3 J) : WM C ad n I J R 0 0 25 [(0, vr l0), (1, vi l1), (2, vi l2), (3, vi l3)] [] := by
  unfold P12_reckons_b25_body at hw
  refine wm_iload_n hC 3 dX12_reckons_25 rfl ?_
  refine wm_sipush hC dX12_reckons_26 (k := ?_)
  refine wm_aload_n hC 0 dX12_reckons_29 rfl (k_ne0 hk0 (by decide)) ?_
  refine x_getI hC 13 fl_X12_51 rfl hk0 dX12_reckons_30 ?_
  refine x_imul hC dX12_reckons_33 hw (fun hw => ?_)
  refine wm_aload_n hC 0 dX12_reckons_34 rfl (k_ne0 hk0 (by decide)) ?_
  refine x_getR2 hC 27 fl_X12_93 rfl hk0 dX12_reckons_35 hw (fun g2 hw => ?_)
  refine wm_iconst hC dX12_reckons_38 (k := ?_)
  refine wm_aload_n hC 0 dX12_reckons_39 rfl (k_ne0 hk0 (by decide)) ?_
  refine x_getI hC 13 fl_X12_51 rfl hk0 dX12_reckons_40 ?_
  refine x_imul hC dX12_reckons_43 hw (fun hw => ?_)
  refine wm_iload_n hC 1 dX12_reckons_44 rfl ?_
  refine x_iadd hC dX12_reckons_45 hw (fun hw => ?_)
  refine x_iald hC g2 dX12_reckons_46 hw (fun hw => ?_)
  refine x_iadd hC dX12_reckons_47 hw (fun hw => ?_)
  refine wm_icmp_ge (tgt := 227) hC dX12_reckons_48 (by decide) hw (fun hw => ?_) (fun hw => ?_)
  · refine wm_aload_n hC 0 dX12_reckons_227 rfl (k_ne0 hk0 (by decide)) ?_
    refine x_getR2 hC 56 fl_X12_183 rfl hk0 dX12_reckons_228 hw (fun g3 hw => ?_)
    refine wm_iconst hC dX12_reckons_231 (k := ?_)
    refine x_lald hC g3 dX12_reckons_232 hw (fun hw => ?_)
    exact wm_lreturn hC hE dX12_reckons_233 ⟨⟨rfl, rfl⟩, hw⟩
  · refine wm_aload_n hC 0 dX12_reckons_51 rfl (k_ne0 hk0 (by decide)) ?_
    refine x_getR2 hC 28 fl_X12_96 rfl hk0 dX12_reckons_52 hw (fun g4 hw => ?_)
    refine wm_iload_n hC 3 dX12_reckons_55 rfl ?_
    refine x_iald hC g4 dX12_reckons_56 hw (fun hw => ?_)
    refine wm_istore hC dX12_reckons_57 (by decide) (L2 := [(4, vi (I (R l0 28) l3)), (0, vr l0), (1, vi l1), (2, vi l2), (3, vi l3)]) rfl ?_
    refine wm_iload hC 0 dX12_reckons_59 rfl ?_
    refine wm_bipush hC dX12_reckons_61 (k := ?_)
    refine wm_icmp_gt (tgt := 112) hC dX12_reckons_63 (by decide) hw (fun hw => ?_) (fun hw => ?_)
    · refine wm_iload hC 0 dX12_reckons_112 rfl ?_
      refine wm_bipush hC dX12_reckons_114 (k := ?_)
      refine wm_icmp_ne (tgt := 140) hC dX12_reckons_116 (by decide) hw (fun hw => ?_) (fun hw => ?_)
      · refine wm_aload_n hC 1 dX12_reckons_119 rfl (k_ne0 hk0 (by decide)) ?_
        refine x_getR2 hC 56 fl_X12_183 rfl hk0 dX12_reckons_120 hw (fun g12 hw => ?_)
        refine wm_iload_n hC 3 dX12_reckons_123 rfl ?_
        refine wm_iconst hC dX12_reckons_124 (k := ?_)
        refine x_isub hC dX12_reckons_125 hw (fun hw => ?_)
        refine wm_lconst hC (x := 1) dX12_reckons_126 (k := ?_)
        refine wm_aload_n hC 1 dX12_reckons_127 rfl (k_ne0 hk0 (by decide)) ?_
        refine x_getR2 hC 56 fl_X12_183 rfl hk0 dX12_reckons_128 hw (fun g13 hw => ?_)
        refine wm_iload_n hC 3 dX12_reckons_131 rfl ?_
        refine wm_iconst hC dX12_reckons_132 (k := ?_)
        refine x_isub hC dX12_reckons_133 hw (fun hw => ?_)
        refine x_lald hC g13 dX12_reckons_134 hw (fun hw => ?_)
        refine x_lsub hC dX12_reckons_135 hw (fun hw => ?_)
        refine x_last hC g12 dX12_reckons_136 hw (fun J4 hw => ?_)
        refine wm_goto (tgt := 221) hC dX12_reckons_137 (by decide) ?_
        refine x_iinc hC 4 dX12_reckons_221 rfl (by decide) (L2 := [(3, vi (l3 + 1)), (4, vi (I (R l0 28) l3)), (0, vr l0), (1, vi l1), (2, vi l2)]) rfl hw (fun hw => ?_)
        refine wm_goto (tgt := 25) hC dX12_reckons_224 (by decide) ?_
        refine wm_sub [2, 3, 4, 0] (L2 := [(0, vr l0), (1, vi l1), (2, vi l2), (3, vi (l3 + 1))]) rfl ?_
        exact kk25 _ _ _ hw
      · refine wm_iload hC 0 dX12_reckons_140 rfl ?_
        refine wm_bipush hC dX12_reckons_142 (k := ?_)
        refine wm_icmp_ne (tgt := 191) hC dX12_reckons_144 (by decide) hw (fun hw => ?_) (fun hw => ?_)
        · refine x_iinc hC 3 dX12_reckons_147 rfl (by decide) (L2 := [(2, vi (l2 + (-2))), (4, vi (I (R l0 28) l3)), (0, vr l0), (1, vi l1), (3, vi l3)]) rfl hw (fun hw => ?_)
          refine wm_aload_n hC 2 dX12_reckons_150 rfl (k_ne0 hk0 (by decide)) ?_
          refine x_getR2 hC 56 fl_X12_183 rfl hk0 dX12_reckons_151 hw (fun g8 hw => ?_)
          refine wm_iload_n hC 0 dX12_reckons_154 rfl ?_
          refine wm_iconst hC dX12_reckons_155 (k := ?_)
          refine x_isub hC dX12_reckons_156 hw (fun hw => ?_)
          refine wm_aload_n hC 2 dX12_reckons_157 rfl (k_ne0 hk0 (by decide)) ?_
          refine x_getR2 hC 56 fl_X12_183 rfl hk0 dX12_reckons_158 hw (fun g9 hw => ?_)
          refine wm_iload_n hC 0 dX12_reckons_161 rfl ?_
          refine wm_iconst hC dX12_reckons_162 (k := ?_)
          refine x_isub hC dX12_reckons_163 hw (fun hw => ?_)
          refine x_lald hC g9 dX12_reckons_164 hw (fun hw => ?_)
          refine wm_lconst hC (x := 1) dX12_reckons_165 (k := ?_)
          refine wm_lcmp_ne (tgt := 179) hC dX12_reckons_166 dX12_reckons_167 (by decide) hw (fun hw => ?_) (fun hw => ?_)
          · refine wm_aload_n hC 2 dX12_reckons_170 rfl (k_ne0 hk0 (by decide)) ?_
            refine x_getR2 hC 56 fl_X12_183 rfl hk0 dX12_reckons_171 hw (fun g11 hw => ?_)
            refine wm_iload_n hC 0 dX12_reckons_174 rfl ?_
            refine x_lald hC g11 dX12_reckons_175 hw (fun hw => ?_)
            refine wm_goto (tgt := 187) hC dX12_reckons_176 (by decide) ?_
            refine x_last hC g8 dX12_reckons_187 hw (fun J3 hw => ?_)
            refine wm_goto (tgt := 221) hC dX12_reckons_188 (by decide) ?_
            refine x_iinc hC 4 dX12_reckons_221 rfl (by decide) (L2 := [(3, vi (l3 + 1)), (2, vi (l2 + (-2))), (4, vi (I (R l0 28) l3)), (0, vr l0), (1, vi l1)]) rfl hw (fun hw => ?_)
            refine wm_goto (tgt := 25) hC dX12_reckons_224 (by decide) ?_
            refine wm_sub [3, 4, 1, 0] (L2 := [(0, vr l0), (1, vi l1), (2, vi (l2 + (-2))), (3, vi (l3 + 1))]) rfl ?_
            exact kk25 _ _ _ hw
          · refine wm_aload_n hC 2 dX12_reckons_179 rfl (k_ne0 hk0 (by decide)) ?_
            refine x_getR2 hC 56 fl_X12_183 rfl hk0 dX12_reckons_180 hw (fun g10 hw => ?_)
            refine wm_iload_n hC 0 dX12_reckons_183 rfl ?_
            refine wm_iconst hC dX12_reckons_184 (k := ?_)
            refine x_iadd hC dX12_reckons_185 hw (fun hw => ?_)
            refine x_lald hC g10 dX12_reckons_186 hw (fun hw => ?_)
            refine x_last hC g8 dX12_reckons_187 hw (fun J2 hw => ?_)
            refine wm_goto (tgt := 221) hC dX12_reckons_188 (by decide) ?_
            refine x_iinc hC 4 dX12_reckons_221 rfl (by decide) (L2 := [(3, vi (l3 + 1)), (2, vi (l2 + (-2))), (4, vi (I (R l0 28) l3)), (0, vr l0), (1, vi l1)]) rfl hw (fun hw => ?_)
            refine wm_goto (tgt := 25) hC dX12_reckons_224 (by decide) ?_
            refine wm_sub [3, 4, 1, 0] (L2 := [(0, vr l0), (1, vi l1), (2, vi (l2 + (-2))), (3, vi (l3 + 1))]) rfl ?_
            exact kk25 _ _ _ hw
        · refine x_iinc hC 3 dX12_reckons_191 rfl (by decide) (L2 := [(2, vi (l2 + (-1))), (4, vi (I (R l0 28) l3)), (0, vr l0), (1, vi l1), (3, vi l3)]) rfl hw (fun hw => ?_)
          refine wm_aload_n hC 2 dX12_reckons_194 rfl (k_ne0 hk0 (by decide)) ?_
          refine x_getR2 hC 56 fl_X12_183 rfl hk0 dX12_reckons_195 hw (fun g5 hw => ?_)
          refine wm_iload_n hC 0 dX12_reckons_198 rfl ?_
          refine wm_iconst hC dX12_reckons_199 (k := ?_)
          refine x_isub hC dX12_reckons_200 hw (fun hw => ?_)
          refine wm_iload hC 1 dX12_reckons_201 rfl ?_
          refine wm_aload_n hC 2 dX12_reckons_203 rfl (k_ne0 hk0 (by decide)) ?_
          refine x_getR2 hC 56 fl_X12_183 rfl hk0 dX12_reckons_204 hw (fun g6 hw => ?_)
          refine wm_iload_n hC 0 dX12_reckons_207 rfl ?_
          refine wm_iconst hC dX12_reckons_208 (k := ?_)
          refine x_isub hC dX12_reckons_209 hw (fun hw => ?_)
          refine x_lald hC g6 dX12_reckons_210 hw (fun hw => ?_)
          refine wm_aload_n hC 2 dX12_reckons_211 rfl (k_ne0 hk0 (by decide)) ?_
          refine x_getR2 hC 56 fl_X12_183 rfl hk0 dX12_reckons_212 hw (fun g7 hw => ?_)
          refine wm_iload_n hC 0 dX12_reckons_215 rfl ?_
          refine x_lald hC g7 dX12_reckons_216 hw (fun hw => ?_)
          refine y_callS_l_n hC hRm noS ml_X12_439 (C12_two  hw) (Nat.le_of_ble_eq_true rfl) (Nat.le_of_ble_eq_true rfl) ⟨Nat.zero_le _, Nat.zero_le _⟩ rfl (st := [vi ((l2 + (-1)) - 1), vr (R l0 56)]) rfl (Nat.le_of_ble_eq_true rfl) dX12_reckons_217 (fun r1 hw => ?_)
          refine x_last hC g5 dX12_reckons_220 hw (fun J1 hw => ?_)
          refine x_iinc hC 4 dX12_reckons_221 rfl (by decide) (L2 := [(3, vi (l3 + 1)), (2, vi (l2 + (-1))), (4, vi (I (R l0 28) l3)), (0, vr l0), (1, vi l1)]) rfl hw (fun hw => ?_)
          refine wm_goto (tgt := 25) hC dX12_reckons_224 (by decide) ?_
          refine wm_sub [3, 4, 1, 0] (L2 := [(0, vr l0), (1, vi l1), (2, vi (l2 + (-1))), (3, vi (l3 + 1))]) rfl ?_
          exact kk25 _ _ _ hw
    · refine wm_aload_n hC 1 dX12_reckons_66 rfl (k_ne0 hk0 (by decide)) ?_
      refine x_getR2 hC 56 fl_X12_183 rfl hk0 dX12_reckons_67 hw (fun g14 hw => ?_)
      refine wm_iload_n hC 3 dX12_reckons_70 rfl ?_
      refine wm_iload hC 0 dX12_reckons_71 rfl ?_
      refine wm_if_ne (tgt := 86) hC dX12_reckons_73 (by decide) hw (fun hw => ?_) (fun hw => ?_)
      · refine wm_aload_n hC 1 dX12_reckons_76 rfl (k_ne0 hk0 (by decide)) ?_
        refine x_getR2 hC 29 fl_X12_99 rfl hk0 dX12_reckons_77 hw (fun g16 hw => ?_)
        refine wm_iload_n hC 4 dX12_reckons_80 rfl ?_
        refine x_iald hC g16 dX12_reckons_81 hw (fun hw => ?_)
        refine wm_i2l hC dX12_reckons_82 ?_
        refine wm_goto (tgt := 105) hC dX12_reckons_83 (by decide) ?_
        refine x_last hC g14 dX12_reckons_105 hw (fun J7 hw => ?_)
        refine x_iinc hC 3 dX12_reckons_106 rfl (by decide) (L2 := [(2, vi (l2 + 1)), (4, vi (I (R l0 28) l3)), (0, vr l0), (1, vi l1), (3, vi l3)]) rfl hw (fun hw => ?_)
        refine wm_goto (tgt := 221) hC dX12_reckons_109 (by decide) ?_
        refine x_iinc hC 4 dX12_reckons_221 rfl (by decide) (L2 := [(3, vi (l3 + 1)), (2, vi (l2 + 1)), (4, vi (I (R l0 28) l3)), (0, vr l0), (1, vi l1)]) rfl hw (fun hw => ?_)
        refine wm_goto (tgt := 25) hC dX12_reckons_224 (by decide) ?_
        refine wm_sub [3, 4, 1, 0] (L2 := [(0, vr l0), (1, vi l1), (2, vi (l2 + 1)), (3, vi (l3 + 1))]) rfl ?_
        exact kk25 _ _ _ hw
      · refine wm_iload hC 0 dX12_reckons_86 rfl ?_
        refine wm_bipush hC dX12_reckons_88 (k := ?_)
        refine wm_icmp_ne (tgt := 97) hC dX12_reckons_90 (by decide) hw (fun hw => ?_) (fun hw => ?_)
        · refine wm_lconst hC (x := 1) dX12_reckons_93 (k := ?_)
          refine wm_goto (tgt := 105) hC dX12_reckons_94 (by decide) ?_
          refine x_last hC g14 dX12_reckons_105 hw (fun J6 hw => ?_)
          refine x_iinc hC 3 dX12_reckons_106 rfl (by decide) (L2 := [(2, vi (l2 + 1)), (4, vi (I (R l0 28) l3)), (0, vr l0), (1, vi l1), (3, vi l3)]) rfl hw (fun hw => ?_)
          refine wm_goto (tgt := 221) hC dX12_reckons_109 (by decide) ?_
          refine x_iinc hC 4 dX12_reckons_221 rfl (by decide) (L2 := [(3, vi (l3 + 1)), (2, vi (l2 + 1)), (4, vi (I (R l0 28) l3)), (0, vr l0), (1, vi l1)]) rfl hw (fun hw => ?_)
          refine wm_goto (tgt := 25) hC dX12_reckons_224 (by decide) ?_
          refine wm_sub [3, 4, 1, 0] (L2 := [(0, vr l0), (1, vi l1), (2, vi (l2 + 1)), (3, vi (l3 + 1))]) rfl ?_
          exact kk25 _ _ _ hw
        · refine wm_aload_n hC 1 dX12_reckons_97 rfl (k_ne0 hk0 (by decide)) ?_
          refine x_getR2 hC 57 fl_X12_186 rfl hk0 dX12_reckons_98 hw (fun g15 hw => ?_)
          refine wm_iload hC 0 dX12_reckons_101 rfl ?_
          refine x_iald hC g15 dX12_reckons_103 hw (fun hw => ?_)
          refine wm_i2l hC dX12_reckons_104 ?_
          refine x_last hC g14 dX12_reckons_105 hw (fun J5 hw => ?_)
          refine x_iinc hC 3 dX12_reckons_106 rfl (by decide) (L2 := [(2, vi (l2 + 1)), (4, vi (I (R l0 28) l3)), (0, vr l0), (1, vi l1), (3, vi l3)]) rfl hw (fun hw => ?_)
          refine wm_goto (tgt := 221) hC dX12_reckons_109 (by decide) ?_
          refine x_iinc hC 4 dX12_reckons_221 rfl (by decide) (L2 := [(3, vi (l3 + 1)), (2, vi (l2 + 1)), (4, vi (I (R l0 28) l3)), (0, vr l0), (1, vi l1)]) rfl hw (fun hw => ?_)
          refine wm_goto (tgt := 25) hC dX12_reckons_224 (by decide) ?_
          refine wm_sub [3, 4, 1, 0] (L2 := [(0, vr l0), (1, vi l1), (2, vi (l2 + 1)), (3, vi (l3 + 1))]) rfl ?_
          exact kk25 _ _ _ hw
set_option maxRecDepth 20000 in
theorem W12_reckons_b25 {C : wX} {ad : Nat → Nat} {n : Nat} {I : mI} {R : mR} {Q : Int → mI → Prop} (hC : wOK C cX12_reckons 5 RX12) (hRm : wRm C 3 61 0 0) (hE : wEnd C (some .long) ad n (fun r I' J' R' => (I' = I ∧ R' = R) ∧ Q r J')) {l0 : Nat} {l1 : Int}   (hk0 : kK l0 = 12)  : ∀ (f : Nat) (l2 : Int) (l3 : Int) (J : mI), P12_reckons_b25 l0 l1 I R Q f l2 l3 J → WM C ad n I J R 0 0 25 [(0, vr l0), (1, vi l1), (2, vi l2), (3, vi l3)] [] := by
  intro f
  induction f with
  | zero => intro l2 l3 J hw; exact hw.elim
  | succ f ih => intro l2 l3 J hw; exact W12_reckons_b25_body hC hRm hE hk0 (fun a0 a1 a2 hw => ih a0 a1 a2 hw) hw
def P12_reckons (l0 : Nat) (l1 : Int) (I : mI) (J : mI) (R : mR) (Q : Int → mI → Prop) : Prop := (rg (1600 * (I l0 13)) ∧ (kK (R l0 26) = 21 ∧ (rg (3 * (I l0 13)) ∧ (rg ((3 * (I l0 13)) + l1) ∧ (((0 : Int) ≤ ((3 * (I l0 13)) + l1) ∧ ((3 * (I l0 13)) + l1) < (kN (R l0 26) : Int)) ∧ (rg ((1600 * (I l0 13)) + (I (R l0 26) ((3 * (I l0 13)) + l1))) ∧ (wLet ((1600 * (I l0 13)) + (I (R l0 26) ((3 * (I l0 13)) + l1))) (fun x1 => (∃ f, P12_reckons_b25 l0 l1 I R Q f 0 x1 J)))))))))
set_option maxRecDepth 20000 in
theorem C12_reckons {ad : Nat → Nat} {n : Nat} {I J : mI} {R : mR} {Q : Int → mI → Prop}  {l0 : Nat} {l1 : Int} (hk0 : kK l0 = 12) (hw : P12_reckons l0 l1 I J R Q) : wMet yX12_reckons cX12_reckons 5 (some .long) 3 61 false ad n I J R [vr l0, vi l1] (fun r I' J' R' => (I' = I ∧ R' = R) ∧ Q r J') := by
  refine wMet_of (by decide) (Nat.le_of_ble_eq_true rfl) (fun C hC hRm hE hS => ?_)
  refine (show WM C ad n I J R 0 0 0 [(0, vr l0), (1, vi l1)] [] from ?_)
  unfold P12_reckons at hw
  refine wm_iconst hC dX12_reckons_0 (k := ?_)
  refine wm_istore_n hC dX12_reckons_1 (by decide) (L2 := [(2, vi 0), (0, vr l0), (1, vi l1)]) rfl ?_
  refine wm_sipush hC dX12_reckons_2 (k := ?_)
  refine wm_aload_n hC 1 dX12_reckons_5 rfl (k_ne0 hk0 (by decide)) ?_
  refine x_getI hC 13 fl_X12_51 rfl hk0 dX12_reckons_6 ?_
  refine x_imul hC dX12_reckons_9 hw (fun hw => ?_)
  refine wm_aload_n hC 1 dX12_reckons_10 rfl (k_ne0 hk0 (by decide)) ?_
  refine x_getR2 hC 26 fl_X12_90 rfl hk0 dX12_reckons_11 hw (fun g1 hw => ?_)
  refine wm_iconst hC dX12_reckons_14 (k := ?_)
  refine wm_aload_n hC 1 dX12_reckons_15 rfl (k_ne0 hk0 (by decide)) ?_
  refine x_getI hC 13 fl_X12_51 rfl hk0 dX12_reckons_16 ?_
  refine x_imul hC dX12_reckons_19 hw (fun hw => ?_)
  refine wm_iload_n hC 2 dX12_reckons_20 rfl ?_
  refine x_iadd hC dX12_reckons_21 hw (fun hw => ?_)
  refine x_iald hC g1 dX12_reckons_22 hw (fun hw => ?_)
  refine x_iadd hC dX12_reckons_23 hw (fun hw => ?_)
  refine x_nameI hw (fun x1 hw => ?_)
  refine wm_istore_n hC dX12_reckons_24 (by decide) (L2 := [(3, vi x1), (2, vi 0), (0, vr l0), (1, vi l1)]) rfl ?_
  obtain ⟨f, hw⟩ := hw
  refine wm_sub [2, 3, 1, 0] (L2 := [(0, vr l0), (1, vi l1), (2, vi 0), (3, vi x1)]) rfl ?_
  exact W12_reckons_b25 hC hRm hE hk0 f _ _ _ hw
def P12_isTold (l0 : Nat) (l1 : Int) (I : mI) (R : mR) (Q : Int → Prop) : Prop := (kK (R l0 26) = 21 ∧ (rg (3 * (I l0 13)) ∧ (rg ((3 * (I l0 13)) + l1) ∧ (((0 : Int) ≤ ((3 * (I l0 13)) + l1) ∧ ((3 * (I l0 13)) + l1) < (kN (R l0 26) : Int)) ∧ (if (I (R l0 26) ((3 * (I l0 13)) + l1)) = (-1) then (Q 0) else (Q 1))))))
set_option maxRecDepth 20000 in
theorem C12_isTold {ad : Nat → Nat} {n : Nat} {I J : mI} {R : mR} {Q : Int → Prop}  {l0 : Nat} {l1 : Int} (hk0 : kK l0 = 12) (hw : P12_isTold l0 l1 I R Q) : wMet yX12_isTold cX12_isTold 2 (some .boolean) 1 12 false ad n I J R [vr l0, vi l1] (fun r I' J' R' => (I' = I ∧ J' = J ∧ R' = R) ∧ Q r) := by
  refine wMet_of (by decide) (Nat.le_of_ble_eq_true rfl) (fun C hC hRm hE hS => ?_)
  refine (show WM C ad n I J R 0 0 0 [(0, vr l0), (1, vi l1)] [] from ?_)
  unfold P12_isTold at hw
  refine wm_aload_n hC 0 dX12_isTold_0 rfl (k_ne0 hk0 (by decide)) ?_
  refine x_getR2 hC 26 fl_X12_90 rfl hk0 dX12_isTold_1 hw (fun g1 hw => ?_)
  refine wm_iconst hC dX12_isTold_4 (k := ?_)
  refine wm_aload_n hC 0 dX12_isTold_5 rfl (k_ne0 hk0 (by decide)) ?_
  refine x_getI hC 13 fl_X12_51 rfl hk0 dX12_isTold_6 ?_
  refine x_imul hC dX12_isTold_9 hw (fun hw => ?_)
  refine wm_iload_n hC 1 dX12_isTold_10 rfl ?_
  refine x_iadd hC dX12_isTold_11 hw (fun hw => ?_)
  refine x_iald hC g1 dX12_isTold_12 hw (fun hw => ?_)
  refine wm_iconst hC dX12_isTold_13 (k := ?_)
  refine wm_icmp_eq (tgt := 21) hC dX12_isTold_14 (by decide) hw (fun hw => ?_) (fun hw => ?_)
  · refine wm_iconst hC dX12_isTold_21 (k := ?_)
    exact wm_zreturn hC hE (Or.inl rfl) dX12_isTold_22 ⟨⟨rfl, rfl, rfl⟩, hw⟩
  · refine wm_iconst hC dX12_isTold_17 (k := ?_)
    refine wm_goto (tgt := 22) hC dX12_isTold_18 (by decide) ?_
    exact wm_zreturn hC hE (Or.inr rfl) dX12_isTold_22 ⟨⟨rfl, rfl, rfl⟩, hw⟩
def P12_bits_b4_body (Q : Int → Prop) (k4 : Int → Int → Prop) (l1 : Int) (l2 : Int) : Prop := (if l2 = 0 then (Q l1) else (rg (l1 + 1) ∧ (rg (l2 - 1) ∧ (k4 (l1 + 1) (bAnd l2 (l2 - 1))))))
def P12_bits_b4 (Q : Int → Prop) : Nat → Int → Int → Prop
  | 0 => fun _ _ => False
  | f + 1 => fun l1 l2 => P12_bits_b4_body Q (P12_bits_b4 Q f) l1 l2
set_option maxRecDepth 20000 in
theorem W12_bits_b4_body {C : wX} {ad : Nat → Nat} {n : Nat} {I J : mI} {R : mR} {Q : Int → Prop} (hC : wOK C cX12_bits 3 RX12) (hRm : wRm C 1 12 0 0) (hE : wEnd C (some .int) ad n (fun r I' J' R' => (I' = I ∧ J' = J ∧ R' = R) ∧ Q r))  {l1 : Int} {l2 : Int}     {k4 : Int → Int → Prop} (kk4 : ∀ (y1 : Int) (y2 : Int), k4 y1 y2 → WM C ad n I J R 0 0 4 [(1, vi y1), (2, vi y2)] []) (hw : P12_bits_b4_body Q k4 l1 l2) : WM C ad n I J R 0 0 4 [(1, vi l1), (2, vi l2)] [] := by
  unfold P12_bits_b4_body at hw
  refine wm_iload_n hC 1 dX12_bits_4 rfl ?_
  refine wm_if_eq (tgt := 20) hC dX12_bits_5 (by decide) hw (fun hw => ?_) (fun hw => ?_)
  · refine wm_iload_n hC 0 dX12_bits_20 rfl ?_
    exact wm_ireturn hC hE dX12_bits_21 ⟨⟨rfl, rfl, rfl⟩, hw⟩
  · refine x_iinc hC 0 dX12_bits_8 rfl (by decide) (L2 := [(1, vi (l1 + 1)), (2, vi l2)]) rfl hw (fun hw => ?_)
    refine wm_iload_n hC 1 dX12_bits_11 rfl ?_
    refine wm_iload_n hC 1 dX12_bits_12 rfl ?_
    refine wm_iconst hC dX12_bits_13 (k := ?_)
    refine x_isub hC dX12_bits_14 hw (fun hw => ?_)
    refine wm_iand hC dX12_bits_15 ?_
    refine wm_istore_n hC dX12_bits_16 (by decide) (L2 := [(2, vi (bAnd l2 (l2 - 1))), (1, vi (l1 + 1))]) rfl ?_
    refine wm_goto (tgt := 4) hC dX12_bits_17 (by decide) ?_
    refine wm_sub [1, 0] (L2 := [(1, vi (l1 + 1)), (2, vi (bAnd l2 (l2 - 1)))]) rfl ?_
    exact kk4 _ _ hw
set_option maxRecDepth 20000 in
theorem W12_bits_b4 {C : wX} {ad : Nat → Nat} {n : Nat} {I J : mI} {R : mR} {Q : Int → Prop} (hC : wOK C cX12_bits 3 RX12) (hRm : wRm C 1 12 0 0) (hE : wEnd C (some .int) ad n (fun r I' J' R' => (I' = I ∧ J' = J ∧ R' = R) ∧ Q r))      : ∀ (f : Nat) (l1 : Int) (l2 : Int), P12_bits_b4 Q f l1 l2 → WM C ad n I J R 0 0 4 [(1, vi l1), (2, vi l2)] [] := by
  intro f
  induction f with
  | zero => intro l1 l2 hw; exact hw.elim
  | succ f ih => intro l1 l2 hw; exact W12_bits_b4_body hC hRm hE  (fun a0 a1 hw => ih a0 a1 hw) hw
def P12_bits (l0 : Int)  (Q : Int → Prop) : Prop := (∃ f, P12_bits_b4 Q f 0 l0)
set_option maxRecDepth 20000 in
theorem C12_bits {ad : Nat → Nat} {n : Nat} {I J : mI} {R : mR} {Q : Int → Prop}  {l0 : Int}  (hw : P12_bits l0 Q) : wMet yX12_bits cX12_bits 3 (some .int) 1 12 false ad n I J R [vi l0] (fun r I' J' R' => (I' = I ∧ J' = J ∧ R' = R) ∧ Q r) := by
  refine wMet_of (by decide) (Nat.le_of_ble_eq_true rfl) (fun C hC hRm hE hS => ?_)
  refine (show WM C ad n I J R 0 0 0 [(0, vi l0)] [] from ?_)
  unfold P12_bits at hw
  refine wm_iconst hC dX12_bits_0 (k := ?_)
  refine wm_istore_n hC dX12_bits_1 (by decide) (L2 := [(1, vi 0), (0, vi l0)]) rfl ?_
  refine wm_iload_n hC 1 dX12_bits_2 rfl ?_
  refine wm_istore_n hC dX12_bits_3 (by decide) (L2 := [(2, vi l0), (1, vi 0), (0, vi l0)]) rfl ?_
  obtain ⟨f, hw⟩ := hw
  refine wm_sub [1, 0] (L2 := [(1, vi 0), (2, vi l0)]) rfl ?_
  exact W12_bits_b4 hC hRm hE  f _ _ hw
def P12_gap (l0 : Int) (l1 : Int)  (Q : Int → Prop) : Prop := (if l0 ≤ l1 then (rg (l1 - l0) ∧ (Q (l1 - l0))) else (rg (l0 - l1) ∧ (Q (l0 - l1))))
set_option maxRecDepth 20000 in
theorem C12_gap {ad : Nat → Nat} {n : Nat} {I J : mI} {R : mR} {Q : Int → Prop}  {l0 : Int} {l1 : Int}  (hw : P12_gap l0 l1 Q) : wMet yX12_gap cX12_gap 2 (some .int) 1 12 false ad n I J R [vi l0, vi l1] (fun r I' J' R' => (I' = I ∧ J' = J ∧ R' = R) ∧ Q r) := by
  refine wMet_of (by decide) (Nat.le_of_ble_eq_true rfl) (fun C hC hRm hE hS => ?_)
  refine (show WM C ad n I J R 0 0 0 [(0, vi l0), (1, vi l1)] [] from ?_)
  unfold P12_gap at hw
  refine wm_iload_n hC 0 dX12_gap_0 rfl ?_
  refine wm_iload_n hC 1 dX12_gap_1 rfl ?_
  refine wm_icmp_le (tgt := 11) hC dX12_gap_2 (by decide) hw (fun hw => ?_) (fun hw => ?_)
  · refine wm_iload_n hC 1 dX12_gap_11 rfl ?_
    refine wm_iload_n hC 0 dX12_gap_12 rfl ?_
    refine x_isub hC dX12_gap_13 hw (fun hw => ?_)
    exact wm_ireturn hC hE dX12_gap_14 ⟨⟨rfl, rfl, rfl⟩, hw⟩
  · refine wm_iload_n hC 0 dX12_gap_5 rfl ?_
    refine wm_iload_n hC 1 dX12_gap_6 rfl ?_
    refine x_isub hC dX12_gap_7 hw (fun hw => ?_)
    refine wm_goto (tgt := 14) hC dX12_gap_8 (by decide) ?_
    exact wm_ireturn hC hE dX12_gap_14 ⟨⟨rfl, rfl, rfl⟩, hw⟩
def P12_matchOf_b6_body (l0 : Nat) (l1 : Int) (l2 : Int) (l3 : Int) (I : mI) (R : mR) (Q : Int → Prop) (k6 : Int → Int → Prop) (l4 : Int) (l5 : Int) : Prop := (if (3 : Int) ≤ l5 then (Q l4) else (kK (R l0 55) = 21 ∧ (rg (3 * l1) ∧ (rg ((3 * l1) + l5) ∧ (((0 : Int) ≤ ((3 * l1) + l5) ∧ ((3 * l1) + l5) < (kN (R l0 55) : Int)) ∧ (kK (R l0 21) = 21 ∧ (rg (18 * (I l0 13)) ∧ (rg (3 * l2) ∧ (rg ((18 * (I l0 13)) + (3 * l2)) ∧ (rg (((18 * (I l0 13)) + (3 * l2)) + l5) ∧ (((0 : Int) ≤ (((18 * (I l0 13)) + (3 * l2)) + l5) ∧ (((18 * (I l0 13)) + (3 * l2)) + l5) < (kN (R l0 21) : Int)) ∧ (kK (R l0 18) = 21 ∧ (rg (18 * (I l0 13)) ∧ (rg (3 * l3) ∧ (rg ((18 * (I l0 13)) + (3 * l3)) ∧ (rg (((18 * (I l0 13)) + (3 * l3)) + l5) ∧ (((0 : Int) ≤ (((18 * (I l0 13)) + (3 * l3)) + l5) ∧ (((18 * (I l0 13)) + (3 * l3)) + l5) < (kN (R l0 18) : Int)) ∧ (P12_gap (I (R l0 21) (((18 * (I l0 13)) + (3 * l2)) + l5)) (I (R l0 18) (((18 * (I l0 13)) + (3 * l3)) + l5)) (fun r1 => (rg (9 - r1) ∧ (rg ((I (R l0 55) ((3 * l1) + l5)) * (9 - r1)) ∧ (rg (l4 + ((I (R l0 55) ((3 * l1) + l5)) * (9 - r1))) ∧ (wLet (l4 + ((I (R l0 55) ((3 * l1) + l5)) * (9 - r1))) (fun x1 => (rg (l5 + 1) ∧ (k6 x1 (l5 + 1)))))))))))))))))))))))))))
def P12_matchOf_b6 (l0 : Nat) (l1 : Int) (l2 : Int) (l3 : Int) (I : mI) (R : mR) (Q : Int → Prop) : Nat → Int → Int → Prop
  | 0 => fun _ _ => False
  | f + 1 => fun l4 l5 => P12_matchOf_b6_body l0 l1 l2 l3 I R Q (P12_matchOf_b6 l0 l1 l2 l3 I R Q f) l4 l5
set_option maxRecDepth 20000 in
theorem W12_matchOf_b6_body {C : wX} {ad : Nat → Nat} {n : Nat} {I J : mI} {R : mR} {Q : Int → Prop} (hC : wOK C cX12_matchOf 6 RX12) (hRm : wRm C 2 33 0 0) (hE : wEnd C (some .int) ad n (fun r I' J' R' => (I' = I ∧ J' = J ∧ R' = R) ∧ Q r)) {l0 : Nat} {l1 : Int} {l2 : Int} {l3 : Int} {l4 : Int} {l5 : Int}   (hk0 : kK l0 = 12)  {k6 : Int → Int → Prop} (kk6 : ∀ (y4 : Int) (y5 : Int), k6 y4 y5 → WM C ad n I J R 0 0 6 [(0, vr l0), (1, vi l1), (2, vi l2), (3, vi l3), (4, vi y4), (5, vi y5)] []) (hw : P12_matchOf_b6_body l0 l1 l2 l3 I R Q k6 l4 l5) : WM C ad n I J R 0 0 6 [(0, vr l0), (1, vi l1), (2, vi l2), (3, vi l3), (4, vi l4), (5, vi l5)] [] := by
  unfold P12_matchOf_b6_body at hw
  refine wm_iload hC 5 dX12_matchOf_6 rfl ?_
  refine wm_iconst hC dX12_matchOf_8 (k := ?_)
  refine wm_icmp_ge (tgt := 79) hC dX12_matchOf_9 (by decide) hw (fun hw => ?_) (fun hw => ?_)
  · refine wm_iload hC 4 dX12_matchOf_79 rfl ?_
    exact wm_ireturn hC hE dX12_matchOf_81 ⟨⟨rfl, rfl, rfl⟩, hw⟩
  · refine wm_iload hC 4 dX12_matchOf_12 rfl ?_
    refine wm_aload_n hC 0 dX12_matchOf_14 rfl (k_ne0 hk0 (by decide)) ?_
    refine x_getR2 hC 55 fl_X12_180 rfl hk0 dX12_matchOf_15 hw (fun g1 hw => ?_)
    refine wm_iconst hC dX12_matchOf_18 (k := ?_)
    refine wm_iload_n hC 1 dX12_matchOf_19 rfl ?_
    refine x_imul hC dX12_matchOf_20 hw (fun hw => ?_)
    refine wm_iload hC 5 dX12_matchOf_21 rfl ?_
    refine x_iadd hC dX12_matchOf_23 hw (fun hw => ?_)
    refine x_iald hC g1 dX12_matchOf_24 hw (fun hw => ?_)
    refine wm_bipush hC dX12_matchOf_25 (k := ?_)
    refine wm_aload_n hC 0 dX12_matchOf_27 rfl (k_ne0 hk0 (by decide)) ?_
    refine x_getR2 hC 21 fl_X12_75 rfl hk0 dX12_matchOf_28 hw (fun g2 hw => ?_)
    refine wm_bipush hC dX12_matchOf_31 (k := ?_)
    refine wm_aload_n hC 0 dX12_matchOf_33 rfl (k_ne0 hk0 (by decide)) ?_
    refine x_getI hC 13 fl_X12_51 rfl hk0 dX12_matchOf_34 ?_
    refine x_imul hC dX12_matchOf_37 hw (fun hw => ?_)
    refine wm_iconst hC dX12_matchOf_38 (k := ?_)
    refine wm_iload_n hC 2 dX12_matchOf_39 rfl ?_
    refine x_imul hC dX12_matchOf_40 hw (fun hw => ?_)
    refine x_iadd hC dX12_matchOf_41 hw (fun hw => ?_)
    refine wm_iload hC 5 dX12_matchOf_42 rfl ?_
    refine x_iadd hC dX12_matchOf_44 hw (fun hw => ?_)
    refine x_iald hC g2 dX12_matchOf_45 hw (fun hw => ?_)
    refine wm_aload_n hC 0 dX12_matchOf_46 rfl (k_ne0 hk0 (by decide)) ?_
    refine x_getR2 hC 18 fl_X12_66 rfl hk0 dX12_matchOf_47 hw (fun g3 hw => ?_)
    refine wm_bipush hC dX12_matchOf_50 (k := ?_)
    refine wm_aload_n hC 0 dX12_matchOf_52 rfl (k_ne0 hk0 (by decide)) ?_
    refine x_getI hC 13 fl_X12_51 rfl hk0 dX12_matchOf_53 ?_
    refine x_imul hC dX12_matchOf_56 hw (fun hw => ?_)
    refine wm_iconst hC dX12_matchOf_57 (k := ?_)
    refine wm_iload_n hC 3 dX12_matchOf_58 rfl ?_
    refine x_imul hC dX12_matchOf_59 hw (fun hw => ?_)
    refine x_iadd hC dX12_matchOf_60 hw (fun hw => ?_)
    refine wm_iload hC 5 dX12_matchOf_61 rfl ?_
    refine x_iadd hC dX12_matchOf_63 hw (fun hw => ?_)
    refine x_iald hC g3 dX12_matchOf_64 hw (fun hw => ?_)
    refine y_callS_i_n hC hRm noS ml_X12_443 (C12_gap  hw) (Nat.le_of_ble_eq_true rfl) (Nat.le_of_ble_eq_true rfl) ⟨Nat.zero_le _, Nat.zero_le _⟩ rfl (st := [vi 9, vi (I (R l0 55) ((3 * l1) + l5)), vi l4]) rfl (Nat.le_of_ble_eq_true rfl) dX12_matchOf_65 (fun r1 hw => ?_)
    refine x_isub hC dX12_matchOf_68 hw (fun hw => ?_)
    refine x_imul hC dX12_matchOf_69 hw (fun hw => ?_)
    refine x_iadd hC dX12_matchOf_70 hw (fun hw => ?_)
    refine x_nameI hw (fun x1 hw => ?_)
    refine wm_istore hC dX12_matchOf_71 (by decide) (L2 := [(4, vi x1), (0, vr l0), (1, vi l1), (2, vi l2), (3, vi l3), (5, vi l5)]) rfl ?_
    refine x_iinc hC 5 dX12_matchOf_73 rfl (by decide) (L2 := [(5, vi (l5 + 1)), (4, vi x1), (0, vr l0), (1, vi l1), (2, vi l2), (3, vi l3)]) rfl hw (fun hw => ?_)
    refine wm_goto (tgt := 6) hC dX12_matchOf_76 (by decide) ?_
    refine wm_sub [2, 3, 4, 5, 1, 0] (L2 := [(0, vr l0), (1, vi l1), (2, vi l2), (3, vi l3), (4, vi x1), (5, vi (l5 + 1))]) rfl ?_
    exact kk6 _ _ hw
set_option maxRecDepth 20000 in
theorem W12_matchOf_b6 {C : wX} {ad : Nat → Nat} {n : Nat} {I J : mI} {R : mR} {Q : Int → Prop} (hC : wOK C cX12_matchOf 6 RX12) (hRm : wRm C 2 33 0 0) (hE : wEnd C (some .int) ad n (fun r I' J' R' => (I' = I ∧ J' = J ∧ R' = R) ∧ Q r)) {l0 : Nat} {l1 : Int} {l2 : Int} {l3 : Int}   (hk0 : kK l0 = 12)  : ∀ (f : Nat) (l4 : Int) (l5 : Int), P12_matchOf_b6 l0 l1 l2 l3 I R Q f l4 l5 → WM C ad n I J R 0 0 6 [(0, vr l0), (1, vi l1), (2, vi l2), (3, vi l3), (4, vi l4), (5, vi l5)] [] := by
  intro f
  induction f with
  | zero => intro l4 l5 hw; exact hw.elim
  | succ f ih => intro l4 l5 hw; exact W12_matchOf_b6_body hC hRm hE hk0 (fun a0 a1 hw => ih a0 a1 hw) hw
def P12_matchOf (l0 : Nat) (l1 : Int) (l2 : Int) (l3 : Int) (I : mI) (R : mR) (Q : Int → Prop) : Prop := (∃ f, P12_matchOf_b6 l0 l1 l2 l3 I R Q f 0 0)
set_option maxRecDepth 20000 in
theorem C12_matchOf {ad : Nat → Nat} {n : Nat} {I J : mI} {R : mR} {Q : Int → Prop}  {l0 : Nat} {l1 : Int} {l2 : Int} {l3 : Int} (hk0 : kK l0 = 12) (hw : P12_matchOf l0 l1 l2 l3 I R Q) : wMet yX12_matchOf cX12_matchOf 6 (some .int) 2 33 false ad n I J R [vr l0, vi l1, vi l2, vi l3] (fun r I' J' R' => (I' = I ∧ J' = J ∧ R' = R) ∧ Q r) := by
  refine wMet_of (by decide) (Nat.le_of_ble_eq_true rfl) (fun C hC hRm hE hS => ?_)
  refine (show WM C ad n I J R 0 0 0 [(0, vr l0), (1, vi l1), (2, vi l2), (3, vi l3)] [] from ?_)
  unfold P12_matchOf at hw
  refine wm_iconst hC dX12_matchOf_0 (k := ?_)
  refine wm_istore hC dX12_matchOf_1 (by decide) (L2 := [(4, vi 0), (0, vr l0), (1, vi l1), (2, vi l2), (3, vi l3)]) rfl ?_
  refine wm_iconst hC dX12_matchOf_3 (k := ?_)
  refine wm_istore hC dX12_matchOf_4 (by decide) (L2 := [(5, vi 0), (4, vi 0), (0, vr l0), (1, vi l1), (2, vi l2), (3, vi l3)]) rfl ?_
  obtain ⟨f, hw⟩ := hw
  refine wm_sub [2, 3, 4, 5, 1, 0] (L2 := [(0, vr l0), (1, vi l1), (2, vi l2), (3, vi l3), (4, vi 0), (5, vi 0)]) rfl ?_
  exact W12_matchOf_b6 hC hRm hE hk0 f _ _ hw
def P12_wornOf_b5_body (l0 : Nat) (l1 : Int) (l2 : Int) (I : mI) (R : mR) (Q : Int → Prop) (k5 : Int → Int → Prop) (l3 : Int) (l4 : Int) : Prop := (kK (R l0 20) = 21 ∧ (((0 : Int) ≤ (I l0 13) ∧ (I l0 13) < (kN (R l0 20) : Int)) ∧ (if (I (R l0 20) (I l0 13)) ≤ l4 then (Q l3) else (kK (R l0 49) = 21 ∧ (rg (6 * l1) ∧ (rg ((6 * l1) + l4) ∧ (((0 : Int) ≤ ((6 * l1) + l4) ∧ ((6 * l1) + l4) < (kN (R l0 49) : Int)) ∧ (if (I (R l0 49) ((6 * l1) + l4)) = l2 then (rg (l3 + 1) ∧ (rg (l4 + 1) ∧ (k5 (l3 + 1) (l4 + 1)))) else (rg (l3 + 0) ∧ (rg (l4 + 1) ∧ (k5 (l3 + 0) (l4 + 1))))))))))))
def P12_wornOf_b5 (l0 : Nat) (l1 : Int) (l2 : Int) (I : mI) (R : mR) (Q : Int → Prop) : Nat → Int → Int → Prop
  | 0 => fun _ _ => False
  | f + 1 => fun l3 l4 => P12_wornOf_b5_body l0 l1 l2 I R Q (P12_wornOf_b5 l0 l1 l2 I R Q f) l3 l4
set_option maxRecDepth 20000 in
theorem W12_wornOf_b5_body {C : wX} {ad : Nat → Nat} {n : Nat} {I J : mI} {R : mR} {Q : Int → Prop} (hC : wOK C cX12_wornOf 5 RX12) (hRm : wRm C 1 12 0 0) (hE : wEnd C (some .int) ad n (fun r I' J' R' => (I' = I ∧ J' = J ∧ R' = R) ∧ Q r)) {l0 : Nat} {l1 : Int} {l2 : Int} {l3 : Int} {l4 : Int}   (hk0 : kK l0 = 12)  {k5 : Int → Int → Prop} (kk5 : ∀ (y3 : Int) (y4 : Int), k5 y3 y4 → WM C ad n I J R 0 0 5 [(0, vr l0), (1, vi l1), (2, vi l2), (3, vi y3), (4, vi y4)] []) (hw : P12_wornOf_b5_body l0 l1 l2 I R Q k5 l3 l4) : WM C ad n I J R 0 0 5 [(0, vr l0), (1, vi l1), (2, vi l2), (3, vi l3), (4, vi l4)] [] := by
  unfold P12_wornOf_b5_body at hw
  refine wm_iload hC 4 dX12_wornOf_5 rfl ?_
  refine wm_aload_n hC 0 dX12_wornOf_7 rfl (k_ne0 hk0 (by decide)) ?_
  refine x_getR2 hC 20 fl_X12_72 rfl hk0 dX12_wornOf_8 hw (fun g1 hw => ?_)
  refine wm_aload_n hC 0 dX12_wornOf_11 rfl (k_ne0 hk0 (by decide)) ?_
  refine x_getI hC 13 fl_X12_51 rfl hk0 dX12_wornOf_12 ?_
  refine x_iald hC g1 dX12_wornOf_15 hw (fun hw => ?_)
  refine wm_icmp_ge (tgt := 49) hC dX12_wornOf_16 (by decide) hw (fun hw => ?_) (fun hw => ?_)
  · refine wm_iload_n hC 3 dX12_wornOf_49 rfl ?_
    exact wm_ireturn hC hE dX12_wornOf_50 ⟨⟨rfl, rfl, rfl⟩, hw⟩
  · refine wm_iload_n hC 3 dX12_wornOf_19 rfl ?_
    refine wm_aload_n hC 0 dX12_wornOf_20 rfl (k_ne0 hk0 (by decide)) ?_
    refine x_getR2 hC 49 fl_X12_162 rfl hk0 dX12_wornOf_21 hw (fun g2 hw => ?_)
    refine wm_bipush hC dX12_wornOf_24 (k := ?_)
    refine wm_iload_n hC 1 dX12_wornOf_26 rfl ?_
    refine x_imul hC dX12_wornOf_27 hw (fun hw => ?_)
    refine wm_iload hC 4 dX12_wornOf_28 rfl ?_
    refine x_iadd hC dX12_wornOf_30 hw (fun hw => ?_)
    refine x_iald hC g2 dX12_wornOf_31 hw (fun hw => ?_)
    refine wm_iload_n hC 2 dX12_wornOf_32 rfl ?_
    refine wm_icmp_ne (tgt := 40) hC dX12_wornOf_33 (by decide) hw (fun hw => ?_) (fun hw => ?_)
    · refine wm_iconst hC dX12_wornOf_36 (k := ?_)
      refine wm_goto (tgt := 41) hC dX12_wornOf_37 (by decide) ?_
      refine x_iadd hC dX12_wornOf_41 hw (fun hw => ?_)
      refine wm_istore_n hC dX12_wornOf_42 (by decide) (L2 := [(3, vi (l3 + 1)), (0, vr l0), (1, vi l1), (2, vi l2), (4, vi l4)]) rfl ?_
      refine x_iinc hC 4 dX12_wornOf_43 rfl (by decide) (L2 := [(4, vi (l4 + 1)), (3, vi (l3 + 1)), (0, vr l0), (1, vi l1), (2, vi l2)]) rfl hw (fun hw => ?_)
      refine wm_goto (tgt := 5) hC dX12_wornOf_46 (by decide) ?_
      refine wm_sub [2, 3, 4, 1, 0] (L2 := [(0, vr l0), (1, vi l1), (2, vi l2), (3, vi (l3 + 1)), (4, vi (l4 + 1))]) rfl ?_
      exact kk5 _ _ hw
    · refine wm_iconst hC dX12_wornOf_40 (k := ?_)
      refine x_iadd hC dX12_wornOf_41 hw (fun hw => ?_)
      refine wm_istore_n hC dX12_wornOf_42 (by decide) (L2 := [(3, vi (l3 + 0)), (0, vr l0), (1, vi l1), (2, vi l2), (4, vi l4)]) rfl ?_
      refine x_iinc hC 4 dX12_wornOf_43 rfl (by decide) (L2 := [(4, vi (l4 + 1)), (3, vi (l3 + 0)), (0, vr l0), (1, vi l1), (2, vi l2)]) rfl hw (fun hw => ?_)
      refine wm_goto (tgt := 5) hC dX12_wornOf_46 (by decide) ?_
      refine wm_sub [2, 3, 4, 1, 0] (L2 := [(0, vr l0), (1, vi l1), (2, vi l2), (3, vi (l3 + 0)), (4, vi (l4 + 1))]) rfl ?_
      exact kk5 _ _ hw
set_option maxRecDepth 20000 in
theorem W12_wornOf_b5 {C : wX} {ad : Nat → Nat} {n : Nat} {I J : mI} {R : mR} {Q : Int → Prop} (hC : wOK C cX12_wornOf 5 RX12) (hRm : wRm C 1 12 0 0) (hE : wEnd C (some .int) ad n (fun r I' J' R' => (I' = I ∧ J' = J ∧ R' = R) ∧ Q r)) {l0 : Nat} {l1 : Int} {l2 : Int}   (hk0 : kK l0 = 12)  : ∀ (f : Nat) (l3 : Int) (l4 : Int), P12_wornOf_b5 l0 l1 l2 I R Q f l3 l4 → WM C ad n I J R 0 0 5 [(0, vr l0), (1, vi l1), (2, vi l2), (3, vi l3), (4, vi l4)] [] := by
  intro f
  induction f with
  | zero => intro l3 l4 hw; exact hw.elim
  | succ f ih => intro l3 l4 hw; exact W12_wornOf_b5_body hC hRm hE hk0 (fun a0 a1 hw => ih a0 a1 hw) hw
def P12_wornOf (l0 : Nat) (l1 : Int) (l2 : Int) (I : mI) (R : mR) (Q : Int → Prop) : Prop := (∃ f, P12_wornOf_b5 l0 l1 l2 I R Q f 0 0)
set_option maxRecDepth 20000 in
theorem C12_wornOf {ad : Nat → Nat} {n : Nat} {I J : mI} {R : mR} {Q : Int → Prop}  {l0 : Nat} {l1 : Int} {l2 : Int} (hk0 : kK l0 = 12) (hw : P12_wornOf l0 l1 l2 I R Q) : wMet yX12_wornOf cX12_wornOf 5 (some .int) 1 12 false ad n I J R [vr l0, vi l1, vi l2] (fun r I' J' R' => (I' = I ∧ J' = J ∧ R' = R) ∧ Q r) := by
  refine wMet_of (by decide) (Nat.le_of_ble_eq_true rfl) (fun C hC hRm hE hS => ?_)
  refine (show WM C ad n I J R 0 0 0 [(0, vr l0), (1, vi l1), (2, vi l2)] [] from ?_)
  unfold P12_wornOf at hw
  refine wm_iconst hC dX12_wornOf_0 (k := ?_)
  refine wm_istore_n hC dX12_wornOf_1 (by decide) (L2 := [(3, vi 0), (0, vr l0), (1, vi l1), (2, vi l2)]) rfl ?_
  refine wm_iconst hC dX12_wornOf_2 (k := ?_)
  refine wm_istore hC dX12_wornOf_3 (by decide) (L2 := [(4, vi 0), (3, vi 0), (0, vr l0), (1, vi l1), (2, vi l2)]) rfl ?_
  obtain ⟨f, hw⟩ := hw
  refine wm_sub [2, 3, 4, 1, 0] (L2 := [(0, vr l0), (1, vi l1), (2, vi l2), (3, vi 0), (4, vi 0)]) rfl ?_
  exact W12_wornOf_b5 hC hRm hE hk0 f _ _ hw
def P12_lays (l0 : Nat) (l1 : Int) (l2 : Int) (I : mI) (R : mR) (Q : mI → Prop) : Prop := (kK (R l0 57) = 21 ∧ (kK (R l0 45) = 21 ∧ (((0 : Int) ≤ l1 ∧ l1 < (kN (R l0 45) : Int)) ∧ (((0 : Int) ≤ (1 : Int) ∧ (1 : Int) < (kN (R l0 57) : Int)) ∧ wLet (up I (R l0 57) (1 : Int) (I (R l0 45) l1)) (fun I1 => (kK (R l0 57) = 21 ∧ (kK (R l0 48) = 21 ∧ (rg (6 * l1) ∧ (rg ((6 * l1) + l2) ∧ (((0 : Int) ≤ ((6 * l1) + l2) ∧ ((6 * l1) + l2) < (kN (R l0 48) : Int)) ∧ (((0 : Int) ≤ (2 : Int) ∧ (2 : Int) < (kN (R l0 57) : Int)) ∧ wLet (up I1 (R l0 57) (2 : Int) (I1 (R l0 48) ((6 * l1) + l2))) (fun I2 => (kK (R l0 57) = 21 ∧ (kK (R l0 16) = 21 ∧ (((0 : Int) ≤ (I2 l0 13) ∧ (I2 l0 13) < (kN (R l0 16) : Int)) ∧ (P12_has2 (I2 (R l0 16) (I2 l0 13)) l2 (fun r1 => (if r1 = 0 then (((0 : Int) ≤ (3 : Int) ∧ (3 : Int) < (kN (R l0 57) : Int)) ∧ wLet (up I2 (R l0 57) (3 : Int) 0) (fun I3 => (Q I3))) else (((0 : Int) ≤ (3 : Int) ∧ (3 : Int) < (kN (R l0 57) : Int)) ∧ wLet (up I2 (R l0 57) (3 : Int) 1) (fun I4 => (Q I4)))))))))))))))))))))
set_option maxRecDepth 20000 in
theorem C12_lays {ad : Nat → Nat} {n : Nat} {I J : mI} {R : mR} {Q : mI → Prop}  {l0 : Nat} {l1 : Int} {l2 : Int} (hk0 : kK l0 = 12) (hw : P12_lays l0 l1 l2 I R Q) : wMet yX12_lays cX12_lays 3 none 2 33 false ad n I J R [vr l0, vi l1, vi l2] (fun _ I' J' R' => (J' = J ∧ R' = R) ∧ Q I') := by
  refine wMet_of (by decide) (Nat.le_of_ble_eq_true rfl) (fun C hC hRm hE hS => ?_)
  refine (show WM C ad n I J R 0 0 0 [(0, vr l0), (1, vi l1), (2, vi l2)] [] from ?_)
  unfold P12_lays at hw
  refine wm_aload_n hC 0 dX12_lays_0 rfl (k_ne0 hk0 (by decide)) ?_
  refine x_getR2 hC 57 fl_X12_186 rfl hk0 dX12_lays_1 hw (fun g1 hw => ?_)
  refine wm_iconst hC dX12_lays_4 (k := ?_)
  refine wm_aload_n hC 0 dX12_lays_5 rfl (k_ne0 hk0 (by decide)) ?_
  refine x_getR2 hC 45 fl_X12_150 rfl hk0 dX12_lays_6 hw (fun g2 hw => ?_)
  refine wm_iload_n hC 1 dX12_lays_9 rfl ?_
  refine x_iald hC g2 dX12_lays_10 hw (fun hw => ?_)
  refine x_iast hC g1 dX12_lays_11 hw (fun I1 hw => ?_)
  refine wm_aload_n hC 0 dX12_lays_12 rfl (k_ne0 hk0 (by decide)) ?_
  refine x_getR2 hC 57 fl_X12_186 rfl hk0 dX12_lays_13 hw (fun g3 hw => ?_)
  refine wm_iconst hC dX12_lays_16 (k := ?_)
  refine wm_aload_n hC 0 dX12_lays_17 rfl (k_ne0 hk0 (by decide)) ?_
  refine x_getR2 hC 48 fl_X12_159 rfl hk0 dX12_lays_18 hw (fun g4 hw => ?_)
  refine wm_bipush hC dX12_lays_21 (k := ?_)
  refine wm_iload_n hC 1 dX12_lays_23 rfl ?_
  refine x_imul hC dX12_lays_24 hw (fun hw => ?_)
  refine wm_iload_n hC 2 dX12_lays_25 rfl ?_
  refine x_iadd hC dX12_lays_26 hw (fun hw => ?_)
  refine x_iald hC g4 dX12_lays_27 hw (fun hw => ?_)
  refine x_iast hC g3 dX12_lays_28 hw (fun I2 hw => ?_)
  refine wm_aload_n hC 0 dX12_lays_29 rfl (k_ne0 hk0 (by decide)) ?_
  refine x_getR2 hC 57 fl_X12_186 rfl hk0 dX12_lays_30 hw (fun g5 hw => ?_)
  refine wm_iconst hC dX12_lays_33 (k := ?_)
  refine wm_aload_n hC 0 dX12_lays_34 rfl (k_ne0 hk0 (by decide)) ?_
  refine x_getR2 hC 16 fl_X12_60 rfl hk0 dX12_lays_35 hw (fun g6 hw => ?_)
  refine wm_aload_n hC 0 dX12_lays_38 rfl (k_ne0 hk0 (by decide)) ?_
  refine x_getI hC 13 fl_X12_51 rfl hk0 dX12_lays_39 ?_
  refine x_iald hC g6 dX12_lays_42 hw (fun hw => ?_)
  refine wm_iload_n hC 2 dX12_lays_43 rfl ?_
  refine y_callS_z_n hC hRm noS ml_X12_351 (C12_has2  hw) (Nat.le_of_ble_eq_true rfl) (Nat.le_of_ble_eq_true rfl) ⟨Nat.zero_le _, Nat.zero_le _⟩ rfl (st := [vi 3, vr (R l0 57)]) rfl (Nat.le_of_ble_eq_true rfl) dX12_lays_44 (fun r1 hw => ?_)
  refine wm_if_eq (tgt := 54) hC dX12_lays_47 (by decide) hw (fun hw => ?_) (fun hw => ?_)
  · refine wm_iconst hC dX12_lays_54 (k := ?_)
    refine x_iast hC g5 dX12_lays_55 hw (fun I3 hw => ?_)
    exact wm_return hC hE dX12_lays_56 ⟨⟨rfl, rfl⟩, hw⟩
  · refine wm_iconst hC dX12_lays_50 (k := ?_)
    refine wm_goto (tgt := 55) hC dX12_lays_51 (by decide) ?_
    refine x_iast hC g5 dX12_lays_55 hw (fun I4 hw => ?_)
    exact wm_return hC hE dX12_lays_56 ⟨⟨rfl, rfl⟩, hw⟩
def P12_scoreOf (l0 : Nat) (l1 : Int) (l2 : Int) (l3 : Int) (l4 : Int) (l5 : Int) (I : mI) (J : mI) (R : mR) (Q : Int → mI → mI → Prop) : Prop := (P12_matchOf l0 l2 l3 l4 I R (fun r1 => (P12_isTold l0 0 I R (fun r2 => (if r2 = 0 then (Q r1 I J) else (P12_lays l0 l1 l2 I R (fun I1 => (kK (R l0 57) = 21 ∧ (((0 : Int) ≤ (4 : Int) ∧ (4 : Int) < (kN (R l0 57) : Int)) ∧ wLet (up I1 (R l0 57) (4 : Int) r1) (fun I2 => (kK (R l0 57) = 21 ∧ (P12_wornOf l0 l1 l4 I2 R (fun r3 => (((0 : Int) ≤ (5 : Int) ∧ (5 : Int) < (kN (R l0 57) : Int)) ∧ wLet (up I2 (R l0 57) (5 : Int) r3) (fun I3 => (kK (R l0 57) = 21 ∧ (((0 : Int) ≤ (6 : Int) ∧ (6 : Int) < (kN (R l0 57) : Int)) ∧ wLet (up I3 (R l0 57) (6 : Int) l5) (fun I4 => (kK (R l0 57) = 21 ∧ (kK (R l0 19) = 21 ∧ (rg (6 * (I4 l0 13)) ∧ (rg ((6 * (I4 l0 13)) + l4) ∧ (((0 : Int) ≤ ((6 * (I4 l0 13)) + l4) ∧ ((6 * (I4 l0 13)) + l4) < (kN (R l0 19) : Int)) ∧ (((0 : Int) ≤ (7 : Int) ∧ (7 : Int) < (kN (R l0 57) : Int)) ∧ wLet (up I4 (R l0 57) (7 : Int) (I4 (R l0 19) ((6 * (I4 l0 13)) + l4))) (fun I5 => (P12_reckons l0 0 I5 J R (fun r4 J1 => (Q r4 I5 J1))))))))))))))))))))))))))))
set_option maxRecDepth 20000 in
theorem C12_scoreOf {ad : Nat → Nat} {n : Nat} {I J : mI} {R : mR} {Q : Int → mI → mI → Prop}  {l0 : Nat} {l1 : Int} {l2 : Int} {l3 : Int} {l4 : Int} {l5 : Int} (hk0 : kK l0 = 12) (hw : P12_scoreOf l0 l1 l2 l3 l4 l5 I J R Q) : wMet yX12_scoreOf cX12_scoreOf 7 (some .long) 4 85 false ad n I J R [vr l0, vi l1, vi l2, vi l3, vi l4, vi l5] (fun r I' J' R' => (R' = R) ∧ Q r I' J') := by
  refine wMet_of (by decide) (Nat.le_of_ble_eq_true rfl) (fun C hC hRm hE hS => ?_)
  refine (show WM C ad n I J R 0 0 0 [(0, vr l0), (1, vi l1), (2, vi l2), (3, vi l3), (4, vi l4), (5, vi l5)] [] from ?_)
  unfold P12_scoreOf at hw
  refine wm_aload_n hC 0 dX12_scoreOf_0 rfl (k_ne0 hk0 (by decide)) ?_
  refine wm_iload_n hC 2 dX12_scoreOf_1 rfl ?_
  refine wm_iload_n hC 3 dX12_scoreOf_2 rfl ?_
  refine wm_iload hC 4 dX12_scoreOf_3 rfl ?_
  refine y_callV_i_n hC hRm noS ml_X12_446 hk0 (C12_matchOf hk0 hw) (Nat.le_of_ble_eq_true rfl) (Nat.le_of_ble_eq_true rfl) ⟨Nat.zero_le _, Nat.zero_le _⟩ rfl (st := []) rfl (Nat.le_of_ble_eq_true rfl) dX12_scoreOf_5 (fun r1 hw => ?_)
  refine wm_istore hC dX12_scoreOf_8 (by decide) (L2 := [(6, vi r1), (0, vr l0), (1, vi l1), (2, vi l2), (3, vi l3), (4, vi l4), (5, vi l5)]) rfl ?_
  refine wm_aload_n hC 1 dX12_scoreOf_10 rfl (k_ne0 hk0 (by decide)) ?_
  refine wm_iconst hC dX12_scoreOf_11 (k := ?_)
  refine y_callV_z_n hC hRm noS ml_X12_450 hk0 (C12_isTold hk0 hw) (Nat.le_of_ble_eq_true rfl) (Nat.le_of_ble_eq_true rfl) ⟨Nat.zero_le _, Nat.zero_le _⟩ rfl (st := []) rfl (Nat.le_of_ble_eq_true rfl) dX12_scoreOf_12 (fun r2 hw => ?_)
  refine wm_if_ne (tgt := 22) hC dX12_scoreOf_15 (by decide) hw (fun hw => ?_) (fun hw => ?_)
  · refine wm_iload hC 0 dX12_scoreOf_18 rfl ?_
    refine wm_i2l hC dX12_scoreOf_20 ?_
    exact wm_lreturn hC hE dX12_scoreOf_21 ⟨rfl, hw⟩
  · refine wm_aload_n hC 1 dX12_scoreOf_22 rfl (k_ne0 hk0 (by decide)) ?_
    refine wm_iload_n hC 2 dX12_scoreOf_23 rfl ?_
    refine wm_iload_n hC 3 dX12_scoreOf_24 rfl ?_
    refine y_callV_v_I hC hRm noS ml_X12_453 hk0 (C12_lays hk0 hw) (Nat.le_of_ble_eq_true rfl) (Nat.le_of_ble_eq_true rfl) ⟨Nat.zero_le _, Nat.zero_le _⟩ rfl (st := []) rfl (Nat.le_of_ble_eq_true rfl) dX12_scoreOf_25 (fun I1 hw => ?_)
    refine wm_aload_n hC 1 dX12_scoreOf_28 rfl (k_ne0 hk0 (by decide)) ?_
    refine x_getR2 hC 57 fl_X12_186 rfl hk0 dX12_scoreOf_29 hw (fun g1 hw => ?_)
    refine wm_iconst hC dX12_scoreOf_32 (k := ?_)
    refine wm_iload hC 0 dX12_scoreOf_33 rfl ?_
    refine x_iast hC g1 dX12_scoreOf_35 hw (fun I2 hw => ?_)
    refine wm_aload_n hC 1 dX12_scoreOf_36 rfl (k_ne0 hk0 (by decide)) ?_
    refine x_getR2 hC 57 fl_X12_186 rfl hk0 dX12_scoreOf_37 hw (fun g2 hw => ?_)
    refine wm_iconst hC dX12_scoreOf_40 (k := ?_)
    refine wm_aload_n hC 1 dX12_scoreOf_41 rfl (k_ne0 hk0 (by decide)) ?_
    refine wm_iload_n hC 2 dX12_scoreOf_42 rfl ?_
    refine wm_iload hC 5 dX12_scoreOf_43 rfl ?_
    refine y_callV_i_n hC hRm noS ml_X12_456 hk0 (C12_wornOf hk0 hw) (Nat.le_of_ble_eq_true rfl) (Nat.le_of_ble_eq_true rfl) ⟨Nat.zero_le _, Nat.zero_le _⟩ rfl (st := [vi 5, vr (R l0 57)]) rfl (Nat.le_of_ble_eq_true rfl) dX12_scoreOf_45 (fun r3 hw => ?_)
    refine x_iast hC g2 dX12_scoreOf_48 hw (fun I3 hw => ?_)
    refine wm_aload_n hC 1 dX12_scoreOf_49 rfl (k_ne0 hk0 (by decide)) ?_
    refine x_getR2 hC 57 fl_X12_186 rfl hk0 dX12_scoreOf_50 hw (fun g3 hw => ?_)
    refine wm_bipush hC dX12_scoreOf_53 (k := ?_)
    refine wm_iload hC 6 dX12_scoreOf_55 rfl ?_
    refine x_iast hC g3 dX12_scoreOf_57 hw (fun I4 hw => ?_)
    refine wm_aload_n hC 1 dX12_scoreOf_58 rfl (k_ne0 hk0 (by decide)) ?_
    refine x_getR2 hC 57 fl_X12_186 rfl hk0 dX12_scoreOf_59 hw (fun g4 hw => ?_)
    refine wm_bipush hC dX12_scoreOf_62 (k := ?_)
    refine wm_aload_n hC 1 dX12_scoreOf_64 rfl (k_ne0 hk0 (by decide)) ?_
    refine x_getR2 hC 19 fl_X12_69 rfl hk0 dX12_scoreOf_65 hw (fun g5 hw => ?_)
    refine wm_bipush hC dX12_scoreOf_68 (k := ?_)
    refine wm_aload_n hC 1 dX12_scoreOf_70 rfl (k_ne0 hk0 (by decide)) ?_
    refine x_getI hC 13 fl_X12_51 rfl hk0 dX12_scoreOf_71 ?_
    refine x_imul hC dX12_scoreOf_74 hw (fun hw => ?_)
    refine wm_iload hC 5 dX12_scoreOf_75 rfl ?_
    refine x_iadd hC dX12_scoreOf_77 hw (fun hw => ?_)
    refine x_iald hC g5 dX12_scoreOf_78 hw (fun hw => ?_)
    refine x_iast hC g4 dX12_scoreOf_79 hw (fun I5 hw => ?_)
    refine wm_aload_n hC 1 dX12_scoreOf_80 rfl (k_ne0 hk0 (by decide)) ?_
    refine wm_iconst hC dX12_scoreOf_81 (k := ?_)
    refine y_callV_l_J hC hRm noS ml_X12_459 hk0 (C12_reckons hk0 hw) (Nat.le_of_ble_eq_true rfl) (Nat.le_of_ble_eq_true rfl) ⟨Nat.zero_le _, Nat.zero_le _⟩ rfl (st := []) rfl (Nat.le_of_ble_eq_true rfl) dX12_scoreOf_82 (fun r4 J1 hw => ?_)
    exact wm_lreturn hC hE dX12_scoreOf_85 ⟨rfl, hw⟩
def P12_isCounting (l0 : Nat) (l1 : Int) (l2 : Int) (I : mI) (J : mI) (R : mR) (Q : Int → mI → mI → Prop) : Prop := (P12_isTold l0 1 I R (fun r1 => (if r1 = 0 then (Q 1 I J) else (P12_lays l0 l1 l2 I R (fun I1 => (P12_reckons l0 1 I1 J R (fun r2 J1 => (if r2 = 1 then (Q 1 I1 J1) else (Q 0 I1 J1)))))))))
set_option maxRecDepth 20000 in
theorem C12_isCounting {ad : Nat → Nat} {n : Nat} {I J : mI} {R : mR} {Q : Int → mI → mI → Prop}  {l0 : Nat} {l1 : Int} {l2 : Int} (hk0 : kK l0 = 12) (hw : P12_isCounting l0 l1 l2 I J R Q) : wMet yX12_isCounting cX12_isCounting 3 (some .boolean) 4 85 false ad n I J R [vr l0, vi l1, vi l2] (fun r I' J' R' => (R' = R) ∧ Q r I' J') := by
  refine wMet_of (by decide) (Nat.le_of_ble_eq_true rfl) (fun C hC hRm hE hS => ?_)
  refine (show WM C ad n I J R 0 0 0 [(0, vr l0), (1, vi l1), (2, vi l2)] [] from ?_)
  unfold P12_isCounting at hw
  refine wm_aload_n hC 0 dX12_isCounting_0 rfl (k_ne0 hk0 (by decide)) ?_
  refine wm_iconst hC dX12_isCounting_1 (k := ?_)
  refine y_callV_z_n hC hRm noS ml_X12_450 hk0 (C12_isTold hk0 hw) (Nat.le_of_ble_eq_true rfl) (Nat.le_of_ble_eq_true rfl) ⟨Nat.zero_le _, Nat.zero_le _⟩ rfl (st := []) rfl (Nat.le_of_ble_eq_true rfl) dX12_isCounting_2 (fun r1 hw => ?_)
  refine wm_if_ne (tgt := 10) hC dX12_isCounting_5 (by decide) hw (fun hw => ?_) (fun hw => ?_)
  · refine wm_iconst hC dX12_isCounting_8 (k := ?_)
    exact wm_zreturn hC hE (Or.inr rfl) dX12_isCounting_9 ⟨rfl, hw⟩
  · refine wm_aload_n hC 0 dX12_isCounting_10 rfl (k_ne0 hk0 (by decide)) ?_
    refine wm_iload_n hC 1 dX12_isCounting_11 rfl ?_
    refine wm_iload_n hC 2 dX12_isCounting_12 rfl ?_
    refine y_callV_v_I hC hRm noS ml_X12_453 hk0 (C12_lays hk0 hw) (Nat.le_of_ble_eq_true rfl) (Nat.le_of_ble_eq_true rfl) ⟨Nat.zero_le _, Nat.zero_le _⟩ rfl (st := []) rfl (Nat.le_of_ble_eq_true rfl) dX12_isCounting_13 (fun I1 hw => ?_)
    refine wm_aload_n hC 0 dX12_isCounting_16 rfl (k_ne0 hk0 (by decide)) ?_
    refine wm_iconst hC dX12_isCounting_17 (k := ?_)
    refine y_callV_l_J hC hRm noS ml_X12_459 hk0 (C12_reckons hk0 hw) (Nat.le_of_ble_eq_true rfl) (Nat.le_of_ble_eq_true rfl) ⟨Nat.zero_le _, Nat.zero_le _⟩ rfl (st := []) rfl (Nat.le_of_ble_eq_true rfl) dX12_isCounting_18 (fun r2 J1 hw => ?_)
    refine wm_lconst hC (x := 1) dX12_isCounting_21 (k := ?_)
    refine wm_lcmp_ne (tgt := 30) hC dX12_isCounting_22 dX12_isCounting_23 (by decide) hw (fun hw => ?_) (fun hw => ?_)
    · refine wm_iconst hC dX12_isCounting_26 (k := ?_)
      refine wm_goto (tgt := 31) hC dX12_isCounting_27 (by decide) ?_
      exact wm_zreturn hC hE (Or.inr rfl) dX12_isCounting_31 ⟨rfl, hw⟩
    · refine wm_iconst hC dX12_isCounting_30 (k := ?_)
      exact wm_zreturn hC hE (Or.inl rfl) dX12_isCounting_31 ⟨rfl, hw⟩
def P12_wordBy_b9_body (l0 : Nat) (l1 : Int) (l2 : Int) (l3 : Int) (R : mR) (Q : Int → mI → mI → Prop) (k9 : Int → Int → Int → mI → mI → Prop) (l4 : Int) (l5 : Int) (l7 : Int) (I : mI) (J : mI) : Prop := (kK (R l0 17) = 21 ∧ (((0 : Int) ≤ (I l0 13) ∧ (I l0 13) < (kN (R l0 17) : Int)) ∧ (if (I (R l0 17) (I l0 13)) ≤ l7 then (Q l4 I J) else (kK (R l0 58) = 21 ∧ (((0 : Int) ≤ l7 ∧ l7 < (kN (R l0 58) : Int)) ∧ (P12_scoreOf l0 l1 l2 l3 l7 (I (R l0 58) l7) I J R (fun r1 I1 J1 => (if l4 = (-1) then (rg (l7 + 1) ∧ (k9 l7 r1 (l7 + 1) I1 J1)) else (if l5 < r1 then (rg (l7 + 1) ∧ (k9 l7 r1 (l7 + 1) I1 J1)) else (rg (l7 + 1) ∧ (k9 l4 l5 (l7 + 1) I1 J1)))))))))))
def P12_wordBy_b9 (l0 : Nat) (l1 : Int) (l2 : Int) (l3 : Int) (R : mR) (Q : Int → mI → mI → Prop) : Nat → Int → Int → Int → mI → mI → Prop
  | 0 => fun _ _ _ _ _ => False
  | f + 1 => fun l4 l5 l7 I J => P12_wordBy_b9_body l0 l1 l2 l3 R Q (P12_wordBy_b9 l0 l1 l2 l3 R Q f) l4 l5 l7 I J
set_option maxRecDepth 20000 in
theorem W12_wordBy_b9_body {C : wX} {ad : Nat → Nat} {n : Nat} {I J : mI} {R : mR} {Q : Int → mI → mI → Prop} (hC : wOK C cX12_wordBy 10 RX12) (hRm : wRm C 5 111 0 0) (hE : wEnd C (some .int) ad n (fun r I' J' R' => (R' = R) ∧ Q r I' J')) {l0 : Nat} {l1 : Int} {l2 : Int} {l3 : Int} {l4 : Int} {l5 : Int} {l7 : Int}   (hk0 : kK l0 = 12)  {k9 : Int → Int → Int → mI → mI → Prop} (kk9 : ∀ (y4 : Int) (y5 : Int) (y7 : Int) (I' : mI) (J' : mI), k9 y4 y5 y7 I' J' → WM C ad n I' J' R 0 0 9 [(0, vr l0), (1, vi l1), (2, vi l2), (3, vi l3), (4, vi y4), (5, vl y5), (7, vi y7)] []) (hw : P12_wordBy_b9_body l0 l1 l2 l3 R Q k9 l4 l5 l7 I J) : WM C ad n I J R 0 0 9 [(0, vr l0), (1, vi l1), (2, vi l2), (3, vi l3), (4, vi l4), (5, vl l5), (7, vi l7)] [] := by
  unfold P12_wordBy_b9_body at hw
  refine wm_iload hC 6 dX12_wordBy_9 rfl ?_
  refine wm_aload_n hC 0 dX12_wordBy_11 rfl (k_ne0 hk0 (by decide)) ?_
  refine x_getR2 hC 17 fl_X12_63 rfl hk0 dX12_wordBy_12 hw (fun g1 hw => ?_)
  refine wm_aload_n hC 0 dX12_wordBy_15 rfl (k_ne0 hk0 (by decide)) ?_
  refine x_getI hC 13 fl_X12_51 rfl hk0 dX12_wordBy_16 ?_
  refine x_iald hC g1 dX12_wordBy_19 hw (fun hw => ?_)
  refine wm_icmp_ge (tgt := 72) hC dX12_wordBy_20 (by decide) hw (fun hw => ?_) (fun hw => ?_)
  · refine wm_iload hC 4 dX12_wordBy_72 rfl ?_
    exact wm_ireturn hC hE dX12_wordBy_74 ⟨rfl, hw⟩
  · refine wm_aload_n hC 0 dX12_wordBy_23 rfl (k_ne0 hk0 (by decide)) ?_
    refine wm_iload_n hC 1 dX12_wordBy_24 rfl ?_
    refine wm_iload_n hC 2 dX12_wordBy_25 rfl ?_
    refine wm_iload_n hC 3 dX12_wordBy_26 rfl ?_
    refine wm_iload hC 6 dX12_wordBy_27 rfl ?_
    refine wm_aload_n hC 0 dX12_wordBy_29 rfl (k_ne0 hk0 (by decide)) ?_
    refine x_getR2 hC 58 fl_X12_189 rfl hk0 dX12_wordBy_30 hw (fun g2 hw => ?_)
    refine wm_iload hC 6 dX12_wordBy_33 rfl ?_
    refine x_iald hC g2 dX12_wordBy_35 hw (fun hw => ?_)
    refine y_callV_l_IJ hC hRm noS ml_X12_463 hk0 (C12_scoreOf hk0 hw) (Nat.le_of_ble_eq_true rfl) (Nat.le_of_ble_eq_true rfl) ⟨Nat.zero_le _, Nat.zero_le _⟩ rfl (st := []) rfl (Nat.le_of_ble_eq_true rfl) dX12_wordBy_36 (fun r1 I1 J1 hw => ?_)
    refine wm_lstore hC dX12_wordBy_39 (by decide) (L2 := [(8, vl r1), (0, vr l0), (1, vi l1), (2, vi l2), (3, vi l3), (4, vi l4), (5, vl l5), (7, vi l7)]) rfl ?_
    refine wm_iload hC 5 dX12_wordBy_41 rfl ?_
    refine wm_iconst hC dX12_wordBy_43 (k := ?_)
    refine wm_icmp_eq (tgt := 58) hC dX12_wordBy_44 (by decide) hw (fun hw => ?_) (fun hw => ?_)
    · refine wm_iload hC 7 dX12_wordBy_58 rfl ?_
      refine wm_istore hC dX12_wordBy_60 (by decide) (L2 := [(4, vi l7), (8, vl r1), (0, vr l0), (1, vi l1), (2, vi l2), (3, vi l3), (5, vl l5), (7, vi l7)]) rfl ?_
      refine wm_lload hC 1 dX12_wordBy_62 rfl ?_
      refine wm_lstore hC dX12_wordBy_64 (by decide) (L2 := [(5, vl r1), (4, vi l7), (8, vl r1), (0, vr l0), (1, vi l1), (2, vi l2), (3, vi l3), (7, vi l7)]) rfl ?_
      refine x_iinc hC 7 dX12_wordBy_66 rfl (by decide) (L2 := [(7, vi (l7 + 1)), (5, vl r1), (4, vi l7), (8, vl r1), (0, vr l0), (1, vi l1), (2, vi l2), (3, vi l3)]) rfl hw (fun hw => ?_)
      refine wm_goto (tgt := 9) hC dX12_wordBy_69 (by decide) ?_
      refine wm_sub [4, 5, 6, 7, 2, 1, 0] (L2 := [(0, vr l0), (1, vi l1), (2, vi l2), (3, vi l3), (4, vi l7), (5, vl r1), (7, vi (l7 + 1))]) rfl ?_
      exact kk9 _ _ _ _ _ hw
    · refine wm_lload hC 0 dX12_wordBy_47 rfl ?_
      refine wm_lload hC 6 dX12_wordBy_49 rfl ?_
      refine wm_lcmp_gt (tgt := 58) hC dX12_wordBy_51 dX12_wordBy_52 (by decide) hw (fun hw => ?_) (fun hw => ?_)
      · refine wm_iload hC 7 dX12_wordBy_58 rfl ?_
        refine wm_istore hC dX12_wordBy_60 (by decide) (L2 := [(4, vi l7), (8, vl r1), (0, vr l0), (1, vi l1), (2, vi l2), (3, vi l3), (5, vl l5), (7, vi l7)]) rfl ?_
        refine wm_lload hC 1 dX12_wordBy_62 rfl ?_
        refine wm_lstore hC dX12_wordBy_64 (by decide) (L2 := [(5, vl r1), (4, vi l7), (8, vl r1), (0, vr l0), (1, vi l1), (2, vi l2), (3, vi l3), (7, vi l7)]) rfl ?_
        refine x_iinc hC 7 dX12_wordBy_66 rfl (by decide) (L2 := [(7, vi (l7 + 1)), (5, vl r1), (4, vi l7), (8, vl r1), (0, vr l0), (1, vi l1), (2, vi l2), (3, vi l3)]) rfl hw (fun hw => ?_)
        refine wm_goto (tgt := 9) hC dX12_wordBy_69 (by decide) ?_
        refine wm_sub [4, 5, 6, 7, 2, 1, 0] (L2 := [(0, vr l0), (1, vi l1), (2, vi l2), (3, vi l3), (4, vi l7), (5, vl r1), (7, vi (l7 + 1))]) rfl ?_
        exact kk9 _ _ _ _ _ hw
      · refine wm_goto (tgt := 66) hC dX12_wordBy_55 (by decide) ?_
        refine x_iinc hC 7 dX12_wordBy_66 rfl (by decide) (L2 := [(7, vi (l7 + 1)), (8, vl r1), (0, vr l0), (1, vi l1), (2, vi l2), (3, vi l3), (4, vi l4), (5, vl l5)]) rfl hw (fun hw => ?_)
        refine wm_goto (tgt := 9) hC dX12_wordBy_69 (by decide) ?_
        refine wm_sub [2, 3, 4, 5, 6, 7, 0] (L2 := [(0, vr l0), (1, vi l1), (2, vi l2), (3, vi l3), (4, vi l4), (5, vl l5), (7, vi (l7 + 1))]) rfl ?_
        exact kk9 _ _ _ _ _ hw
set_option maxRecDepth 20000 in
theorem W12_wordBy_b9 {C : wX} {ad : Nat → Nat} {n : Nat} {R : mR} {Q : Int → mI → mI → Prop} (hC : wOK C cX12_wordBy 10 RX12) (hRm : wRm C 5 111 0 0) (hE : wEnd C (some .int) ad n (fun r I' J' R' => (R' = R) ∧ Q r I' J')) {l0 : Nat} {l1 : Int} {l2 : Int} {l3 : Int}   (hk0 : kK l0 = 12)  : ∀ (f : Nat) (l4 : Int) (l5 : Int) (l7 : Int) (I : mI) (J : mI), P12_wordBy_b9 l0 l1 l2 l3 R Q f l4 l5 l7 I J → WM C ad n I J R 0 0 9 [(0, vr l0), (1, vi l1), (2, vi l2), (3, vi l3), (4, vi l4), (5, vl l5), (7, vi l7)] [] := by
  intro f
  induction f with
  | zero => intro l4 l5 l7 I J hw; exact hw.elim
  | succ f ih => intro l4 l5 l7 I J hw; exact W12_wordBy_b9_body hC hRm hE hk0 (fun a0 a1 a2 a3 a4 hw => ih a0 a1 a2 a3 a4 hw) hw
def P12_wordBy (l0 : Nat) (l1 : Int) (l2 : Int) (l3 : Int) (I : mI) (J : mI) (R : mR) (Q : Int → mI → mI → Prop) : Prop := (∃ f, P12_wordBy_b9 l0 l1 l2 l3 R Q f (-1) 0 0 I J)
set_option maxRecDepth 20000 in
theorem C12_wordBy {ad : Nat → Nat} {n : Nat} {I J : mI} {R : mR} {Q : Int → mI → mI → Prop}  {l0 : Nat} {l1 : Int} {l2 : Int} {l3 : Int} (hk0 : kK l0 = 12) (hw : P12_wordBy l0 l1 l2 l3 I J R Q) : wMet yX12_wordBy cX12_wordBy 10 (some .int) 5 111 false ad n I J R [vr l0, vi l1, vi l2, vi l3] (fun r I' J' R' => (R' = R) ∧ Q r I' J') := by
  refine wMet_of (by decide) (Nat.le_of_ble_eq_true rfl) (fun C hC hRm hE hS => ?_)
  refine (show WM C ad n I J R 0 0 0 [(0, vr l0), (1, vi l1), (2, vi l2), (3, vi l3)] [] from ?_)
  unfold P12_wordBy at hw
  refine wm_iconst hC dX12_wordBy_0 (k := ?_)
  refine wm_istore hC dX12_wordBy_1 (by decide) (L2 := [(4, vi (-1)), (0, vr l0), (1, vi l1), (2, vi l2), (3, vi l3)]) rfl ?_
  refine wm_lconst hC (x := 0) dX12_wordBy_3 (k := ?_)
  refine wm_lstore hC dX12_wordBy_4 (by decide) (L2 := [(5, vl 0), (4, vi (-1)), (0, vr l0), (1, vi l1), (2, vi l2), (3, vi l3)]) rfl ?_
  refine wm_iconst hC dX12_wordBy_6 (k := ?_)
  refine wm_istore hC dX12_wordBy_7 (by decide) (L2 := [(7, vi 0), (5, vl 0), (4, vi (-1)), (0, vr l0), (1, vi l1), (2, vi l2), (3, vi l3)]) rfl ?_
  obtain ⟨f, hw⟩ := hw
  refine wm_sub [3, 4, 5, 6, 2, 1, 0] (L2 := [(0, vr l0), (1, vi l1), (2, vi l2), (3, vi l3), (4, vi (-1)), (5, vl 0), (7, vi 0)]) rfl ?_
  exact W12_wordBy_b9 hC hRm hE hk0 f _ _ _ _ _ hw
def P12_hushes_b23_body (l0 : Nat) (R : mR) (Q : mI → Prop) (k23 : Int → mI → Prop) (l1 : Int) (I : mI) : Prop := (if (6 : Int) ≤ l1 then (Q I) else (kK (R l0 59) = 21 ∧ (((0 : Int) ≤ l1 ∧ l1 < (kN (R l0 59) : Int)) ∧ wLet (up I (R l0 59) l1 (-1)) (fun I2 => (rg (l1 + 1) ∧ (k23 (l1 + 1) I2))))))
def P12_hushes_b23 (l0 : Nat) (R : mR) (Q : mI → Prop) : Nat → Int → mI → Prop
  | 0 => fun _ _ => False
  | f + 1 => fun l1 I => P12_hushes_b23_body l0 R Q (P12_hushes_b23 l0 R Q f) l1 I
set_option maxRecDepth 20000 in
theorem W12_hushes_b23_body {C : wX} {ad : Nat → Nat} {n : Nat} {I J : mI} {R : mR} {Q : mI → Prop} (hC : wOK C cX12_hushes 2 RX12) (hRm : wRm C 1 12 0 0) (hE : wEnd C none ad n (fun _ I' J' R' => (J' = J ∧ R' = R) ∧ Q I')) {l0 : Nat} {l1 : Int}   (hk0 : kK l0 = 12)  {k23 : Int → mI → Prop} (kk23 : ∀ (y1 : Int) (I' : mI), k23 y1 I' → WM C ad n I' J R 0 0 23 [(0, vr l0), (1, vi y1)] []) (hw : P12_hushes_b23_body l0 R Q k23 l1 I) : WM C ad n I J R 0 0 23 [(0, vr l0), (1, vi l1)] [] := by
  unfold P12_hushes_b23_body at hw
  refine wm_iload_n hC 1 dX12_hushes_23 rfl ?_
  refine wm_bipush hC dX12_hushes_24 (k := ?_)
  refine wm_icmp_ge (tgt := 42) hC dX12_hushes_26 (by decide) hw (fun hw => ?_) (fun hw => ?_)
  · exact wm_return hC hE dX12_hushes_42 ⟨⟨rfl, rfl⟩, hw⟩
  · refine wm_aload_n hC 0 dX12_hushes_29 rfl (k_ne0 hk0 (by decide)) ?_
    refine x_getR2 hC 59 fl_X12_192 rfl hk0 dX12_hushes_30 hw (fun g2 hw => ?_)
    refine wm_iload_n hC 1 dX12_hushes_33 rfl ?_
    refine wm_iconst hC dX12_hushes_34 (k := ?_)
    refine x_iast hC g2 dX12_hushes_35 hw (fun I2 hw => ?_)
    refine x_iinc hC 1 dX12_hushes_36 rfl (by decide) (L2 := [(1, vi (l1 + 1)), (0, vr l0)]) rfl hw (fun hw => ?_)
    refine wm_goto (tgt := 23) hC dX12_hushes_39 (by decide) ?_
    refine wm_sub [1, 0] (L2 := [(0, vr l0), (1, vi (l1 + 1))]) rfl ?_
    exact kk23 _ _ hw
set_option maxRecDepth 20000 in
theorem W12_hushes_b23 {C : wX} {ad : Nat → Nat} {n : Nat} {J : mI} {R : mR} {Q : mI → Prop} (hC : wOK C cX12_hushes 2 RX12) (hRm : wRm C 1 12 0 0) (hE : wEnd C none ad n (fun _ I' J' R' => (J' = J ∧ R' = R) ∧ Q I')) {l0 : Nat}   (hk0 : kK l0 = 12)  : ∀ (f : Nat) (l1 : Int) (I : mI), P12_hushes_b23 l0 R Q f l1 I → WM C ad n I J R 0 0 23 [(0, vr l0), (1, vi l1)] [] := by
  intro f
  induction f with
  | zero => intro l1 I hw; exact hw.elim
  | succ f ih => intro l1 I hw; exact W12_hushes_b23_body hC hRm hE hk0 (fun a0 a1 hw => ih a0 a1 hw) hw
def P12_hushes_b2_body (l0 : Nat) (R : mR) (Q : mI → Prop) (k2 : Int → mI → Prop) (l1 : Int) (I : mI) : Prop := (if (6 : Int) ≤ l1 then (∃ f, P12_hushes_b23 l0 R Q f 0 I) else (kK (R l0 58) = 21 ∧ (((0 : Int) ≤ l1 ∧ l1 < (kN (R l0 58) : Int)) ∧ wLet (up I (R l0 58) l1 0) (fun I1 => (rg (l1 + 1) ∧ (k2 (l1 + 1) I1))))))
def P12_hushes_b2 (l0 : Nat) (R : mR) (Q : mI → Prop) : Nat → Int → mI → Prop
  | 0 => fun _ _ => False
  | f + 1 => fun l1 I => P12_hushes_b2_body l0 R Q (P12_hushes_b2 l0 R Q f) l1 I
set_option maxRecDepth 20000 in
theorem W12_hushes_b2_body {C : wX} {ad : Nat → Nat} {n : Nat} {I J : mI} {R : mR} {Q : mI → Prop} (hC : wOK C cX12_hushes 2 RX12) (hRm : wRm C 1 12 0 0) (hE : wEnd C none ad n (fun _ I' J' R' => (J' = J ∧ R' = R) ∧ Q I')) {l0 : Nat} {l1 : Int}   (hk0 : kK l0 = 12)  {k2 : Int → mI → Prop} (kk2 : ∀ (y1 : Int) (I' : mI), k2 y1 I' → WM C ad n I' J R 0 0 2 [(0, vr l0), (1, vi y1)] []) (hw : P12_hushes_b2_body l0 R Q k2 l1 I) : WM C ad n I J R 0 0 2 [(0, vr l0), (1, vi l1)] [] := by
  unfold P12_hushes_b2_body at hw
  refine wm_iload_n hC 1 dX12_hushes_2 rfl ?_
  refine wm_bipush hC dX12_hushes_3 (k := ?_)
  refine wm_icmp_ge (tgt := 21) hC dX12_hushes_5 (by decide) hw (fun hw => ?_) (fun hw => ?_)
  · refine wm_iconst hC dX12_hushes_21 (k := ?_)
    refine wm_istore_n hC dX12_hushes_22 (by decide) (L2 := [(1, vi 0), (0, vr l0)]) rfl ?_
    obtain ⟨f, hw⟩ := hw
    refine wm_sub [1, 0] (L2 := [(0, vr l0), (1, vi 0)]) rfl ?_
    exact W12_hushes_b23 hC hRm hE hk0 f _ _ hw
  · refine wm_aload_n hC 0 dX12_hushes_8 rfl (k_ne0 hk0 (by decide)) ?_
    refine x_getR2 hC 58 fl_X12_189 rfl hk0 dX12_hushes_9 hw (fun g1 hw => ?_)
    refine wm_iload_n hC 1 dX12_hushes_12 rfl ?_
    refine wm_iconst hC dX12_hushes_13 (k := ?_)
    refine x_iast hC g1 dX12_hushes_14 hw (fun I1 hw => ?_)
    refine x_iinc hC 1 dX12_hushes_15 rfl (by decide) (L2 := [(1, vi (l1 + 1)), (0, vr l0)]) rfl hw (fun hw => ?_)
    refine wm_goto (tgt := 2) hC dX12_hushes_18 (by decide) ?_
    refine wm_sub [1, 0] (L2 := [(0, vr l0), (1, vi (l1 + 1))]) rfl ?_
    exact kk2 _ _ hw
set_option maxRecDepth 20000 in
theorem W12_hushes_b2 {C : wX} {ad : Nat → Nat} {n : Nat} {J : mI} {R : mR} {Q : mI → Prop} (hC : wOK C cX12_hushes 2 RX12) (hRm : wRm C 1 12 0 0) (hE : wEnd C none ad n (fun _ I' J' R' => (J' = J ∧ R' = R) ∧ Q I')) {l0 : Nat}   (hk0 : kK l0 = 12)  : ∀ (f : Nat) (l1 : Int) (I : mI), P12_hushes_b2 l0 R Q f l1 I → WM C ad n I J R 0 0 2 [(0, vr l0), (1, vi l1)] [] := by
  intro f
  induction f with
  | zero => intro l1 I hw; exact hw.elim
  | succ f ih => intro l1 I hw; exact W12_hushes_b2_body hC hRm hE hk0 (fun a0 a1 hw => ih a0 a1 hw) hw
def P12_hushes (l0 : Nat) (I : mI) (R : mR) (Q : mI → Prop) : Prop := (∃ f, P12_hushes_b2 l0 R Q f 0 I)
set_option maxRecDepth 20000 in
theorem C12_hushes {ad : Nat → Nat} {n : Nat} {I J : mI} {R : mR} {Q : mI → Prop}  {l0 : Nat} (hk0 : kK l0 = 12) (hw : P12_hushes l0 I R Q) : wMet yX12_hushes cX12_hushes 2 none 1 12 false ad n I J R [vr l0] (fun _ I' J' R' => (J' = J ∧ R' = R) ∧ Q I') := by
  refine wMet_of (by decide) (Nat.le_of_ble_eq_true rfl) (fun C hC hRm hE hS => ?_)
  refine (show WM C ad n I J R 0 0 0 [(0, vr l0)] [] from ?_)
  unfold P12_hushes at hw
  refine wm_iconst hC dX12_hushes_0 (k := ?_)
  refine wm_istore_n hC dX12_hushes_1 (by decide) (L2 := [(1, vi 0), (0, vr l0)]) rfl ?_
  obtain ⟨f, hw⟩ := hw
  refine wm_sub [1, 0] (L2 := [(0, vr l0), (1, vi 0)]) rfl ?_
  exact W12_hushes_b2 hC hRm hE hk0 f _ _ hw
def P12_chosen_b106_body (l0 : Nat) (I : mI) (J : mI) (R : mR) (Q : Int → mI → mI → Prop) (k106 : Int → Int → Prop) (l4 : Int) (l5 : Int) : Prop := (kK (R l0 17) = 21 ∧ (((0 : Int) ≤ (I l0 13) ∧ (I l0 13) < (kN (R l0 17) : Int)) ∧ (if (I (R l0 17) (I l0 13)) ≤ l5 then (Q l4 I J) else (kK (R l0 58) = 21 ∧ (((0 : Int) ≤ l5 ∧ l5 < (kN (R l0 58) : Int)) ∧ (if (I (R l0 58) l5) ≤ 0 then (rg (l5 + 1) ∧ (k106 l4 (l5 + 1))) else (if l4 = (-1) then (rg (l5 + 1) ∧ (k106 l5 (l5 + 1))) else (kK (R l0 58) = 21 ∧ (((0 : Int) ≤ l5 ∧ l5 < (kN (R l0 58) : Int)) ∧ (kK (R l0 58) = 21 ∧ (((0 : Int) ≤ l4 ∧ l4 < (kN (R l0 58) : Int)) ∧ (if (I (R l0 58) l5) ≤ (I (R l0 58) l4) then (rg (l5 + 1) ∧ (k106 l4 (l5 + 1))) else (rg (l5 + 1) ∧ (k106 l5 (l5 + 1)))))))))))))))
def P12_chosen_b106 (l0 : Nat) (I : mI) (J : mI) (R : mR) (Q : Int → mI → mI → Prop) : Nat → Int → Int → Prop
  | 0 => fun _ _ => False
  | f + 1 => fun l4 l5 => P12_chosen_b106_body l0 I J R Q (P12_chosen_b106 l0 I J R Q f) l4 l5
set_option maxRecDepth 20000 in
theorem W12_chosen_b106_body {C : wX} {ad : Nat → Nat} {n : Nat} {I J : mI} {R : mR} {Q : Int → mI → mI → Prop} (hC : wOK C cX12_chosen 6 RX12) (hRm : wRm C 6 140 0 0) (hE : wEnd C (some .int) ad n (fun r I' J' R' => (R' = R) ∧ Q r I' J')) {l0 : Nat} {l4 : Int} {l5 : Int}   (hk0 : kK l0 = 12)  {k106 : Int → Int → Prop} (kk106 : ∀ (y4 : Int) (y5 : Int), k106 y4 y5 → WM C ad n I J R 0 0 106 [(0, vr l0), (4, vi y4), (5, vi y5)] []) (hw : P12_chosen_b106_body l0 I J R Q k106 l4 l5) : WM C ad n I J R 0 0 106 [(0, vr l0), (4, vi l4), (5, vi l5)] [] := by
  unfold P12_chosen_b106_body at hw
  refine wm_iload hC 2 dX12_chosen_106 rfl ?_
  refine wm_aload_n hC 0 dX12_chosen_108 rfl (k_ne0 hk0 (by decide)) ?_
  refine x_getR2 hC 17 fl_X12_63 rfl hk0 dX12_chosen_109 hw (fun g7 hw => ?_)
  refine wm_aload_n hC 0 dX12_chosen_112 rfl (k_ne0 hk0 (by decide)) ?_
  refine x_getI hC 13 fl_X12_51 rfl hk0 dX12_chosen_113 ?_
  refine x_iald hC g7 dX12_chosen_116 hw (fun hw => ?_)
  refine wm_icmp_ge (tgt := 163) hC dX12_chosen_117 (by decide) hw (fun hw => ?_) (fun hw => ?_)
  · refine wm_iload hC 1 dX12_chosen_163 rfl ?_
    exact wm_ireturn hC hE dX12_chosen_165 ⟨rfl, hw⟩
  · refine wm_aload_n hC 0 dX12_chosen_120 rfl (k_ne0 hk0 (by decide)) ?_
    refine x_getR2 hC 58 fl_X12_189 rfl hk0 dX12_chosen_121 hw (fun g8 hw => ?_)
    refine wm_iload hC 2 dX12_chosen_124 rfl ?_
    refine x_iald hC g8 dX12_chosen_126 hw (fun hw => ?_)
    refine wm_if_le (tgt := 157) hC dX12_chosen_127 (by decide) hw (fun hw => ?_) (fun hw => ?_)
    · refine x_iinc hC 2 dX12_chosen_157 rfl (by decide) (L2 := [(5, vi (l5 + 1)), (0, vr l0), (4, vi l4)]) rfl hw (fun hw => ?_)
      refine wm_goto (tgt := 106) hC dX12_chosen_160 (by decide) ?_
      refine wm_sub [1, 2, 0] (L2 := [(0, vr l0), (4, vi l4), (5, vi (l5 + 1))]) rfl ?_
      exact kk106 _ _ hw
    · refine wm_iload hC 1 dX12_chosen_130 rfl ?_
      refine wm_iconst hC dX12_chosen_132 (k := ?_)
      refine wm_icmp_eq (tgt := 153) hC dX12_chosen_133 (by decide) hw (fun hw => ?_) (fun hw => ?_)
      · refine wm_iload hC 2 dX12_chosen_153 rfl ?_
        refine wm_istore hC dX12_chosen_155 (by decide) (L2 := [(4, vi l5), (0, vr l0), (5, vi l5)]) rfl ?_
        refine x_iinc hC 2 dX12_chosen_157 rfl (by decide) (L2 := [(5, vi (l5 + 1)), (4, vi l5), (0, vr l0)]) rfl hw (fun hw => ?_)
        refine wm_goto (tgt := 106) hC dX12_chosen_160 (by decide) ?_
        refine wm_sub [2, 1, 0] (L2 := [(0, vr l0), (4, vi l5), (5, vi (l5 + 1))]) rfl ?_
        exact kk106 _ _ hw
      · refine wm_aload_n hC 0 dX12_chosen_136 rfl (k_ne0 hk0 (by decide)) ?_
        refine x_getR2 hC 58 fl_X12_189 rfl hk0 dX12_chosen_137 hw (fun g9 hw => ?_)
        refine wm_iload hC 2 dX12_chosen_140 rfl ?_
        refine x_iald hC g9 dX12_chosen_142 hw (fun hw => ?_)
        refine wm_aload_n hC 0 dX12_chosen_143 rfl (k_ne0 hk0 (by decide)) ?_
        refine x_getR2 hC 58 fl_X12_189 rfl hk0 dX12_chosen_144 hw (fun g10 hw => ?_)
        refine wm_iload hC 1 dX12_chosen_147 rfl ?_
        refine x_iald hC g10 dX12_chosen_149 hw (fun hw => ?_)
        refine wm_icmp_le (tgt := 157) hC dX12_chosen_150 (by decide) hw (fun hw => ?_) (fun hw => ?_)
        · refine x_iinc hC 2 dX12_chosen_157 rfl (by decide) (L2 := [(5, vi (l5 + 1)), (0, vr l0), (4, vi l4)]) rfl hw (fun hw => ?_)
          refine wm_goto (tgt := 106) hC dX12_chosen_160 (by decide) ?_
          refine wm_sub [1, 2, 0] (L2 := [(0, vr l0), (4, vi l4), (5, vi (l5 + 1))]) rfl ?_
          exact kk106 _ _ hw
        · refine wm_iload hC 2 dX12_chosen_153 rfl ?_
          refine wm_istore hC dX12_chosen_155 (by decide) (L2 := [(4, vi l5), (0, vr l0), (5, vi l5)]) rfl ?_
          refine x_iinc hC 2 dX12_chosen_157 rfl (by decide) (L2 := [(5, vi (l5 + 1)), (4, vi l5), (0, vr l0)]) rfl hw (fun hw => ?_)
          refine wm_goto (tgt := 106) hC dX12_chosen_160 (by decide) ?_
          refine wm_sub [2, 1, 0] (L2 := [(0, vr l0), (4, vi l5), (5, vi (l5 + 1))]) rfl ?_
          exact kk106 _ _ hw
set_option maxRecDepth 20000 in
theorem W12_chosen_b106 {C : wX} {ad : Nat → Nat} {n : Nat} {I J : mI} {R : mR} {Q : Int → mI → mI → Prop} (hC : wOK C cX12_chosen 6 RX12) (hRm : wRm C 6 140 0 0) (hE : wEnd C (some .int) ad n (fun r I' J' R' => (R' = R) ∧ Q r I' J')) {l0 : Nat}   (hk0 : kK l0 = 12)  : ∀ (f : Nat) (l4 : Int) (l5 : Int), P12_chosen_b106 l0 I J R Q f l4 l5 → WM C ad n I J R 0 0 106 [(0, vr l0), (4, vi l4), (5, vi l5)] [] := by
  intro f
  induction f with
  | zero => intro l4 l5 hw; exact hw.elim
  | succ f ih => intro l4 l5 hw; exact W12_chosen_b106_body hC hRm hE hk0 (fun a0 a1 hw => ih a0 a1 hw) hw
def P12_chosen_b7_body (l0 : Nat) (l1 : Int) (l2 : Int) (l3 : Int) (R : mR) (Q : Int → mI → mI → Prop) (k7 : Int → mI → mI → Prop) (l4 : Int) (I : mI) (J : mI) : Prop := (kK (R l0 14) = 21 ∧ (((0 : Int) ≤ (I l0 13) ∧ (I l0 13) < (kN (R l0 14) : Int)) ∧ (if (I (R l0 14) (I l0 13)) ≤ l4 then (∃ f, P12_chosen_b106 l0 I J R Q f (-1) 0) else (kK (R l0 60) = 21 ∧ (((0 : Int) ≤ l4 ∧ l4 < (kN (R l0 60) : Int)) ∧ (P12_has2 l3 (I (R l0 60) l4) (fun r1 => (if r1 = 0 then (rg (l4 + 1) ∧ (k7 (l4 + 1) I J)) else (kK (R l0 59) = 21 ∧ (P12_wordBy l0 l1 (I (R l0 60) l4) l2 I J R (fun r2 I2 J1 => (((0 : Int) ≤ (I (R l0 60) l4) ∧ (I (R l0 60) l4) < (kN (R l0 59) : Int)) ∧ wLet (up I2 (R l0 59) (I (R l0 60) l4) r2) (fun I3 => (kK (R l0 59) = 21 ∧ (((0 : Int) ≤ (I (R l0 60) l4) ∧ (I (R l0 60) l4) < (kN (R l0 59) : Int)) ∧ (if (I3 (R l0 59) (I (R l0 60) l4)) = (-1) then (rg (l4 + 1) ∧ (k7 (l4 + 1) I3 J1)) else (P12_isCounting l0 l1 (I (R l0 60) l4) I3 J1 R (fun r3 I4 J2 => (if r3 = 0 then (rg (l4 + 1) ∧ (k7 (l4 + 1) I4 J2)) else (kK (R l0 58) = 21 ∧ (kK (R l0 59) = 21 ∧ (((0 : Int) ≤ (I (R l0 60) l4) ∧ (I (R l0 60) l4) < (kN (R l0 59) : Int)) ∧ (((0 : Int) ≤ (I4 (R l0 59) (I (R l0 60) l4)) ∧ (I4 (R l0 59) (I (R l0 60) l4)) < (kN (R l0 58) : Int)) ∧ (rg ((I4 (R l0 58) (I4 (R l0 59) (I (R l0 60) l4))) + 1) ∧ (((0 : Int) ≤ (I4 (R l0 59) (I (R l0 60) l4)) ∧ (I4 (R l0 59) (I (R l0 60) l4)) < (kN (R l0 58) : Int)) ∧ wLet (up I4 (R l0 58) (I4 (R l0 59) (I (R l0 60) l4)) ((I4 (R l0 58) (I4 (R l0 59) (I (R l0 60) l4))) + 1)) (fun I5 => (rg (l4 + 1) ∧ (k7 (l4 + 1) I5 J2))))))))))))))))))))))))))))
def P12_chosen_b7 (l0 : Nat) (l1 : Int) (l2 : Int) (l3 : Int) (R : mR) (Q : Int → mI → mI → Prop) : Nat → Int → mI → mI → Prop
  | 0 => fun _ _ _ => False
  | f + 1 => fun l4 I J => P12_chosen_b7_body l0 l1 l2 l3 R Q (P12_chosen_b7 l0 l1 l2 l3 R Q f) l4 I J
set_option maxRecDepth 20000 in
theorem W12_chosen_b7_body {C : wX} {ad : Nat → Nat} {n : Nat} {I J : mI} {R : mR} {Q : Int → mI → mI → Prop} (hC : wOK C cX12_chosen 6 RX12) (hRm : wRm C 6 140 0 0) (hE : wEnd C (some .int) ad n (fun r I' J' R' => (R' = R) ∧ Q r I' J')) {l0 : Nat} {l1 : Int} {l2 : Int} {l3 : Int} {l4 : Int}   (hk0 : kK l0 = 12)  {k7 : Int → mI → mI → Prop} (kk7 : ∀ (y4 : Int) (I' : mI) (J' : mI), k7 y4 I' J' → WM C ad n I' J' R 0 0 7 [(0, vr l0), (1, vi l1), (2, vi l2), (3, vi l3), (4, vi y4)] []) (hw : P12_chosen_b7_body l0 l1 l2 l3 R Q k7 l4 I J) : WM C ad n I J R 0 0 7 [(0, vr l0), (1, vi l1), (2, vi l2), (3, vi l3), (4, vi l4)] [] := by
  unfold P12_chosen_b7_body at hw
  refine wm_iload hC 4 dX12_chosen_7 rfl ?_
  refine wm_aload_n hC 0 dX12_chosen_9 rfl (k_ne0 hk0 (by decide)) ?_
  refine x_getR2 hC 14 fl_X12_54 rfl hk0 dX12_chosen_10 hw (fun g1 hw => ?_)
  refine wm_aload_n hC 0 dX12_chosen_13 rfl (k_ne0 hk0 (by decide)) ?_
  refine x_getI hC 13 fl_X12_51 rfl hk0 dX12_chosen_14 ?_
  refine x_iald hC g1 dX12_chosen_17 hw (fun hw => ?_)
  refine wm_icmp_ge (tgt := 100) hC dX12_chosen_18 (by decide) hw (fun hw => ?_) (fun hw => ?_)
  · refine wm_iconst hC dX12_chosen_100 (k := ?_)
    refine wm_istore hC dX12_chosen_101 (by decide) (L2 := [(4, vi (-1)), (0, vr l0), (1, vi l1), (2, vi l2), (3, vi l3)]) rfl ?_
    refine wm_iconst hC dX12_chosen_103 (k := ?_)
    refine wm_istore hC dX12_chosen_104 (by decide) (L2 := [(5, vi 0), (4, vi (-1)), (0, vr l0), (1, vi l1), (2, vi l2), (3, vi l3)]) rfl ?_
    obtain ⟨f, hw⟩ := hw
    refine wm_sub [2, 1, 0] (L2 := [(0, vr l0), (4, vi (-1)), (5, vi 0)]) rfl ?_
    exact W12_chosen_b106 hC hRm hE hk0 f _ _ hw
  · refine wm_aload_n hC 0 dX12_chosen_21 rfl (k_ne0 hk0 (by decide)) ?_
    refine x_getR2 hC 60 fl_X12_195 rfl hk0 dX12_chosen_22 hw (fun g2 hw => ?_)
    refine wm_iload hC 4 dX12_chosen_25 rfl ?_
    refine x_iald hC g2 dX12_chosen_27 hw (fun hw => ?_)
    refine wm_istore hC dX12_chosen_28 (by decide) (L2 := [(5, vi (I (R l0 60) l4)), (0, vr l0), (1, vi l1), (2, vi l2), (3, vi l3), (4, vi l4)]) rfl ?_
    refine wm_iload_n hC 4 dX12_chosen_30 rfl ?_
    refine wm_iload hC 0 dX12_chosen_31 rfl ?_
    refine y_callS_z_n hC hRm noS ml_X12_351 (C12_has2  hw) (Nat.le_of_ble_eq_true rfl) (Nat.le_of_ble_eq_true rfl) ⟨Nat.zero_le _, Nat.zero_le _⟩ rfl (st := []) rfl (Nat.le_of_ble_eq_true rfl) dX12_chosen_33 (fun r1 hw => ?_)
    refine wm_if_ne (tgt := 42) hC dX12_chosen_36 (by decide) hw (fun hw => ?_) (fun hw => ?_)
    · refine wm_goto (tgt := 94) hC dX12_chosen_39 (by decide) ?_
      refine x_iinc hC 5 dX12_chosen_94 rfl (by decide) (L2 := [(4, vi (l4 + 1)), (5, vi (I (R l0 60) l4)), (0, vr l0), (1, vi l1), (2, vi l2), (3, vi l3)]) rfl hw (fun hw => ?_)
      refine wm_goto (tgt := 7) hC dX12_chosen_97 (by decide) ?_
      refine wm_sub [2, 3, 4, 5, 0] (L2 := [(0, vr l0), (1, vi l1), (2, vi l2), (3, vi l3), (4, vi (l4 + 1))]) rfl ?_
      exact kk7 _ _ _ hw
    · refine wm_aload_n hC 1 dX12_chosen_42 rfl (k_ne0 hk0 (by decide)) ?_
      refine x_getR2 hC 59 fl_X12_192 rfl hk0 dX12_chosen_43 hw (fun g3 hw => ?_)
      refine wm_iload hC 0 dX12_chosen_46 rfl ?_
      refine wm_aload_n hC 1 dX12_chosen_48 rfl (k_ne0 hk0 (by decide)) ?_
      refine wm_iload_n hC 2 dX12_chosen_49 rfl ?_
      refine wm_iload hC 0 dX12_chosen_50 rfl ?_
      refine wm_iload_n hC 3 dX12_chosen_52 rfl ?_
      refine y_callV_i_IJ hC hRm noS ml_X12_470 hk0 (C12_wordBy hk0 hw) (Nat.le_of_ble_eq_true rfl) (Nat.le_of_ble_eq_true rfl) ⟨Nat.zero_le _, Nat.zero_le _⟩ rfl (st := [vi (I (R l0 60) l4), vr (R l0 59)]) rfl (Nat.le_of_ble_eq_true rfl) dX12_chosen_53 (fun r2 I2 J1 hw => ?_)
      refine x_iast hC g3 dX12_chosen_56 hw (fun I3 hw => ?_)
      refine wm_aload_n hC 1 dX12_chosen_57 rfl (k_ne0 hk0 (by decide)) ?_
      refine x_getR2 hC 59 fl_X12_192 rfl hk0 dX12_chosen_58 hw (fun g4 hw => ?_)
      refine wm_iload hC 0 dX12_chosen_61 rfl ?_
      refine x_iald hC g4 dX12_chosen_63 hw (fun hw => ?_)
      refine wm_iconst hC dX12_chosen_64 (k := ?_)
      refine wm_icmp_eq (tgt := 94) hC dX12_chosen_65 (by decide) hw (fun hw => ?_) (fun hw => ?_)
      · refine x_iinc hC 5 dX12_chosen_94 rfl (by decide) (L2 := [(4, vi (l4 + 1)), (5, vi (I (R l0 60) l4)), (0, vr l0), (1, vi l1), (2, vi l2), (3, vi l3)]) rfl hw (fun hw => ?_)
        refine wm_goto (tgt := 7) hC dX12_chosen_97 (by decide) ?_
        refine wm_sub [2, 3, 4, 5, 0] (L2 := [(0, vr l0), (1, vi l1), (2, vi l2), (3, vi l3), (4, vi (l4 + 1))]) rfl ?_
        exact kk7 _ _ _ hw
      · refine wm_aload_n hC 1 dX12_chosen_68 rfl (k_ne0 hk0 (by decide)) ?_
        refine wm_iload_n hC 2 dX12_chosen_69 rfl ?_
        refine wm_iload hC 0 dX12_chosen_70 rfl ?_
        refine y_callV_z_IJ hC hRm noS ml_X12_473 hk0 (C12_isCounting hk0 hw) (Nat.le_of_ble_eq_true rfl) (Nat.le_of_ble_eq_true rfl) ⟨Nat.zero_le _, Nat.zero_le _⟩ rfl (st := []) rfl (Nat.le_of_ble_eq_true rfl) dX12_chosen_72 (fun r3 I4 J2 hw => ?_)
        refine wm_if_eq (tgt := 94) hC dX12_chosen_75 (by decide) hw (fun hw => ?_) (fun hw => ?_)
        · refine x_iinc hC 5 dX12_chosen_94 rfl (by decide) (L2 := [(4, vi (l4 + 1)), (5, vi (I (R l0 60) l4)), (0, vr l0), (1, vi l1), (2, vi l2), (3, vi l3)]) rfl hw (fun hw => ?_)
          refine wm_goto (tgt := 7) hC dX12_chosen_97 (by decide) ?_
          refine wm_sub [2, 3, 4, 5, 0] (L2 := [(0, vr l0), (1, vi l1), (2, vi l2), (3, vi l3), (4, vi (l4 + 1))]) rfl ?_
          exact kk7 _ _ _ hw
        · refine wm_aload_n hC 1 dX12_chosen_78 rfl (k_ne0 hk0 (by decide)) ?_
          refine x_getR2 hC 58 fl_X12_189 rfl hk0 dX12_chosen_79 hw (fun g5 hw => ?_)
          refine wm_aload_n hC 1 dX12_chosen_82 rfl (k_ne0 hk0 (by decide)) ?_
          refine x_getR2 hC 59 fl_X12_192 rfl hk0 dX12_chosen_83 hw (fun g6 hw => ?_)
          refine wm_iload hC 0 dX12_chosen_86 rfl ?_
          refine x_iald hC g6 dX12_chosen_88 hw (fun hw => ?_)
          refine wm_dup2_11 hC dX12_chosen_89 (k := ?_)
          refine x_iald hC g5 dX12_chosen_90 hw (fun hw => ?_)
          refine wm_iconst hC dX12_chosen_91 (k := ?_)
          refine x_iadd hC dX12_chosen_92 hw (fun hw => ?_)
          refine x_iast hC g5 dX12_chosen_93 hw (fun I5 hw => ?_)
          refine x_iinc hC 5 dX12_chosen_94 rfl (by decide) (L2 := [(4, vi (l4 + 1)), (5, vi (I (R l0 60) l4)), (0, vr l0), (1, vi l1), (2, vi l2), (3, vi l3)]) rfl hw (fun hw => ?_)
          refine wm_goto (tgt := 7) hC dX12_chosen_97 (by decide) ?_
          refine wm_sub [2, 3, 4, 5, 0] (L2 := [(0, vr l0), (1, vi l1), (2, vi l2), (3, vi l3), (4, vi (l4 + 1))]) rfl ?_
          exact kk7 _ _ _ hw
set_option maxRecDepth 20000 in
theorem W12_chosen_b7 {C : wX} {ad : Nat → Nat} {n : Nat} {R : mR} {Q : Int → mI → mI → Prop} (hC : wOK C cX12_chosen 6 RX12) (hRm : wRm C 6 140 0 0) (hE : wEnd C (some .int) ad n (fun r I' J' R' => (R' = R) ∧ Q r I' J')) {l0 : Nat} {l1 : Int} {l2 : Int} {l3 : Int}   (hk0 : kK l0 = 12)  : ∀ (f : Nat) (l4 : Int) (I : mI) (J : mI), P12_chosen_b7 l0 l1 l2 l3 R Q f l4 I J → WM C ad n I J R 0 0 7 [(0, vr l0), (1, vi l1), (2, vi l2), (3, vi l3), (4, vi l4)] [] := by
  intro f
  induction f with
  | zero => intro l4 I J hw; exact hw.elim
  | succ f ih => intro l4 I J hw; exact W12_chosen_b7_body hC hRm hE hk0 (fun a0 a1 a2 hw => ih a0 a1 a2 hw) hw
def P12_chosen (l0 : Nat) (l1 : Int) (l2 : Int) (l3 : Int) (I : mI) (J : mI) (R : mR) (Q : Int → mI → mI → Prop) : Prop := (P12_hushes l0 I R (fun I1 => (∃ f, P12_chosen_b7 l0 l1 l2 l3 R Q f 0 I1 J)))
set_option maxRecDepth 20000 in
theorem C12_chosen {ad : Nat → Nat} {n : Nat} {I J : mI} {R : mR} {Q : Int → mI → mI → Prop}  {l0 : Nat} {l1 : Int} {l2 : Int} {l3 : Int} (hk0 : kK l0 = 12) (hw : P12_chosen l0 l1 l2 l3 I J R Q) : wMet yX12_chosen cX12_chosen 6 (some .int) 6 140 false ad n I J R [vr l0, vi l1, vi l2, vi l3] (fun r I' J' R' => (R' = R) ∧ Q r I' J') := by
  refine wMet_of (by decide) (Nat.le_of_ble_eq_true rfl) (fun C hC hRm hE hS => ?_)
  refine (show WM C ad n I J R 0 0 0 [(0, vr l0), (1, vi l1), (2, vi l2), (3, vi l3)] [] from ?_)
  unfold P12_chosen at hw
  refine wm_aload_n hC 0 dX12_chosen_0 rfl (k_ne0 hk0 (by decide)) ?_
  refine y_callV_v_I hC hRm noS ml_X12_467 hk0 (C12_hushes hk0 hw) (Nat.le_of_ble_eq_true rfl) (Nat.le_of_ble_eq_true rfl) ⟨Nat.zero_le _, Nat.zero_le _⟩ rfl (st := []) rfl (Nat.le_of_ble_eq_true rfl) dX12_chosen_1 (fun I1 hw => ?_)
  refine wm_iconst hC dX12_chosen_4 (k := ?_)
  refine wm_istore hC dX12_chosen_5 (by decide) (L2 := [(4, vi 0), (0, vr l0), (1, vi l1), (2, vi l2), (3, vi l3)]) rfl ?_
  obtain ⟨f, hw⟩ := hw
  refine wm_sub [1, 2, 3, 4, 0] (L2 := [(0, vr l0), (1, vi l1), (2, vi l2), (3, vi l3), (4, vi 0)]) rfl ?_
  exact W12_chosen_b7 hC hRm hE hk0 f _ _ _ hw
def P12_everybody (l0 : Nat) (I : mI) (R : mR) (Q : Int → Prop) : Prop := (kK (R l0 14) = 21 ∧ (((0 : Int) ≤ (I l0 13) ∧ (I l0 13) < (kN (R l0 14) : Int)) ∧ (rg ((bShl 1 (I (R l0 14) (I l0 13))) - 1) ∧ (Q ((bShl 1 (I (R l0 14) (I l0 13))) - 1)))))
set_option maxRecDepth 20000 in
theorem C12_everybody {ad : Nat → Nat} {n : Nat} {I J : mI} {R : mR} {Q : Int → Prop}  {l0 : Nat} (hk0 : kK l0 = 12) (hw : P12_everybody l0 I R Q) : wMet yX12_everybody cX12_everybody 1 (some .int) 1 12 false ad n I J R [vr l0] (fun r I' J' R' => (I' = I ∧ J' = J ∧ R' = R) ∧ Q r) := by
  refine wMet_of (by decide) (Nat.le_of_ble_eq_true rfl) (fun C hC hRm hE hS => ?_)
  refine (show WM C ad n I J R 0 0 0 [(0, vr l0)] [] from ?_)
  unfold P12_everybody at hw
  refine wm_iconst hC dX12_everybody_0 (k := ?_)
  refine wm_aload_n hC 0 dX12_everybody_1 rfl (k_ne0 hk0 (by decide)) ?_
  refine x_getR2 hC 14 fl_X12_54 rfl hk0 dX12_everybody_2 hw (fun g1 hw => ?_)
  refine wm_aload_n hC 0 dX12_everybody_5 rfl (k_ne0 hk0 (by decide)) ?_
  refine x_getI hC 13 fl_X12_51 rfl hk0 dX12_everybody_6 ?_
  refine x_iald hC g1 dX12_everybody_9 hw (fun hw => ?_)
  refine wm_ishl hC dX12_everybody_10 ?_
  refine wm_iconst hC dX12_everybody_11 (k := ?_)
  refine x_isub hC dX12_everybody_12 hw (fun hw => ?_)
  exact wm_ireturn hC hE dX12_everybody_13 ⟨⟨rfl, rfl, rfl⟩, hw⟩
def P12_laysNow_b2_body (l0 : Nat) (l1 : Int) (R : mR) (Q : mI → Prop) (k2 : Int → mI → Prop) (l2 : Int) (I : mI) : Prop := (kK (R l0 14) = 21 ∧ (((0 : Int) ≤ (I l0 13) ∧ (I l0 13) < (kN (R l0 14) : Int)) ∧ (if (I (R l0 14) (I l0 13)) ≤ l2 then (Q I) else (kK (R l0 60) = 21 ∧ (kK (R l0 47) = 21 ∧ (rg (6 * l1) ∧ (rg ((6 * l1) + l2) ∧ (((0 : Int) ≤ ((6 * l1) + l2) ∧ ((6 * l1) + l2) < (kN (R l0 47) : Int)) ∧ (((0 : Int) ≤ l2 ∧ l2 < (kN (R l0 60) : Int)) ∧ wLet (up I (R l0 60) l2 (I (R l0 47) ((6 * l1) + l2))) (fun I1 => (rg (l2 + 1) ∧ (k2 (l2 + 1) I1))))))))))))
def P12_laysNow_b2 (l0 : Nat) (l1 : Int) (R : mR) (Q : mI → Prop) : Nat → Int → mI → Prop
  | 0 => fun _ _ => False
  | f + 1 => fun l2 I => P12_laysNow_b2_body l0 l1 R Q (P12_laysNow_b2 l0 l1 R Q f) l2 I
set_option maxRecDepth 20000 in
theorem W12_laysNow_b2_body {C : wX} {ad : Nat → Nat} {n : Nat} {I J : mI} {R : mR} {Q : mI → Prop} (hC : wOK C cX12_laysNow 3 RX12) (hRm : wRm C 1 12 0 0) (hE : wEnd C none ad n (fun _ I' J' R' => (J' = J ∧ R' = R) ∧ Q I')) {l0 : Nat} {l1 : Int} {l2 : Int}   (hk0 : kK l0 = 12)  {k2 : Int → mI → Prop} (kk2 : ∀ (y2 : Int) (I' : mI), k2 y2 I' → WM C ad n I' J R 0 0 2 [(0, vr l0), (1, vi l1), (2, vi y2)] []) (hw : P12_laysNow_b2_body l0 l1 R Q k2 l2 I) : WM C ad n I J R 0 0 2 [(0, vr l0), (1, vi l1), (2, vi l2)] [] := by
  unfold P12_laysNow_b2_body at hw
  refine wm_iload_n hC 2 dX12_laysNow_2 rfl ?_
  refine wm_aload_n hC 0 dX12_laysNow_3 rfl (k_ne0 hk0 (by decide)) ?_
  refine x_getR2 hC 14 fl_X12_54 rfl hk0 dX12_laysNow_4 hw (fun g1 hw => ?_)
  refine wm_aload_n hC 0 dX12_laysNow_7 rfl (k_ne0 hk0 (by decide)) ?_
  refine x_getI hC 13 fl_X12_51 rfl hk0 dX12_laysNow_8 ?_
  refine x_iald hC g1 dX12_laysNow_11 hw (fun hw => ?_)
  refine wm_icmp_ge (tgt := 38) hC dX12_laysNow_12 (by decide) hw (fun hw => ?_) (fun hw => ?_)
  · exact wm_return hC hE dX12_laysNow_38 ⟨⟨rfl, rfl⟩, hw⟩
  · refine wm_aload_n hC 0 dX12_laysNow_15 rfl (k_ne0 hk0 (by decide)) ?_
    refine x_getR2 hC 60 fl_X12_195 rfl hk0 dX12_laysNow_16 hw (fun g2 hw => ?_)
    refine wm_iload_n hC 2 dX12_laysNow_19 rfl ?_
    refine wm_aload_n hC 0 dX12_laysNow_20 rfl (k_ne0 hk0 (by decide)) ?_
    refine x_getR2 hC 47 fl_X12_156 rfl hk0 dX12_laysNow_21 hw (fun g3 hw => ?_)
    refine wm_bipush hC dX12_laysNow_24 (k := ?_)
    refine wm_iload_n hC 1 dX12_laysNow_26 rfl ?_
    refine x_imul hC dX12_laysNow_27 hw (fun hw => ?_)
    refine wm_iload_n hC 2 dX12_laysNow_28 rfl ?_
    refine x_iadd hC dX12_laysNow_29 hw (fun hw => ?_)
    refine x_iald hC g3 dX12_laysNow_30 hw (fun hw => ?_)
    refine x_iast hC g2 dX12_laysNow_31 hw (fun I1 hw => ?_)
    refine x_iinc hC 2 dX12_laysNow_32 rfl (by decide) (L2 := [(2, vi (l2 + 1)), (0, vr l0), (1, vi l1)]) rfl hw (fun hw => ?_)
    refine wm_goto (tgt := 2) hC dX12_laysNow_35 (by decide) ?_
    refine wm_sub [1, 2, 0] (L2 := [(0, vr l0), (1, vi l1), (2, vi (l2 + 1))]) rfl ?_
    exact kk2 _ _ hw
set_option maxRecDepth 20000 in
theorem W12_laysNow_b2 {C : wX} {ad : Nat → Nat} {n : Nat} {J : mI} {R : mR} {Q : mI → Prop} (hC : wOK C cX12_laysNow 3 RX12) (hRm : wRm C 1 12 0 0) (hE : wEnd C none ad n (fun _ I' J' R' => (J' = J ∧ R' = R) ∧ Q I')) {l0 : Nat} {l1 : Int}   (hk0 : kK l0 = 12)  : ∀ (f : Nat) (l2 : Int) (I : mI), P12_laysNow_b2 l0 l1 R Q f l2 I → WM C ad n I J R 0 0 2 [(0, vr l0), (1, vi l1), (2, vi l2)] [] := by
  intro f
  induction f with
  | zero => intro l2 I hw; exact hw.elim
  | succ f ih => intro l2 I hw; exact W12_laysNow_b2_body hC hRm hE hk0 (fun a0 a1 hw => ih a0 a1 hw) hw
def P12_laysNow (l0 : Nat) (l1 : Int) (I : mI) (R : mR) (Q : mI → Prop) : Prop := (∃ f, P12_laysNow_b2 l0 l1 R Q f 0 I)
set_option maxRecDepth 20000 in
theorem C12_laysNow {ad : Nat → Nat} {n : Nat} {I J : mI} {R : mR} {Q : mI → Prop}  {l0 : Nat} {l1 : Int} (hk0 : kK l0 = 12) (hw : P12_laysNow l0 l1 I R Q) : wMet yX12_laysNow cX12_laysNow 3 none 1 12 false ad n I J R [vr l0, vi l1] (fun _ I' J' R' => (J' = J ∧ R' = R) ∧ Q I') := by
  refine wMet_of (by decide) (Nat.le_of_ble_eq_true rfl) (fun C hC hRm hE hS => ?_)
  refine (show WM C ad n I J R 0 0 0 [(0, vr l0), (1, vi l1)] [] from ?_)
  unfold P12_laysNow at hw
  refine wm_iconst hC dX12_laysNow_0 (k := ?_)
  refine wm_istore_n hC dX12_laysNow_1 (by decide) (L2 := [(2, vi 0), (0, vr l0), (1, vi l1)]) rfl ?_
  obtain ⟨f, hw⟩ := hw
  refine wm_sub [1, 2, 0] (L2 := [(0, vr l0), (1, vi l1), (2, vi 0)]) rfl ?_
  exact W12_laysNow_b2 hC hRm hE hk0 f _ _ hw
def P12_choiceOf (l0 : Nat) (l1 : Int) (l2 : Int) (l3 : Int) (I : mI) (J : mI) (R : mR) (Q : Int → mI → mI → Prop) : Prop := (P12_laysNow l0 l1 I R (fun I1 => (P12_chosen l0 l1 l2 l3 I1 J R (fun r1 I2 J1 => (Q r1 I2 J1)))))
set_option maxRecDepth 20000 in
theorem C12_choiceOf {ad : Nat → Nat} {n : Nat} {I J : mI} {R : mR} {Q : Int → mI → mI → Prop}  {l0 : Nat} {l1 : Int} {l2 : Int} {l3 : Int} (hk0 : kK l0 = 12) (hw : P12_choiceOf l0 l1 l2 l3 I J R Q) : wMet yX12_choiceOf cX12_choiceOf 4 (some .int) 7 165 false ad n I J R [vr l0, vi l1, vi l2, vi l3] (fun r I' J' R' => (R' = R) ∧ Q r I' J') := by
  refine wMet_of (by decide) (Nat.le_of_ble_eq_true rfl) (fun C hC hRm hE hS => ?_)
  refine (show WM C ad n I J R 0 0 0 [(0, vr l0), (1, vi l1), (2, vi l2), (3, vi l3)] [] from ?_)
  unfold P12_choiceOf at hw
  refine wm_aload_n hC 0 dX12_choiceOf_0 rfl (k_ne0 hk0 (by decide)) ?_
  refine wm_iload_n hC 1 dX12_choiceOf_1 rfl ?_
  refine y_callV_v_I hC hRm noS ml_X12_476 hk0 (C12_laysNow hk0 hw) (Nat.le_of_ble_eq_true rfl) (Nat.le_of_ble_eq_true rfl) ⟨Nat.zero_le _, Nat.zero_le _⟩ rfl (st := []) rfl (Nat.le_of_ble_eq_true rfl) dX12_choiceOf_2 (fun I1 hw => ?_)
  refine wm_aload_n hC 0 dX12_choiceOf_5 rfl (k_ne0 hk0 (by decide)) ?_
  refine wm_iload_n hC 1 dX12_choiceOf_6 rfl ?_
  refine wm_iload_n hC 2 dX12_choiceOf_7 rfl ?_
  refine wm_iload_n hC 3 dX12_choiceOf_8 rfl ?_
  refine y_callV_i_IJ hC hRm noS ml_X12_479 hk0 (C12_chosen hk0 hw) (Nat.le_of_ble_eq_true rfl) (Nat.le_of_ble_eq_true rfl) ⟨Nat.zero_le _, Nat.zero_le _⟩ rfl (st := []) rfl (Nat.le_of_ble_eq_true rfl) dX12_choiceOf_9 (fun r1 I2 J1 hw => ?_)
  exact wm_ireturn hC hE dX12_choiceOf_12 ⟨rfl, hw⟩
def P12_writesDown_b63 (l0 : Nat) (l1 : Int) (l2 : Int) (l3 : Int) (I : mI) (R : mR) (Q : mI → Prop) : Prop := (rg (40 * l1) ∧ (kK (R l0 50) = 21 ∧ (((0 : Int) ≤ l1 ∧ l1 < (kN (R l0 50) : Int)) ∧ (rg ((40 * l1) + (I (R l0 50) l1)) ∧ (rg (3 * ((40 * l1) + (I (R l0 50) l1))) ∧ (wLet (3 * ((40 * l1) + (I (R l0 50) l1))) (fun x1 => (kK (R l0 51) = 21 ∧ (kK (R l0 45) = 21 ∧ (((0 : Int) ≤ l1 ∧ l1 < (kN (R l0 45) : Int)) ∧ (((0 : Int) ≤ x1 ∧ x1 < (kN (R l0 51) : Int)) ∧ wLet (up I (R l0 51) x1 (I (R l0 45) l1)) (fun I3 => (kK (R l0 51) = 21 ∧ (rg (x1 + 1) ∧ (((0 : Int) ≤ (x1 + 1) ∧ (x1 + 1) < (kN (R l0 51) : Int)) ∧ wLet (up I3 (R l0 51) (x1 + 1) l2) (fun I4 => (kK (R l0 51) = 21 ∧ (rg (x1 + 2) ∧ (((0 : Int) ≤ (x1 + 2) ∧ (x1 + 2) < (kN (R l0 51) : Int)) ∧ wLet (up I4 (R l0 51) (x1 + 2) l3) (fun I5 => (kK (R l0 50) = 21 ∧ (((0 : Int) ≤ l1 ∧ l1 < (kN (R l0 50) : Int)) ∧ (rg ((I5 (R l0 50) l1) + 1) ∧ (((0 : Int) ≤ l1 ∧ l1 < (kN (R l0 50) : Int)) ∧ wLet (up I5 (R l0 50) l1 ((I5 (R l0 50) l1) + 1)) (fun I6 => (Q I6))))))))))))))))))))))))))
set_option maxRecDepth 20000 in
theorem W12_writesDown_b63 {C : wX} {ad : Nat → Nat} {n : Nat} {I J : mI} {R : mR} {Q : mI → Prop} (hC : wOK C cX12_writesDown 5 RX12) (hRm : wRm C 1 12 0 0) (hE : wEnd C none ad n (fun _ I' J' R' => (J' = J ∧ R' = R) ∧ Q I')) {l0 : Nat} {l1 : Int} {l2 : Int} {l3 : Int}   (hk0 : kK l0 = 12)  (hw : P12_writesDown_b63 l0 l1 l2 l3 I R Q) : WM C ad n I J R 0 0 63 [(0, vr l0), (1, vi l1), (2, vi l2), (3, vi l3)] [] := by
  unfold P12_writesDown_b63 at hw
  refine wm_iconst hC dX12_writesDown_63 (k := ?_)
  refine wm_bipush hC dX12_writesDown_64 (k := ?_)
  refine wm_iload_n hC 1 dX12_writesDown_66 rfl ?_
  refine x_imul hC dX12_writesDown_67 hw (fun hw => ?_)
  refine wm_aload_n hC 0 dX12_writesDown_68 rfl (k_ne0 hk0 (by decide)) ?_
  refine x_getR2 hC 50 fl_X12_165 rfl hk0 dX12_writesDown_69 hw (fun g5 hw => ?_)
  refine wm_iload_n hC 1 dX12_writesDown_72 rfl ?_
  refine x_iald hC g5 dX12_writesDown_73 hw (fun hw => ?_)
  refine x_iadd hC dX12_writesDown_74 hw (fun hw => ?_)
  refine x_imul hC dX12_writesDown_75 hw (fun hw => ?_)
  refine x_nameI hw (fun x1 hw => ?_)
  refine wm_istore hC dX12_writesDown_76 (by decide) (L2 := [(4, vi x1), (0, vr l0), (1, vi l1), (2, vi l2), (3, vi l3)]) rfl ?_
  refine wm_aload_n hC 1 dX12_writesDown_78 rfl (k_ne0 hk0 (by decide)) ?_
  refine x_getR2 hC 51 fl_X12_168 rfl hk0 dX12_writesDown_79 hw (fun g6 hw => ?_)
  refine wm_iload hC 0 dX12_writesDown_82 rfl ?_
  refine wm_aload_n hC 1 dX12_writesDown_84 rfl (k_ne0 hk0 (by decide)) ?_
  refine x_getR2 hC 45 fl_X12_150 rfl hk0 dX12_writesDown_85 hw (fun g7 hw => ?_)
  refine wm_iload_n hC 2 dX12_writesDown_88 rfl ?_
  refine x_iald hC g7 dX12_writesDown_89 hw (fun hw => ?_)
  refine x_iast hC g6 dX12_writesDown_90 hw (fun I3 hw => ?_)
  refine wm_aload_n hC 1 dX12_writesDown_91 rfl (k_ne0 hk0 (by decide)) ?_
  refine x_getR2 hC 51 fl_X12_168 rfl hk0 dX12_writesDown_92 hw (fun g8 hw => ?_)
  refine wm_iload hC 0 dX12_writesDown_95 rfl ?_
  refine wm_iconst hC dX12_writesDown_97 (k := ?_)
  refine x_iadd hC dX12_writesDown_98 hw (fun hw => ?_)
  refine wm_iload_n hC 3 dX12_writesDown_99 rfl ?_
  refine x_iast hC g8 dX12_writesDown_100 hw (fun I4 hw => ?_)
  refine wm_aload_n hC 1 dX12_writesDown_101 rfl (k_ne0 hk0 (by decide)) ?_
  refine x_getR2 hC 51 fl_X12_168 rfl hk0 dX12_writesDown_102 hw (fun g9 hw => ?_)
  refine wm_iload hC 0 dX12_writesDown_105 rfl ?_
  refine wm_iconst hC dX12_writesDown_107 (k := ?_)
  refine x_iadd hC dX12_writesDown_108 hw (fun hw => ?_)
  refine wm_iload_n hC 4 dX12_writesDown_109 rfl ?_
  refine x_iast hC g9 dX12_writesDown_110 hw (fun I5 hw => ?_)
  refine wm_aload_n hC 1 dX12_writesDown_111 rfl (k_ne0 hk0 (by decide)) ?_
  refine x_getR2 hC 50 fl_X12_165 rfl hk0 dX12_writesDown_112 hw (fun g10 hw => ?_)
  refine wm_iload_n hC 2 dX12_writesDown_115 rfl ?_
  refine wm_dup2_11 hC dX12_writesDown_116 (k := ?_)
  refine x_iald hC g10 dX12_writesDown_117 hw (fun hw => ?_)
  refine wm_iconst hC dX12_writesDown_118 (k := ?_)
  refine x_iadd hC dX12_writesDown_119 hw (fun hw => ?_)
  refine x_iast hC g10 dX12_writesDown_120 hw (fun I6 hw => ?_)
  exact wm_return hC hE dX12_writesDown_121 ⟨⟨rfl, rfl⟩, hw⟩
def P12_writesDown_b17_body (l0 : Nat) (l1 : Int) (l2 : Int) (l3 : Int) (R : mR) (Q : mI → Prop) (k17 : Int → mI → Prop) (l4 : Int) (I : mI) : Prop := (rg (120 * l1) ∧ (rg ((120 * l1) + 120) ∧ (rg (((120 * l1) + 120) - 3) ∧ (if (((120 * l1) + 120) - 3) ≤ l4 then (kK (R l0 50) = 21 ∧ (((0 : Int) ≤ l1 ∧ l1 < (kN (R l0 50) : Int)) ∧ (rg ((I (R l0 50) l1) - 1) ∧ (((0 : Int) ≤ l1 ∧ l1 < (kN (R l0 50) : Int)) ∧ wLet (up I (R l0 50) l1 ((I (R l0 50) l1) - 1)) (fun I1 => (P12_writesDown_b63 l0 l1 l2 l3 I1 R Q)))))) else (kK (R l0 51) = 21 ∧ (kK (R l0 51) = 21 ∧ (rg (l4 + 3) ∧ (((0 : Int) ≤ (l4 + 3) ∧ (l4 + 3) < (kN (R l0 51) : Int)) ∧ (((0 : Int) ≤ l4 ∧ l4 < (kN (R l0 51) : Int)) ∧ wLet (up I (R l0 51) l4 (I (R l0 51) (l4 + 3))) (fun I2 => (rg (l4 + 1) ∧ (k17 (l4 + 1) I2))))))))))))
def P12_writesDown_b17 (l0 : Nat) (l1 : Int) (l2 : Int) (l3 : Int) (R : mR) (Q : mI → Prop) : Nat → Int → mI → Prop
  | 0 => fun _ _ => False
  | f + 1 => fun l4 I => P12_writesDown_b17_body l0 l1 l2 l3 R Q (P12_writesDown_b17 l0 l1 l2 l3 R Q f) l4 I
set_option maxRecDepth 20000 in
theorem W12_writesDown_b17_body {C : wX} {ad : Nat → Nat} {n : Nat} {I J : mI} {R : mR} {Q : mI → Prop} (hC : wOK C cX12_writesDown 5 RX12) (hRm : wRm C 1 12 0 0) (hE : wEnd C none ad n (fun _ I' J' R' => (J' = J ∧ R' = R) ∧ Q I')) {l0 : Nat} {l1 : Int} {l2 : Int} {l3 : Int} {l4 : Int}   (hk0 : kK l0 = 12)  {k17 : Int → mI → Prop} (kk17 : ∀ (y4 : Int) (I' : mI), k17 y4 I' → WM C ad n I' J R 0 0 17 [(0, vr l0), (1, vi l1), (2, vi l2), (3, vi l3), (4, vi y4)] []) (hw : P12_writesDown_b17_body l0 l1 l2 l3 R Q k17 l4 I) : WM C ad n I J R 0 0 17 [(0, vr l0), (1, vi l1), (2, vi l2), (3, vi l3), (4, vi l4)] [] := by
  unfold P12_writesDown_b17_body at hw
  refine wm_iload hC 4 dX12_writesDown_17 rfl ?_
  refine wm_bipush hC dX12_writesDown_19 (k := ?_)
  refine wm_iload_n hC 1 dX12_writesDown_21 rfl ?_
  refine x_imul hC dX12_writesDown_22 hw (fun hw => ?_)
  refine wm_bipush hC dX12_writesDown_23 (k := ?_)
  refine x_iadd hC dX12_writesDown_25 hw (fun hw => ?_)
  refine wm_iconst hC dX12_writesDown_26 (k := ?_)
  refine x_isub hC dX12_writesDown_27 hw (fun hw => ?_)
  refine wm_icmp_ge (tgt := 53) hC dX12_writesDown_28 (by decide) hw (fun hw => ?_) (fun hw => ?_)
  · refine wm_aload_n hC 0 dX12_writesDown_53 rfl (k_ne0 hk0 (by decide)) ?_
    refine x_getR2 hC 50 fl_X12_165 rfl hk0 dX12_writesDown_54 hw (fun g2 hw => ?_)
    refine wm_iload_n hC 1 dX12_writesDown_57 rfl ?_
    refine wm_dup2_11 hC dX12_writesDown_58 (k := ?_)
    refine x_iald hC g2 dX12_writesDown_59 hw (fun hw => ?_)
    refine wm_iconst hC dX12_writesDown_60 (k := ?_)
    refine x_isub hC dX12_writesDown_61 hw (fun hw => ?_)
    refine x_iast hC g2 dX12_writesDown_62 hw (fun I1 hw => ?_)
    refine wm_sub [0, 1, 2, 3] (L2 := [(0, vr l0), (1, vi l1), (2, vi l2), (3, vi l3)]) rfl ?_
    exact W12_writesDown_b63 hC hRm hE hk0 hw
  · refine wm_aload_n hC 0 dX12_writesDown_31 rfl (k_ne0 hk0 (by decide)) ?_
    refine x_getR2 hC 51 fl_X12_168 rfl hk0 dX12_writesDown_32 hw (fun g3 hw => ?_)
    refine wm_iload hC 4 dX12_writesDown_35 rfl ?_
    refine wm_aload_n hC 0 dX12_writesDown_37 rfl (k_ne0 hk0 (by decide)) ?_
    refine x_getR2 hC 51 fl_X12_168 rfl hk0 dX12_writesDown_38 hw (fun g4 hw => ?_)
    refine wm_iload hC 4 dX12_writesDown_41 rfl ?_
    refine wm_iconst hC dX12_writesDown_43 (k := ?_)
    refine x_iadd hC dX12_writesDown_44 hw (fun hw => ?_)
    refine x_iald hC g4 dX12_writesDown_45 hw (fun hw => ?_)
    refine x_iast hC g3 dX12_writesDown_46 hw (fun I2 hw => ?_)
    refine x_iinc hC 4 dX12_writesDown_47 rfl (by decide) (L2 := [(4, vi (l4 + 1)), (0, vr l0), (1, vi l1), (2, vi l2), (3, vi l3)]) rfl hw (fun hw => ?_)
    refine wm_goto (tgt := 17) hC dX12_writesDown_50 (by decide) ?_
    refine wm_sub [1, 2, 3, 4, 0] (L2 := [(0, vr l0), (1, vi l1), (2, vi l2), (3, vi l3), (4, vi (l4 + 1))]) rfl ?_
    exact kk17 _ _ hw
set_option maxRecDepth 20000 in
theorem W12_writesDown_b17 {C : wX} {ad : Nat → Nat} {n : Nat} {J : mI} {R : mR} {Q : mI → Prop} (hC : wOK C cX12_writesDown 5 RX12) (hRm : wRm C 1 12 0 0) (hE : wEnd C none ad n (fun _ I' J' R' => (J' = J ∧ R' = R) ∧ Q I')) {l0 : Nat} {l1 : Int} {l2 : Int} {l3 : Int}   (hk0 : kK l0 = 12)  : ∀ (f : Nat) (l4 : Int) (I : mI), P12_writesDown_b17 l0 l1 l2 l3 R Q f l4 I → WM C ad n I J R 0 0 17 [(0, vr l0), (1, vi l1), (2, vi l2), (3, vi l3), (4, vi l4)] [] := by
  intro f
  induction f with
  | zero => intro l4 I hw; exact hw.elim
  | succ f ih => intro l4 I hw; exact W12_writesDown_b17_body hC hRm hE hk0 (fun a0 a1 hw => ih a0 a1 hw) hw
def P12_writesDown (l0 : Nat) (l1 : Int) (l2 : Int) (l3 : Int) (I : mI) (R : mR) (Q : mI → Prop) : Prop := (kK (R l0 50) = 21 ∧ (((0 : Int) ≤ l1 ∧ l1 < (kN (R l0 50) : Int)) ∧ (if (I (R l0 50) l1) = 40 then (rg (120 * l1) ∧ (∃ f, P12_writesDown_b17 l0 l1 l2 l3 R Q f (120 * l1) I)) else (P12_writesDown_b63 l0 l1 l2 l3 I R Q))))
set_option maxRecDepth 20000 in
theorem C12_writesDown {ad : Nat → Nat} {n : Nat} {I J : mI} {R : mR} {Q : mI → Prop}  {l0 : Nat} {l1 : Int} {l2 : Int} {l3 : Int} (hk0 : kK l0 = 12) (hw : P12_writesDown l0 l1 l2 l3 I R Q) : wMet yX12_writesDown cX12_writesDown 5 none 1 12 false ad n I J R [vr l0, vi l1, vi l2, vi l3] (fun _ I' J' R' => (J' = J ∧ R' = R) ∧ Q I') := by
  refine wMet_of (by decide) (Nat.le_of_ble_eq_true rfl) (fun C hC hRm hE hS => ?_)
  refine (show WM C ad n I J R 0 0 0 [(0, vr l0), (1, vi l1), (2, vi l2), (3, vi l3)] [] from ?_)
  unfold P12_writesDown at hw
  refine wm_aload_n hC 0 dX12_writesDown_0 rfl (k_ne0 hk0 (by decide)) ?_
  refine x_getR2 hC 50 fl_X12_165 rfl hk0 dX12_writesDown_1 hw (fun g1 hw => ?_)
  refine wm_iload_n hC 1 dX12_writesDown_4 rfl ?_
  refine x_iald hC g1 dX12_writesDown_5 hw (fun hw => ?_)
  refine wm_bipush hC dX12_writesDown_6 (k := ?_)
  refine wm_icmp_ne (tgt := 63) hC dX12_writesDown_8 (by decide) hw (fun hw => ?_) (fun hw => ?_)
  · refine wm_bipush hC dX12_writesDown_11 (k := ?_)
    refine wm_iload_n hC 1 dX12_writesDown_13 rfl ?_
    refine x_imul hC dX12_writesDown_14 hw (fun hw => ?_)
    refine wm_istore hC dX12_writesDown_15 (by decide) (L2 := [(4, vi (120 * l1)), (0, vr l0), (1, vi l1), (2, vi l2), (3, vi l3)]) rfl ?_
    obtain ⟨f, hw⟩ := hw
    refine wm_sub [1, 2, 3, 4, 0] (L2 := [(0, vr l0), (1, vi l1), (2, vi l2), (3, vi l3), (4, vi (120 * l1))]) rfl ?_
    exact W12_writesDown_b17 hC hRm hE hk0 f _ _ hw
  · exact W12_writesDown_b63 hC hRm hE hk0 hw
def P12_gift (l0 : Nat) (l1 : Int) (I : mI) (J : mI) (R : mR) (Q : Int → mI → mI → Prop) : Prop := (P12_isTold l0 2 I R (fun r1 => (if r1 = 0 then (Q 9 I J) else (kK (R l0 57) = 21 ∧ (kK (R l0 45) = 21 ∧ (((0 : Int) ≤ l1 ∧ l1 < (kN (R l0 45) : Int)) ∧ (((0 : Int) ≤ (1 : Int) ∧ (1 : Int) < (kN (R l0 57) : Int)) ∧ wLet (up I (R l0 57) (1 : Int) (I (R l0 45) l1)) (fun I1 => (kK (R l0 57) = 21 ∧ (kK (R l0 46) = 21 ∧ (((0 : Int) ≤ l1 ∧ l1 < (kN (R l0 46) : Int)) ∧ (((0 : Int) ≤ (8 : Int) ∧ (8 : Int) < (kN (R l0 57) : Int)) ∧ wLet (up I1 (R l0 57) (8 : Int) (I1 (R l0 46) l1)) (fun I2 => (kK (R l0 57) = 21 ∧ (P12_wornOf l0 l1 (-1) I2 R (fun r2 => (((0 : Int) ≤ (9 : Int) ∧ (9 : Int) < (kN (R l0 57) : Int)) ∧ wLet (up I2 (R l0 57) (9 : Int) r2) (fun I3 => (P12_reckons l0 2 I3 J R (fun r3 J1 => (if (0 : Int) ≤ r3 then (if r3 ≤ 99 then (rg r3 ∧ (Q r3 I3 J1)) else (Q 99 I3 J1)) else (Q 0 I3 J1))))))))))))))))))))))
set_option maxRecDepth 20000 in
theorem C12_gift {ad : Nat → Nat} {n : Nat} {I J : mI} {R : mR} {Q : Int → mI → mI → Prop}  {l0 : Nat} {l1 : Int} (hk0 : kK l0 = 12) (hw : P12_gift l0 l1 I J R Q) : wMet yX12_gift cX12_gift 4 (some .int) 4 85 false ad n I J R [vr l0, vi l1] (fun r I' J' R' => (R' = R) ∧ Q r I' J') := by
  refine wMet_of (by decide) (Nat.le_of_ble_eq_true rfl) (fun C hC hRm hE hS => ?_)
  refine (show WM C ad n I J R 0 0 0 [(0, vr l0), (1, vi l1)] [] from ?_)
  unfold P12_gift at hw
  refine wm_aload_n hC 0 dX12_gift_0 rfl (k_ne0 hk0 (by decide)) ?_
  refine wm_iconst hC dX12_gift_1 (k := ?_)
  refine y_callV_z_n hC hRm noS ml_X12_450 hk0 (C12_isTold hk0 hw) (Nat.le_of_ble_eq_true rfl) (Nat.le_of_ble_eq_true rfl) ⟨Nat.zero_le _, Nat.zero_le _⟩ rfl (st := []) rfl (Nat.le_of_ble_eq_true rfl) dX12_gift_2 (fun r1 hw => ?_)
  refine wm_if_ne (tgt := 11) hC dX12_gift_5 (by decide) hw (fun hw => ?_) (fun hw => ?_)
  · refine wm_bipush hC dX12_gift_8 (k := ?_)
    exact wm_ireturn hC hE dX12_gift_10 ⟨rfl, hw⟩
  · refine wm_aload_n hC 0 dX12_gift_11 rfl (k_ne0 hk0 (by decide)) ?_
    refine x_getR2 hC 57 fl_X12_186 rfl hk0 dX12_gift_12 hw (fun g1 hw => ?_)
    refine wm_iconst hC dX12_gift_15 (k := ?_)
    refine wm_aload_n hC 0 dX12_gift_16 rfl (k_ne0 hk0 (by decide)) ?_
    refine x_getR2 hC 45 fl_X12_150 rfl hk0 dX12_gift_17 hw (fun g2 hw => ?_)
    refine wm_iload_n hC 1 dX12_gift_20 rfl ?_
    refine x_iald hC g2 dX12_gift_21 hw (fun hw => ?_)
    refine x_iast hC g1 dX12_gift_22 hw (fun I1 hw => ?_)
    refine wm_aload_n hC 0 dX12_gift_23 rfl (k_ne0 hk0 (by decide)) ?_
    refine x_getR2 hC 57 fl_X12_186 rfl hk0 dX12_gift_24 hw (fun g3 hw => ?_)
    refine wm_bipush hC dX12_gift_27 (k := ?_)
    refine wm_aload_n hC 0 dX12_gift_29 rfl (k_ne0 hk0 (by decide)) ?_
    refine x_getR2 hC 46 fl_X12_153 rfl hk0 dX12_gift_30 hw (fun g4 hw => ?_)
    refine wm_iload_n hC 1 dX12_gift_33 rfl ?_
    refine x_iald hC g4 dX12_gift_34 hw (fun hw => ?_)
    refine x_iast hC g3 dX12_gift_35 hw (fun I2 hw => ?_)
    refine wm_aload_n hC 0 dX12_gift_36 rfl (k_ne0 hk0 (by decide)) ?_
    refine x_getR2 hC 57 fl_X12_186 rfl hk0 dX12_gift_37 hw (fun g5 hw => ?_)
    refine wm_bipush hC dX12_gift_40 (k := ?_)
    refine wm_aload_n hC 0 dX12_gift_42 rfl (k_ne0 hk0 (by decide)) ?_
    refine wm_iload_n hC 1 dX12_gift_43 rfl ?_
    refine wm_iconst hC dX12_gift_44 (k := ?_)
    refine y_callV_i_n hC hRm noS ml_X12_456 hk0 (C12_wornOf hk0 hw) (Nat.le_of_ble_eq_true rfl) (Nat.le_of_ble_eq_true rfl) ⟨Nat.zero_le _, Nat.zero_le _⟩ rfl (st := [vi 9, vr (R l0 57)]) rfl (Nat.le_of_ble_eq_true rfl) dX12_gift_45 (fun r2 hw => ?_)
    refine x_iast hC g5 dX12_gift_48 hw (fun I3 hw => ?_)
    refine wm_aload_n hC 0 dX12_gift_49 rfl (k_ne0 hk0 (by decide)) ?_
    refine wm_iconst hC dX12_gift_50 (k := ?_)
    refine y_callV_l_J hC hRm noS ml_X12_459 hk0 (C12_reckons hk0 hw) (Nat.le_of_ble_eq_true rfl) (Nat.le_of_ble_eq_true rfl) ⟨Nat.zero_le _, Nat.zero_le _⟩ rfl (st := []) rfl (Nat.le_of_ble_eq_true rfl) dX12_gift_51 (fun r3 J1 hw => ?_)
    refine wm_lstore_n hC dX12_gift_54 (by decide) (L2 := [(2, vl r3), (0, vr l0), (1, vi l1)]) rfl ?_
    refine wm_lload_n hC 0 dX12_gift_55 rfl ?_
    refine wm_lconst hC (x := 0) dX12_gift_56 (k := ?_)
    refine wm_lcmp_ge (tgt := 65) hC dX12_gift_57 dX12_gift_58 (by decide) hw (fun hw => ?_) (fun hw => ?_)
    · refine wm_lload_n hC 0 dX12_gift_65 rfl ?_
      refine wm_ldc2 hC (x := 99) tc_X12_482 rfl dX12_gift_66 (k := ?_)
      refine wm_lcmp_le (tgt := 78) hC dX12_gift_69 dX12_gift_70 (by decide) hw (fun hw => ?_) (fun hw => ?_)
      · refine wm_lload_n hC 0 dX12_gift_78 rfl ?_
        refine x_l2i hC dX12_gift_79 hw (fun hw => ?_)
        exact wm_ireturn hC hE dX12_gift_80 ⟨rfl, hw⟩
      · refine wm_bipush hC dX12_gift_73 (k := ?_)
        refine wm_goto (tgt := 80) hC dX12_gift_75 (by decide) ?_
        exact wm_ireturn hC hE dX12_gift_80 ⟨rfl, hw⟩
    · refine wm_iconst hC dX12_gift_61 (k := ?_)
      refine wm_goto (tgt := 80) hC dX12_gift_62 (by decide) ?_
      exact wm_ireturn hC hE dX12_gift_80 ⟨rfl, hw⟩
def P12_moods_b2_body (l0 : Nat) (l1 : Int) (l2 : Int) (R : mR) (Q : mI → Prop) (k2 : Int → mI → Prop) (l3 : Int) (I : mI) : Prop := (kK (R l0 14) = 21 ∧ (((0 : Int) ≤ (I l0 13) ∧ (I l0 13) < (kN (R l0 14) : Int)) ∧ (if (I (R l0 14) (I l0 13)) ≤ l3 then (Q I) else (rg (6 * l1) ∧ (rg ((6 * l1) + l3) ∧ (kK (R l0 59) = 21 ∧ (((0 : Int) ≤ l3 ∧ l3 < (kN (R l0 59) : Int)) ∧ (if (I (R l0 59) l3) = l2 then (kK (R l0 48) = 21 ∧ (kK (R l0 48) = 21 ∧ (((0 : Int) ≤ ((6 * l1) + l3) ∧ ((6 * l1) + l3) < (kN (R l0 48) : Int)) ∧ (if (9 : Int) ≤ (I (R l0 48) ((6 * l1) + l3)) then (((0 : Int) ≤ ((6 * l1) + l3) ∧ ((6 * l1) + l3) < (kN (R l0 48) : Int)) ∧ wLet (up I (R l0 48) ((6 * l1) + l3) 9) (fun I3 => (rg (l3 + 1) ∧ (k2 (l3 + 1) I3)))) else (kK (R l0 48) = 21 ∧ (((0 : Int) ≤ ((6 * l1) + l3) ∧ ((6 * l1) + l3) < (kN (R l0 48) : Int)) ∧ (rg ((I (R l0 48) ((6 * l1) + l3)) + 1) ∧ (((0 : Int) ≤ ((6 * l1) + l3) ∧ ((6 * l1) + l3) < (kN (R l0 48) : Int)) ∧ wLet (up I (R l0 48) ((6 * l1) + l3) ((I (R l0 48) ((6 * l1) + l3)) + 1)) (fun I4 => (rg (l3 + 1) ∧ (k2 (l3 + 1) I4))))))))))) else (kK (R l0 48) = 21 ∧ (kK (R l0 48) = 21 ∧ (((0 : Int) ≤ ((6 * l1) + l3) ∧ ((6 * l1) + l3) < (kN (R l0 48) : Int)) ∧ (if (I (R l0 48) ((6 * l1) + l3)) ≤ 0 then (((0 : Int) ≤ ((6 * l1) + l3) ∧ ((6 * l1) + l3) < (kN (R l0 48) : Int)) ∧ wLet (up I (R l0 48) ((6 * l1) + l3) 0) (fun I1 => (rg (l3 + 1) ∧ (k2 (l3 + 1) I1)))) else (kK (R l0 48) = 21 ∧ (((0 : Int) ≤ ((6 * l1) + l3) ∧ ((6 * l1) + l3) < (kN (R l0 48) : Int)) ∧ (rg ((I (R l0 48) ((6 * l1) + l3)) - 1) ∧ (((0 : Int) ≤ ((6 * l1) + l3) ∧ ((6 * l1) + l3) < (kN (R l0 48) : Int)) ∧ wLet (up I (R l0 48) ((6 * l1) + l3) ((I (R l0 48) ((6 * l1) + l3)) - 1)) (fun I2 => (rg (l3 + 1) ∧ (k2 (l3 + 1) I2)))))))))))))))))))
def P12_moods_b2 (l0 : Nat) (l1 : Int) (l2 : Int) (R : mR) (Q : mI → Prop) : Nat → Int → mI → Prop
  | 0 => fun _ _ => False
  | f + 1 => fun l3 I => P12_moods_b2_body l0 l1 l2 R Q (P12_moods_b2 l0 l1 l2 R Q f) l3 I
set_option maxRecDepth 20000 in
theorem W12_moods_b2_body {C : wX} {ad : Nat → Nat} {n : Nat} {I J : mI} {R : mR} {Q : mI → Prop} (hC : wOK C cX12_moods 5 RX12) (hRm : wRm C 1 12 0 0) (hE : wEnd C none ad n (fun _ I' J' R' => (J' = J ∧ R' = R) ∧ Q I')) {l0 : Nat} {l1 : Int} {l2 : Int} {l3 : Int}   (hk0 : kK l0 = 12)  {k2 : Int → mI → Prop} (kk2 : ∀ (y3 : Int) (I' : mI), k2 y3 I' → WM C ad n I' J R 0 0 2 [(0, vr l0), (1, vi l1), (2, vi l2), (3, vi y3)] []) (hw : P12_moods_b2_body l0 l1 l2 R Q k2 l3 I) : WM C ad n I J R 0 0 2 [(0, vr l0), (1, vi l1), (2, vi l2), (3, vi l3)] [] := by
  unfold P12_moods_b2_body at hw
  refine wm_iload_n hC 3 dX12_moods_2 rfl ?_
  refine wm_aload_n hC 0 dX12_moods_3 rfl (k_ne0 hk0 (by decide)) ?_
  refine x_getR2 hC 14 fl_X12_54 rfl hk0 dX12_moods_4 hw (fun g1 hw => ?_)
  refine wm_aload_n hC 0 dX12_moods_7 rfl (k_ne0 hk0 (by decide)) ?_
  refine x_getI hC 13 fl_X12_51 rfl hk0 dX12_moods_8 ?_
  refine x_iald hC g1 dX12_moods_11 hw (fun hw => ?_)
  refine wm_icmp_ge (tgt := 105) hC dX12_moods_12 (by decide) hw (fun hw => ?_) (fun hw => ?_)
  · exact wm_return hC hE dX12_moods_105 ⟨⟨rfl, rfl⟩, hw⟩
  · refine wm_bipush hC dX12_moods_15 (k := ?_)
    refine wm_iload_n hC 1 dX12_moods_17 rfl ?_
    refine x_imul hC dX12_moods_18 hw (fun hw => ?_)
    refine wm_iload_n hC 3 dX12_moods_19 rfl ?_
    refine x_iadd hC dX12_moods_20 hw (fun hw => ?_)
    refine wm_istore hC dX12_moods_21 (by decide) (L2 := [(4, vi ((6 * l1) + l3)), (0, vr l0), (1, vi l1), (2, vi l2), (3, vi l3)]) rfl ?_
    refine wm_aload_n hC 1 dX12_moods_23 rfl (k_ne0 hk0 (by decide)) ?_
    refine x_getR2 hC 59 fl_X12_192 rfl hk0 dX12_moods_24 hw (fun g2 hw => ?_)
    refine wm_iload_n hC 4 dX12_moods_27 rfl ?_
    refine x_iald hC g2 dX12_moods_28 hw (fun hw => ?_)
    refine wm_iload_n hC 3 dX12_moods_29 rfl ?_
    refine wm_icmp_ne (tgt := 69) hC dX12_moods_30 (by decide) hw (fun hw => ?_) (fun hw => ?_)
    · refine wm_aload_n hC 1 dX12_moods_33 rfl (k_ne0 hk0 (by decide)) ?_
      refine x_getR2 hC 48 fl_X12_159 rfl hk0 dX12_moods_34 hw (fun g6 hw => ?_)
      refine wm_iload hC 0 dX12_moods_37 rfl ?_
      refine wm_aload_n hC 1 dX12_moods_39 rfl (k_ne0 hk0 (by decide)) ?_
      refine x_getR2 hC 48 fl_X12_159 rfl hk0 dX12_moods_40 hw (fun g7 hw => ?_)
      refine wm_iload hC 0 dX12_moods_43 rfl ?_
      refine x_iald hC g7 dX12_moods_45 hw (fun hw => ?_)
      refine wm_bipush hC dX12_moods_46 (k := ?_)
      refine wm_icmp_ge (tgt := 63) hC dX12_moods_48 (by decide) hw (fun hw => ?_) (fun hw => ?_)
      · refine wm_bipush hC dX12_moods_63 (k := ?_)
        refine x_iast hC g6 dX12_moods_65 hw (fun I3 hw => ?_)
        refine wm_goto (tgt := 99) hC dX12_moods_66 (by decide) ?_
        refine x_iinc hC 4 dX12_moods_99 rfl (by decide) (L2 := [(3, vi (l3 + 1)), (4, vi ((6 * l1) + l3)), (0, vr l0), (1, vi l1), (2, vi l2)]) rfl hw (fun hw => ?_)
        refine wm_goto (tgt := 2) hC dX12_moods_102 (by decide) ?_
        refine wm_sub [2, 3, 4, 0] (L2 := [(0, vr l0), (1, vi l1), (2, vi l2), (3, vi (l3 + 1))]) rfl ?_
        exact kk2 _ _ hw
      · refine wm_aload_n hC 1 dX12_moods_51 rfl (k_ne0 hk0 (by decide)) ?_
        refine x_getR2 hC 48 fl_X12_159 rfl hk0 dX12_moods_52 hw (fun g8 hw => ?_)
        refine wm_iload hC 0 dX12_moods_55 rfl ?_
        refine x_iald hC g8 dX12_moods_57 hw (fun hw => ?_)
        refine wm_iconst hC dX12_moods_58 (k := ?_)
        refine x_iadd hC dX12_moods_59 hw (fun hw => ?_)
        refine wm_goto (tgt := 65) hC dX12_moods_60 (by decide) ?_
        refine x_iast hC g6 dX12_moods_65 hw (fun I4 hw => ?_)
        refine wm_goto (tgt := 99) hC dX12_moods_66 (by decide) ?_
        refine x_iinc hC 4 dX12_moods_99 rfl (by decide) (L2 := [(3, vi (l3 + 1)), (4, vi ((6 * l1) + l3)), (0, vr l0), (1, vi l1), (2, vi l2)]) rfl hw (fun hw => ?_)
        refine wm_goto (tgt := 2) hC dX12_moods_102 (by decide) ?_
        refine wm_sub [2, 3, 4, 0] (L2 := [(0, vr l0), (1, vi l1), (2, vi l2), (3, vi (l3 + 1))]) rfl ?_
        exact kk2 _ _ hw
    · refine wm_aload_n hC 1 dX12_moods_69 rfl (k_ne0 hk0 (by decide)) ?_
      refine x_getR2 hC 48 fl_X12_159 rfl hk0 dX12_moods_70 hw (fun g3 hw => ?_)
      refine wm_iload hC 0 dX12_moods_73 rfl ?_
      refine wm_aload_n hC 1 dX12_moods_75 rfl (k_ne0 hk0 (by decide)) ?_
      refine x_getR2 hC 48 fl_X12_159 rfl hk0 dX12_moods_76 hw (fun g4 hw => ?_)
      refine wm_iload hC 0 dX12_moods_79 rfl ?_
      refine x_iald hC g4 dX12_moods_81 hw (fun hw => ?_)
      refine wm_if_le (tgt := 97) hC dX12_moods_82 (by decide) hw (fun hw => ?_) (fun hw => ?_)
      · refine wm_iconst hC dX12_moods_97 (k := ?_)
        refine x_iast hC g3 dX12_moods_98 hw (fun I1 hw => ?_)
        refine x_iinc hC 4 dX12_moods_99 rfl (by decide) (L2 := [(3, vi (l3 + 1)), (4, vi ((6 * l1) + l3)), (0, vr l0), (1, vi l1), (2, vi l2)]) rfl hw (fun hw => ?_)
        refine wm_goto (tgt := 2) hC dX12_moods_102 (by decide) ?_
        refine wm_sub [2, 3, 4, 0] (L2 := [(0, vr l0), (1, vi l1), (2, vi l2), (3, vi (l3 + 1))]) rfl ?_
        exact kk2 _ _ hw
      · refine wm_aload_n hC 1 dX12_moods_85 rfl (k_ne0 hk0 (by decide)) ?_
        refine x_getR2 hC 48 fl_X12_159 rfl hk0 dX12_moods_86 hw (fun g5 hw => ?_)
        refine wm_iload hC 0 dX12_moods_89 rfl ?_
        refine x_iald hC g5 dX12_moods_91 hw (fun hw => ?_)
        refine wm_iconst hC dX12_moods_92 (k := ?_)
        refine x_isub hC dX12_moods_93 hw (fun hw => ?_)
        refine wm_goto (tgt := 98) hC dX12_moods_94 (by decide) ?_
        refine x_iast hC g3 dX12_moods_98 hw (fun I2 hw => ?_)
        refine x_iinc hC 4 dX12_moods_99 rfl (by decide) (L2 := [(3, vi (l3 + 1)), (4, vi ((6 * l1) + l3)), (0, vr l0), (1, vi l1), (2, vi l2)]) rfl hw (fun hw => ?_)
        refine wm_goto (tgt := 2) hC dX12_moods_102 (by decide) ?_
        refine wm_sub [2, 3, 4, 0] (L2 := [(0, vr l0), (1, vi l1), (2, vi l2), (3, vi (l3 + 1))]) rfl ?_
        exact kk2 _ _ hw
set_option maxRecDepth 20000 in
theorem W12_moods_b2 {C : wX} {ad : Nat → Nat} {n : Nat} {J : mI} {R : mR} {Q : mI → Prop} (hC : wOK C cX12_moods 5 RX12) (hRm : wRm C 1 12 0 0) (hE : wEnd C none ad n (fun _ I' J' R' => (J' = J ∧ R' = R) ∧ Q I')) {l0 : Nat} {l1 : Int} {l2 : Int}   (hk0 : kK l0 = 12)  : ∀ (f : Nat) (l3 : Int) (I : mI), P12_moods_b2 l0 l1 l2 R Q f l3 I → WM C ad n I J R 0 0 2 [(0, vr l0), (1, vi l1), (2, vi l2), (3, vi l3)] [] := by
  intro f
  induction f with
  | zero => intro l3 I hw; exact hw.elim
  | succ f ih => intro l3 I hw; exact W12_moods_b2_body hC hRm hE hk0 (fun a0 a1 hw => ih a0 a1 hw) hw
def P12_moods (l0 : Nat) (l1 : Int) (l2 : Int) (I : mI) (R : mR) (Q : mI → Prop) : Prop := (∃ f, P12_moods_b2 l0 l1 l2 R Q f 0 I)
set_option maxRecDepth 20000 in
theorem C12_moods {ad : Nat → Nat} {n : Nat} {I J : mI} {R : mR} {Q : mI → Prop}  {l0 : Nat} {l1 : Int} {l2 : Int} (hk0 : kK l0 = 12) (hw : P12_moods l0 l1 l2 I R Q) : wMet yX12_moods cX12_moods 5 none 1 12 false ad n I J R [vr l0, vi l1, vi l2] (fun _ I' J' R' => (J' = J ∧ R' = R) ∧ Q I') := by
  refine wMet_of (by decide) (Nat.le_of_ble_eq_true rfl) (fun C hC hRm hE hS => ?_)
  refine (show WM C ad n I J R 0 0 0 [(0, vr l0), (1, vi l1), (2, vi l2)] [] from ?_)
  unfold P12_moods at hw
  refine wm_iconst hC dX12_moods_0 (k := ?_)
  refine wm_istore_n hC dX12_moods_1 (by decide) (L2 := [(3, vi 0), (0, vr l0), (1, vi l1), (2, vi l2)]) rfl ?_
  obtain ⟨f, hw⟩ := hw
  refine wm_sub [1, 2, 3, 0] (L2 := [(0, vr l0), (1, vi l1), (2, vi l2), (3, vi 0)]) rfl ?_
  exact W12_moods_b2 hC hRm hE hk0 f _ _ hw
def P12_ticks_b200 (l0 : Nat) (l1 : Int) (l3 : Int) (I : mI) (J : mI) (R : mR) (Q : Int → mI → mI → Prop) : Prop := (kK (R l0 45) = 21 ∧ (((0 : Int) ≤ l1 ∧ l1 < (kN (R l0 45) : Int)) ∧ (rg ((I (R l0 45) l1) + 1) ∧ (((0 : Int) ≤ l1 ∧ l1 < (kN (R l0 45) : Int)) ∧ wLet (up I (R l0 45) l1 ((I (R l0 45) l1) + 1)) (fun I9 => ((l3 = 0 ∨ l3 = 1) ∧ (Q l3 I9 J)))))))
set_option maxRecDepth 20000 in
theorem W12_ticks_b200 {C : wX} {ad : Nat → Nat} {n : Nat} {I J : mI} {R : mR} {Q : Int → mI → mI → Prop} (hC : wOK C cX12_ticks 7 RX12) (hRm : wRm C 8 188 0 0) (hE : wEnd C (some .boolean) ad n (fun r I' J' R' => (R' = R) ∧ Q r I' J')) {l0 : Nat} {l1 : Int} {l3 : Int}   (hk0 : kK l0 = 12)  (hw : P12_ticks_b200 l0 l1 l3 I J R Q) : WM C ad n I J R 0 0 200 [(0, vr l0), (1, vi l1), (3, vi l3)] [] := by
  unfold P12_ticks_b200 at hw
  refine wm_aload_n hC 0 dX12_ticks_200 rfl (k_ne0 hk0 (by decide)) ?_
  refine x_getR2 hC 45 fl_X12_150 rfl hk0 dX12_ticks_201 hw (fun g12 hw => ?_)
  refine wm_iload_n hC 1 dX12_ticks_204 rfl ?_
  refine wm_dup2_11 hC dX12_ticks_205 (k := ?_)
  refine x_iald hC g12 dX12_ticks_206 hw (fun hw => ?_)
  refine wm_iconst hC dX12_ticks_207 (k := ?_)
  refine x_iadd hC dX12_ticks_208 hw (fun hw => ?_)
  refine x_iast hC g12 dX12_ticks_209 hw (fun I9 hw => ?_)
  refine wm_iload_n hC 2 dX12_ticks_210 rfl ?_
  obtain ⟨z01, hw⟩ := hw
  exact wm_zreturn hC hE z01 dX12_ticks_211 ⟨rfl, hw⟩
def P12_ticks_b154 (l0 : Nat) (l1 : Int) (l4 : Int) (l5 : Int) (l6 : Int) (s0 : Int) (I : mI) (J : mI) (R : mR) (Q : Int → mI → mI → Prop) : Prop := (P12_moods l0 l1 l5 I R (fun I5 => (if s0 = 0 then (P12_ticks_b200 l0 l1 s0 I5 J R Q) else (kK (R l0 49) = 21 ∧ (rg (6 * l1) ∧ (rg ((6 * l1) + l4) ∧ (((0 : Int) ≤ ((6 * l1) + l4) ∧ ((6 * l1) + l4) < (kN (R l0 49) : Int)) ∧ wLet (up I5 (R l0 49) ((6 * l1) + l4) l5) (fun I6 => (kK (R l0 46) = 21 ∧ (((0 : Int) ≤ l1 ∧ l1 < (kN (R l0 46) : Int)) ∧ (rg ((I6 (R l0 46) l1) - l6) ∧ (((0 : Int) ≤ l1 ∧ l1 < (kN (R l0 46) : Int)) ∧ wLet (up I6 (R l0 46) l1 ((I6 (R l0 46) l1) - l6)) (fun I7 => (P12_writesDown l0 l1 l4 l5 I7 R (fun I8 => (P12_ticks_b200 l0 l1 s0 I8 J R Q))))))))))))))))
set_option maxRecDepth 20000 in
theorem W12_ticks_b154 {C : wX} {ad : Nat → Nat} {n : Nat} {I J : mI} {R : mR} {Q : Int → mI → mI → Prop} (hC : wOK C cX12_ticks 7 RX12) (hRm : wRm C 8 188 0 0) (hE : wEnd C (some .boolean) ad n (fun r I' J' R' => (R' = R) ∧ Q r I' J')) {l0 : Nat} {l1 : Int} {l4 : Int} {l5 : Int} {l6 : Int} {s0 : Int}   (hk0 : kK l0 = 12)  (hw : P12_ticks_b154 l0 l1 l4 l5 l6 s0 I J R Q) : WM C ad n I J R 0 0 154 [(0, vr l0), (1, vi l1), (4, vi l4), (5, vi l5), (6, vi l6)] [vi s0] := by
  unfold P12_ticks_b154 at hw
  refine wm_istore_n hC dX12_ticks_154 (by decide) (L2 := [(3, vi s0), (0, vr l0), (1, vi l1), (4, vi l4), (5, vi l5), (6, vi l6)]) rfl ?_
  refine wm_aload_n hC 1 dX12_ticks_155 rfl (k_ne0 hk0 (by decide)) ?_
  refine wm_iload_n hC 2 dX12_ticks_156 rfl ?_
  refine wm_iload hC 4 dX12_ticks_157 rfl ?_
  refine y_callV_v_I hC hRm noS ml_X12_494 hk0 (C12_moods hk0 hw) (Nat.le_of_ble_eq_true rfl) (Nat.le_of_ble_eq_true rfl) ⟨Nat.zero_le _, Nat.zero_le _⟩ rfl (st := []) rfl (Nat.le_of_ble_eq_true rfl) dX12_ticks_159 (fun I5 hw => ?_)
  refine wm_iload_n hC 0 dX12_ticks_162 rfl ?_
  refine wm_if_eq (tgt := 200) hC dX12_ticks_163 (by decide) hw (fun hw => ?_) (fun hw => ?_)
  · refine wm_sub [1, 2, 0] (L2 := [(0, vr l0), (1, vi l1), (3, vi s0)]) rfl ?_
    exact W12_ticks_b200 hC hRm hE hk0 hw
  · refine wm_aload_n hC 1 dX12_ticks_166 rfl (k_ne0 hk0 (by decide)) ?_
    refine x_getR2 hC 49 fl_X12_162 rfl hk0 dX12_ticks_167 hw (fun g10 hw => ?_)
    refine wm_bipush hC dX12_ticks_170 (k := ?_)
    refine wm_iload_n hC 2 dX12_ticks_172 rfl ?_
    refine x_imul hC dX12_ticks_173 hw (fun hw => ?_)
    refine wm_iload hC 3 dX12_ticks_174 rfl ?_
    refine x_iadd hC dX12_ticks_176 hw (fun hw => ?_)
    refine wm_iload hC 4 dX12_ticks_177 rfl ?_
    refine x_iast hC g10 dX12_ticks_179 hw (fun I6 hw => ?_)
    refine wm_aload_n hC 1 dX12_ticks_180 rfl (k_ne0 hk0 (by decide)) ?_
    refine x_getR2 hC 46 fl_X12_153 rfl hk0 dX12_ticks_181 hw (fun g11 hw => ?_)
    refine wm_iload_n hC 2 dX12_ticks_184 rfl ?_
    refine wm_dup2_11 hC dX12_ticks_185 (k := ?_)
    refine x_iald hC g11 dX12_ticks_186 hw (fun hw => ?_)
    refine wm_iload hC 5 dX12_ticks_187 rfl ?_
    refine x_isub hC dX12_ticks_189 hw (fun hw => ?_)
    refine x_iast hC g11 dX12_ticks_190 hw (fun I7 hw => ?_)
    refine wm_aload_n hC 1 dX12_ticks_191 rfl (k_ne0 hk0 (by decide)) ?_
    refine wm_iload_n hC 2 dX12_ticks_192 rfl ?_
    refine wm_iload hC 3 dX12_ticks_193 rfl ?_
    refine wm_iload hC 4 dX12_ticks_195 rfl ?_
    refine y_callV_v_I hC hRm noS ml_X12_497 hk0 (C12_writesDown hk0 hw) (Nat.le_of_ble_eq_true rfl) (Nat.le_of_ble_eq_true rfl) ⟨Nat.zero_le _, Nat.zero_le _⟩ rfl (st := []) rfl (Nat.le_of_ble_eq_true rfl) dX12_ticks_197 (fun I8 hw => ?_)
    refine wm_sub [1, 2, 0] (L2 := [(0, vr l0), (1, vi l1), (3, vi s0)]) rfl ?_
    exact W12_ticks_b200 hC hRm hE hk0 hw
def P12_ticks_b153 (l0 : Nat) (l1 : Int) (l4 : Int) (l5 : Int) (l6 : Int) (I : mI) (J : mI) (R : mR) (Q : Int → mI → mI → Prop) : Prop := (P12_ticks_b154 l0 l1 l4 l5 l6 0 I J R Q)
set_option maxRecDepth 20000 in
theorem W12_ticks_b153 {C : wX} {ad : Nat → Nat} {n : Nat} {I J : mI} {R : mR} {Q : Int → mI → mI → Prop} (hC : wOK C cX12_ticks 7 RX12) (hRm : wRm C 8 188 0 0) (hE : wEnd C (some .boolean) ad n (fun r I' J' R' => (R' = R) ∧ Q r I' J')) {l0 : Nat} {l1 : Int} {l4 : Int} {l5 : Int} {l6 : Int}   (hk0 : kK l0 = 12)  (hw : P12_ticks_b153 l0 l1 l4 l5 l6 I J R Q) : WM C ad n I J R 0 0 153 [(0, vr l0), (1, vi l1), (4, vi l4), (5, vi l5), (6, vi l6)] [] := by
  unfold P12_ticks_b153 at hw
  refine wm_iconst hC dX12_ticks_153 (k := ?_)
  exact W12_ticks_b154 hC hRm hE hk0 hw
def P12_ticks_b93 (l0 : Nat) (l1 : Int) (l3 : Int) (l4 : Int) (s0 : Nat) (s1 : Int) (s2 : Int) (s3 : Int) (I : mI) (J : mI) (R : mR) (Q : Int → mI → mI → Prop) : Prop := (P12_choiceOf s0 s1 s2 s3 I J R (fun r4 I4 J2 => (if r4 = (-1) then (P12_ticks_b200 l0 l1 l3 I4 J2 R Q) else (kK (R l0 19) = 21 ∧ (rg (6 * (I4 l0 13)) ∧ (rg ((6 * (I4 l0 13)) + r4) ∧ (((0 : Int) ≤ ((6 * (I4 l0 13)) + r4) ∧ ((6 * (I4 l0 13)) + r4) < (kN (R l0 19) : Int)) ∧ (wLet (I4 (R l0 19) ((6 * (I4 l0 13)) + r4)) (fun x2 => (kK (R l0 46) = 21 ∧ (((0 : Int) ≤ l1 ∧ l1 < (kN (R l0 46) : Int)) ∧ (if (I4 (R l0 46) l1) < x2 then (P12_ticks_b153 l0 l1 l4 r4 x2 I4 J2 R Q) else (kK (R l0 49) = 21 ∧ (rg (6 * l1) ∧ (rg ((6 * l1) + l4) ∧ (((0 : Int) ≤ ((6 * l1) + l4) ∧ ((6 * l1) + l4) < (kN (R l0 49) : Int)) ∧ (if (I4 (R l0 49) ((6 * l1) + l4)) = r4 then (P12_ticks_b153 l0 l1 l4 r4 x2 I4 J2 R Q) else (P12_ticks_b154 l0 l1 l4 r4 x2 1 I4 J2 R Q))))))))))))))))))
set_option maxRecDepth 20000 in
theorem W12_ticks_b93 {C : wX} {ad : Nat → Nat} {n : Nat} {I J : mI} {R : mR} {Q : Int → mI → mI → Prop} (hC : wOK C cX12_ticks 7 RX12) (hRm : wRm C 8 188 0 0) (hE : wEnd C (some .boolean) ad n (fun r I' J' R' => (R' = R) ∧ Q r I' J')) {l0 : Nat} {l1 : Int} {l3 : Int} {l4 : Int} {s0 : Nat} {s1 : Int} {s2 : Int} {s3 : Int}   (hk0 : kK l0 = 12) (hs0 : kK s0 = 12)  (hw : P12_ticks_b93 l0 l1 l3 l4 s0 s1 s2 s3 I J R Q) : WM C ad n I J R 0 0 93 [(0, vr l0), (1, vi l1), (3, vi l3), (4, vi l4)] [vi s3, vi s2, vi s1, vr s0] := by
  unfold P12_ticks_b93 at hw
  refine y_callV_i_IJ hC hRm noS ml_X12_491 hs0 (C12_choiceOf hs0 hw) (Nat.le_of_ble_eq_true rfl) (Nat.le_of_ble_eq_true rfl) ⟨Nat.zero_le _, Nat.zero_le _⟩ rfl (st := []) rfl (Nat.le_of_ble_eq_true rfl) dX12_ticks_93 (fun r4 I4 J2 hw => ?_)
  refine wm_istore hC dX12_ticks_96 (by decide) (L2 := [(5, vi r4), (0, vr l0), (1, vi l1), (3, vi l3), (4, vi l4)]) rfl ?_
  refine wm_iload hC 0 dX12_ticks_98 rfl ?_
  refine wm_iconst hC dX12_ticks_100 (k := ?_)
  refine wm_icmp_eq (tgt := 200) hC dX12_ticks_101 (by decide) hw (fun hw => ?_) (fun hw => ?_)
  · refine wm_sub [1, 2, 3] (L2 := [(0, vr l0), (1, vi l1), (3, vi l3)]) rfl ?_
    exact W12_ticks_b200 hC hRm hE hk0 hw
  · refine wm_aload_n hC 1 dX12_ticks_104 rfl (k_ne0 hk0 (by decide)) ?_
    refine x_getR2 hC 19 fl_X12_69 rfl hk0 dX12_ticks_105 hw (fun g7 hw => ?_)
    refine wm_bipush hC dX12_ticks_108 (k := ?_)
    refine wm_aload_n hC 1 dX12_ticks_110 rfl (k_ne0 hk0 (by decide)) ?_
    refine x_getI hC 13 fl_X12_51 rfl hk0 dX12_ticks_111 ?_
    refine x_imul hC dX12_ticks_114 hw (fun hw => ?_)
    refine wm_iload hC 0 dX12_ticks_115 rfl ?_
    refine x_iadd hC dX12_ticks_117 hw (fun hw => ?_)
    refine x_iald hC g7 dX12_ticks_118 hw (fun hw => ?_)
    refine x_nameI hw (fun x2 hw => ?_)
    refine wm_istore hC dX12_ticks_119 (by decide) (L2 := [(6, vi x2), (5, vi r4), (0, vr l0), (1, vi l1), (3, vi l3), (4, vi l4)]) rfl ?_
    refine wm_iload hC 0 dX12_ticks_121 rfl ?_
    refine wm_aload_n hC 2 dX12_ticks_123 rfl (k_ne0 hk0 (by decide)) ?_
    refine x_getR2 hC 46 fl_X12_153 rfl hk0 dX12_ticks_124 hw (fun g8 hw => ?_)
    refine wm_iload_n hC 3 dX12_ticks_127 rfl ?_
    refine x_iald hC g8 dX12_ticks_128 hw (fun hw => ?_)
    refine wm_icmp_gt (tgt := 153) hC dX12_ticks_129 (by decide) hw (fun hw => ?_) (fun hw => ?_)
    · refine wm_sub [2, 3, 5, 1, 0] (L2 := [(0, vr l0), (1, vi l1), (4, vi l4), (5, vi r4), (6, vi x2)]) rfl ?_
      exact W12_ticks_b153 hC hRm hE hk0 hw
    · refine wm_aload_n hC 2 dX12_ticks_132 rfl (k_ne0 hk0 (by decide)) ?_
      refine x_getR2 hC 49 fl_X12_162 rfl hk0 dX12_ticks_133 hw (fun g9 hw => ?_)
      refine wm_bipush hC dX12_ticks_136 (k := ?_)
      refine wm_iload_n hC 3 dX12_ticks_138 rfl ?_
      refine x_imul hC dX12_ticks_139 hw (fun hw => ?_)
      refine wm_iload hC 5 dX12_ticks_140 rfl ?_
      refine x_iadd hC dX12_ticks_142 hw (fun hw => ?_)
      refine x_iald hC g9 dX12_ticks_143 hw (fun hw => ?_)
      refine wm_iload hC 1 dX12_ticks_144 rfl ?_
      refine wm_icmp_eq (tgt := 153) hC dX12_ticks_146 (by decide) hw (fun hw => ?_) (fun hw => ?_)
      · refine wm_sub [2, 3, 5, 1, 0] (L2 := [(0, vr l0), (1, vi l1), (4, vi l4), (5, vi r4), (6, vi x2)]) rfl ?_
        exact W12_ticks_b153 hC hRm hE hk0 hw
      · refine wm_iconst hC dX12_ticks_149 (k := ?_)
        refine wm_goto (tgt := 154) hC dX12_ticks_150 (by decide) ?_
        refine wm_sub [2, 3, 5, 1, 0] (L2 := [(0, vr l0), (1, vi l1), (4, vi l4), (5, vi r4), (6, vi x2)]) rfl ?_
        exact W12_ticks_b154 hC hRm hE hk0 hw
def P12_ticks_b35 (l0 : Nat) (l1 : Int) (l2 : Int) (I : mI) (J : mI) (R : mR) (Q : Int → mI → mI → Prop) : Prop := (kK (R l0 20) = 21 ∧ (((0 : Int) ≤ (I l0 13) ∧ (I l0 13) < (kN (R l0 20) : Int)) ∧ (if (I (R l0 20) (I l0 13)) ≤ 0 then (P12_ticks_b200 l0 l1 0 I J R Q) else (kK (R l0 45) = 21 ∧ (((0 : Int) ≤ l1 ∧ l1 < (kN (R l0 45) : Int)) ∧ (kK (R l0 20) = 21 ∧ (((0 : Int) ≤ (I l0 13) ∧ (I l0 13) < (kN (R l0 20) : Int)) ∧ ((I (R l0 20) (I l0 13)) ≠ 0 ∧ (wLet (Int.tmod (I (R l0 45) l1) (I (R l0 20) (I l0 13))) (fun x1 => (if l2 = (-1) then (P12_everybody l0 I R (fun r3 => (P12_ticks_b93 l0 l1 0 x1 l0 l1 x1 r3 I J R Q))) else (P12_everybody l0 I R (fun r2 => (P12_ticks_b93 l0 l1 0 x1 l0 l1 x1 (bAnd r2 (bXor (bShl 1 l2) (-1))) I J R Q))))))))))))))
set_option maxRecDepth 20000 in
theorem W12_ticks_b35 {C : wX} {ad : Nat → Nat} {n : Nat} {I J : mI} {R : mR} {Q : Int → mI → mI → Prop} (hC : wOK C cX12_ticks 7 RX12) (hRm : wRm C 8 188 0 0) (hE : wEnd C (some .boolean) ad n (fun r I' J' R' => (R' = R) ∧ Q r I' J')) {l0 : Nat} {l1 : Int} {l2 : Int}   (hk0 : kK l0 = 12)  (hw : P12_ticks_b35 l0 l1 l2 I J R Q) : WM C ad n I J R 0 0 35 [(0, vr l0), (1, vi l1), (2, vi l2)] [] := by
  unfold P12_ticks_b35 at hw
  refine wm_iconst hC dX12_ticks_35 (k := ?_)
  refine wm_istore_n hC dX12_ticks_36 (by decide) (L2 := [(3, vi 0), (0, vr l0), (1, vi l1), (2, vi l2)]) rfl ?_
  refine wm_aload_n hC 1 dX12_ticks_37 rfl (k_ne0 hk0 (by decide)) ?_
  refine x_getR2 hC 20 fl_X12_72 rfl hk0 dX12_ticks_38 hw (fun g4 hw => ?_)
  refine wm_aload_n hC 1 dX12_ticks_41 rfl (k_ne0 hk0 (by decide)) ?_
  refine x_getI hC 13 fl_X12_51 rfl hk0 dX12_ticks_42 ?_
  refine x_iald hC g4 dX12_ticks_45 hw (fun hw => ?_)
  refine wm_if_le (tgt := 200) hC dX12_ticks_46 (by decide) hw (fun hw => ?_) (fun hw => ?_)
  · refine wm_sub [1, 2, 0] (L2 := [(0, vr l0), (1, vi l1), (3, vi 0)]) rfl ?_
    exact W12_ticks_b200 hC hRm hE hk0 hw
  · refine wm_aload_n hC 1 dX12_ticks_49 rfl (k_ne0 hk0 (by decide)) ?_
    refine x_getR2 hC 45 fl_X12_150 rfl hk0 dX12_ticks_50 hw (fun g5 hw => ?_)
    refine wm_iload_n hC 2 dX12_ticks_53 rfl ?_
    refine x_iald hC g5 dX12_ticks_54 hw (fun hw => ?_)
    refine wm_aload_n hC 1 dX12_ticks_55 rfl (k_ne0 hk0 (by decide)) ?_
    refine x_getR2 hC 20 fl_X12_72 rfl hk0 dX12_ticks_56 hw (fun g6 hw => ?_)
    refine wm_aload_n hC 1 dX12_ticks_59 rfl (k_ne0 hk0 (by decide)) ?_
    refine x_getI hC 13 fl_X12_51 rfl hk0 dX12_ticks_60 ?_
    refine x_iald hC g6 dX12_ticks_63 hw (fun hw => ?_)
    refine x_irem hC dX12_ticks_64 hw (fun hw => ?_)
    refine x_nameI hw (fun x1 hw => ?_)
    refine wm_istore hC dX12_ticks_65 (by decide) (L2 := [(4, vi x1), (3, vi 0), (0, vr l0), (1, vi l1), (2, vi l2)]) rfl ?_
    refine wm_aload_n hC 2 dX12_ticks_67 rfl (k_ne0 hk0 (by decide)) ?_
    refine wm_iload_n hC 3 dX12_ticks_68 rfl ?_
    refine wm_iload hC 0 dX12_ticks_69 rfl ?_
    refine wm_iload_n hC 4 dX12_ticks_71 rfl ?_
    refine wm_iconst hC dX12_ticks_72 (k := ?_)
    refine wm_icmp_ne (tgt := 83) hC dX12_ticks_73 (by decide) hw (fun hw => ?_) (fun hw => ?_)
    · refine wm_aload_n hC 2 dX12_ticks_76 rfl (k_ne0 hk0 (by decide)) ?_
      refine y_callV_i_n hC hRm noS ml_X12_487 hk0 (C12_everybody hk0 hw) (Nat.le_of_ble_eq_true rfl) (Nat.le_of_ble_eq_true rfl) ⟨Nat.zero_le _, Nat.zero_le _⟩ rfl (st := [vi x1, vi l1, vr l0]) rfl (Nat.le_of_ble_eq_true rfl) dX12_ticks_77 (fun r3 hw => ?_)
      refine wm_goto (tgt := 93) hC dX12_ticks_80 (by decide) ?_
      refine wm_sub [2, 3, 1, 0] (L2 := [(0, vr l0), (1, vi l1), (3, vi 0), (4, vi x1)]) rfl ?_
      exact W12_ticks_b93 hC hRm hE hk0 hk0 hw
    · refine wm_aload_n hC 2 dX12_ticks_83 rfl (k_ne0 hk0 (by decide)) ?_
      refine y_callV_i_n hC hRm noS ml_X12_487 hk0 (C12_everybody hk0 hw) (Nat.le_of_ble_eq_true rfl) (Nat.le_of_ble_eq_true rfl) ⟨Nat.zero_le _, Nat.zero_le _⟩ rfl (st := [vi x1, vi l1, vr l0]) rfl (Nat.le_of_ble_eq_true rfl) dX12_ticks_84 (fun r2 hw => ?_)
      refine wm_iconst hC dX12_ticks_87 (k := ?_)
      refine wm_iload_n hC 4 dX12_ticks_88 rfl ?_
      refine wm_ishl hC dX12_ticks_89 ?_
      refine wm_iconst hC dX12_ticks_90 (k := ?_)
      refine wm_ixor hC dX12_ticks_91 ?_
      refine wm_iand hC dX12_ticks_92 ?_
      refine wm_sub [2, 3, 1, 0] (L2 := [(0, vr l0), (1, vi l1), (3, vi 0), (4, vi x1)]) rfl ?_
      exact W12_ticks_b93 hC hRm hE hk0 hk0 hw
def P12_ticks (l0 : Nat) (l1 : Int) (l2 : Int) (I : mI) (J : mI) (R : mR) (Q : Int → mI → mI → Prop) : Prop := (kK (R l0 46) = 21 ∧ (((0 : Int) ≤ l1 ∧ l1 < (kN (R l0 46) : Int)) ∧ (P12_gift l0 l1 I J R (fun r1 I1 J1 => (rg ((I (R l0 46) l1) + r1) ∧ (((0 : Int) ≤ l1 ∧ l1 < (kN (R l0 46) : Int)) ∧ wLet (up I1 (R l0 46) l1 ((I (R l0 46) l1) + r1)) (fun I2 => (kK (R l0 46) = 21 ∧ (((0 : Int) ≤ l1 ∧ l1 < (kN (R l0 46) : Int)) ∧ (if (I2 (R l0 46) l1) ≤ 9999 then (P12_ticks_b35 l0 l1 l2 I2 J1 R Q) else (kK (R l0 46) = 21 ∧ (((0 : Int) ≤ l1 ∧ l1 < (kN (R l0 46) : Int)) ∧ wLet (up I2 (R l0 46) l1 9999) (fun I3 => (P12_ticks_b35 l0 l1 l2 I3 J1 R Q))))))))))))))
set_option maxRecDepth 20000 in
theorem C12_ticks {ad : Nat → Nat} {n : Nat} {I J : mI} {R : mR} {Q : Int → mI → mI → Prop}  {l0 : Nat} {l1 : Int} {l2 : Int} (hk0 : kK l0 = 12) (hw : P12_ticks l0 l1 l2 I J R Q) : wMet yX12_ticks cX12_ticks 7 (some .boolean) 8 188 false ad n I J R [vr l0, vi l1, vi l2] (fun r I' J' R' => (R' = R) ∧ Q r I' J') := by
  refine wMet_of (by decide) (Nat.le_of_ble_eq_true rfl) (fun C hC hRm hE hS => ?_)
  refine (show WM C ad n I J R 0 0 0 [(0, vr l0), (1, vi l1), (2, vi l2)] [] from ?_)
  unfold P12_ticks at hw
  refine wm_aload_n hC 0 dX12_ticks_0 rfl (k_ne0 hk0 (by decide)) ?_
  refine x_getR2 hC 46 fl_X12_153 rfl hk0 dX12_ticks_1 hw (fun g1 hw => ?_)
  refine wm_iload_n hC 1 dX12_ticks_4 rfl ?_
  refine wm_dup2_11 hC dX12_ticks_5 (k := ?_)
  refine x_iald hC g1 dX12_ticks_6 hw (fun hw => ?_)
  refine wm_aload_n hC 0 dX12_ticks_7 rfl (k_ne0 hk0 (by decide)) ?_
  refine wm_iload_n hC 1 dX12_ticks_8 rfl ?_
  refine y_callV_i_IJ hC hRm noS ml_X12_484 hk0 (C12_gift hk0 hw) (Nat.le_of_ble_eq_true rfl) (Nat.le_of_ble_eq_true rfl) ⟨Nat.zero_le _, Nat.zero_le _⟩ rfl (st := [vi (I (R l0 46) l1), vi l1, vr (R l0 46)]) rfl (Nat.le_of_ble_eq_true rfl) dX12_ticks_9 (fun r1 I1 J1 hw => ?_)
  refine x_iadd hC dX12_ticks_12 hw (fun hw => ?_)
  refine x_iast hC g1 dX12_ticks_13 hw (fun I2 hw => ?_)
  refine wm_aload_n hC 0 dX12_ticks_14 rfl (k_ne0 hk0 (by decide)) ?_
  refine x_getR2 hC 46 fl_X12_153 rfl hk0 dX12_ticks_15 hw (fun g2 hw => ?_)
  refine wm_iload_n hC 1 dX12_ticks_18 rfl ?_
  refine x_iald hC g2 dX12_ticks_19 hw (fun hw => ?_)
  refine wm_sipush hC dX12_ticks_20 (k := ?_)
  refine wm_icmp_le (tgt := 35) hC dX12_ticks_23 (by decide) hw (fun hw => ?_) (fun hw => ?_)
  · exact W12_ticks_b35 hC hRm hE hk0 hw
  · refine wm_aload_n hC 0 dX12_ticks_26 rfl (k_ne0 hk0 (by decide)) ?_
    refine x_getR2 hC 46 fl_X12_153 rfl hk0 dX12_ticks_27 hw (fun g3 hw => ?_)
    refine wm_iload_n hC 1 dX12_ticks_30 rfl ?_
    refine wm_sipush hC dX12_ticks_31 (k := ?_)
    refine x_iast hC g3 dX12_ticks_34 hw (fun I3 hw => ?_)
    exact W12_ticks_b35 hC hRm hE hk0 hw
