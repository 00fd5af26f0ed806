def P12_reads_b70 (l0 : Nat) (l2 : Int) (I : mI) (J : mI) (R : mR) (k43 : Int → mI → mI → Prop) (Q : mI → mI → Prop) : Prop := (if l2 = 0 then (k43 0 I J) else (if (I l0 8) = 0 then (k43 1 I J) else (k43 0 I J)))
set_option maxRecDepth 20000 in
theorem W12_reads_b70 {C : wX} {ad : Nat → Nat} {n : Nat} {I J : mI} {R : mR} {Q : mI → mI → Prop} (hC : wOK C cX12_reads 3 RX12) (hRm : wRm C 5 101 0 0) (hE : wEnd C none ad n (fun _ I' J' R' => (R' = R) ∧ Q I' J')) {l0 : Nat} {l2 : Int}  {k43 : Int → mI → mI → Prop} (hk0 : kK l0 = 12) (kk43 : ∀ (y2 : Int) (I' : mI) (J' : mI), k43 y2 I' J' → WM C ad n I' J' R 0 0 43 [(0, vr l0), (2, vi y2)] []) (hw : P12_reads_b70 l0 l2 I J R k43 Q) : WM C ad n I J R 0 0 70 [(0, vr l0), (2, vi l2)] [] := by
  unfold P12_reads_b70 at hw
  refine wm_iload_n hC 1 dX12_reads_70 rfl ?_
  refine wm_if_eq (tgt := 85) hC dX12_reads_71 (by decide) hw (fun hw => ?_) (fun hw => ?_)
  · refine wm_iconst hC dX12_reads_85 (k := ?_)
    refine wm_istore_n hC dX12_reads_86 (by decide) (L2 := [(2, vi 0), (0, vr l0)]) rfl ?_
    refine wm_goto (tgt := 43) hC dX12_reads_87 (by decide) ?_
    refine wm_sub [1, 0] (L2 := [(0, vr l0), (2, vi 0)]) rfl ?_
    exact kk43 _ _ _ hw
  · refine wm_aload_n hC 0 dX12_reads_74 rfl (k_ne0 hk0 (by decide)) ?_
    refine x_getI hC 8 fl_X12_36 rfl hk0 dX12_reads_75 ?_
    refine wm_if_ne (tgt := 85) hC dX12_reads_78 (by decide) hw (fun hw => ?_) (fun hw => ?_)
    · refine wm_iconst hC dX12_reads_81 (k := ?_)
      refine wm_goto (tgt := 86) hC dX12_reads_82 (by decide) ?_
      refine wm_istore_n hC dX12_reads_86 (by decide) (L2 := [(2, vi 1), (0, vr l0)]) rfl ?_
      refine wm_goto (tgt := 43) hC dX12_reads_87 (by decide) ?_
      refine wm_sub [1, 0] (L2 := [(0, vr l0), (2, vi 1)]) rfl ?_
      exact kk43 _ _ _ hw
    · refine wm_iconst hC dX12_reads_85 (k := ?_)
      refine wm_istore_n hC dX12_reads_86 (by decide) (L2 := [(2, vi 0), (0, vr l0)]) rfl ?_
      refine wm_goto (tgt := 43) hC dX12_reads_87 (by decide) ?_
      refine wm_sub [1, 0] (L2 := [(0, vr l0), (2, vi 0)]) rfl ?_
      exact kk43 _ _ _ hw
def P12_reads_b43_body (l0 : Nat) (R : mR) (Q : mI → mI → Prop) (k43 : Int → mI → mI → Prop) (l2 : Int) (I : mI) (J : mI) : Prop := (if l2 = 0 then (Q I J) else (if (I l0 43) = 0 then (P12_operand l0 I J R (fun r2 I8 J2 => ((r2 = 0 ∨ r2 = 1) ∧ (wLet (up I8 l0 43 r2) (fun I9 => (P12_reads_b70 l0 l2 I9 J2 R k43 Q)))))) else (P12_goesOn l0 I J R (fun r1 I7 J1 => (P12_reads_b70 l0 r1 I7 J1 R k43 Q)))))
def P12_reads_b43 (l0 : Nat) (R : mR) (Q : mI → mI → Prop) : Nat → Int → mI → mI → Prop
  | 0 => fun _ _ _ => False
  | f + 1 => fun l2 I J => P12_reads_b43_body l0 R Q (P12_reads_b43 l0 R Q f) l2 I J
set_option maxRecDepth 20000 in
theorem W12_reads_b43_body {C : wX} {ad : Nat → Nat} {n : Nat} {I J : mI} {R : mR} {Q : mI → mI → Prop} (hC : wOK C cX12_reads 3 RX12) (hRm : wRm C 5 101 0 0) (hE : wEnd C none ad n (fun _ I' J' R' => (R' = R) ∧ Q I' J')) {l0 : Nat} {l2 : Int}   (hk0 : kK l0 = 12)  {k43 : Int → mI → mI → Prop} (kk43 : ∀ (y2 : Int) (I' : mI) (J' : mI), k43 y2 I' J' → WM C ad n I' J' R 0 0 43 [(0, vr l0), (2, vi y2)] []) (hw : P12_reads_b43_body l0 R Q k43 l2 I J) : WM C ad n I J R 0 0 43 [(0, vr l0), (2, vi l2)] [] := by
  unfold P12_reads_b43_body at hw
  refine wm_iload_n hC 1 dX12_reads_43 rfl ?_
  refine wm_if_eq (tgt := 90) hC dX12_reads_44 (by decide) hw (fun hw => ?_) (fun hw => ?_)
  · exact wm_return hC hE dX12_reads_90 ⟨rfl, hw⟩
  · refine wm_aload_n hC 0 dX12_reads_47 rfl (k_ne0 hk0 (by decide)) ?_
    refine x_getI hC 43 fl_X12_143 rfl hk0 dX12_reads_48 ?_
    refine wm_if_ne (tgt := 65) hC dX12_reads_51 (by decide) hw (fun hw => ?_) (fun hw => ?_)
    · refine wm_aload_n hC 0 dX12_reads_54 rfl (k_ne0 hk0 (by decide)) ?_
      refine wm_aload_n hC 0 dX12_reads_55 rfl (k_ne0 hk0 (by decide)) ?_
      refine y_callV_z_IJ hC hRm noS ml_X12_338 hk0 (C12_operand hk0 hw) (Nat.le_of_ble_eq_true rfl) (Nat.le_of_ble_eq_true rfl) ⟨Nat.zero_le _, Nat.zero_le _⟩ rfl (st := [vr l0]) rfl (Nat.le_of_ble_eq_true rfl) dX12_reads_56 (fun r2 I8 J2 hw => ?_)
      obtain ⟨z01, hw⟩ := hw
      refine x_putZ hC 43 fl_X12_143 rfl hk0 z01 dX12_reads_59 hw (fun I9 hw => ?_)
      refine wm_goto (tgt := 70) hC dX12_reads_62 (by decide) ?_
      exact W12_reads_b70 hC hRm hE hk0 kk43 hw
    · refine wm_aload_n hC 0 dX12_reads_65 rfl (k_ne0 hk0 (by decide)) ?_
      refine y_callV_z_IJ hC hRm noS ml_X12_341 hk0 (C12_goesOn hk0 hw) (Nat.le_of_ble_eq_true rfl) (Nat.le_of_ble_eq_true rfl) ⟨Nat.zero_le _, Nat.zero_le _⟩ rfl (st := []) rfl (Nat.le_of_ble_eq_true rfl) dX12_reads_66 (fun r1 I7 J1 hw => ?_)
      refine wm_istore_n hC dX12_reads_69 (by decide) (L2 := [(2, vi r1), (0, vr l0)]) rfl ?_
      refine wm_sub [1, 0] (L2 := [(0, vr l0), (2, vi r1)]) rfl ?_
      exact W12_reads_b70 hC hRm hE hk0 kk43 hw
set_option maxRecDepth 20000 in
theorem W12_reads_b43 {C : wX} {ad : Nat → Nat} {n : Nat} {R : mR} {Q : mI → mI → Prop} (hC : wOK C cX12_reads 3 RX12) (hRm : wRm C 5 101 0 0) (hE : wEnd C none ad n (fun _ I' J' R' => (R' = R) ∧ Q I' J')) {l0 : Nat}   (hk0 : kK l0 = 12)  : ∀ (f : Nat) (l2 : Int) (I : mI) (J : mI), P12_reads_b43 l0 R Q f l2 I J → WM C ad n I J R 0 0 43 [(0, vr l0), (2, vi l2)] [] := by
  intro f
  induction f with
  | zero => intro l2 I J hw; exact hw.elim
  | succ f ih => intro l2 I J hw; exact W12_reads_b43_body hC hRm hE hk0 (fun a0 a1 a2 hw => ih a0 a1 a2 hw) hw
def P12_reads (l0 : Nat) (l1 : Int) (I : mI) (J : mI) (R : mR) (Q : mI → mI → Prop) : Prop := (if (I l0 8) ≤ 0 then (wLet (up I l0 39 0) (fun I1 => (wLet (up I1 l0 40 0) (fun I2 => (wLet (up I2 l0 42 0) (fun I3 => (wLet (up I3 l0 43 0) (fun I4 => (if l1 = 0 then (P12_pushes l0 0 I4 R (fun I5 => (∃ f, P12_reads_b43 l0 R Q f 1 I5 J))) else (P12_pushes l0 1 I4 R (fun I6 => (∃ f, P12_reads_b43 l0 R Q f 1 I6 J)))))))))))) else (Q I J))
set_option maxRecDepth 20000 in
theorem C12_reads {ad : Nat → Nat} {n : Nat} {I J : mI} {R : mR} {Q : mI → mI → Prop}  {l0 : Nat} {l1 : Int} (hk0 : kK l0 = 12) (hw : P12_reads l0 l1 I J R Q) : wMet yX12_reads cX12_reads 3 none 5 101 false ad n I J R [vr l0, vi l1] (fun _ I' J' R' => (R' = R) ∧ Q I' J') := by
  refine wMet_of (by decide) (Nat.le_of_ble_eq_true rfl) (fun C hC hRm hE hS => ?_)
  refine (show WM C ad n I J R 0 0 0 [(0, vr l0), (1, vi l1)] [] from ?_)
  unfold P12_reads at hw
  refine wm_aload_n hC 0 dX12_reads_0 rfl (k_ne0 hk0 (by decide)) ?_
  refine x_getI hC 8 fl_X12_36 rfl hk0 dX12_reads_1 ?_
  refine wm_if_le (tgt := 8) hC dX12_reads_4 (by decide) hw (fun hw => ?_) (fun hw => ?_)
  · refine wm_aload_n hC 0 dX12_reads_8 rfl (k_ne0 hk0 (by decide)) ?_
    refine wm_iconst hC dX12_reads_9 (k := ?_)
    refine x_putI hC 39 fl_X12_131 rfl hk0 dX12_reads_10 hw (fun I1 hw => ?_)
    refine wm_aload_n hC 0 dX12_reads_13 rfl (k_ne0 hk0 (by decide)) ?_
    refine wm_iconst hC dX12_reads_14 (k := ?_)
    refine x_putI hC 40 fl_X12_134 rfl hk0 dX12_reads_15 hw (fun I2 hw => ?_)
    refine wm_aload_n hC 0 dX12_reads_18 rfl (k_ne0 hk0 (by decide)) ?_
    refine wm_iconst hC dX12_reads_19 (k := ?_)
    refine x_putI hC 42 fl_X12_140 rfl hk0 dX12_reads_20 hw (fun I3 hw => ?_)
    refine wm_aload_n hC 0 dX12_reads_23 rfl (k_ne0 hk0 (by decide)) ?_
    refine wm_iconst hC dX12_reads_24 (k := ?_)
    refine x_putZ hC 43 fl_X12_143 rfl hk0 (Or.inl rfl) dX12_reads_25 hw (fun I4 hw => ?_)
    refine wm_aload_n hC 0 dX12_reads_28 rfl (k_ne0 hk0 (by decide)) ?_
    refine wm_iload_n hC 1 dX12_reads_29 rfl ?_
    refine wm_if_eq (tgt := 37) hC dX12_reads_30 (by decide) hw (fun hw => ?_) (fun hw => ?_)
    · refine wm_iconst hC dX12_reads_37 (k := ?_)
      refine y_callV_v_I hC hRm noS ml_X12_319 hk0 (C12_pushes hk0 hw) (Nat.le_of_ble_eq_true rfl) (Nat.le_of_ble_eq_true rfl) ⟨Nat.zero_le _, Nat.zero_le _⟩ rfl (st := []) rfl (Nat.le_of_ble_eq_true rfl) dX12_reads_38 (fun I5 hw => ?_)
      refine wm_iconst hC dX12_reads_41 (k := ?_)
      refine wm_istore_n hC dX12_reads_42 (by decide) (L2 := [(2, vi 1), (0, vr l0), (1, vi l1)]) rfl ?_
      obtain ⟨f, hw⟩ := hw
      refine wm_sub [1, 0] (L2 := [(0, vr l0), (2, vi 1)]) rfl ?_
      exact W12_reads_b43 hC hRm hE hk0 f _ _ _ hw
    · refine wm_iconst hC dX12_reads_33 (k := ?_)
      refine wm_goto (tgt := 38) hC dX12_reads_34 (by decide) ?_
      refine y_callV_v_I hC hRm noS ml_X12_319 hk0 (C12_pushes hk0 hw) (Nat.le_of_ble_eq_true rfl) (Nat.le_of_ble_eq_true rfl) ⟨Nat.zero_le _, Nat.zero_le _⟩ rfl (st := []) rfl (Nat.le_of_ble_eq_true rfl) dX12_reads_38 (fun I6 hw => ?_)
      refine wm_iconst hC dX12_reads_41 (k := ?_)
      refine wm_istore_n hC dX12_reads_42 (by decide) (L2 := [(2, vi 1), (0, vr l0), (1, vi l1)]) rfl ?_
      obtain ⟨f, hw⟩ := hw
      refine wm_sub [1, 0] (L2 := [(0, vr l0), (2, vi 1)]) rfl ?_
      exact W12_reads_b43 hC hRm hE hk0 f _ _ _ hw
  · exact wm_return hC hE dX12_reads_7 ⟨rfl, hw⟩
def P12_isCounted_b32 (l0 : Nat) (I : mI) (J : mI) (R : mR) (Q : Int → mI → mI → Prop) : Prop := (if (I l0 8) = 0 then (Q 1 I J) else (Q 0 I J))
set_option maxRecDepth 20000 in
theorem W12_isCounted_b32 {C : wX} {ad : Nat → Nat} {n : Nat} {I J : mI} {R : mR} {Q : Int → mI → mI → Prop} (hC : wOK C cX12_isCounted 2 RX12) (hRm : wRm C 3 57 0 0) (hE : wEnd C (some .boolean) ad n (fun r I' J' R' => (R' = R) ∧ Q r I' J')) {l0 : Nat}   (hk0 : kK l0 = 12)  (hw : P12_isCounted_b32 l0 I J R Q) : WM C ad n I J R 0 0 32 [(0, vr l0)] [] := by
  unfold P12_isCounted_b32 at hw
  refine wm_aload_n hC 0 dX12_isCounted_32 rfl (k_ne0 hk0 (by decide)) ?_
  refine x_getI hC 8 fl_X12_36 rfl hk0 dX12_isCounted_33 ?_
  refine wm_if_ne (tgt := 43) hC dX12_isCounted_36 (by decide) hw (fun hw => ?_) (fun hw => ?_)
  · refine wm_iconst hC dX12_isCounted_39 (k := ?_)
    refine wm_goto (tgt := 44) hC dX12_isCounted_40 (by decide) ?_
    exact wm_zreturn hC hE (Or.inr rfl) dX12_isCounted_44 ⟨rfl, hw⟩
  · refine wm_iconst hC dX12_isCounted_43 (k := ?_)
    exact wm_zreturn hC hE (Or.inl rfl) dX12_isCounted_44 ⟨rfl, hw⟩
def P12_isCounted_b21 (l0 : Nat) (I : mI) (J : mI) (R : mR) (Q : Int → mI → mI → Prop) : Prop := (if (I l0 8) = 0 then (P12_ahead l0 I J R (fun I2 J1 => (P12_isCounted_b32 l0 I2 J1 R Q))) else (P12_isCounted_b32 l0 I J R Q))
set_option maxRecDepth 20000 in
theorem W12_isCounted_b21 {C : wX} {ad : Nat → Nat} {n : Nat} {I J : mI} {R : mR} {Q : Int → mI → mI → Prop} (hC : wOK C cX12_isCounted 2 RX12) (hRm : wRm C 3 57 0 0) (hE : wEnd C (some .boolean) ad n (fun r I' J' R' => (R' = R) ∧ Q r I' J')) {l0 : Nat}   (hk0 : kK l0 = 12)  (hw : P12_isCounted_b21 l0 I J R Q) : WM C ad n I J R 0 0 21 [(0, vr l0)] [] := by
  unfold P12_isCounted_b21 at hw
  refine wm_aload_n hC 0 dX12_isCounted_21 rfl (k_ne0 hk0 (by decide)) ?_
  refine x_getI hC 8 fl_X12_36 rfl hk0 dX12_isCounted_22 ?_
  refine wm_if_ne (tgt := 32) hC dX12_isCounted_25 (by decide) hw (fun hw => ?_) (fun hw => ?_)
  · refine wm_aload_n hC 0 dX12_isCounted_28 rfl (k_ne0 hk0 (by decide)) ?_
    refine y_callV_v_IJ hC hRm noS ml_X12_247 hk0 (C12_ahead hk0 hw) (Nat.le_of_ble_eq_true rfl) (Nat.le_of_ble_eq_true rfl) ⟨Nat.zero_le _, Nat.zero_le _⟩ rfl (st := []) rfl (Nat.le_of_ble_eq_true rfl) dX12_isCounted_29 (fun I2 J1 hw => ?_)
    exact W12_isCounted_b32 hC hRm hE hk0 hw
  · exact W12_isCounted_b32 hC hRm hE hk0 hw
def P12_isCounted (l0 : Nat) (l1 : Int) (I : mI) (J : mI) (R : mR) (Q : Int → mI → mI → Prop) : Prop := (if (I l0 8) = 0 then (if l1 = 0 then (P12_isCounted_b21 l0 I J R Q) else (P12_blame l0 6 (I l0 4) I (fun I1 => (P12_isCounted_b21 l0 I1 J R Q)))) else (P12_isCounted_b21 l0 I J R Q))
set_option maxRecDepth 20000 in
theorem C12_isCounted {ad : Nat → Nat} {n : Nat} {I J : mI} {R : mR} {Q : Int → mI → mI → Prop}  {l0 : Nat} {l1 : Int} (hk0 : kK l0 = 12) (hw : P12_isCounted l0 l1 I J R Q) : wMet yX12_isCounted cX12_isCounted 2 (some .boolean) 3 57 false ad n I J R [vr l0, vi l1] (fun r I' J' R' => (R' = R) ∧ Q r I' J') := by
  refine wMet_of (by decide) (Nat.le_of_ble_eq_true rfl) (fun C hC hRm hE hS => ?_)
  refine (show WM C ad n I J R 0 0 0 [(0, vr l0), (1, vi l1)] [] from ?_)
  unfold P12_isCounted at hw
  refine wm_aload_n hC 0 dX12_isCounted_0 rfl (k_ne0 hk0 (by decide)) ?_
  refine x_getI hC 8 fl_X12_36 rfl hk0 dX12_isCounted_1 ?_
  refine wm_if_ne (tgt := 21) hC dX12_isCounted_4 (by decide) hw (fun hw => ?_) (fun hw => ?_)
  · refine wm_iload_n hC 1 dX12_isCounted_7 rfl ?_
    refine wm_if_eq (tgt := 21) hC dX12_isCounted_8 (by decide) hw (fun hw => ?_) (fun hw => ?_)
    · refine wm_sub [0] (L2 := [(0, vr l0)]) rfl ?_
      exact W12_isCounted_b21 hC hRm hE hk0 hw
    · refine wm_aload_n hC 0 dX12_isCounted_11 rfl (k_ne0 hk0 (by decide)) ?_
      refine wm_bipush hC dX12_isCounted_12 (k := ?_)
      refine wm_aload_n hC 0 dX12_isCounted_14 rfl (k_ne0 hk0 (by decide)) ?_
      refine x_getI hC 4 fl_X12_23 rfl hk0 dX12_isCounted_15 ?_
      refine y_callV_v_I hC hRm noS ml_X12_230 hk0 (C12_blame hk0 hw) (Nat.le_of_ble_eq_true rfl) (Nat.le_of_ble_eq_true rfl) ⟨Nat.zero_le _, Nat.zero_le _⟩ rfl (st := []) rfl (Nat.le_of_ble_eq_true rfl) dX12_isCounted_18 (fun I1 hw => ?_)
      refine wm_sub [0] (L2 := [(0, vr l0)]) rfl ?_
      exact W12_isCounted_b21 hC hRm hE hk0 hw
  · refine wm_sub [0] (L2 := [(0, vr l0)]) rfl ?_
    exact W12_isCounted_b21 hC hRm hE hk0 hw
def P12_mustWord_b29 (l0 : Nat) (I : mI) (J : mI) (R : mR) (Q : mI → mI → Prop) : Prop := (if (I l0 8) = 0 then (P12_ahead l0 I J R (fun I3 J1 => (Q I3 J1))) else (Q I J))
set_option maxRecDepth 20000 in
theorem W12_mustWord_b29 {C : wX} {ad : Nat → Nat} {n : Nat} {I J : mI} {R : mR} {Q : mI → mI → Prop} (hC : wOK C cX12_mustWord 3 RX12) (hRm : wRm C 3 57 0 0) (hE : wEnd C none ad n (fun _ I' J' R' => (R' = R) ∧ Q I' J')) {l0 : Nat}   (hk0 : kK l0 = 12)  (hw : P12_mustWord_b29 l0 I J R Q) : WM C ad n I J R 0 0 29 [(0, vr l0)] [] := by
  unfold P12_mustWord_b29 at hw
  refine wm_aload_n hC 0 dX12_mustWord_29 rfl (k_ne0 hk0 (by decide)) ?_
  refine x_getI hC 8 fl_X12_36 rfl hk0 dX12_mustWord_30 ?_
  refine wm_if_ne (tgt := 40) hC dX12_mustWord_33 (by decide) hw (fun hw => ?_) (fun hw => ?_)
  · refine wm_aload_n hC 0 dX12_mustWord_36 rfl (k_ne0 hk0 (by decide)) ?_
    refine y_callV_v_IJ hC hRm noS ml_X12_247 hk0 (C12_ahead hk0 hw) (Nat.le_of_ble_eq_true rfl) (Nat.le_of_ble_eq_true rfl) ⟨Nat.zero_le _, Nat.zero_le _⟩ rfl (st := []) rfl (Nat.le_of_ble_eq_true rfl) dX12_mustWord_37 (fun I3 J1 hw => ?_)
    exact wm_return hC hE dX12_mustWord_40 ⟨rfl, hw⟩
  · exact wm_return hC hE dX12_mustWord_40 ⟨rfl, hw⟩
def P12_mustWord (l0 : Nat) (l1 : Int) (I : mI) (J : mI) (R : mR) (Q : mI → mI → Prop) : Prop := (P12_lex l0 I (fun I1 => (if (I1 l0 8) ≤ 0 then (P12_isWord l0 l1 I1 J (fun r1 => (if r1 = 0 then (P12_blame l0 1 (I1 l0 4) I1 (fun I2 => (P12_mustWord_b29 l0 I2 J R Q))) else (P12_mustWord_b29 l0 I1 J R Q)))) else (Q I1 J))))
set_option maxRecDepth 20000 in
theorem C12_mustWord {ad : Nat → Nat} {n : Nat} {I J : mI} {R : mR} {Q : mI → mI → Prop}  {l0 : Nat} {l1 : Int} (hk0 : kK l0 = 12) (hw : P12_mustWord l0 l1 I J R Q) : wMet yX12_mustWord cX12_mustWord 3 none 3 57 false ad n I J R [vr l0, vl l1] (fun _ I' J' R' => (R' = R) ∧ Q I' J') := by
  refine wMet_of (by decide) (Nat.le_of_ble_eq_true rfl) (fun C hC hRm hE hS => ?_)
  refine (show WM C ad n I J R 0 0 0 [(0, vr l0), (1, vl l1)] [] from ?_)
  unfold P12_mustWord at hw
  refine wm_aload_n hC 0 dX12_mustWord_0 rfl (k_ne0 hk0 (by decide)) ?_
  refine y_callV_v_I hC hRm noS ml_X12_241 hk0 (C12_lex hk0 hw) (Nat.le_of_ble_eq_true rfl) (Nat.le_of_ble_eq_true rfl) ⟨Nat.zero_le _, Nat.zero_le _⟩ rfl (st := []) rfl (Nat.le_of_ble_eq_true rfl) dX12_mustWord_1 (fun I1 hw => ?_)
  refine wm_aload_n hC 0 dX12_mustWord_4 rfl (k_ne0 hk0 (by decide)) ?_
  refine x_getI hC 8 fl_X12_36 rfl hk0 dX12_mustWord_5 ?_
  refine wm_if_le (tgt := 12) hC dX12_mustWord_8 (by decide) hw (fun hw => ?_) (fun hw => ?_)
  · refine wm_aload_n hC 0 dX12_mustWord_12 rfl (k_ne0 hk0 (by decide)) ?_
    refine wm_lload_n hC 1 dX12_mustWord_13 rfl ?_
    refine y_callV_z_n hC hRm noS ml_X12_325 hk0 (C12_isWord hk0 hw) (Nat.le_of_ble_eq_true rfl) (Nat.le_of_ble_eq_true rfl) ⟨Nat.zero_le _, Nat.zero_le _⟩ rfl (st := []) rfl (Nat.le_of_ble_eq_true rfl) dX12_mustWord_14 (fun r1 hw => ?_)
    refine wm_if_ne (tgt := 29) hC dX12_mustWord_17 (by decide) hw (fun hw => ?_) (fun hw => ?_)
    · refine wm_aload_n hC 0 dX12_mustWord_20 rfl (k_ne0 hk0 (by decide)) ?_
      refine wm_iconst hC dX12_mustWord_21 (k := ?_)
      refine wm_aload_n hC 0 dX12_mustWord_22 rfl (k_ne0 hk0 (by decide)) ?_
      refine x_getI hC 4 fl_X12_23 rfl hk0 dX12_mustWord_23 ?_
      refine y_callV_v_I hC hRm noS ml_X12_230 hk0 (C12_blame hk0 hw) (Nat.le_of_ble_eq_true rfl) (Nat.le_of_ble_eq_true rfl) ⟨Nat.zero_le _, Nat.zero_le _⟩ rfl (st := []) rfl (Nat.le_of_ble_eq_true rfl) dX12_mustWord_26 (fun I2 hw => ?_)
      refine wm_sub [0] (L2 := [(0, vr l0)]) rfl ?_
      exact W12_mustWord_b29 hC hRm hE hk0 hw
    · refine wm_sub [0] (L2 := [(0, vr l0)]) rfl ?_
      exact W12_mustWord_b29 hC hRm hE hk0 hw
  · exact wm_return hC hE dX12_mustWord_11 ⟨rfl, hw⟩
def P12_has2 (l0 : Int) (l1 : Int)  (Q : Int → Prop) : Prop := (if (bAnd (bShr l0 l1) 1) = 1 then (Q 1) else (Q 0))
set_option maxRecDepth 20000 in
theorem C12_has2 {ad : Nat → Nat} {n : Nat} {I J : mI} {R : mR} {Q : Int → Prop}  {l0 : Int} {l1 : Int}  (hw : P12_has2 l0 l1 Q) : wMet yX12_has2 cX12_has2 2 (some .boolean) 1 12 false ad n I J R [vi l0, vi l1] (fun r I' J' R' => (I' = I ∧ J' = J ∧ R' = R) ∧ Q r) := by
  refine wMet_of (by decide) (Nat.le_of_ble_eq_true rfl) (fun C hC hRm hE hS => ?_)
  refine (show WM C ad n I J R 0 0 0 [(0, vi l0), (1, vi l1)] [] from ?_)
  unfold P12_has2 at hw
  refine wm_iload_n hC 0 dX12_has2_0 rfl ?_
  refine wm_iload_n hC 1 dX12_has2_1 rfl ?_
  refine wm_ishr hC dX12_has2_2 ?_
  refine wm_iconst hC dX12_has2_3 (k := ?_)
  refine wm_iand hC dX12_has2_4 ?_
  refine wm_iconst hC dX12_has2_5 (k := ?_)
  refine wm_icmp_ne (tgt := 13) hC dX12_has2_6 (by decide) hw (fun hw => ?_) (fun hw => ?_)
  · refine wm_iconst hC dX12_has2_9 (k := ?_)
    refine wm_goto (tgt := 14) hC dX12_has2_10 (by decide) ?_
    exact wm_zreturn hC hE (Or.inr rfl) dX12_has2_14 ⟨⟨rfl, rfl, rfl⟩, hw⟩
  · refine wm_iconst hC dX12_has2_13 (k := ?_)
    exact wm_zreturn hC hE (Or.inl rfl) dX12_has2_14 ⟨⟨rfl, rfl, rfl⟩, hw⟩
def P12_fresh_b96 (l0 : Nat) (I : mI) (J : mI) (R : mR) (Q : Int → mI → mI → Prop) : Prop := (if (I l0 8) = 0 then (P12_ahead l0 I J R (fun I4 J1 => (Q (J l0 7) I4 J1))) else (Q (J l0 7) I J))
set_option maxRecDepth 20000 in
theorem W12_fresh_b96 {C : wX} {ad : Nat → Nat} {n : Nat} {I J : mI} {R : mR} {Q : Int → mI → mI → Prop} (hC : wOK C cX12_fresh 3 RX12) (hRm : wRm C 3 57 0 0) (hE : wEnd C (some .long) ad n (fun r I' J' R' => (R' = R) ∧ Q r I' J')) {l0 : Nat}   (hk0 : kK l0 = 12)  (hw : P12_fresh_b96 l0 I J R Q) : WM C ad n I J R 0 0 96 [(0, vr l0)] [] := by
  unfold P12_fresh_b96 at hw
  refine wm_aload_n hC 0 dX12_fresh_96 rfl (k_ne0 hk0 (by decide)) ?_
  refine x_getJ hC 7 fl_X12_32 rfl hk0 dX12_fresh_97 ?_
  refine wm_lstore_n hC dX12_fresh_100 (by decide) (L2 := [(1, vl (J l0 7)), (0, vr l0)]) rfl ?_
  refine wm_aload_n hC 1 dX12_fresh_101 rfl (k_ne0 hk0 (by decide)) ?_
  refine x_getI hC 8 fl_X12_36 rfl hk0 dX12_fresh_102 ?_
  refine wm_if_ne (tgt := 112) hC dX12_fresh_105 (by decide) hw (fun hw => ?_) (fun hw => ?_)
  · refine wm_aload_n hC 1 dX12_fresh_108 rfl (k_ne0 hk0 (by decide)) ?_
    refine y_callV_v_IJ hC hRm noS ml_X12_247 hk0 (C12_ahead hk0 hw) (Nat.le_of_ble_eq_true rfl) (Nat.le_of_ble_eq_true rfl) ⟨Nat.zero_le _, Nat.zero_le _⟩ rfl (st := []) rfl (Nat.le_of_ble_eq_true rfl) dX12_fresh_109 (fun I4 J1 hw => ?_)
    refine wm_lload_n hC 0 dX12_fresh_112 rfl ?_
    exact wm_lreturn hC hE dX12_fresh_113 ⟨rfl, hw⟩
  · refine wm_lload_n hC 0 dX12_fresh_112 rfl ?_
    exact wm_lreturn hC hE dX12_fresh_113 ⟨rfl, hw⟩
def P12_fresh_b87 (l0 : Nat) (I : mI) (J : mI) (R : mR) (Q : Int → mI → mI → Prop) : Prop := (P12_blame l0 2 (I l0 4) I (fun I3 => (P12_fresh_b96 l0 I3 J R Q)))
set_option maxRecDepth 20000 in
theorem W12_fresh_b87 {C : wX} {ad : Nat → Nat} {n : Nat} {I J : mI} {R : mR} {Q : Int → mI → mI → Prop} (hC : wOK C cX12_fresh 3 RX12) (hRm : wRm C 3 57 0 0) (hE : wEnd C (some .long) ad n (fun r I' J' R' => (R' = R) ∧ Q r I' J')) {l0 : Nat}   (hk0 : kK l0 = 12)  (hw : P12_fresh_b87 l0 I J R Q) : WM C ad n I J R 0 0 87 [(0, vr l0)] [] := by
  unfold P12_fresh_b87 at hw
  refine wm_aload_n hC 0 dX12_fresh_87 rfl (k_ne0 hk0 (by decide)) ?_
  refine wm_iconst hC dX12_fresh_88 (k := ?_)
  refine wm_aload_n hC 0 dX12_fresh_89 rfl (k_ne0 hk0 (by decide)) ?_
  refine x_getI hC 4 fl_X12_23 rfl hk0 dX12_fresh_90 ?_
  refine y_callV_v_I hC hRm noS ml_X12_230 hk0 (C12_blame hk0 hw) (Nat.le_of_ble_eq_true rfl) (Nat.le_of_ble_eq_true rfl) ⟨Nat.zero_le _, Nat.zero_le _⟩ rfl (st := []) rfl (Nat.le_of_ble_eq_true rfl) dX12_fresh_93 (fun I3 hw => ?_)
  exact W12_fresh_b96 hC hRm hE hk0 hw
def P12_fresh_b41 (l0 : Nat) (I : mI) (J : mI) (R : mR) (Q : Int → mI → mI → Prop) : Prop := (if (I l0 8) = 0 then (P12_named l0 0 (J l0 7) I J R (fun r2 => (if r2 = (-1) then (P12_named l0 1 (J l0 7) I J R (fun r3 => (if r3 = (-1) then (P12_named l0 2 (J l0 7) I J R (fun r4 => (if r4 = (-1) then (P12_fresh_b96 l0 I J R Q) else (P12_fresh_b87 l0 I J R Q)))) else (P12_fresh_b87 l0 I J R Q)))) else (P12_fresh_b87 l0 I J R Q)))) else (P12_fresh_b96 l0 I J R Q))
set_option maxRecDepth 20000 in
theorem W12_fresh_b41 {C : wX} {ad : Nat → Nat} {n : Nat} {I J : mI} {R : mR} {Q : Int → mI → mI → Prop} (hC : wOK C cX12_fresh 3 RX12) (hRm : wRm C 3 57 0 0) (hE : wEnd C (some .long) ad n (fun r I' J' R' => (R' = R) ∧ Q r I' J')) {l0 : Nat}   (hk0 : kK l0 = 12)  (hw : P12_fresh_b41 l0 I J R Q) : WM C ad n I J R 0 0 41 [(0, vr l0)] [] := by
  unfold P12_fresh_b41 at hw
  refine wm_aload_n hC 0 dX12_fresh_41 rfl (k_ne0 hk0 (by decide)) ?_
  refine x_getI hC 8 fl_X12_36 rfl hk0 dX12_fresh_42 ?_
  refine wm_if_ne (tgt := 96) hC dX12_fresh_45 (by decide) hw (fun hw => ?_) (fun hw => ?_)
  · refine wm_aload_n hC 0 dX12_fresh_48 rfl (k_ne0 hk0 (by decide)) ?_
    refine wm_iconst hC dX12_fresh_49 (k := ?_)
    refine wm_aload_n hC 0 dX12_fresh_50 rfl (k_ne0 hk0 (by decide)) ?_
    refine x_getJ hC 7 fl_X12_32 rfl hk0 dX12_fresh_51 ?_
    refine y_callV_i_n hC hRm noS ml_X12_347 hk0 (C12_named hk0 hw) (Nat.le_of_ble_eq_true rfl) (Nat.le_of_ble_eq_true rfl) ⟨Nat.zero_le _, Nat.zero_le _⟩ rfl (st := []) rfl (Nat.le_of_ble_eq_true rfl) dX12_fresh_54 (fun r2 hw => ?_)
    refine wm_iconst hC dX12_fresh_57 (k := ?_)
    refine wm_icmp_ne (tgt := 87) hC dX12_fresh_58 (by decide) hw (fun hw => ?_) (fun hw => ?_)
    · refine wm_aload_n hC 0 dX12_fresh_61 rfl (k_ne0 hk0 (by decide)) ?_
      refine wm_iconst hC dX12_fresh_62 (k := ?_)
      refine wm_aload_n hC 0 dX12_fresh_63 rfl (k_ne0 hk0 (by decide)) ?_
      refine x_getJ hC 7 fl_X12_32 rfl hk0 dX12_fresh_64 ?_
      refine y_callV_i_n hC hRm noS ml_X12_347 hk0 (C12_named hk0 hw) (Nat.le_of_ble_eq_true rfl) (Nat.le_of_ble_eq_true rfl) ⟨Nat.zero_le _, Nat.zero_le _⟩ rfl (st := []) rfl (Nat.le_of_ble_eq_true rfl) dX12_fresh_67 (fun r3 hw => ?_)
      refine wm_iconst hC dX12_fresh_70 (k := ?_)
      refine wm_icmp_ne (tgt := 87) hC dX12_fresh_71 (by decide) hw (fun hw => ?_) (fun hw => ?_)
      · refine wm_aload_n hC 0 dX12_fresh_74 rfl (k_ne0 hk0 (by decide)) ?_
        refine wm_iconst hC dX12_fresh_75 (k := ?_)
        refine wm_aload_n hC 0 dX12_fresh_76 rfl (k_ne0 hk0 (by decide)) ?_
        refine x_getJ hC 7 fl_X12_32 rfl hk0 dX12_fresh_77 ?_
        refine y_callV_i_n hC hRm noS ml_X12_347 hk0 (C12_named hk0 hw) (Nat.le_of_ble_eq_true rfl) (Nat.le_of_ble_eq_true rfl) ⟨Nat.zero_le _, Nat.zero_le _⟩ rfl (st := []) rfl (Nat.le_of_ble_eq_true rfl) dX12_fresh_80 (fun r4 hw => ?_)
        refine wm_iconst hC dX12_fresh_83 (k := ?_)
        refine wm_icmp_eq (tgt := 96) hC dX12_fresh_84 (by decide) hw (fun hw => ?_) (fun hw => ?_)
        · exact W12_fresh_b96 hC hRm hE hk0 hw
        · exact W12_fresh_b87 hC hRm hE hk0 hw
      · exact W12_fresh_b87 hC hRm hE hk0 hw
    · exact W12_fresh_b87 hC hRm hE hk0 hw
  · exact W12_fresh_b96 hC hRm hE hk0 hw
def P12_fresh_b32 (l0 : Nat) (I : mI) (J : mI) (R : mR) (Q : Int → mI → mI → Prop) : Prop := (P12_blame l0 1 (I l0 4) I (fun I2 => (P12_fresh_b41 l0 I2 J R Q)))
set_option maxRecDepth 20000 in
theorem W12_fresh_b32 {C : wX} {ad : Nat → Nat} {n : Nat} {I J : mI} {R : mR} {Q : Int → mI → mI → Prop} (hC : wOK C cX12_fresh 3 RX12) (hRm : wRm C 3 57 0 0) (hE : wEnd C (some .long) ad n (fun r I' J' R' => (R' = R) ∧ Q r I' J')) {l0 : Nat}   (hk0 : kK l0 = 12)  (hw : P12_fresh_b32 l0 I J R Q) : WM C ad n I J R 0 0 32 [(0, vr l0)] [] := by
  unfold P12_fresh_b32 at hw
  refine wm_aload_n hC 0 dX12_fresh_32 rfl (k_ne0 hk0 (by decide)) ?_
  refine wm_iconst hC dX12_fresh_33 (k := ?_)
  refine wm_aload_n hC 0 dX12_fresh_34 rfl (k_ne0 hk0 (by decide)) ?_
  refine x_getI hC 4 fl_X12_23 rfl hk0 dX12_fresh_35 ?_
  refine y_callV_v_I hC hRm noS ml_X12_230 hk0 (C12_blame hk0 hw) (Nat.le_of_ble_eq_true rfl) (Nat.le_of_ble_eq_true rfl) ⟨Nat.zero_le _, Nat.zero_le _⟩ rfl (st := []) rfl (Nat.le_of_ble_eq_true rfl) dX12_fresh_38 (fun I2 hw => ?_)
  exact W12_fresh_b41 hC hRm hE hk0 hw
def P12_fresh (l0 : Nat) (I : mI) (J : mI) (R : mR) (Q : Int → mI → mI → Prop) : Prop := (P12_lex l0 I (fun I1 => (if (I1 l0 8) ≤ 0 then (if (I1 l0 3) = 1 then (P12_isOwn l0 (J l0 7) (fun r1 => (if r1 = 0 then (P12_fresh_b41 l0 I1 J R Q) else (P12_fresh_b32 l0 I1 J R Q)))) else (P12_fresh_b32 l0 I1 J R Q)) else (Q 0 I1 J))))
set_option maxRecDepth 20000 in
theorem C12_fresh {ad : Nat → Nat} {n : Nat} {I J : mI} {R : mR} {Q : Int → mI → mI → Prop}  {l0 : Nat} (hk0 : kK l0 = 12) (hw : P12_fresh l0 I J R Q) : wMet yX12_fresh cX12_fresh 3 (some .long) 3 57 false ad n I J R [vr l0] (fun r I' J' R' => (R' = R) ∧ Q r I' J') := by
  refine wMet_of (by decide) (Nat.le_of_ble_eq_true rfl) (fun C hC hRm hE hS => ?_)
  refine (show WM C ad n I J R 0 0 0 [(0, vr l0)] [] from ?_)
  unfold P12_fresh at hw
  refine wm_aload_n hC 0 dX12_fresh_0 rfl (k_ne0 hk0 (by decide)) ?_
  refine y_callV_v_I hC hRm noS ml_X12_241 hk0 (C12_lex hk0 hw) (Nat.le_of_ble_eq_true rfl) (Nat.le_of_ble_eq_true rfl) ⟨Nat.zero_le _, Nat.zero_le _⟩ rfl (st := []) rfl (Nat.le_of_ble_eq_true rfl) dX12_fresh_1 (fun I1 hw => ?_)
  refine wm_aload_n hC 0 dX12_fresh_4 rfl (k_ne0 hk0 (by decide)) ?_
  refine x_getI hC 8 fl_X12_36 rfl hk0 dX12_fresh_5 ?_
  refine wm_if_le (tgt := 13) hC dX12_fresh_8 (by decide) hw (fun hw => ?_) (fun hw => ?_)
  · refine wm_aload_n hC 0 dX12_fresh_13 rfl (k_ne0 hk0 (by decide)) ?_
    refine x_getI hC 3 fl_X12_20 rfl hk0 dX12_fresh_14 ?_
    refine wm_iconst hC dX12_fresh_17 (k := ?_)
    refine wm_icmp_ne (tgt := 32) hC dX12_fresh_18 (by decide) hw (fun hw => ?_) (fun hw => ?_)
    · refine wm_aload_n hC 0 dX12_fresh_21 rfl (k_ne0 hk0 (by decide)) ?_
      refine wm_aload_n hC 0 dX12_fresh_22 rfl (k_ne0 hk0 (by decide)) ?_
      refine x_getJ hC 7 fl_X12_32 rfl hk0 dX12_fresh_23 ?_
      refine y_callV_z_n hC hRm noS ml_X12_344 hk0 (C12_isOwn hk0 hw) (Nat.le_of_ble_eq_true rfl) (Nat.le_of_ble_eq_true rfl) ⟨Nat.zero_le _, Nat.zero_le _⟩ rfl (st := []) rfl (Nat.le_of_ble_eq_true rfl) dX12_fresh_26 (fun r1 hw => ?_)
      refine wm_if_eq (tgt := 41) hC dX12_fresh_29 (by decide) hw (fun hw => ?_) (fun hw => ?_)
      · exact W12_fresh_b41 hC hRm hE hk0 hw
      · exact W12_fresh_b32 hC hRm hE hk0 hw
    · exact W12_fresh_b32 hC hRm hE hk0 hw
  · refine wm_lconst hC (x := 0) dX12_fresh_11 (k := ?_)
    exact wm_lreturn hC hE dX12_fresh_12 ⟨rfl, hw⟩
def P12_known_b102 (l0 : Nat) (l3 : Int) (I : mI) (J : mI) (R : mR) (Q : Int → mI → mI → Prop) : Prop := (if (I l0 8) ≤ 0 then (Q l3 I J) else (Q 0 I J))
set_option maxRecDepth 20000 in
theorem W12_known_b102 {C : wX} {ad : Nat → Nat} {n : Nat} {I J : mI} {R : mR} {Q : Int → mI → mI → Prop} (hC : wOK C cX12_known 4 RX12) (hRm : wRm C 3 57 0 0) (hE : wEnd C (some .int) ad n (fun r I' J' R' => (R' = R) ∧ Q r I' J')) {l0 : Nat} {l3 : Int}   (hk0 : kK l0 = 12)  (hw : P12_known_b102 l0 l3 I J R Q) : WM C ad n I J R 0 0 102 [(0, vr l0), (3, vi l3)] [] := by
  unfold P12_known_b102 at hw
  refine wm_aload_n hC 0 dX12_known_102 rfl (k_ne0 hk0 (by decide)) ?_
  refine x_getI hC 8 fl_X12_36 rfl hk0 dX12_known_103 ?_
  refine wm_if_le (tgt := 113) hC dX12_known_106 (by decide) hw (fun hw => ?_) (fun hw => ?_)
  · refine wm_iload_n hC 1 dX12_known_113 rfl ?_
    exact wm_ireturn hC hE dX12_known_114 ⟨rfl, hw⟩
  · refine wm_iconst hC dX12_known_109 (k := ?_)
    refine wm_goto (tgt := 114) hC dX12_known_110 (by decide) ?_
    exact wm_ireturn hC hE dX12_known_114 ⟨rfl, hw⟩
def P12_known_b91 (l0 : Nat) (l3 : Int) (I : mI) (J : mI) (R : mR) (Q : Int → mI → mI → Prop) : Prop := (if (I l0 8) = 0 then (P12_ahead l0 I J R (fun I4 J1 => (P12_known_b102 l0 l3 I4 J1 R Q))) else (P12_known_b102 l0 l3 I J R Q))
set_option maxRecDepth 20000 in
theorem W12_known_b91 {C : wX} {ad : Nat → Nat} {n : Nat} {I J : mI} {R : mR} {Q : Int → mI → mI → Prop} (hC : wOK C cX12_known 4 RX12) (hRm : wRm C 3 57 0 0) (hE : wEnd C (some .int) ad n (fun r I' J' R' => (R' = R) ∧ Q r I' J')) {l0 : Nat} {l3 : Int}   (hk0 : kK l0 = 12)  (hw : P12_known_b91 l0 l3 I J R Q) : WM C ad n I J R 0 0 91 [(0, vr l0), (3, vi l3)] [] := by
  unfold P12_known_b91 at hw
  refine wm_aload_n hC 0 dX12_known_91 rfl (k_ne0 hk0 (by decide)) ?_
  refine x_getI hC 8 fl_X12_36 rfl hk0 dX12_known_92 ?_
  refine wm_if_ne (tgt := 102) hC dX12_known_95 (by decide) hw (fun hw => ?_) (fun hw => ?_)
  · refine wm_aload_n hC 0 dX12_known_98 rfl (k_ne0 hk0 (by decide)) ?_
    refine y_callV_v_IJ hC hRm noS ml_X12_247 hk0 (C12_ahead hk0 hw) (Nat.le_of_ble_eq_true rfl) (Nat.le_of_ble_eq_true rfl) ⟨Nat.zero_le _, Nat.zero_le _⟩ rfl (st := []) rfl (Nat.le_of_ble_eq_true rfl) dX12_known_99 (fun I4 J1 hw => ?_)
    exact W12_known_b102 hC hRm hE hk0 hw
  · exact W12_known_b102 hC hRm hE hk0 hw
def P12_known_b82 (l0 : Nat) (l3 : Int) (I : mI) (J : mI) (R : mR) (Q : Int → mI → mI → Prop) : Prop := (P12_blame l0 3 (I l0 4) I (fun I3 => (P12_known_b91 l0 l3 I3 J R Q)))
set_option maxRecDepth 20000 in
theorem W12_known_b82 {C : wX} {ad : Nat → Nat} {n : Nat} {I J : mI} {R : mR} {Q : Int → mI → mI → Prop} (hC : wOK C cX12_known 4 RX12) (hRm : wRm C 3 57 0 0) (hE : wEnd C (some .int) ad n (fun r I' J' R' => (R' = R) ∧ Q r I' J')) {l0 : Nat} {l3 : Int}   (hk0 : kK l0 = 12)  (hw : P12_known_b82 l0 l3 I J R Q) : WM C ad n I J R 0 0 82 [(0, vr l0), (3, vi l3)] [] := by
  unfold P12_known_b82 at hw
  refine wm_aload_n hC 0 dX12_known_82 rfl (k_ne0 hk0 (by decide)) ?_
  refine wm_iconst hC dX12_known_83 (k := ?_)
  refine wm_aload_n hC 0 dX12_known_84 rfl (k_ne0 hk0 (by decide)) ?_
  refine x_getI hC 4 fl_X12_23 rfl hk0 dX12_known_85 ?_
  refine y_callV_v_I hC hRm noS ml_X12_230 hk0 (C12_blame hk0 hw) (Nat.le_of_ble_eq_true rfl) (Nat.le_of_ble_eq_true rfl) ⟨Nat.zero_le _, Nat.zero_le _⟩ rfl (st := []) rfl (Nat.le_of_ble_eq_true rfl) dX12_known_88 (fun I3 hw => ?_)
  exact W12_known_b91 hC hRm hE hk0 hw
def P12_known_b61 (l0 : Nat) (l2 : Int) (s0 : Int) (I : mI) (J : mI) (R : mR) (Q : Int → mI → mI → Prop) : Prop := (if (I l0 8) = 0 then (if s0 = (-1) then (P12_known_b82 l0 s0 I J R Q) else (P12_has2 l2 s0 (fun r3 => (if r3 = 0 then (P12_known_b91 l0 s0 I J R Q) else (P12_known_b82 l0 s0 I J R Q))))) else (P12_known_b91 l0 s0 I J R Q))
set_option maxRecDepth 20000 in
theorem W12_known_b61 {C : wX} {ad : Nat → Nat} {n : Nat} {I J : mI} {R : mR} {Q : Int → mI → mI → Prop} (hC : wOK C cX12_known 4 RX12) (hRm : wRm C 3 57 0 0) (hE : wEnd C (some .int) ad n (fun r I' J' R' => (R' = R) ∧ Q r I' J')) {l0 : Nat} {l2 : Int} {s0 : Int}   (hk0 : kK l0 = 12)  (hw : P12_known_b61 l0 l2 s0 I J R Q) : WM C ad n I J R 0 0 61 [(0, vr l0), (2, vi l2)] [vi s0] := by
  unfold P12_known_b61 at hw
  refine wm_istore_n hC dX12_known_61 (by decide) (L2 := [(3, vi s0), (0, vr l0), (2, vi l2)]) rfl ?_
  refine wm_aload_n hC 1 dX12_known_62 rfl (k_ne0 hk0 (by decide)) ?_
  refine x_getI hC 8 fl_X12_36 rfl hk0 dX12_known_63 ?_
  refine wm_if_ne (tgt := 91) hC dX12_known_66 (by decide) hw (fun hw => ?_) (fun hw => ?_)
  · refine wm_iload_n hC 0 dX12_known_69 rfl ?_
    refine wm_iconst hC dX12_known_70 (k := ?_)
    refine wm_icmp_eq (tgt := 82) hC dX12_known_71 (by decide) hw (fun hw => ?_) (fun hw => ?_)
    · refine wm_sub [1, 0] (L2 := [(0, vr l0), (3, vi s0)]) rfl ?_
      exact W12_known_b82 hC hRm hE hk0 hw
    · refine wm_iload_n hC 2 dX12_known_74 rfl ?_
      refine wm_iload_n hC 0 dX12_known_75 rfl ?_
      refine y_callS_z_n hC hRm noS ml_X12_351 (C12_has2  hw) (Nat.le_of_ble_eq_true rfl) (Nat.le_of_ble_eq_true rfl) ⟨Nat.zero_le _, Nat.zero_le _⟩ rfl (st := []) rfl (Nat.le_of_ble_eq_true rfl) dX12_known_76 (fun r3 hw => ?_)
      refine wm_if_eq (tgt := 91) hC dX12_known_79 (by decide) hw (fun hw => ?_) (fun hw => ?_)
      · refine wm_sub [1, 0] (L2 := [(0, vr l0), (3, vi s0)]) rfl ?_
        exact W12_known_b91 hC hRm hE hk0 hw
      · refine wm_sub [1, 0] (L2 := [(0, vr l0), (3, vi s0)]) rfl ?_
        exact W12_known_b82 hC hRm hE hk0 hw
  · refine wm_sub [1, 0] (L2 := [(0, vr l0), (3, vi s0)]) rfl ?_
    exact W12_known_b91 hC hRm hE hk0 hw
def P12_known_b41 (l0 : Nat) (l1 : Int) (l2 : Int) (I : mI) (J : mI) (R : mR) (Q : Int → mI → mI → Prop) : Prop := (if (I l0 8) ≤ 0 then (P12_named l0 l1 (J l0 7) I J R (fun r2 => (P12_known_b61 l0 l2 r2 I J R Q))) else (P12_known_b61 l0 l2 0 I J R Q))
set_option maxRecDepth 20000 in
theorem W12_known_b41 {C : wX} {ad : Nat → Nat} {n : Nat} {I J : mI} {R : mR} {Q : Int → mI → mI → Prop} (hC : wOK C cX12_known 4 RX12) (hRm : wRm C 3 57 0 0) (hE : wEnd C (some .int) ad n (fun r I' J' R' => (R' = R) ∧ Q r I' J')) {l0 : Nat} {l1 : Int} {l2 : Int}   (hk0 : kK l0 = 12)  (hw : P12_known_b41 l0 l1 l2 I J R Q) : WM C ad n I J R 0 0 41 [(0, vr l0), (1, vi l1), (2, vi l2)] [] := by
  unfold P12_known_b41 at hw
  refine wm_aload_n hC 0 dX12_known_41 rfl (k_ne0 hk0 (by decide)) ?_
  refine x_getI hC 8 fl_X12_36 rfl hk0 dX12_known_42 ?_
  refine wm_if_le (tgt := 52) hC dX12_known_45 (by decide) hw (fun hw => ?_) (fun hw => ?_)
  · refine wm_aload_n hC 0 dX12_known_52 rfl (k_ne0 hk0 (by decide)) ?_
    refine wm_iload_n hC 1 dX12_known_53 rfl ?_
    refine wm_aload_n hC 0 dX12_known_54 rfl (k_ne0 hk0 (by decide)) ?_
    refine x_getJ hC 7 fl_X12_32 rfl hk0 dX12_known_55 ?_
    refine y_callV_i_n hC hRm noS ml_X12_347 hk0 (C12_named hk0 hw) (Nat.le_of_ble_eq_true rfl) (Nat.le_of_ble_eq_true rfl) ⟨Nat.zero_le _, Nat.zero_le _⟩ rfl (st := []) rfl (Nat.le_of_ble_eq_true rfl) dX12_known_58 (fun r2 hw => ?_)
    refine wm_sub [0, 2] (L2 := [(0, vr l0), (2, vi l2)]) rfl ?_
    exact W12_known_b61 hC hRm hE hk0 hw
  · refine wm_iconst hC dX12_known_48 (k := ?_)
    refine wm_goto (tgt := 61) hC dX12_known_49 (by decide) ?_
    refine wm_sub [0, 2] (L2 := [(0, vr l0), (2, vi l2)]) rfl ?_
    exact W12_known_b61 hC hRm hE hk0 hw
def P12_known_b32 (l0 : Nat) (l1 : Int) (l2 : Int) (I : mI) (J : mI) (R : mR) (Q : Int → mI → mI → Prop) : Prop := (P12_blame l0 1 (I l0 4) I (fun I2 => (P12_known_b41 l0 l1 l2 I2 J R Q)))
set_option maxRecDepth 20000 in
theorem W12_known_b32 {C : wX} {ad : Nat → Nat} {n : Nat} {I J : mI} {R : mR} {Q : Int → mI → mI → Prop} (hC : wOK C cX12_known 4 RX12) (hRm : wRm C 3 57 0 0) (hE : wEnd C (some .int) ad n (fun r I' J' R' => (R' = R) ∧ Q r I' J')) {l0 : Nat} {l1 : Int} {l2 : Int}   (hk0 : kK l0 = 12)  (hw : P12_known_b32 l0 l1 l2 I J R Q) : WM C ad n I J R 0 0 32 [(0, vr l0), (1, vi l1), (2, vi l2)] [] := by
  unfold P12_known_b32 at hw
  refine wm_aload_n hC 0 dX12_known_32 rfl (k_ne0 hk0 (by decide)) ?_
  refine wm_iconst hC dX12_known_33 (k := ?_)
  refine wm_aload_n hC 0 dX12_known_34 rfl (k_ne0 hk0 (by decide)) ?_
  refine x_getI hC 4 fl_X12_23 rfl hk0 dX12_known_35 ?_
  refine y_callV_v_I hC hRm noS ml_X12_230 hk0 (C12_blame hk0 hw) (Nat.le_of_ble_eq_true rfl) (Nat.le_of_ble_eq_true rfl) ⟨Nat.zero_le _, Nat.zero_le _⟩ rfl (st := []) rfl (Nat.le_of_ble_eq_true rfl) dX12_known_38 (fun I2 hw => ?_)
  exact W12_known_b41 hC hRm hE hk0 hw
def P12_known (l0 : Nat) (l1 : Int) (l2 : Int) (I : mI) (J : mI) (R : mR) (Q : Int → mI → mI → Prop) : Prop := (P12_lex l0 I (fun I1 => (if (I1 l0 8) ≤ 0 then (if (I1 l0 3) = 1 then (P12_isOwn l0 (J l0 7) (fun r1 => (if r1 = 0 then (P12_known_b41 l0 l1 l2 I1 J R Q) else (P12_known_b32 l0 l1 l2 I1 J R Q)))) else (P12_known_b32 l0 l1 l2 I1 J R Q)) else (Q 0 I1 J))))
set_option maxRecDepth 20000 in
theorem C12_known {ad : Nat → Nat} {n : Nat} {I J : mI} {R : mR} {Q : Int → mI → mI → Prop}  {l0 : Nat} {l1 : Int} {l2 : Int} (hk0 : kK l0 = 12) (hw : P12_known l0 l1 l2 I J R Q) : wMet yX12_known cX12_known 4 (some .int) 3 57 false ad n I J R [vr l0, vi l1, vi l2] (fun r I' J' R' => (R' = R) ∧ Q r I' J') := by
  refine wMet_of (by decide) (Nat.le_of_ble_eq_true rfl) (fun C hC hRm hE hS => ?_)
  refine (show WM C ad n I J R 0 0 0 [(0, vr l0), (1, vi l1), (2, vi l2)] [] from ?_)
  unfold P12_known at hw
  refine wm_aload_n hC 0 dX12_known_0 rfl (k_ne0 hk0 (by decide)) ?_
  refine y_callV_v_I hC hRm noS ml_X12_241 hk0 (C12_lex hk0 hw) (Nat.le_of_ble_eq_true rfl) (Nat.le_of_ble_eq_true rfl) ⟨Nat.zero_le _, Nat.zero_le _⟩ rfl (st := []) rfl (Nat.le_of_ble_eq_true rfl) dX12_known_1 (fun I1 hw => ?_)
  refine wm_aload_n hC 0 dX12_known_4 rfl (k_ne0 hk0 (by decide)) ?_
  refine x_getI hC 8 fl_X12_36 rfl hk0 dX12_known_5 ?_
  refine wm_if_le (tgt := 13) hC dX12_known_8 (by decide) hw (fun hw => ?_) (fun hw => ?_)
  · refine wm_aload_n hC 0 dX12_known_13 rfl (k_ne0 hk0 (by decide)) ?_
    refine x_getI hC 3 fl_X12_20 rfl hk0 dX12_known_14 ?_
    refine wm_iconst hC dX12_known_17 (k := ?_)
    refine wm_icmp_ne (tgt := 32) hC dX12_known_18 (by decide) hw (fun hw => ?_) (fun hw => ?_)
    · refine wm_aload_n hC 0 dX12_known_21 rfl (k_ne0 hk0 (by decide)) ?_
      refine wm_aload_n hC 0 dX12_known_22 rfl (k_ne0 hk0 (by decide)) ?_
      refine x_getJ hC 7 fl_X12_32 rfl hk0 dX12_known_23 ?_
      refine y_callV_z_n hC hRm noS ml_X12_344 hk0 (C12_isOwn hk0 hw) (Nat.le_of_ble_eq_true rfl) (Nat.le_of_ble_eq_true rfl) ⟨Nat.zero_le _, Nat.zero_le _⟩ rfl (st := []) rfl (Nat.le_of_ble_eq_true rfl) dX12_known_26 (fun r1 hw => ?_)
      refine wm_if_eq (tgt := 41) hC dX12_known_29 (by decide) hw (fun hw => ?_) (fun hw => ?_)
      · exact W12_known_b41 hC hRm hE hk0 hw
      · exact W12_known_b32 hC hRm hE hk0 hw
    · exact W12_known_b32 hC hRm hE hk0 hw
  · refine wm_iconst hC dX12_known_11 (k := ?_)
    exact wm_ireturn hC hE dX12_known_12 ⟨rfl, hw⟩
def P12_telling (l0 : Nat) (l1 : Int) (I : mI) (J : mI) (R : mR) (Q : Int → mI → mI → Prop) : Prop := (P12_isCounted l0 0 I J R (fun r1 I1 J1 => (if r1 = 0 then (Q 0 I1 J1) else (P12_number l0 0 l1 I1 J1 R (fun r2 I2 J2 => (Q r2 I2 J2))))))
set_option maxRecDepth 20000 in
theorem C12_telling {ad : Nat → Nat} {n : Nat} {I J : mI} {R : mR} {Q : Int → mI → mI → Prop}  {l0 : Nat} {l1 : Int} (hk0 : kK l0 = 12) (hw : P12_telling l0 l1 I J R Q) : wMet yX12_telling cX12_telling 2 (some .int) 4 80 false ad n I J R [vr l0, vi l1] (fun r I' J' R' => (R' = R) ∧ Q r I' J') := by
  refine wMet_of (by decide) (Nat.le_of_ble_eq_true rfl) (fun C hC hRm hE hS => ?_)
  refine (show WM C ad n I J R 0 0 0 [(0, vr l0), (1, vi l1)] [] from ?_)
  unfold P12_telling at hw
  refine wm_aload_n hC 0 dX12_telling_0 rfl (k_ne0 hk0 (by decide)) ?_
  refine wm_iconst hC dX12_telling_1 (k := ?_)
  refine y_callV_z_IJ hC hRm noS ml_X12_355 hk0 (C12_isCounted hk0 hw) (Nat.le_of_ble_eq_true rfl) (Nat.le_of_ble_eq_true rfl) ⟨Nat.zero_le _, Nat.zero_le _⟩ rfl (st := []) rfl (Nat.le_of_ble_eq_true rfl) dX12_telling_2 (fun r1 I1 J1 hw => ?_)
  refine wm_if_ne (tgt := 10) hC dX12_telling_5 (by decide) hw (fun hw => ?_) (fun hw => ?_)
  · refine wm_iconst hC dX12_telling_8 (k := ?_)
    exact wm_ireturn hC hE dX12_telling_9 ⟨rfl, hw⟩
  · refine wm_aload_n hC 0 dX12_telling_10 rfl (k_ne0 hk0 (by decide)) ?_
    refine wm_iconst hC dX12_telling_11 (k := ?_)
    refine wm_iload_n hC 1 dX12_telling_12 rfl ?_
    refine y_callV_i_IJ hC hRm noS ml_X12_359 hk0 (C12_number hk0 hw) (Nat.le_of_ble_eq_true rfl) (Nat.le_of_ble_eq_true rfl) ⟨Nat.zero_le _, Nat.zero_le _⟩ rfl (st := []) rfl (Nat.le_of_ble_eq_true rfl) dX12_telling_13 (fun r2 I2 J2 hw => ?_)
    exact wm_ireturn hC hE dX12_telling_16 ⟨rfl, hw⟩
def P12_shapes (l0 : Nat) (l1 : Int) (l2 : Int) (l3 : Int) (l4 : Int) (I : mI) (Q : mI → Prop) : Prop := (((0 : Int) ≤ l1 ∧ l1 < (kN l0 : Int)) ∧ wLet (up I l0 l1 l2) (fun I1 => (rg (l1 + 1) ∧ (((0 : Int) ≤ (l1 + 1) ∧ (l1 + 1) < (kN l0 : Int)) ∧ wLet (up I1 l0 (l1 + 1) l3) (fun I2 => (rg (l1 + 2) ∧ (((0 : Int) ≤ (l1 + 2) ∧ (l1 + 2) < (kN l0 : Int)) ∧ wLet (up I2 l0 (l1 + 2) l4) (fun I3 => (Q I3)))))))))
set_option maxRecDepth 20000 in
theorem C12_shapes {ad : Nat → Nat} {n : Nat} {I J : mI} {R : mR} {Q : mI → Prop}  {l0 : Nat} {l1 : Int} {l2 : Int} {l3 : Int} {l4 : Int} (hk0 : kK l0 = 21) (hw : P12_shapes l0 l1 l2 l3 l4 I Q) : wMet yX12_shapes cX12_shapes 5 none 1 12 false ad n I J R [vr l0, vi l1, vi l2, vi l3, vi l4] (fun _ I' J' R' => (J' = J ∧ R' = R) ∧ Q I') := by
  refine wMet_of (by decide) (Nat.le_of_ble_eq_true rfl) (fun C hC hRm hE hS => ?_)
  refine (show WM C ad n I J R 0 0 0 [(0, vr l0), (1, vi l1), (2, vi l2), (3, vi l3), (4, vi l4)] [] from ?_)
  unfold P12_shapes at hw
  refine wm_aload_n hC 0 dX12_shapes_0 rfl (k_ne0 hk0 (by decide)) ?_
  refine wm_iload_n hC 1 dX12_shapes_1 rfl ?_
  refine wm_iload_n hC 2 dX12_shapes_2 rfl ?_
  refine x_iast hC hk0 dX12_shapes_3 hw (fun I1 hw => ?_)
  refine wm_aload_n hC 0 dX12_shapes_4 rfl (k_ne0 hk0 (by decide)) ?_
  refine wm_iload_n hC 1 dX12_shapes_5 rfl ?_
  refine wm_iconst hC dX12_shapes_6 (k := ?_)
  refine x_iadd hC dX12_shapes_7 hw (fun hw => ?_)
  refine wm_iload_n hC 3 dX12_shapes_8 rfl ?_
  refine x_iast hC hk0 dX12_shapes_9 hw (fun I2 hw => ?_)
  refine wm_aload_n hC 0 dX12_shapes_10 rfl (k_ne0 hk0 (by decide)) ?_
  refine wm_iload_n hC 1 dX12_shapes_11 rfl ?_
  refine wm_iconst hC dX12_shapes_12 (k := ?_)
  refine x_iadd hC dX12_shapes_13 hw (fun hw => ?_)
  refine wm_iload hC 4 dX12_shapes_14 rfl ?_
  refine x_iast hC hk0 dX12_shapes_16 hw (fun I3 hw => ?_)
  exact wm_return hC hE dX12_shapes_17 ⟨⟨rfl, rfl⟩, hw⟩
def P12_isShaped_b16 (l0 : Nat) (l1 : Int) (s0 : Nat) (s1 : Int) (I : mI) (J : mI) (R : mR) (Q : Int → mI → mI → Prop) : Prop := (P12_isCounted s0 s1 I J R (fun r2 I1 J1 => (if r2 = 0 then (Q 0 I1 J1) else (P12_manyOf l0 l1 I1 R (fun r3 => (P12_fresh l0 I1 J1 R (fun r4 I2 J2 => (P12_mustWord l0 2002874989 I2 J2 R (fun I3 J3 => (P12_number l0 0 9 I3 J3 R (fun r5 I4 J4 => (P12_mustWord l0 1819243876 I4 J4 R (fun I5 J5 => (P12_number l0 0 9 I5 J5 R (fun r6 I6 J6 => (P12_mustWord l0 1684366704 I6 J6 R (fun I7 J7 => (P12_number l0 0 9 I7 J7 R (fun r7 I8 J8 => (if (I8 l0 8) ≤ 0 then (rg (18 * (I8 l0 32)) ∧ (rg (3 * r3) ∧ (rg ((18 * (I8 l0 32)) + (3 * r3)) ∧ (wLet ((18 * (I8 l0 32)) + (3 * r3)) (fun x1 => (kK (R l0 30) = 22 ∧ (rg (18 * (I8 l0 32)) ∧ (rg (6 * l1) ∧ (rg ((18 * (I8 l0 32)) + (6 * l1)) ∧ (rg (((18 * (I8 l0 32)) + (6 * l1)) + r3) ∧ (((0 : Int) ≤ (((18 * (I8 l0 32)) + (6 * l1)) + r3) ∧ (((18 * (I8 l0 32)) + (6 * l1)) + r3) < (kN (R l0 30) : Int)) ∧ wLet (up J8 (R l0 30) (((18 * (I8 l0 32)) + (6 * l1)) + r3) r4) (fun J9 => (if l1 = 0 then (kK (R l0 15) = 21 ∧ (P12_shapes (R l0 15) x1 r5 r6 r7 I8 (fun I11 => (Q 1 I11 J9)))) else (if l1 = 1 then (kK (R l0 18) = 21 ∧ (P12_shapes (R l0 18) x1 r5 r6 r7 I8 (fun I10 => (Q 1 I10 J9)))) else (kK (R l0 21) = 21 ∧ (P12_shapes (R l0 21) x1 r5 r6 r7 I8 (fun I9 => (Q 1 I9 J9)))))))))))))))))) else (Q 0 I8 J8)))))))))))))))))))))
set_option maxRecDepth 20000 in
theorem W12_isShaped_b16 {C : wX} {ad : Nat → Nat} {n : Nat} {I J : mI} {R : mR} {Q : Int → mI → mI → Prop} (hC : wOK C cX12_isShaped 9 RX12) (hRm : wRm C 4 80 0 0) (hE : wEnd C (some .boolean) ad n (fun r I' J' R' => (R' = R) ∧ Q r I' J')) {l0 : Nat} {l1 : Int} {s0 : Nat} {s1 : Int}   (hk0 : kK l0 = 12) (hs0 : kK s0 = 12)  (hw : P12_isShaped_b16 l0 l1 s0 s1 I J R Q) : WM C ad n I J R 0 0 16 [(0, vr l0), (1, vi l1)] [vi s1, vr s0] := by
  unfold P12_isShaped_b16 at hw
  refine y_callV_z_IJ hC hRm noS ml_X12_355 hs0 (C12_isCounted hs0 hw) (Nat.le_of_ble_eq_true rfl) (Nat.le_of_ble_eq_true rfl) ⟨Nat.zero_le _, Nat.zero_le _⟩ rfl (st := []) rfl (Nat.le_of_ble_eq_true rfl) dX12_isShaped_16 (fun r2 I1 J1 hw => ?_)
  refine wm_if_ne (tgt := 24) hC dX12_isShaped_19 (by decide) hw (fun hw => ?_) (fun hw => ?_)
  · refine wm_iconst hC dX12_isShaped_22 (k := ?_)
    exact wm_zreturn hC hE (Or.inl rfl) dX12_isShaped_23 ⟨rfl, hw⟩
  · refine wm_aload_n hC 0 dX12_isShaped_24 rfl (k_ne0 hk0 (by decide)) ?_
    refine wm_iload_n hC 1 dX12_isShaped_25 rfl ?_
    refine y_callV_i_n hC hRm noS ml_X12_306 hk0 (C12_manyOf hk0 hw) (Nat.le_of_ble_eq_true rfl) (Nat.le_of_ble_eq_true rfl) ⟨Nat.zero_le _, Nat.zero_le _⟩ rfl (st := []) rfl (Nat.le_of_ble_eq_true rfl) dX12_isShaped_26 (fun r3 hw => ?_)
    refine wm_istore_n hC dX12_isShaped_29 (by decide) (L2 := [(2, vi r3), (0, vr l0), (1, vi l1)]) rfl ?_
    refine wm_aload_n hC 1 dX12_isShaped_30 rfl (k_ne0 hk0 (by decide)) ?_
    refine y_callV_l_IJ hC hRm noS ml_X12_363 hk0 (C12_fresh hk0 hw) (Nat.le_of_ble_eq_true rfl) (Nat.le_of_ble_eq_true rfl) ⟨Nat.zero_le _, Nat.zero_le _⟩ rfl (st := []) rfl (Nat.le_of_ble_eq_true rfl) dX12_isShaped_31 (fun r4 I2 J2 hw => ?_)
    refine wm_lstore_n hC dX12_isShaped_34 (by decide) (L2 := [(3, vl r4), (2, vi r3), (0, vr l0), (1, vi l1)]) rfl ?_
    refine wm_aload_n hC 2 dX12_isShaped_35 rfl (k_ne0 hk0 (by decide)) ?_
    refine wm_ldc2 hC (x := 2002874989) tc_X12_252 rfl dX12_isShaped_36 (k := ?_)
    refine y_callV_v_IJ hC hRm noS ml_X12_367 hk0 (C12_mustWord hk0 hw) (Nat.le_of_ble_eq_true rfl) (Nat.le_of_ble_eq_true rfl) ⟨Nat.zero_le _, Nat.zero_le _⟩ rfl (st := []) rfl (Nat.le_of_ble_eq_true rfl) dX12_isShaped_39 (fun I3 J3 hw => ?_)
    refine wm_aload_n hC 2 dX12_isShaped_42 rfl (k_ne0 hk0 (by decide)) ?_
    refine wm_iconst hC dX12_isShaped_43 (k := ?_)
    refine wm_bipush hC dX12_isShaped_44 (k := ?_)
    refine y_callV_i_IJ hC hRm noS ml_X12_359 hk0 (C12_number hk0 hw) (Nat.le_of_ble_eq_true rfl) (Nat.le_of_ble_eq_true rfl) ⟨Nat.zero_le _, Nat.zero_le _⟩ rfl (st := []) rfl (Nat.le_of_ble_eq_true rfl) dX12_isShaped_46 (fun r5 I4 J4 hw => ?_)
    refine wm_istore hC dX12_isShaped_49 (by decide) (L2 := [(5, vi r5), (3, vl r4), (2, vi r3), (0, vr l0), (1, vi l1)]) rfl ?_
    refine wm_aload_n hC 3 dX12_isShaped_51 rfl (k_ne0 hk0 (by decide)) ?_
    refine wm_ldc2 hC (x := 1819243876) tc_X12_254 rfl dX12_isShaped_52 (k := ?_)
    refine y_callV_v_IJ hC hRm noS ml_X12_367 hk0 (C12_mustWord hk0 hw) (Nat.le_of_ble_eq_true rfl) (Nat.le_of_ble_eq_true rfl) ⟨Nat.zero_le _, Nat.zero_le _⟩ rfl (st := []) rfl (Nat.le_of_ble_eq_true rfl) dX12_isShaped_55 (fun I5 J5 hw => ?_)
    refine wm_aload_n hC 3 dX12_isShaped_58 rfl (k_ne0 hk0 (by decide)) ?_
    refine wm_iconst hC dX12_isShaped_59 (k := ?_)
    refine wm_bipush hC dX12_isShaped_60 (k := ?_)
    refine y_callV_i_IJ hC hRm noS ml_X12_359 hk0 (C12_number hk0 hw) (Nat.le_of_ble_eq_true rfl) (Nat.le_of_ble_eq_true rfl) ⟨Nat.zero_le _, Nat.zero_le _⟩ rfl (st := []) rfl (Nat.le_of_ble_eq_true rfl) dX12_isShaped_62 (fun r6 I6 J6 hw => ?_)
    refine wm_istore hC dX12_isShaped_65 (by decide) (L2 := [(6, vi r6), (5, vi r5), (3, vl r4), (2, vi r3), (0, vr l0), (1, vi l1)]) rfl ?_
    refine wm_aload_n hC 4 dX12_isShaped_67 rfl (k_ne0 hk0 (by decide)) ?_
    refine wm_ldc2 hC (x := 1684366704) tc_X12_256 rfl dX12_isShaped_68 (k := ?_)
    refine y_callV_v_IJ hC hRm noS ml_X12_367 hk0 (C12_mustWord hk0 hw) (Nat.le_of_ble_eq_true rfl) (Nat.le_of_ble_eq_true rfl) ⟨Nat.zero_le _, Nat.zero_le _⟩ rfl (st := []) rfl (Nat.le_of_ble_eq_true rfl) dX12_isShaped_71 (fun I7 J7 hw => ?_)
    refine wm_aload_n hC 4 dX12_isShaped_74 rfl (k_ne0 hk0 (by decide)) ?_
    refine wm_iconst hC dX12_isShaped_75 (k := ?_)
    refine wm_bipush hC dX12_isShaped_76 (k := ?_)
    refine y_callV_i_IJ hC hRm noS ml_X12_359 hk0 (C12_number hk0 hw) (Nat.le_of_ble_eq_true rfl) (Nat.le_of_ble_eq_true rfl) ⟨Nat.zero_le _, Nat.zero_le _⟩ rfl (st := []) rfl (Nat.le_of_ble_eq_true rfl) dX12_isShaped_78 (fun r7 I8 J8 hw => ?_)
    refine wm_istore hC dX12_isShaped_81 (by decide) (L2 := [(7, vi r7), (6, vi r6), (5, vi r5), (3, vl r4), (2, vi r3), (0, vr l0), (1, vi l1)]) rfl ?_
    refine wm_aload_n hC 5 dX12_isShaped_83 rfl (k_ne0 hk0 (by decide)) ?_
    refine x_getI hC 8 fl_X12_36 rfl hk0 dX12_isShaped_84 ?_
    refine wm_if_le (tgt := 92) hC dX12_isShaped_87 (by decide) hw (fun hw => ?_) (fun hw => ?_)
    · refine wm_bipush hC dX12_isShaped_92 (k := ?_)
      refine wm_aload_n hC 5 dX12_isShaped_94 rfl (k_ne0 hk0 (by decide)) ?_
      refine x_getI hC 32 fl_X12_109 rfl hk0 dX12_isShaped_95 ?_
      refine x_imul hC dX12_isShaped_98 hw (fun hw => ?_)
      refine wm_iconst hC dX12_isShaped_99 (k := ?_)
      refine wm_iload_n hC 4 dX12_isShaped_100 rfl ?_
      refine x_imul hC dX12_isShaped_101 hw (fun hw => ?_)
      refine x_iadd hC dX12_isShaped_102 hw (fun hw => ?_)
      refine x_nameI hw (fun x1 hw => ?_)
      refine wm_istore hC dX12_isShaped_103 (by decide) (L2 := [(8, vi x1), (7, vi r7), (6, vi r6), (5, vi r5), (3, vl r4), (2, vi r3), (0, vr l0), (1, vi l1)]) rfl ?_
      refine wm_aload_n hC 6 dX12_isShaped_105 rfl (k_ne0 hk0 (by decide)) ?_
      refine x_getR2 hC 30 fl_X12_102 rfl hk0 dX12_isShaped_106 hw (fun g1 hw => ?_)
      refine wm_bipush hC dX12_isShaped_109 (k := ?_)
      refine wm_aload_n hC 6 dX12_isShaped_111 rfl (k_ne0 hk0 (by decide)) ?_
      refine x_getI hC 32 fl_X12_109 rfl hk0 dX12_isShaped_112 ?_
      refine x_imul hC dX12_isShaped_115 hw (fun hw => ?_)
      refine wm_bipush hC dX12_isShaped_116 (k := ?_)
      refine wm_iload_n hC 7 dX12_isShaped_118 rfl ?_
      refine x_imul hC dX12_isShaped_119 hw (fun hw => ?_)
      refine x_iadd hC dX12_isShaped_120 hw (fun hw => ?_)
      refine wm_iload_n hC 5 dX12_isShaped_121 rfl ?_
      refine x_iadd hC dX12_isShaped_122 hw (fun hw => ?_)
      refine wm_lload_n hC 4 dX12_isShaped_123 rfl ?_
      refine x_last hC g1 dX12_isShaped_124 hw (fun J9 hw => ?_)
      refine wm_iload_n hC 7 dX12_isShaped_125 rfl ?_
      refine wm_if_ne (tgt := 147) hC dX12_isShaped_126 (by decide) hw (fun hw => ?_) (fun hw => ?_)
      · refine wm_aload_n hC 6 dX12_isShaped_129 rfl (k_ne0 hk0 (by decide)) ?_
        refine x_getR2 hC 15 fl_X12_57 rfl hk0 dX12_isShaped_130 hw (fun g4 hw => ?_)
        refine wm_iload hC 0 dX12_isShaped_133 rfl ?_
        refine wm_iload hC 3 dX12_isShaped_135 rfl ?_
        refine wm_iload hC 2 dX12_isShaped_137 rfl ?_
        refine wm_iload hC 1 dX12_isShaped_139 rfl ?_
        refine y_callS_v_I hC hRm noS ml_X12_371 (C12_shapes g4 hw) (Nat.le_of_ble_eq_true rfl) (Nat.le_of_ble_eq_true rfl) ⟨Nat.zero_le _, Nat.zero_le _⟩ rfl (st := []) rfl (Nat.le_of_ble_eq_true rfl) dX12_isShaped_141 (fun I11 hw => ?_)
        refine wm_goto (tgt := 185) hC dX12_isShaped_144 (by decide) ?_
        refine wm_iconst hC dX12_isShaped_185 (k := ?_)
        exact wm_zreturn hC hE (Or.inr rfl) dX12_isShaped_186 ⟨rfl, hw⟩
      · refine wm_iload_n hC 7 dX12_isShaped_147 rfl ?_
        refine wm_iconst hC dX12_isShaped_148 (k := ?_)
        refine wm_icmp_ne (tgt := 170) hC dX12_isShaped_149 (by decide) hw (fun hw => ?_) (fun hw => ?_)
        · refine wm_aload_n hC 6 dX12_isShaped_152 rfl (k_ne0 hk0 (by decide)) ?_
          refine x_getR2 hC 18 fl_X12_66 rfl hk0 dX12_isShaped_153 hw (fun g3 hw => ?_)
          refine wm_iload hC 0 dX12_isShaped_156 rfl ?_
          refine wm_iload hC 3 dX12_isShaped_158 rfl ?_
          refine wm_iload hC 2 dX12_isShaped_160 rfl ?_
          refine wm_iload hC 1 dX12_isShaped_162 rfl ?_
          refine y_callS_v_I hC hRm noS ml_X12_371 (C12_shapes g3 hw) (Nat.le_of_ble_eq_true rfl) (Nat.le_of_ble_eq_true rfl) ⟨Nat.zero_le _, Nat.zero_le _⟩ rfl (st := []) rfl (Nat.le_of_ble_eq_true rfl) dX12_isShaped_164 (fun I10 hw => ?_)
          refine wm_goto (tgt := 185) hC dX12_isShaped_167 (by decide) ?_
          refine wm_iconst hC dX12_isShaped_185 (k := ?_)
          exact wm_zreturn hC hE (Or.inr rfl) dX12_isShaped_186 ⟨rfl, hw⟩
        · refine wm_aload_n hC 6 dX12_isShaped_170 rfl (k_ne0 hk0 (by decide)) ?_
          refine x_getR2 hC 21 fl_X12_75 rfl hk0 dX12_isShaped_171 hw (fun g2 hw => ?_)
          refine wm_iload hC 0 dX12_isShaped_174 rfl ?_
          refine wm_iload hC 3 dX12_isShaped_176 rfl ?_
          refine wm_iload hC 2 dX12_isShaped_178 rfl ?_
          refine wm_iload hC 1 dX12_isShaped_180 rfl ?_
          refine y_callS_v_I hC hRm noS ml_X12_371 (C12_shapes g2 hw) (Nat.le_of_ble_eq_true rfl) (Nat.le_of_ble_eq_true rfl) ⟨Nat.zero_le _, Nat.zero_le _⟩ rfl (st := []) rfl (Nat.le_of_ble_eq_true rfl) dX12_isShaped_182 (fun I9 hw => ?_)
          refine wm_iconst hC dX12_isShaped_185 (k := ?_)
          exact wm_zreturn hC hE (Or.inr rfl) dX12_isShaped_186 ⟨rfl, hw⟩
    · refine wm_iconst hC dX12_isShaped_90 (k := ?_)
      exact wm_zreturn hC hE (Or.inl rfl) dX12_isShaped_91 ⟨rfl, hw⟩
def P12_isShaped (l0 : Nat) (l1 : Int) (I : mI) (J : mI) (R : mR) (Q : Int → mI → mI → Prop) : Prop := (P12_manyOf l0 l1 I R (fun r1 => (if r1 = 6 then (P12_isShaped_b16 l0 l1 l0 1 I J R Q) else (P12_isShaped_b16 l0 l1 l0 0 I J R Q))))
set_option maxRecDepth 20000 in
theorem C12_isShaped {ad : Nat → Nat} {n : Nat} {I J : mI} {R : mR} {Q : Int → mI → mI → Prop}  {l0 : Nat} {l1 : Int} (hk0 : kK l0 = 12) (hw : P12_isShaped l0 l1 I J R Q) : wMet yX12_isShaped cX12_isShaped 9 (some .boolean) 4 80 false ad n I J R [vr l0, vi l1] (fun r I' J' R' => (R' = R) ∧ Q r I' J') := by
  refine wMet_of (by decide) (Nat.le_of_ble_eq_true rfl) (fun C hC hRm hE hS => ?_)
  refine (show WM C ad n I J R 0 0 0 [(0, vr l0), (1, vi l1)] [] from ?_)
  unfold P12_isShaped at hw
  refine wm_aload_n hC 0 dX12_isShaped_0 rfl (k_ne0 hk0 (by decide)) ?_
  refine wm_aload_n hC 0 dX12_isShaped_1 rfl (k_ne0 hk0 (by decide)) ?_
  refine wm_iload_n hC 1 dX12_isShaped_2 rfl ?_
  refine y_callV_i_n hC hRm noS ml_X12_306 hk0 (C12_manyOf hk0 hw) (Nat.le_of_ble_eq_true rfl) (Nat.le_of_ble_eq_true rfl) ⟨Nat.zero_le _, Nat.zero_le _⟩ rfl (st := [vr l0]) rfl (Nat.le_of_ble_eq_true rfl) dX12_isShaped_3 (fun r1 hw => ?_)
  refine wm_bipush hC dX12_isShaped_6 (k := ?_)
  refine wm_icmp_ne (tgt := 15) hC dX12_isShaped_8 (by decide) hw (fun hw => ?_) (fun hw => ?_)
  · refine wm_iconst hC dX12_isShaped_11 (k := ?_)
    refine wm_goto (tgt := 16) hC dX12_isShaped_12 (by decide) ?_
    exact W12_isShaped_b16 hC hRm hE hk0 hk0 hw
  · refine wm_iconst hC dX12_isShaped_15 (k := ?_)
    exact W12_isShaped_b16 hC hRm hE hk0 hk0 hw
def P12_blinding (l0 : Nat) (I : mI) (J : mI) (R : mR) (Q : mI → mI → Prop) : Prop := (P12_isShaped l0 0 I J R (fun r1 I1 J1 => (if r1 = 0 then (Q I1 J1) else (kK (R l0 14) = 21 ∧ (((0 : Int) ≤ (I1 l0 32) ∧ (I1 l0 32) < (kN (R l0 14) : Int)) ∧ (rg ((I1 (R l0 14) (I1 l0 32)) + 1) ∧ (((0 : Int) ≤ (I1 l0 32) ∧ (I1 l0 32) < (kN (R l0 14) : Int)) ∧ wLet (up I1 (R l0 14) (I1 l0 32) ((I1 (R l0 14) (I1 l0 32)) + 1)) (fun I2 => (Q I2 J1)))))))))
set_option maxRecDepth 20000 in
theorem C12_blinding {ad : Nat → Nat} {n : Nat} {I J : mI} {R : mR} {Q : mI → mI → Prop}  {l0 : Nat} (hk0 : kK l0 = 12) (hw : P12_blinding l0 I J R Q) : wMet yX12_blinding cX12_blinding 1 none 5 108 false ad n I J R [vr l0] (fun _ I' J' R' => (R' = R) ∧ Q I' J') := by
  refine wMet_of (by decide) (Nat.le_of_ble_eq_true rfl) (fun C hC hRm hE hS => ?_)
  refine (show WM C ad n I J R 0 0 0 [(0, vr l0)] [] from ?_)
  unfold P12_blinding at hw
  refine wm_aload_n hC 0 dX12_blinding_0 rfl (k_ne0 hk0 (by decide)) ?_
  refine wm_iconst hC dX12_blinding_1 (k := ?_)
  refine y_callV_z_IJ hC hRm noS ml_X12_375 hk0 (C12_isShaped hk0 hw) (Nat.le_of_ble_eq_true rfl) (Nat.le_of_ble_eq_true rfl) ⟨Nat.zero_le _, Nat.zero_le _⟩ rfl (st := []) rfl (Nat.le_of_ble_eq_true rfl) dX12_blinding_2 (fun r1 I1 J1 hw => ?_)
  refine wm_if_eq (tgt := 21) hC dX12_blinding_5 (by decide) hw (fun hw => ?_) (fun hw => ?_)
  · exact wm_return hC hE dX12_blinding_21 ⟨rfl, hw⟩
  · refine wm_aload_n hC 0 dX12_blinding_8 rfl (k_ne0 hk0 (by decide)) ?_
    refine x_getR2 hC 14 fl_X12_54 rfl hk0 dX12_blinding_9 hw (fun g1 hw => ?_)
    refine wm_aload_n hC 0 dX12_blinding_12 rfl (k_ne0 hk0 (by decide)) ?_
    refine x_getI hC 32 fl_X12_109 rfl hk0 dX12_blinding_13 ?_
    refine wm_dup2_11 hC dX12_blinding_16 (k := ?_)
    refine x_iald hC g1 dX12_blinding_17 hw (fun hw => ?_)
    refine wm_iconst hC dX12_blinding_18 (k := ?_)
    refine x_iadd hC dX12_blinding_19 hw (fun hw => ?_)
    refine x_iast hC g1 dX12_blinding_20 hw (fun I2 hw => ?_)
    exact wm_return hC hE dX12_blinding_21 ⟨rfl, hw⟩
def P12_colouring (l0 : Nat) (I : mI) (J : mI) (R : mR) (Q : mI → mI → Prop) : Prop := (P12_isShaped l0 1 I J R (fun r1 I1 J1 => (if r1 = 0 then (Q I1 J1) else (P12_mustWord l0 1668248436 I1 J1 R (fun I2 J2 => (kK (R l0 19) = 21 ∧ (rg (6 * (I2 l0 32)) ∧ (kK (R l0 17) = 21 ∧ (((0 : Int) ≤ (I2 l0 32) ∧ (I2 l0 32) < (kN (R l0 17) : Int)) ∧ (rg ((6 * (I2 l0 32)) + (I2 (R l0 17) (I2 l0 32))) ∧ (P12_number l0 0 99 I2 J2 R (fun r2 I3 J3 => (((0 : Int) ≤ ((6 * (I2 l0 32)) + (I2 (R l0 17) (I2 l0 32))) ∧ ((6 * (I2 l0 32)) + (I2 (R l0 17) (I2 l0 32))) < (kN (R l0 19) : Int)) ∧ wLet (up I3 (R l0 19) ((6 * (I2 l0 32)) + (I2 (R l0 17) (I2 l0 32))) r2) (fun I4 => (if (I4 l0 8) = 0 then (kK (R l0 17) = 21 ∧ (((0 : Int) ≤ (I4 l0 32) ∧ (I4 l0 32) < (kN (R l0 17) : Int)) ∧ (rg ((I4 (R l0 17) (I4 l0 32)) + 1) ∧ (((0 : Int) ≤ (I4 l0 32) ∧ (I4 l0 32) < (kN (R l0 17) : Int)) ∧ wLet (up I4 (R l0 17) (I4 l0 32) ((I4 (R l0 17) (I4 l0 32)) + 1)) (fun I5 => (Q I5 J3)))))) else (Q I4 J3))))))))))))))))
set_option maxRecDepth 20000 in
theorem C12_colouring {ad : Nat → Nat} {n : Nat} {I J : mI} {R : mR} {Q : mI → mI → Prop}  {l0 : Nat} (hk0 : kK l0 = 12) (hw : P12_colouring l0 I J R Q) : wMet yX12_colouring cX12_colouring 1 none 5 108 false ad n I J R [vr l0] (fun _ I' J' R' => (R' = R) ∧ Q I' J') := by
  refine wMet_of (by decide) (Nat.le_of_ble_eq_true rfl) (fun C hC hRm hE hS => ?_)
  refine (show WM C ad n I J R 0 0 0 [(0, vr l0)] [] from ?_)
  unfold P12_colouring at hw
  refine wm_aload_n hC 0 dX12_colouring_0 rfl (k_ne0 hk0 (by decide)) ?_
  refine wm_iconst hC dX12_colouring_1 (k := ?_)
  refine y_callV_z_IJ hC hRm noS ml_X12_375 hk0 (C12_isShaped hk0 hw) (Nat.le_of_ble_eq_true rfl) (Nat.le_of_ble_eq_true rfl) ⟨Nat.zero_le _, Nat.zero_le _⟩ rfl (st := []) rfl (Nat.le_of_ble_eq_true rfl) dX12_colouring_2 (fun r1 I1 J1 hw => ?_)
  refine wm_if_ne (tgt := 9) hC dX12_colouring_5 (by decide) hw (fun hw => ?_) (fun hw => ?_)
  · exact wm_return hC hE dX12_colouring_8 ⟨rfl, hw⟩
  · refine wm_aload_n hC 0 dX12_colouring_9 rfl (k_ne0 hk0 (by decide)) ?_
    refine wm_ldc2 hC (x := 1668248436) tc_X12_260 rfl dX12_colouring_10 (k := ?_)
    refine y_callV_v_IJ hC hRm noS ml_X12_367 hk0 (C12_mustWord hk0 hw) (Nat.le_of_ble_eq_true rfl) (Nat.le_of_ble_eq_true rfl) ⟨Nat.zero_le _, Nat.zero_le _⟩ rfl (st := []) rfl (Nat.le_of_ble_eq_true rfl) dX12_colouring_13 (fun I2 J2 hw => ?_)
    refine wm_aload_n hC 0 dX12_colouring_16 rfl (k_ne0 hk0 (by decide)) ?_
    refine x_getR2 hC 19 fl_X12_69 rfl hk0 dX12_colouring_17 hw (fun g1 hw => ?_)
    refine wm_bipush hC dX12_colouring_20 (k := ?_)
    refine wm_aload_n hC 0 dX12_colouring_22 rfl (k_ne0 hk0 (by decide)) ?_
    refine x_getI hC 32 fl_X12_109 rfl hk0 dX12_colouring_23 ?_
    refine x_imul hC dX12_colouring_26 hw (fun hw => ?_)
    refine wm_aload_n hC 0 dX12_colouring_27 rfl (k_ne0 hk0 (by decide)) ?_
    refine x_getR2 hC 17 fl_X12_63 rfl hk0 dX12_colouring_28 hw (fun g2 hw => ?_)
    refine wm_aload_n hC 0 dX12_colouring_31 rfl (k_ne0 hk0 (by decide)) ?_
    refine x_getI hC 32 fl_X12_109 rfl hk0 dX12_colouring_32 ?_
    refine x_iald hC g2 dX12_colouring_35 hw (fun hw => ?_)
    refine x_iadd hC dX12_colouring_36 hw (fun hw => ?_)
    refine wm_aload_n hC 0 dX12_colouring_37 rfl (k_ne0 hk0 (by decide)) ?_
    refine wm_iconst hC dX12_colouring_38 (k := ?_)
    refine wm_bipush hC dX12_colouring_39 (k := ?_)
    refine y_callV_i_IJ hC hRm noS ml_X12_359 hk0 (C12_number hk0 hw) (Nat.le_of_ble_eq_true rfl) (Nat.le_of_ble_eq_true rfl) ⟨Nat.zero_le _, Nat.zero_le _⟩ rfl (st := [vi ((6 * (I2 l0 32)) + (I2 (R l0 17) (I2 l0 32))), vr (R l0 19)]) rfl (Nat.le_of_ble_eq_true rfl) dX12_colouring_41 (fun r2 I3 J3 hw => ?_)
    refine x_iast hC g1 dX12_colouring_44 hw (fun I4 hw => ?_)
    refine wm_aload_n hC 0 dX12_colouring_45 rfl (k_ne0 hk0 (by decide)) ?_
    refine x_getI hC 8 fl_X12_36 rfl hk0 dX12_colouring_46 ?_
    refine wm_if_ne (tgt := 65) hC dX12_colouring_49 (by decide) hw (fun hw => ?_) (fun hw => ?_)
    · refine wm_aload_n hC 0 dX12_colouring_52 rfl (k_ne0 hk0 (by decide)) ?_
      refine x_getR2 hC 17 fl_X12_63 rfl hk0 dX12_colouring_53 hw (fun g3 hw => ?_)
      refine wm_aload_n hC 0 dX12_colouring_56 rfl (k_ne0 hk0 (by decide)) ?_
      refine x_getI hC 32 fl_X12_109 rfl hk0 dX12_colouring_57 ?_
      refine wm_dup2_11 hC dX12_colouring_60 (k := ?_)
      refine x_iald hC g3 dX12_colouring_61 hw (fun hw => ?_)
      refine wm_iconst hC dX12_colouring_62 (k := ?_)
      refine x_iadd hC dX12_colouring_63 hw (fun hw => ?_)
      refine x_iast hC g3 dX12_colouring_64 hw (fun I5 hw => ?_)
      exact wm_return hC hE dX12_colouring_65 ⟨rfl, hw⟩
    · exact wm_return hC hE dX12_colouring_65 ⟨rfl, hw⟩
def P12_thinging (l0 : Nat) (I : mI) (J : mI) (R : mR) (Q : mI → mI → Prop) : Prop := (P12_isShaped l0 2 I J R (fun r1 I1 J1 => (if r1 = 0 then (Q I1 J1) else (kK (R l0 22) = 21 ∧ (rg (6 * (I1 l0 32)) ∧ (kK (R l0 20) = 21 ∧ (((0 : Int) ≤ (I1 l0 32) ∧ (I1 l0 32) < (kN (R l0 20) : Int)) ∧ (rg ((6 * (I1 l0 32)) + (I1 (R l0 20) (I1 l0 32))) ∧ (((0 : Int) ≤ ((6 * (I1 l0 32)) + (I1 (R l0 20) (I1 l0 32))) ∧ ((6 * (I1 l0 32)) + (I1 (R l0 20) (I1 l0 32))) < (kN (R l0 22) : Int)) ∧ wLet (up I1 (R l0 22) ((6 * (I1 l0 32)) + (I1 (R l0 20) (I1 l0 32))) 0) (fun I2 => (kK (R l0 23) = 21 ∧ (rg (6 * (I2 l0 32)) ∧ (kK (R l0 20) = 21 ∧ (((0 : Int) ≤ (I2 l0 32) ∧ (I2 l0 32) < (kN (R l0 20) : Int)) ∧ (rg ((6 * (I2 l0 32)) + (I2 (R l0 20) (I2 l0 32))) ∧ (((0 : Int) ≤ ((6 * (I2 l0 32)) + (I2 (R l0 20) (I2 l0 32))) ∧ ((6 * (I2 l0 32)) + (I2 (R l0 20) (I2 l0 32))) < (kN (R l0 23) : Int)) ∧ wLet (up I2 (R l0 23) ((6 * (I2 l0 32)) + (I2 (R l0 20) (I2 l0 32))) (-1)) (fun I3 => (kK (R l0 20) = 21 ∧ (((0 : Int) ≤ (I3 l0 32) ∧ (I3 l0 32) < (kN (R l0 20) : Int)) ∧ (rg ((I3 (R l0 20) (I3 l0 32)) + 1) ∧ (((0 : Int) ≤ (I3 l0 32) ∧ (I3 l0 32) < (kN (R l0 20) : Int)) ∧ wLet (up I3 (R l0 20) (I3 l0 32) ((I3 (R l0 20) (I3 l0 32)) + 1)) (fun I4 => (Q I4 J1)))))))))))))))))))))))
set_option maxRecDepth 20000 in
theorem C12_thinging {ad : Nat → Nat} {n : Nat} {I J : mI} {R : mR} {Q : mI → mI → Prop}  {l0 : Nat} (hk0 : kK l0 = 12) (hw : P12_thinging l0 I J R Q) : wMet yX12_thinging cX12_thinging 1 none 5 108 false ad n I J R [vr l0] (fun _ I' J' R' => (R' = R) ∧ Q I' J') := by
  refine wMet_of (by decide) (Nat.le_of_ble_eq_true rfl) (fun C hC hRm hE hS => ?_)
  refine (show WM C ad n I J R 0 0 0 [(0, vr l0)] [] from ?_)
  unfold P12_thinging at hw
  refine wm_aload_n hC 0 dX12_thinging_0 rfl (k_ne0 hk0 (by decide)) ?_
  refine wm_iconst hC dX12_thinging_1 (k := ?_)
  refine y_callV_z_IJ hC hRm noS ml_X12_375 hk0 (C12_isShaped hk0 hw) (Nat.le_of_ble_eq_true rfl) (Nat.le_of_ble_eq_true rfl) ⟨Nat.zero_le _, Nat.zero_le _⟩ rfl (st := []) rfl (Nat.le_of_ble_eq_true rfl) dX12_thinging_2 (fun r1 I1 J1 hw => ?_)
  refine wm_if_ne (tgt := 9) hC dX12_thinging_5 (by decide) hw (fun hw => ?_) (fun hw => ?_)
  · exact wm_return hC hE dX12_thinging_8 ⟨rfl, hw⟩
  · refine wm_aload_n hC 0 dX12_thinging_9 rfl (k_ne0 hk0 (by decide)) ?_
    refine x_getR2 hC 22 fl_X12_78 rfl hk0 dX12_thinging_10 hw (fun g1 hw => ?_)
    refine wm_bipush hC dX12_thinging_13 (k := ?_)
    refine wm_aload_n hC 0 dX12_thinging_15 rfl (k_ne0 hk0 (by decide)) ?_
    refine x_getI hC 32 fl_X12_109 rfl hk0 dX12_thinging_16 ?_
    refine x_imul hC dX12_thinging_19 hw (fun hw => ?_)
    refine wm_aload_n hC 0 dX12_thinging_20 rfl (k_ne0 hk0 (by decide)) ?_
    refine x_getR2 hC 20 fl_X12_72 rfl hk0 dX12_thinging_21 hw (fun g2 hw => ?_)
    refine wm_aload_n hC 0 dX12_thinging_24 rfl (k_ne0 hk0 (by decide)) ?_
    refine x_getI hC 32 fl_X12_109 rfl hk0 dX12_thinging_25 ?_
    refine x_iald hC g2 dX12_thinging_28 hw (fun hw => ?_)
    refine x_iadd hC dX12_thinging_29 hw (fun hw => ?_)
    refine wm_iconst hC dX12_thinging_30 (k := ?_)
    refine x_iast hC g1 dX12_thinging_31 hw (fun I2 hw => ?_)
    refine wm_aload_n hC 0 dX12_thinging_32 rfl (k_ne0 hk0 (by decide)) ?_
    refine x_getR2 hC 23 fl_X12_81 rfl hk0 dX12_thinging_33 hw (fun g3 hw => ?_)
    refine wm_bipush hC dX12_thinging_36 (k := ?_)
    refine wm_aload_n hC 0 dX12_thinging_38 rfl (k_ne0 hk0 (by decide)) ?_
    refine x_getI hC 32 fl_X12_109 rfl hk0 dX12_thinging_39 ?_
    refine x_imul hC dX12_thinging_42 hw (fun hw => ?_)
    refine wm_aload_n hC 0 dX12_thinging_43 rfl (k_ne0 hk0 (by decide)) ?_
    refine x_getR2 hC 20 fl_X12_72 rfl hk0 dX12_thinging_44 hw (fun g4 hw => ?_)
    refine wm_aload_n hC 0 dX12_thinging_47 rfl (k_ne0 hk0 (by decide)) ?_
    refine x_getI hC 32 fl_X12_109 rfl hk0 dX12_thinging_48 ?_
    refine x_iald hC g4 dX12_thinging_51 hw (fun hw => ?_)
    refine x_iadd hC dX12_thinging_52 hw (fun hw => ?_)
    refine wm_iconst hC dX12_thinging_53 (k := ?_)
    refine x_iast hC g3 dX12_thinging_54 hw (fun I3 hw => ?_)
    refine wm_aload_n hC 0 dX12_thinging_55 rfl (k_ne0 hk0 (by decide)) ?_
    refine x_getR2 hC 20 fl_X12_72 rfl hk0 dX12_thinging_56 hw (fun g5 hw => ?_)
    refine wm_aload_n hC 0 dX12_thinging_59 rfl (k_ne0 hk0 (by decide)) ?_
    refine x_getI hC 32 fl_X12_109 rfl hk0 dX12_thinging_60 ?_
    refine wm_dup2_11 hC dX12_thinging_63 (k := ?_)
    refine x_iald hC g5 dX12_thinging_64 hw (fun hw => ?_)
    refine wm_iconst hC dX12_thinging_65 (k := ?_)
    refine x_iadd hC dX12_thinging_66 hw (fun hw => ?_)
    refine x_iast hC g5 dX12_thinging_67 hw (fun I4 hw => ?_)
    exact wm_return hC hE dX12_thinging_68 ⟨rfl, hw⟩
def P12_lateness (l0 : Nat) (I : mI) (J : mI) (R : mR) (Q : mI → mI → Prop) : Prop := (P12_isCounted l0 0 I J R (fun r1 I1 J1 => (if r1 = 0 then (Q I1 J1) else (kK (R l0 16) = 21 ∧ (((0 : Int) ≤ (I1 l0 32) ∧ (I1 l0 32) < (kN (R l0 16) : Int)) ∧ (P12_known l0 0 (I1 (R l0 16) (I1 l0 32)) I1 J1 R (fun r2 I2 J2 => (if (I2 l0 8) = 0 then (kK (R l0 16) = 21 ∧ (((0 : Int) ≤ (I2 l0 32) ∧ (I2 l0 32) < (kN (R l0 16) : Int)) ∧ (((0 : Int) ≤ (I2 l0 32) ∧ (I2 l0 32) < (kN (R l0 16) : Int)) ∧ wLet (up I2 (R l0 16) (I2 l0 32) (bOr (I2 (R l0 16) (I2 l0 32)) (bShl 1 r2))) (fun I3 => (Q I3 J2))))) else (Q I2 J2)))))))))
set_option maxRecDepth 20000 in
theorem C12_lateness {ad : Nat → Nat} {n : Nat} {I J : mI} {R : mR} {Q : mI → mI → Prop}  {l0 : Nat} (hk0 : kK l0 = 12) (hw : P12_lateness l0 I J R Q) : wMet yX12_lateness cX12_lateness 2 none 4 80 false ad n I J R [vr l0] (fun _ I' J' R' => (R' = R) ∧ Q I' J') := by
  refine wMet_of (by decide) (Nat.le_of_ble_eq_true rfl) (fun C hC hRm hE hS => ?_)
  refine (show WM C ad n I J R 0 0 0 [(0, vr l0)] [] from ?_)
  unfold P12_lateness at hw
  refine wm_aload_n hC 0 dX12_lateness_0 rfl (k_ne0 hk0 (by decide)) ?_
  refine wm_iconst hC dX12_lateness_1 (k := ?_)
  refine y_callV_z_IJ hC hRm noS ml_X12_355 hk0 (C12_isCounted hk0 hw) (Nat.le_of_ble_eq_true rfl) (Nat.le_of_ble_eq_true rfl) ⟨Nat.zero_le _, Nat.zero_le _⟩ rfl (st := []) rfl (Nat.le_of_ble_eq_true rfl) dX12_lateness_2 (fun r1 I1 J1 hw => ?_)
  refine wm_if_ne (tgt := 9) hC dX12_lateness_5 (by decide) hw (fun hw => ?_) (fun hw => ?_)
  · exact wm_return hC hE dX12_lateness_8 ⟨rfl, hw⟩
  · refine wm_aload_n hC 0 dX12_lateness_9 rfl (k_ne0 hk0 (by decide)) ?_
    refine wm_iconst hC dX12_lateness_10 (k := ?_)
    refine wm_aload_n hC 0 dX12_lateness_11 rfl (k_ne0 hk0 (by decide)) ?_
    refine x_getR2 hC 16 fl_X12_60 rfl hk0 dX12_lateness_12 hw (fun g1 hw => ?_)
    refine wm_aload_n hC 0 dX12_lateness_15 rfl (k_ne0 hk0 (by decide)) ?_
    refine x_getI hC 32 fl_X12_109 rfl hk0 dX12_lateness_16 ?_
    refine x_iald hC g1 dX12_lateness_19 hw (fun hw => ?_)
    refine y_callV_i_IJ hC hRm noS ml_X12_378 hk0 (C12_known hk0 hw) (Nat.le_of_ble_eq_true rfl) (Nat.le_of_ble_eq_true rfl) ⟨Nat.zero_le _, Nat.zero_le _⟩ rfl (st := []) rfl (Nat.le_of_ble_eq_true rfl) dX12_lateness_20 (fun r2 I2 J2 hw => ?_)
    refine wm_istore_n hC dX12_lateness_23 (by decide) (L2 := [(1, vi r2), (0, vr l0)]) rfl ?_
    refine wm_aload_n hC 1 dX12_lateness_24 rfl (k_ne0 hk0 (by decide)) ?_
    refine x_getI hC 8 fl_X12_36 rfl hk0 dX12_lateness_25 ?_
    refine wm_if_ne (tgt := 46) hC dX12_lateness_28 (by decide) hw (fun hw => ?_) (fun hw => ?_)
    · refine wm_aload_n hC 1 dX12_lateness_31 rfl (k_ne0 hk0 (by decide)) ?_
      refine x_getR2 hC 16 fl_X12_60 rfl hk0 dX12_lateness_32 hw (fun g2 hw => ?_)
      refine wm_aload_n hC 1 dX12_lateness_35 rfl (k_ne0 hk0 (by decide)) ?_
      refine x_getI hC 32 fl_X12_109 rfl hk0 dX12_lateness_36 ?_
      refine wm_dup2_11 hC dX12_lateness_39 (k := ?_)
      refine x_iald hC g2 dX12_lateness_40 hw (fun hw => ?_)
      refine wm_iconst hC dX12_lateness_41 (k := ?_)
      refine wm_iload_n hC 0 dX12_lateness_42 rfl ?_
      refine wm_ishl hC dX12_lateness_43 ?_
      refine wm_ior hC dX12_lateness_44 ?_
      refine x_iast hC g2 dX12_lateness_45 hw (fun I3 hw => ?_)
      exact wm_return hC hE dX12_lateness_46 ⟨rfl, hw⟩
    · exact wm_return hC hE dX12_lateness_46 ⟨rfl, hw⟩
def P12_nearing (l0 : Nat) (I : mI) (J : mI) (R : mR) (Q : mI → mI → Prop) : Prop := (P12_isCounted l0 0 I J R (fun r1 I1 J1 => (if r1 = 0 then (Q I1 J1) else (P12_known l0 2 0 I1 J1 R (fun r2 I2 J2 => (if (I2 l0 8) ≤ 0 then (kK (R l0 22) = 21 ∧ (rg (6 * (I2 l0 32)) ∧ (rg ((6 * (I2 l0 32)) + r2) ∧ (((0 : Int) ≤ ((6 * (I2 l0 32)) + r2) ∧ ((6 * (I2 l0 32)) + r2) < (kN (R l0 22) : Int)) ∧ (P12_known l0 2 (bOr (I2 (R l0 22) ((6 * (I2 l0 32)) + r2)) (bShl 1 r2)) I2 J2 R (fun r3 I3 J3 => (if (I3 l0 8) ≤ 0 then (kK (R l0 22) = 21 ∧ (rg (6 * (I3 l0 32)) ∧ (rg ((6 * (I3 l0 32)) + r2) ∧ (((0 : Int) ≤ ((6 * (I3 l0 32)) + r2) ∧ ((6 * (I3 l0 32)) + r2) < (kN (R l0 22) : Int)) ∧ (((0 : Int) ≤ ((6 * (I3 l0 32)) + r2) ∧ ((6 * (I3 l0 32)) + r2) < (kN (R l0 22) : Int)) ∧ wLet (up I3 (R l0 22) ((6 * (I3 l0 32)) + r2) (bOr (I3 (R l0 22) ((6 * (I3 l0 32)) + r2)) (bShl 1 r3))) (fun I4 => (kK (R l0 22) = 21 ∧ (rg (6 * (I4 l0 32)) ∧ (rg ((6 * (I4 l0 32)) + r3) ∧ (((0 : Int) ≤ ((6 * (I4 l0 32)) + r3) ∧ ((6 * (I4 l0 32)) + r3) < (kN (R l0 22) : Int)) ∧ (((0 : Int) ≤ ((6 * (I4 l0 32)) + r3) ∧ ((6 * (I4 l0 32)) + r3) < (kN (R l0 22) : Int)) ∧ wLet (up I4 (R l0 22) ((6 * (I4 l0 32)) + r3) (bOr (I4 (R l0 22) ((6 * (I4 l0 32)) + r3)) (bShl 1 r2))) (fun I5 => (Q I5 J3))))))))))))) else (Q I3 J3)))))))) else (Q I2 J2)))))))
set_option maxRecDepth 20000 in
theorem C12_nearing {ad : Nat → Nat} {n : Nat} {I J : mI} {R : mR} {Q : mI → mI → Prop}  {l0 : Nat} (hk0 : kK l0 = 12) (hw : P12_nearing l0 I J R Q) : wMet yX12_nearing cX12_nearing 3 none 4 80 false ad n I J R [vr l0] (fun _ I' J' R' => (R' = R) ∧ Q I' J') := by
  refine wMet_of (by decide) (Nat.le_of_ble_eq_true rfl) (fun C hC hRm hE hS => ?_)
  refine (show WM C ad n I J R 0 0 0 [(0, vr l0)] [] from ?_)
  unfold P12_nearing at hw
  refine wm_aload_n hC 0 dX12_nearing_0 rfl (k_ne0 hk0 (by decide)) ?_
  refine wm_iconst hC dX12_nearing_1 (k := ?_)
  refine y_callV_z_IJ hC hRm noS ml_X12_355 hk0 (C12_isCounted hk0 hw) (Nat.le_of_ble_eq_true rfl) (Nat.le_of_ble_eq_true rfl) ⟨Nat.zero_le _, Nat.zero_le _⟩ rfl (st := []) rfl (Nat.le_of_ble_eq_true rfl) dX12_nearing_2 (fun r1 I1 J1 hw => ?_)
  refine wm_if_ne (tgt := 9) hC dX12_nearing_5 (by decide) hw (fun hw => ?_) (fun hw => ?_)
  · exact wm_return hC hE dX12_nearing_8 ⟨rfl, hw⟩
  · refine wm_aload_n hC 0 dX12_nearing_9 rfl (k_ne0 hk0 (by decide)) ?_
    refine wm_iconst hC dX12_nearing_10 (k := ?_)
    refine wm_iconst hC dX12_nearing_11 (k := ?_)
    refine y_callV_i_IJ hC hRm noS ml_X12_378 hk0 (C12_known hk0 hw) (Nat.le_of_ble_eq_true rfl) (Nat.le_of_ble_eq_true rfl) ⟨Nat.zero_le _, Nat.zero_le _⟩ rfl (st := []) rfl (Nat.le_of_ble_eq_true rfl) dX12_nearing_12 (fun r2 I2 J2 hw => ?_)
    refine wm_istore_n hC dX12_nearing_15 (by decide) (L2 := [(1, vi r2), (0, vr l0)]) rfl ?_
    refine wm_aload_n hC 1 dX12_nearing_16 rfl (k_ne0 hk0 (by decide)) ?_
    refine x_getI hC 8 fl_X12_36 rfl hk0 dX12_nearing_17 ?_
    refine wm_if_le (tgt := 24) hC dX12_nearing_20 (by decide) hw (fun hw => ?_) (fun hw => ?_)
    · refine wm_aload_n hC 1 dX12_nearing_24 rfl (k_ne0 hk0 (by decide)) ?_
      refine wm_iconst hC dX12_nearing_25 (k := ?_)
      refine wm_aload_n hC 1 dX12_nearing_26 rfl (k_ne0 hk0 (by decide)) ?_
      refine x_getR2 hC 22 fl_X12_78 rfl hk0 dX12_nearing_27 hw (fun g1 hw => ?_)
      refine wm_bipush hC dX12_nearing_30 (k := ?_)
      refine wm_aload_n hC 1 dX12_nearing_32 rfl (k_ne0 hk0 (by decide)) ?_
      refine x_getI hC 32 fl_X12_109 rfl hk0 dX12_nearing_33 ?_
      refine x_imul hC dX12_nearing_36 hw (fun hw => ?_)
      refine wm_iload_n hC 0 dX12_nearing_37 rfl ?_
      refine x_iadd hC dX12_nearing_38 hw (fun hw => ?_)
      refine x_iald hC g1 dX12_nearing_39 hw (fun hw => ?_)
      refine wm_iconst hC dX12_nearing_40 (k := ?_)
      refine wm_iload_n hC 0 dX12_nearing_41 rfl ?_
      refine wm_ishl hC dX12_nearing_42 ?_
      refine wm_ior hC dX12_nearing_43 ?_
      refine y_callV_i_IJ hC hRm noS ml_X12_378 hk0 (C12_known hk0 hw) (Nat.le_of_ble_eq_true rfl) (Nat.le_of_ble_eq_true rfl) ⟨Nat.zero_le _, Nat.zero_le _⟩ rfl (st := []) rfl (Nat.le_of_ble_eq_true rfl) dX12_nearing_44 (fun r3 I3 J3 hw => ?_)
      refine wm_istore_n hC dX12_nearing_47 (by decide) (L2 := [(2, vi r3), (1, vi r2), (0, vr l0)]) rfl ?_
      refine wm_aload_n hC 2 dX12_nearing_48 rfl (k_ne0 hk0 (by decide)) ?_
      refine x_getI hC 8 fl_X12_36 rfl hk0 dX12_nearing_49 ?_
      refine wm_if_le (tgt := 56) hC dX12_nearing_52 (by decide) hw (fun hw => ?_) (fun hw => ?_)
      · refine wm_aload_n hC 2 dX12_nearing_56 rfl (k_ne0 hk0 (by decide)) ?_
        refine x_getR2 hC 22 fl_X12_78 rfl hk0 dX12_nearing_57 hw (fun g2 hw => ?_)
        refine wm_bipush hC dX12_nearing_60 (k := ?_)
        refine wm_aload_n hC 2 dX12_nearing_62 rfl (k_ne0 hk0 (by decide)) ?_
        refine x_getI hC 32 fl_X12_109 rfl hk0 dX12_nearing_63 ?_
        refine x_imul hC dX12_nearing_66 hw (fun hw => ?_)
        refine wm_iload_n hC 1 dX12_nearing_67 rfl ?_
        refine x_iadd hC dX12_nearing_68 hw (fun hw => ?_)
        refine wm_dup2_11 hC dX12_nearing_69 (k := ?_)
        refine x_iald hC g2 dX12_nearing_70 hw (fun hw => ?_)
        refine wm_iconst hC dX12_nearing_71 (k := ?_)
        refine wm_iload_n hC 0 dX12_nearing_72 rfl ?_
        refine wm_ishl hC dX12_nearing_73 ?_
        refine wm_ior hC dX12_nearing_74 ?_
        refine x_iast hC g2 dX12_nearing_75 hw (fun I4 hw => ?_)
        refine wm_aload_n hC 2 dX12_nearing_76 rfl (k_ne0 hk0 (by decide)) ?_
        refine x_getR2 hC 22 fl_X12_78 rfl hk0 dX12_nearing_77 hw (fun g3 hw => ?_)
        refine wm_bipush hC dX12_nearing_80 (k := ?_)
        refine wm_aload_n hC 2 dX12_nearing_82 rfl (k_ne0 hk0 (by decide)) ?_
        refine x_getI hC 32 fl_X12_109 rfl hk0 dX12_nearing_83 ?_
        refine x_imul hC dX12_nearing_86 hw (fun hw => ?_)
        refine wm_iload_n hC 0 dX12_nearing_87 rfl ?_
        refine x_iadd hC dX12_nearing_88 hw (fun hw => ?_)
        refine wm_dup2_11 hC dX12_nearing_89 (k := ?_)
        refine x_iald hC g3 dX12_nearing_90 hw (fun hw => ?_)
        refine wm_iconst hC dX12_nearing_91 (k := ?_)
        refine wm_iload_n hC 1 dX12_nearing_92 rfl ?_
        refine wm_ishl hC dX12_nearing_93 ?_
        refine wm_ior hC dX12_nearing_94 ?_
        refine x_iast hC g3 dX12_nearing_95 hw (fun I5 hw => ?_)
        exact wm_return hC hE dX12_nearing_96 ⟨rfl, hw⟩
      · exact wm_return hC hE dX12_nearing_55 ⟨rfl, hw⟩
    · exact wm_return hC hE dX12_nearing_23 ⟨rfl, hw⟩
def P12_wearing (l0 : Nat) (I : mI) (J : mI) (R : mR) (Q : mI → mI → Prop) : Prop := (P12_isCounted l0 0 I J R (fun r1 I1 J1 => (if r1 = 0 then (Q I1 J1) else (P12_known l0 2 0 I1 J1 R (fun r2 I2 J2 => (P12_known l0 1 0 I2 J2 R (fun r3 I3 J3 => (if (I3 l0 8) = 0 then (kK (R l0 23) = 21 ∧ (rg (6 * (I3 l0 32)) ∧ (rg ((6 * (I3 l0 32)) + r2) ∧ (((0 : Int) ≤ ((6 * (I3 l0 32)) + r2) ∧ ((6 * (I3 l0 32)) + r2) < (kN (R l0 23) : Int)) ∧ wLet (up I3 (R l0 23) ((6 * (I3 l0 32)) + r2) r3) (fun I4 => (Q I4 J3)))))) else (Q I3 J3)))))))))
set_option maxRecDepth 20000 in
theorem C12_wearing {ad : Nat → Nat} {n : Nat} {I J : mI} {R : mR} {Q : mI → mI → Prop}  {l0 : Nat} (hk0 : kK l0 = 12) (hw : P12_wearing l0 I J R Q) : wMet yX12_wearing cX12_wearing 3 none 4 80 false ad n I J R [vr l0] (fun _ I' J' R' => (R' = R) ∧ Q I' J') := by
  refine wMet_of (by decide) (Nat.le_of_ble_eq_true rfl) (fun C hC hRm hE hS => ?_)
  refine (show WM C ad n I J R 0 0 0 [(0, vr l0)] [] from ?_)
  unfold P12_wearing at hw
  refine wm_aload_n hC 0 dX12_wearing_0 rfl (k_ne0 hk0 (by decide)) ?_
  refine wm_iconst hC dX12_wearing_1 (k := ?_)
  refine y_callV_z_IJ hC hRm noS ml_X12_355 hk0 (C12_isCounted hk0 hw) (Nat.le_of_ble_eq_true rfl) (Nat.le_of_ble_eq_true rfl) ⟨Nat.zero_le _, Nat.zero_le _⟩ rfl (st := []) rfl (Nat.le_of_ble_eq_true rfl) dX12_wearing_2 (fun r1 I1 J1 hw => ?_)
  refine wm_if_ne (tgt := 9) hC dX12_wearing_5 (by decide) hw (fun hw => ?_) (fun hw => ?_)
  · exact wm_return hC hE dX12_wearing_8 ⟨rfl, hw⟩
  · refine wm_aload_n hC 0 dX12_wearing_9 rfl (k_ne0 hk0 (by decide)) ?_
    refine wm_iconst hC dX12_wearing_10 (k := ?_)
    refine wm_iconst hC dX12_wearing_11 (k := ?_)
    refine y_callV_i_IJ hC hRm noS ml_X12_378 hk0 (C12_known hk0 hw) (Nat.le_of_ble_eq_true rfl) (Nat.le_of_ble_eq_true rfl) ⟨Nat.zero_le _, Nat.zero_le _⟩ rfl (st := []) rfl (Nat.le_of_ble_eq_true rfl) dX12_wearing_12 (fun r2 I2 J2 hw => ?_)
    refine wm_istore_n hC dX12_wearing_15 (by decide) (L2 := [(1, vi r2), (0, vr l0)]) rfl ?_
    refine wm_aload_n hC 1 dX12_wearing_16 rfl (k_ne0 hk0 (by decide)) ?_
    refine wm_iconst hC dX12_wearing_17 (k := ?_)
    refine wm_iconst hC dX12_wearing_18 (k := ?_)
    refine y_callV_i_IJ hC hRm noS ml_X12_378 hk0 (C12_known hk0 hw) (Nat.le_of_ble_eq_true rfl) (Nat.le_of_ble_eq_true rfl) ⟨Nat.zero_le _, Nat.zero_le _⟩ rfl (st := []) rfl (Nat.le_of_ble_eq_true rfl) dX12_wearing_19 (fun r3 I3 J3 hw => ?_)
    refine wm_istore_n hC dX12_wearing_22 (by decide) (L2 := [(2, vi r3), (1, vi r2), (0, vr l0)]) rfl ?_
    refine wm_aload_n hC 2 dX12_wearing_23 rfl (k_ne0 hk0 (by decide)) ?_
    refine x_getI hC 8 fl_X12_36 rfl hk0 dX12_wearing_24 ?_
    refine wm_if_ne (tgt := 45) hC dX12_wearing_27 (by decide) hw (fun hw => ?_) (fun hw => ?_)
    · refine wm_aload_n hC 2 dX12_wearing_30 rfl (k_ne0 hk0 (by decide)) ?_
      refine x_getR2 hC 23 fl_X12_81 rfl hk0 dX12_wearing_31 hw (fun g1 hw => ?_)
      refine wm_bipush hC dX12_wearing_34 (k := ?_)
      refine wm_aload_n hC 2 dX12_wearing_36 rfl (k_ne0 hk0 (by decide)) ?_
      refine x_getI hC 32 fl_X12_109 rfl hk0 dX12_wearing_37 ?_
      refine x_imul hC dX12_wearing_40 hw (fun hw => ?_)
      refine wm_iload_n hC 1 dX12_wearing_41 rfl ?_
      refine x_iadd hC dX12_wearing_42 hw (fun hw => ?_)
      refine wm_iload_n hC 0 dX12_wearing_43 rfl ?_
      refine x_iast hC g1 dX12_wearing_44 hw (fun I4 hw => ?_)
      exact wm_return hC hE dX12_wearing_45 ⟨rfl, hw⟩
    · exact wm_return hC hE dX12_wearing_45 ⟨rfl, hw⟩
def P12_reading_b58 (l0 : Nat) (l2 : Int) (s0 : Nat) (s1 : Int) (I : mI) (J : mI) (R : mR) (Q : mI → mI → Prop) : Prop := (P12_reads s0 s1 I J R (fun I4 J2 => (kK (R l0 27) = 21 ∧ (((0 : Int) ≤ l2 ∧ l2 < (kN (R l0 27) : Int)) ∧ wLet (up I4 (R l0 27) l2 (I4 l0 31)) (fun I5 => (Q I5 J2))))))
set_option maxRecDepth 20000 in
theorem W12_reading_b58 {C : wX} {ad : Nat → Nat} {n : Nat} {I J : mI} {R : mR} {Q : mI → mI → Prop} (hC : wOK C cX12_reading 3 RX12) (hRm : wRm C 6 123 0 0) (hE : wEnd C none ad n (fun _ I' J' R' => (R' = R) ∧ Q I' J')) {l0 : Nat} {l2 : Int} {s0 : Nat} {s1 : Int}   (hk0 : kK l0 = 12) (hs0 : kK s0 = 12)  (hw : P12_reading_b58 l0 l2 s0 s1 I J R Q) : WM C ad n I J R 0 0 58 [(0, vr l0), (2, vi l2)] [vi s1, vr s0] := by
  unfold P12_reading_b58 at hw
  refine y_callV_v_IJ hC hRm noS ml_X12_381 hs0 (C12_reads hs0 hw) (Nat.le_of_ble_eq_true rfl) (Nat.le_of_ble_eq_true rfl) ⟨Nat.zero_le _, Nat.zero_le _⟩ rfl (st := []) rfl (Nat.le_of_ble_eq_true rfl) dX12_reading_58 (fun I4 J2 hw => ?_)
  refine wm_aload_n hC 0 dX12_reading_61 rfl (k_ne0 hk0 (by decide)) ?_
  refine x_getR2 hC 27 fl_X12_93 rfl hk0 dX12_reading_62 hw (fun g3 hw => ?_)
  refine wm_iload_n hC 1 dX12_reading_65 rfl ?_
  refine wm_aload_n hC 0 dX12_reading_66 rfl (k_ne0 hk0 (by decide)) ?_
  refine x_getI hC 31 fl_X12_106 rfl hk0 dX12_reading_67 ?_
  refine x_iast hC g3 dX12_reading_70 hw (fun I5 hw => ?_)
  exact wm_return hC hE dX12_reading_71 ⟨rfl, hw⟩
def P12_reading_b25 (l0 : Nat) (l1 : Int) (l2 : Int) (s0 : Nat) (s1 : Int) (I : mI) (J : mI) (R : mR) (Q : mI → mI → Prop) : Prop := (P12_isCounted s0 s1 I J R (fun r1 I1 J1 => (if r1 = 0 then (Q I1 J1) else (wLet (up I1 l0 33 l1) (fun I2 => (kK (R l0 26) = 21 ∧ (((0 : Int) ≤ l2 ∧ l2 < (kN (R l0 26) : Int)) ∧ wLet (up I2 (R l0 26) l2 (I2 l0 31)) (fun I3 => (if l1 = 1 then (P12_reading_b58 l0 l2 l0 1 I3 J1 R Q) else (P12_reading_b58 l0 l2 l0 0 I3 J1 R Q))))))))))
set_option maxRecDepth 20000 in
theorem W12_reading_b25 {C : wX} {ad : Nat → Nat} {n : Nat} {I J : mI} {R : mR} {Q : mI → mI → Prop} (hC : wOK C cX12_reading 3 RX12) (hRm : wRm C 6 123 0 0) (hE : wEnd C none ad n (fun _ I' J' R' => (R' = R) ∧ Q I' J')) {l0 : Nat} {l1 : Int} {l2 : Int} {s0 : Nat} {s1 : Int}   (hk0 : kK l0 = 12) (hs0 : kK s0 = 12)  (hw : P12_reading_b25 l0 l1 l2 s0 s1 I J R Q) : WM C ad n I J R 0 0 25 [(0, vr l0), (1, vi l1), (2, vi l2)] [vi s1, vr s0] := by
  unfold P12_reading_b25 at hw
  refine y_callV_z_IJ hC hRm noS ml_X12_355 hs0 (C12_isCounted hs0 hw) (Nat.le_of_ble_eq_true rfl) (Nat.le_of_ble_eq_true rfl) ⟨Nat.zero_le _, Nat.zero_le _⟩ rfl (st := []) rfl (Nat.le_of_ble_eq_true rfl) dX12_reading_25 (fun r1 I1 J1 hw => ?_)
  refine wm_if_ne (tgt := 32) hC dX12_reading_28 (by decide) hw (fun hw => ?_) (fun hw => ?_)
  · exact wm_return hC hE dX12_reading_31 ⟨rfl, hw⟩
  · refine wm_aload_n hC 0 dX12_reading_32 rfl (k_ne0 hk0 (by decide)) ?_
    refine wm_iload_n hC 1 dX12_reading_33 rfl ?_
    refine x_putI hC 33 fl_X12_112 rfl hk0 dX12_reading_34 hw (fun I2 hw => ?_)
    refine wm_aload_n hC 0 dX12_reading_37 rfl (k_ne0 hk0 (by decide)) ?_
    refine x_getR2 hC 26 fl_X12_90 rfl hk0 dX12_reading_38 hw (fun g2 hw => ?_)
    refine wm_iload_n hC 2 dX12_reading_41 rfl ?_
    refine wm_aload_n hC 0 dX12_reading_42 rfl (k_ne0 hk0 (by decide)) ?_
    refine x_getI hC 31 fl_X12_106 rfl hk0 dX12_reading_43 ?_
    refine x_iast hC g2 dX12_reading_46 hw (fun I3 hw => ?_)
    refine wm_aload_n hC 0 dX12_reading_47 rfl (k_ne0 hk0 (by decide)) ?_
    refine wm_iload_n hC 1 dX12_reading_48 rfl ?_
    refine wm_iconst hC dX12_reading_49 (k := ?_)
    refine wm_icmp_ne (tgt := 57) hC dX12_reading_50 (by decide) hw (fun hw => ?_) (fun hw => ?_)
    · refine wm_iconst hC dX12_reading_53 (k := ?_)
      refine wm_goto (tgt := 58) hC dX12_reading_54 (by decide) ?_
      refine wm_sub [0, 2] (L2 := [(0, vr l0), (2, vi l2)]) rfl ?_
      exact W12_reading_b58 hC hRm hE hk0 hk0 hw
    · refine wm_iconst hC dX12_reading_57 (k := ?_)
      refine wm_sub [0, 2] (L2 := [(0, vr l0), (2, vi l2)]) rfl ?_
      exact W12_reading_b58 hC hRm hE hk0 hk0 hw
def P12_reading (l0 : Nat) (l1 : Int) (I : mI) (J : mI) (R : mR) (Q : mI → mI → Prop) : Prop := (rg (3 * (I l0 32)) ∧ (rg ((3 * (I l0 32)) + l1) ∧ (wLet ((3 * (I l0 32)) + l1) (fun x1 => (kK (R l0 26) = 21 ∧ (((0 : Int) ≤ x1 ∧ x1 < (kN (R l0 26) : Int)) ∧ (if (I (R l0 26) x1) = (-1) then (P12_reading_b25 l0 l1 x1 l0 0 I J R Q) else (P12_reading_b25 l0 l1 x1 l0 1 I J R Q))))))))
set_option maxRecDepth 20000 in
theorem C12_reading {ad : Nat → Nat} {n : Nat} {I J : mI} {R : mR} {Q : mI → mI → Prop}  {l0 : Nat} {l1 : Int} (hk0 : kK l0 = 12) (hw : P12_reading l0 l1 I J R Q) : wMet yX12_reading cX12_reading 3 none 6 123 false ad n I J R [vr l0, vi l1] (fun _ I' J' R' => (R' = R) ∧ Q I' J') := by
  refine wMet_of (by decide) (Nat.le_of_ble_eq_true rfl) (fun C hC hRm hE hS => ?_)
  refine (show WM C ad n I J R 0 0 0 [(0, vr l0), (1, vi l1)] [] from ?_)
  unfold P12_reading at hw
  refine wm_iconst hC dX12_reading_0 (k := ?_)
  refine wm_aload_n hC 0 dX12_reading_1 rfl (k_ne0 hk0 (by decide)) ?_
  refine x_getI hC 32 fl_X12_109 rfl hk0 dX12_reading_2 ?_
  refine x_imul hC dX12_reading_5 hw (fun hw => ?_)
  refine wm_iload_n hC 1 dX12_reading_6 rfl ?_
  refine x_iadd hC dX12_reading_7 hw (fun hw => ?_)
  refine x_nameI hw (fun x1 hw => ?_)
  refine wm_istore_n hC dX12_reading_8 (by decide) (L2 := [(2, vi x1), (0, vr l0), (1, vi l1)]) rfl ?_
  refine wm_aload_n hC 1 dX12_reading_9 rfl (k_ne0 hk0 (by decide)) ?_
  refine wm_aload_n hC 1 dX12_reading_10 rfl (k_ne0 hk0 (by decide)) ?_
  refine x_getR2 hC 26 fl_X12_90 rfl hk0 dX12_reading_11 hw (fun g1 hw => ?_)
  refine wm_iload_n hC 0 dX12_reading_14 rfl ?_
  refine x_iald hC g1 dX12_reading_15 hw (fun hw => ?_)
  refine wm_iconst hC dX12_reading_16 (k := ?_)
  refine wm_icmp_eq (tgt := 24) hC dX12_reading_17 (by decide) hw (fun hw => ?_) (fun hw => ?_)
  · refine wm_iconst hC dX12_reading_24 (k := ?_)
    refine wm_sub [1, 2, 0] (L2 := [(0, vr l0), (1, vi l1), (2, vi x1)]) rfl ?_
    exact W12_reading_b25 hC hRm hE hk0 hk0 hw
  · refine wm_iconst hC dX12_reading_20 (k := ?_)
    refine wm_goto (tgt := 25) hC dX12_reading_21 (by decide) ?_
    refine wm_sub [1, 2, 0] (L2 := [(0, vr l0), (1, vi l1), (2, vi x1)]) rfl ?_
    exact W12_reading_b25 hC hRm hE hk0 hk0 hw
def P12_statement (l0 : Nat) (I : mI) (J : mI) (R : mR) (Q : mI → mI → Prop) : Prop := (P12_lex l0 I (fun I1 => (if (I1 l0 8) ≤ 0 then (P12_isWord l0 422725643876 I1 J (fun r1 => (if r1 = 0 then (P12_isWord l0 109330211763570 I1 J (fun r2 => (if r2 = 0 then (P12_isWord l0 499967946343 I1 J (fun r3 => (if r3 = 0 then (P12_isWord l0 1818326117 I1 J (fun r4 => (if r4 = 0 then (P12_isWord l0 1852137842 I1 J (fun r5 => (if r5 = 0 then (P12_isWord l0 512801993331 I1 J (fun r6 => (if r6 = 0 then (P12_isWord l0 483006772069 I1 J (fun r7 => (if r7 = 0 then (P12_isWord l0 7499639 I1 J (fun r8 => (if r8 = 0 then (P12_isWord l0 126870908724595 I1 J (fun r9 => (if r9 = 0 then (P12_isWord l0 109330362692723 I1 J (fun r10 => (if r10 = 0 then (P12_isWord l0 444150998387 I1 J (fun r11 => (if r11 = 0 then (P12_blame l0 1 (I1 l0 4) I1 (fun I2 => (Q I2 J))) else (P12_reading l0 2 I1 J R (fun I3 J1 => (Q I3 J1)))))) else (P12_reading l0 1 I1 J R (fun I4 J2 => (Q I4 J2)))))) else (P12_reading l0 0 I1 J R (fun I5 J3 => (Q I5 J3)))))) else (kK (R l0 25) = 21 ∧ (P12_telling l0 100 I1 J R (fun r12 I6 J4 => (((0 : Int) ≤ (I1 l0 32) ∧ (I1 l0 32) < (kN (R l0 25) : Int)) ∧ wLet (up I6 (R l0 25) (I1 l0 32) r12) (fun I7 => (Q I7 J4))))))))) else (kK (R l0 24) = 21 ∧ (P12_telling l0 999 I1 J R (fun r13 I8 J5 => (((0 : Int) ≤ (I1 l0 32) ∧ (I1 l0 32) < (kN (R l0 24) : Int)) ∧ wLet (up I8 (R l0 24) (I1 l0 32) r13) (fun I9 => (Q I9 J5))))))))) else (P12_wearing l0 I1 J R (fun I10 J6 => (Q I10 J6)))))) else (P12_nearing l0 I1 J R (fun I11 J7 => (Q I11 J7)))))) else (P12_lateness l0 I1 J R (fun I12 J8 => (Q I12 J8)))))) else (P12_thinging l0 I1 J R (fun I13 J9 => (Q I13 J9)))))) else (P12_colouring l0 I1 J R (fun I14 J10 => (Q I14 J10)))))) else (P12_blinding l0 I1 J R (fun I15 J11 => (Q I15 J11)))))) else (Q I1 J))))
set_option maxRecDepth 20000 in
theorem C12_statement {ad : Nat → Nat} {n : Nat} {I J : mI} {R : mR} {Q : mI → mI → Prop}  {l0 : Nat} (hk0 : kK l0 = 12) (hw : P12_statement l0 I J R Q) : wMet yX12_statement cX12_statement 1 none 7 145 false ad n I J R [vr l0] (fun _ I' J' R' => (R' = R) ∧ Q I' J') := by
  refine wMet_of (by decide) (Nat.le_of_ble_eq_true rfl) (fun C hC hRm hE hS => ?_)
  refine (show WM C ad n I J R 0 0 0 [(0, vr l0)] [] from ?_)
  unfold P12_statement at hw
  refine wm_aload_n hC 0 dX12_statement_0 rfl (k_ne0 hk0 (by decide)) ?_
  refine y_callV_v_I hC hRm noS ml_X12_241 hk0 (C12_lex hk0 hw) (Nat.le_of_ble_eq_true rfl) (Nat.le_of_ble_eq_true rfl) ⟨Nat.zero_le _, Nat.zero_le _⟩ rfl (st := []) rfl (Nat.le_of_ble_eq_true rfl) dX12_statement_1 (fun I1 hw => ?_)
  refine wm_aload_n hC 0 dX12_statement_4 rfl (k_ne0 hk0 (by decide)) ?_
  refine x_getI hC 8 fl_X12_36 rfl hk0 dX12_statement_5 ?_
  refine wm_if_le (tgt := 12) hC dX12_statement_8 (by decide) hw (fun hw => ?_) (fun hw => ?_)
  · refine wm_aload_n hC 0 dX12_statement_12 rfl (k_ne0 hk0 (by decide)) ?_
    refine wm_ldc2 hC (x := 422725643876) tc_X12_250 rfl dX12_statement_13 (k := ?_)
    refine y_callV_z_n hC hRm noS ml_X12_325 hk0 (C12_isWord hk0 hw) (Nat.le_of_ble_eq_true rfl) (Nat.le_of_ble_eq_true rfl) ⟨Nat.zero_le _, Nat.zero_le _⟩ rfl (st := []) rfl (Nat.le_of_ble_eq_true rfl) dX12_statement_16 (fun r1 hw => ?_)
    refine wm_if_eq (tgt := 29) hC dX12_statement_19 (by decide) hw (fun hw => ?_) (fun hw => ?_)
    · refine wm_aload_n hC 0 dX12_statement_29 rfl (k_ne0 hk0 (by decide)) ?_
      refine wm_ldc2 hC (x := 109330211763570) tc_X12_258 rfl dX12_statement_30 (k := ?_)
      refine y_callV_z_n hC hRm noS ml_X12_325 hk0 (C12_isWord hk0 hw) (Nat.le_of_ble_eq_true rfl) (Nat.le_of_ble_eq_true rfl) ⟨Nat.zero_le _, Nat.zero_le _⟩ rfl (st := []) rfl (Nat.le_of_ble_eq_true rfl) dX12_statement_33 (fun r2 hw => ?_)
      refine wm_if_eq (tgt := 46) hC dX12_statement_36 (by decide) hw (fun hw => ?_) (fun hw => ?_)
      · refine wm_aload_n hC 0 dX12_statement_46 rfl (k_ne0 hk0 (by decide)) ?_
        refine wm_ldc2 hC (x := 499967946343) tc_X12_262 rfl dX12_statement_47 (k := ?_)
        refine y_callV_z_n hC hRm noS ml_X12_325 hk0 (C12_isWord hk0 hw) (Nat.le_of_ble_eq_true rfl) (Nat.le_of_ble_eq_true rfl) ⟨Nat.zero_le _, Nat.zero_le _⟩ rfl (st := []) rfl (Nat.le_of_ble_eq_true rfl) dX12_statement_50 (fun r3 hw => ?_)
        refine wm_if_eq (tgt := 63) hC dX12_statement_53 (by decide) hw (fun hw => ?_) (fun hw => ?_)
        · refine wm_aload_n hC 0 dX12_statement_63 rfl (k_ne0 hk0 (by decide)) ?_
          refine wm_ldc2 hC (x := 1818326117) tc_X12_264 rfl dX12_statement_64 (k := ?_)
          refine y_callV_z_n hC hRm noS ml_X12_325 hk0 (C12_isWord hk0 hw) (Nat.le_of_ble_eq_true rfl) (Nat.le_of_ble_eq_true rfl) ⟨Nat.zero_le _, Nat.zero_le _⟩ rfl (st := []) rfl (Nat.le_of_ble_eq_true rfl) dX12_statement_67 (fun r4 hw => ?_)
          refine wm_if_eq (tgt := 80) hC dX12_statement_70 (by decide) hw (fun hw => ?_) (fun hw => ?_)
          · refine wm_aload_n hC 0 dX12_statement_80 rfl (k_ne0 hk0 (by decide)) ?_
            refine wm_ldc2 hC (x := 1852137842) tc_X12_266 rfl dX12_statement_81 (k := ?_)
            refine y_callV_z_n hC hRm noS ml_X12_325 hk0 (C12_isWord hk0 hw) (Nat.le_of_ble_eq_true rfl) (Nat.le_of_ble_eq_true rfl) ⟨Nat.zero_le _, Nat.zero_le _⟩ rfl (st := []) rfl (Nat.le_of_ble_eq_true rfl) dX12_statement_84 (fun r5 hw => ?_)
            refine wm_if_eq (tgt := 97) hC dX12_statement_87 (by decide) hw (fun hw => ?_) (fun hw => ?_)
            · refine wm_aload_n hC 0 dX12_statement_97 rfl (k_ne0 hk0 (by decide)) ?_
              refine wm_ldc2 hC (x := 512801993331) tc_X12_268 rfl dX12_statement_98 (k := ?_)
              refine y_callV_z_n hC hRm noS ml_X12_325 hk0 (C12_isWord hk0 hw) (Nat.le_of_ble_eq_true rfl) (Nat.le_of_ble_eq_true rfl) ⟨Nat.zero_le _, Nat.zero_le _⟩ rfl (st := []) rfl (Nat.le_of_ble_eq_true rfl) dX12_statement_101 (fun r6 hw => ?_)
              refine wm_if_eq (tgt := 114) hC dX12_statement_104 (by decide) hw (fun hw => ?_) (fun hw => ?_)
              · refine wm_aload_n hC 0 dX12_statement_114 rfl (k_ne0 hk0 (by decide)) ?_
                refine wm_ldc2 hC (x := 483006772069) tc_X12_270 rfl dX12_statement_115 (k := ?_)
                refine y_callV_z_n hC hRm noS ml_X12_325 hk0 (C12_isWord hk0 hw) (Nat.le_of_ble_eq_true rfl) (Nat.le_of_ble_eq_true rfl) ⟨Nat.zero_le _, Nat.zero_le _⟩ rfl (st := []) rfl (Nat.le_of_ble_eq_true rfl) dX12_statement_118 (fun r7 hw => ?_)
                refine wm_if_eq (tgt := 143) hC dX12_statement_121 (by decide) hw (fun hw => ?_) (fun hw => ?_)
                · refine wm_aload_n hC 0 dX12_statement_143 rfl (k_ne0 hk0 (by decide)) ?_
                  refine wm_ldc2 hC (x := 7499639) tc_X12_272 rfl dX12_statement_144 (k := ?_)
                  refine y_callV_z_n hC hRm noS ml_X12_325 hk0 (C12_isWord hk0 hw) (Nat.le_of_ble_eq_true rfl) (Nat.le_of_ble_eq_true rfl) ⟨Nat.zero_le _, Nat.zero_le _⟩ rfl (st := []) rfl (Nat.le_of_ble_eq_true rfl) dX12_statement_147 (fun r8 hw => ?_)
                  refine wm_if_eq (tgt := 171) hC dX12_statement_150 (by decide) hw (fun hw => ?_) (fun hw => ?_)
                  · refine wm_aload_n hC 0 dX12_statement_171 rfl (k_ne0 hk0 (by decide)) ?_
                    refine wm_ldc2 hC (x := 126870908724595) tc_X12_274 rfl dX12_statement_172 (k := ?_)
                    refine y_callV_z_n hC hRm noS ml_X12_325 hk0 (C12_isWord hk0 hw) (Nat.le_of_ble_eq_true rfl) (Nat.le_of_ble_eq_true rfl) ⟨Nat.zero_le _, Nat.zero_le _⟩ rfl (st := []) rfl (Nat.le_of_ble_eq_true rfl) dX12_statement_175 (fun r9 hw => ?_)
                    refine wm_if_eq (tgt := 189) hC dX12_statement_178 (by decide) hw (fun hw => ?_) (fun hw => ?_)
                    · refine wm_aload_n hC 0 dX12_statement_189 rfl (k_ne0 hk0 (by decide)) ?_
                      refine wm_ldc2 hC (x := 109330362692723) tc_X12_276 rfl dX12_statement_190 (k := ?_)
                      refine y_callV_z_n hC hRm noS ml_X12_325 hk0 (C12_isWord hk0 hw) (Nat.le_of_ble_eq_true rfl) (Nat.le_of_ble_eq_true rfl) ⟨Nat.zero_le _, Nat.zero_le _⟩ rfl (st := []) rfl (Nat.le_of_ble_eq_true rfl) dX12_statement_193 (fun r10 hw => ?_)
                      refine wm_if_eq (tgt := 207) hC dX12_statement_196 (by decide) hw (fun hw => ?_) (fun hw => ?_)
                      · refine wm_aload_n hC 0 dX12_statement_207 rfl (k_ne0 hk0 (by decide)) ?_
                        refine wm_ldc2 hC (x := 444150998387) tc_X12_278 rfl dX12_statement_208 (k := ?_)
                        refine y_callV_z_n hC hRm noS ml_X12_325 hk0 (C12_isWord hk0 hw) (Nat.le_of_ble_eq_true rfl) (Nat.le_of_ble_eq_true rfl) ⟨Nat.zero_le _, Nat.zero_le _⟩ rfl (st := []) rfl (Nat.le_of_ble_eq_true rfl) dX12_statement_211 (fun r11 hw => ?_)
                        refine wm_if_eq (tgt := 225) hC dX12_statement_214 (by decide) hw (fun hw => ?_) (fun hw => ?_)
                        · refine wm_aload_n hC 0 dX12_statement_225 rfl (k_ne0 hk0 (by decide)) ?_
                          refine wm_iconst hC dX12_statement_226 (k := ?_)
                          refine wm_aload_n hC 0 dX12_statement_227 rfl (k_ne0 hk0 (by decide)) ?_
                          refine x_getI hC 4 fl_X12_23 rfl hk0 dX12_statement_228 ?_
                          refine y_callV_v_I hC hRm noS ml_X12_230 hk0 (C12_blame hk0 hw) (Nat.le_of_ble_eq_true rfl) (Nat.le_of_ble_eq_true rfl) ⟨Nat.zero_le _, Nat.zero_le _⟩ rfl (st := []) rfl (Nat.le_of_ble_eq_true rfl) dX12_statement_231 (fun I2 hw => ?_)
                          exact wm_return hC hE dX12_statement_234 ⟨rfl, hw⟩
                        · refine wm_aload_n hC 0 dX12_statement_217 rfl (k_ne0 hk0 (by decide)) ?_
                          refine wm_iconst hC dX12_statement_218 (k := ?_)
                          refine y_callV_v_IJ hC hRm noS ml_X12_406 hk0 (C12_reading hk0 hw) (Nat.le_of_ble_eq_true rfl) (Nat.le_of_ble_eq_true rfl) ⟨Nat.zero_le _, Nat.zero_le _⟩ rfl (st := []) rfl (Nat.le_of_ble_eq_true rfl) dX12_statement_219 (fun I3 J1 hw => ?_)
                          refine wm_goto (tgt := 234) hC dX12_statement_222 (by decide) ?_
                          exact wm_return hC hE dX12_statement_234 ⟨rfl, hw⟩
                      · refine wm_aload_n hC 0 dX12_statement_199 rfl (k_ne0 hk0 (by decide)) ?_
                        refine wm_iconst hC dX12_statement_200 (k := ?_)
                        refine y_callV_v_IJ hC hRm noS ml_X12_406 hk0 (C12_reading hk0 hw) (Nat.le_of_ble_eq_true rfl) (Nat.le_of_ble_eq_true rfl) ⟨Nat.zero_le _, Nat.zero_le _⟩ rfl (st := []) rfl (Nat.le_of_ble_eq_true rfl) dX12_statement_201 (fun I4 J2 hw => ?_)
                        refine wm_goto (tgt := 234) hC dX12_statement_204 (by decide) ?_
                        exact wm_return hC hE dX12_statement_234 ⟨rfl, hw⟩
                    · refine wm_aload_n hC 0 dX12_statement_181 rfl (k_ne0 hk0 (by decide)) ?_
                      refine wm_iconst hC dX12_statement_182 (k := ?_)
                      refine y_callV_v_IJ hC hRm noS ml_X12_406 hk0 (C12_reading hk0 hw) (Nat.le_of_ble_eq_true rfl) (Nat.le_of_ble_eq_true rfl) ⟨Nat.zero_le _, Nat.zero_le _⟩ rfl (st := []) rfl (Nat.le_of_ble_eq_true rfl) dX12_statement_183 (fun I5 J3 hw => ?_)
                      refine wm_goto (tgt := 234) hC dX12_statement_186 (by decide) ?_
                      exact wm_return hC hE dX12_statement_234 ⟨rfl, hw⟩
                  · refine wm_aload_n hC 0 dX12_statement_153 rfl (k_ne0 hk0 (by decide)) ?_
                    refine x_getR2 hC 25 fl_X12_87 rfl hk0 dX12_statement_154 hw (fun g1 hw => ?_)
                    refine wm_aload_n hC 0 dX12_statement_157 rfl (k_ne0 hk0 (by decide)) ?_
                    refine x_getI hC 32 fl_X12_109 rfl hk0 dX12_statement_158 ?_
                    refine wm_aload_n hC 0 dX12_statement_161 rfl (k_ne0 hk0 (by decide)) ?_
                    refine wm_bipush hC dX12_statement_162 (k := ?_)
                    refine y_callV_i_IJ hC hRm noS ml_X12_403 hk0 (C12_telling hk0 hw) (Nat.le_of_ble_eq_true rfl) (Nat.le_of_ble_eq_true rfl) ⟨Nat.zero_le _, Nat.zero_le _⟩ rfl (st := [vi (I1 l0 32), vr (R l0 25)]) rfl (Nat.le_of_ble_eq_true rfl) dX12_statement_164 (fun r12 I6 J4 hw => ?_)
                    refine x_iast hC g1 dX12_statement_167 hw (fun I7 hw => ?_)
                    refine wm_goto (tgt := 234) hC dX12_statement_168 (by decide) ?_
                    exact wm_return hC hE dX12_statement_234 ⟨rfl, hw⟩
                · refine wm_aload_n hC 0 dX12_statement_124 rfl (k_ne0 hk0 (by decide)) ?_
                  refine x_getR2 hC 24 fl_X12_84 rfl hk0 dX12_statement_125 hw (fun g2 hw => ?_)
                  refine wm_aload_n hC 0 dX12_statement_128 rfl (k_ne0 hk0 (by decide)) ?_
                  refine x_getI hC 32 fl_X12_109 rfl hk0 dX12_statement_129 ?_
                  refine wm_aload_n hC 0 dX12_statement_132 rfl (k_ne0 hk0 (by decide)) ?_
                  refine wm_sipush hC dX12_statement_133 (k := ?_)
                  refine y_callV_i_IJ hC hRm noS ml_X12_403 hk0 (C12_telling hk0 hw) (Nat.le_of_ble_eq_true rfl) (Nat.le_of_ble_eq_true rfl) ⟨Nat.zero_le _, Nat.zero_le _⟩ rfl (st := [vi (I1 l0 32), vr (R l0 24)]) rfl (Nat.le_of_ble_eq_true rfl) dX12_statement_136 (fun r13 I8 J5 hw => ?_)
                  refine x_iast hC g2 dX12_statement_139 hw (fun I9 hw => ?_)
                  refine wm_goto (tgt := 234) hC dX12_statement_140 (by decide) ?_
                  exact wm_return hC hE dX12_statement_234 ⟨rfl, hw⟩
              · refine wm_aload_n hC 0 dX12_statement_107 rfl (k_ne0 hk0 (by decide)) ?_
                refine y_callV_v_IJ hC hRm noS ml_X12_400 hk0 (C12_wearing hk0 hw) (Nat.le_of_ble_eq_true rfl) (Nat.le_of_ble_eq_true rfl) ⟨Nat.zero_le _, Nat.zero_le _⟩ rfl (st := []) rfl (Nat.le_of_ble_eq_true rfl) dX12_statement_108 (fun I10 J6 hw => ?_)
                refine wm_goto (tgt := 234) hC dX12_statement_111 (by decide) ?_
                exact wm_return hC hE dX12_statement_234 ⟨rfl, hw⟩
            · refine wm_aload_n hC 0 dX12_statement_90 rfl (k_ne0 hk0 (by decide)) ?_
              refine y_callV_v_IJ hC hRm noS ml_X12_397 hk0 (C12_nearing hk0 hw) (Nat.le_of_ble_eq_true rfl) (Nat.le_of_ble_eq_true rfl) ⟨Nat.zero_le _, Nat.zero_le _⟩ rfl (st := []) rfl (Nat.le_of_ble_eq_true rfl) dX12_statement_91 (fun I11 J7 hw => ?_)
              refine wm_goto (tgt := 234) hC dX12_statement_94 (by decide) ?_
              exact wm_return hC hE dX12_statement_234 ⟨rfl, hw⟩
          · refine wm_aload_n hC 0 dX12_statement_73 rfl (k_ne0 hk0 (by decide)) ?_
            refine y_callV_v_IJ hC hRm noS ml_X12_394 hk0 (C12_lateness hk0 hw) (Nat.le_of_ble_eq_true rfl) (Nat.le_of_ble_eq_true rfl) ⟨Nat.zero_le _, Nat.zero_le _⟩ rfl (st := []) rfl (Nat.le_of_ble_eq_true rfl) dX12_statement_74 (fun I12 J8 hw => ?_)
            refine wm_goto (tgt := 234) hC dX12_statement_77 (by decide) ?_
            exact wm_return hC hE dX12_statement_234 ⟨rfl, hw⟩
        · refine wm_aload_n hC 0 dX12_statement_56 rfl (k_ne0 hk0 (by decide)) ?_
          refine y_callV_v_IJ hC hRm noS ml_X12_391 hk0 (C12_thinging hk0 hw) (Nat.le_of_ble_eq_true rfl) (Nat.le_of_ble_eq_true rfl) ⟨Nat.zero_le _, Nat.zero_le _⟩ rfl (st := []) rfl (Nat.le_of_ble_eq_true rfl) dX12_statement_57 (fun I13 J9 hw => ?_)
          refine wm_goto (tgt := 234) hC dX12_statement_60 (by decide) ?_
          exact wm_return hC hE dX12_statement_234 ⟨rfl, hw⟩
      · refine wm_aload_n hC 0 dX12_statement_39 rfl (k_ne0 hk0 (by decide)) ?_
        refine y_callV_v_IJ hC hRm noS ml_X12_388 hk0 (C12_colouring hk0 hw) (Nat.le_of_ble_eq_true rfl) (Nat.le_of_ble_eq_true rfl) ⟨Nat.zero_le _, Nat.zero_le _⟩ rfl (st := []) rfl (Nat.le_of_ble_eq_true rfl) dX12_statement_40 (fun I14 J10 hw => ?_)
        refine wm_goto (tgt := 234) hC dX12_statement_43 (by decide) ?_
        exact wm_return hC hE dX12_statement_234 ⟨rfl, hw⟩
    · refine wm_aload_n hC 0 dX12_statement_22 rfl (k_ne0 hk0 (by decide)) ?_
      refine y_callV_v_IJ hC hRm noS ml_X12_385 hk0 (C12_blinding hk0 hw) (Nat.le_of_ble_eq_true rfl) (Nat.le_of_ble_eq_true rfl) ⟨Nat.zero_le _, Nat.zero_le _⟩ rfl (st := []) rfl (Nat.le_of_ble_eq_true rfl) dX12_statement_23 (fun I15 J11 hw => ?_)
      refine wm_goto (tgt := 234) hC dX12_statement_26 (by decide) ?_
      exact wm_return hC hE dX12_statement_234 ⟨rfl, hw⟩
  · exact wm_return hC hE dX12_statement_11 ⟨rfl, hw⟩
def P12_finishes_b53 (l0 : Nat) (l1 : Int) (l2 : Int) (I : mI) (J : mI) (R : mR) (Q : mI → mI → Prop) : Prop := (P12_isSign l0 59 I (fun r1 => (if r1 = 0 then (P12_must l0 59 I J R (fun I2 J1 => (Q I2 J1))) else (if l1 = 60 then (if (I l0 2) ≤ l2 then (P12_must l0 59 I J R (fun I4 J3 => (Q I4 J3))) else (P12_blame l0 6 l2 I (fun I5 => (P12_must l0 59 I5 J R (fun I6 J4 => (Q I6 J4)))))) else (P12_must l0 59 I J R (fun I3 J2 => (Q I3 J2)))))))
set_option maxRecDepth 20000 in
theorem W12_finishes_b53 {C : wX} {ad : Nat → Nat} {n : Nat} {I J : mI} {R : mR} {Q : mI → mI → Prop} (hC : wOK C cX12_finishes 3 RX12) (hRm : wRm C 4 78 0 0) (hE : wEnd C none ad n (fun _ I' J' R' => (R' = R) ∧ Q I' J')) {l0 : Nat} {l1 : Int} {l2 : Int}   (hk0 : kK l0 = 12)  (hw : P12_finishes_b53 l0 l1 l2 I J R Q) : WM C ad n I J R 0 0 53 [(0, vr l0), (1, vi l1), (2, vi l2)] [] := by
  unfold P12_finishes_b53 at hw
  refine wm_aload_n hC 0 dX12_finishes_53 rfl (k_ne0 hk0 (by decide)) ?_
  refine wm_bipush hC dX12_finishes_54 (k := ?_)
  refine y_callV_z_n hC hRm noS ml_X12_244 hk0 (C12_isSign hk0 hw) (Nat.le_of_ble_eq_true rfl) (Nat.le_of_ble_eq_true rfl) ⟨Nat.zero_le _, Nat.zero_le _⟩ rfl (st := []) rfl (Nat.le_of_ble_eq_true rfl) dX12_finishes_56 (fun r1 hw => ?_)
  refine wm_if_eq (tgt := 83) hC dX12_finishes_59 (by decide) hw (fun hw => ?_) (fun hw => ?_)
  · refine wm_aload_n hC 0 dX12_finishes_83 rfl (k_ne0 hk0 (by decide)) ?_
    refine wm_bipush hC dX12_finishes_84 (k := ?_)
    refine y_callV_v_IJ hC hRm noS ml_X12_409 hk0 (C12_must hk0 hw) (Nat.le_of_ble_eq_true rfl) (Nat.le_of_ble_eq_true rfl) ⟨Nat.zero_le _, Nat.zero_le _⟩ rfl (st := []) rfl (Nat.le_of_ble_eq_true rfl) dX12_finishes_86 (fun I2 J1 hw => ?_)
    exact wm_return hC hE dX12_finishes_89 ⟨rfl, hw⟩
  · refine wm_iload_n hC 1 dX12_finishes_62 rfl ?_
    refine wm_bipush hC dX12_finishes_63 (k := ?_)
    refine wm_icmp_ne (tgt := 83) hC dX12_finishes_65 (by decide) hw (fun hw => ?_) (fun hw => ?_)
    · refine wm_iload_n hC 2 dX12_finishes_68 rfl ?_
      refine wm_aload_n hC 0 dX12_finishes_69 rfl (k_ne0 hk0 (by decide)) ?_
      refine x_getI hC 2 fl_X12_17 rfl hk0 dX12_finishes_70 ?_
      refine wm_icmp_ge (tgt := 83) hC dX12_finishes_73 (by decide) hw (fun hw => ?_) (fun hw => ?_)
      · refine wm_aload_n hC 0 dX12_finishes_83 rfl (k_ne0 hk0 (by decide)) ?_
        refine wm_bipush hC dX12_finishes_84 (k := ?_)
        refine y_callV_v_IJ hC hRm noS ml_X12_409 hk0 (C12_must hk0 hw) (Nat.le_of_ble_eq_true rfl) (Nat.le_of_ble_eq_true rfl) ⟨Nat.zero_le _, Nat.zero_le _⟩ rfl (st := []) rfl (Nat.le_of_ble_eq_true rfl) dX12_finishes_86 (fun I4 J3 hw => ?_)
        exact wm_return hC hE dX12_finishes_89 ⟨rfl, hw⟩
      · refine wm_aload_n hC 0 dX12_finishes_76 rfl (k_ne0 hk0 (by decide)) ?_
        refine wm_bipush hC dX12_finishes_77 (k := ?_)
        refine wm_iload_n hC 2 dX12_finishes_79 rfl ?_
        refine y_callV_v_I hC hRm noS ml_X12_230 hk0 (C12_blame hk0 hw) (Nat.le_of_ble_eq_true rfl) (Nat.le_of_ble_eq_true rfl) ⟨Nat.zero_le _, Nat.zero_le _⟩ rfl (st := []) rfl (Nat.le_of_ble_eq_true rfl) dX12_finishes_80 (fun I5 hw => ?_)
        refine wm_aload_n hC 0 dX12_finishes_83 rfl (k_ne0 hk0 (by decide)) ?_
        refine wm_bipush hC dX12_finishes_84 (k := ?_)
        refine y_callV_v_IJ hC hRm noS ml_X12_409 hk0 (C12_must hk0 hw) (Nat.le_of_ble_eq_true rfl) (Nat.le_of_ble_eq_true rfl) ⟨Nat.zero_le _, Nat.zero_le _⟩ rfl (st := []) rfl (Nat.le_of_ble_eq_true rfl) dX12_finishes_86 (fun I6 J4 hw => ?_)
        exact wm_return hC hE dX12_finishes_89 ⟨rfl, hw⟩
    · refine wm_aload_n hC 0 dX12_finishes_83 rfl (k_ne0 hk0 (by decide)) ?_
      refine wm_bipush hC dX12_finishes_84 (k := ?_)
      refine y_callV_v_IJ hC hRm noS ml_X12_409 hk0 (C12_must hk0 hw) (Nat.le_of_ble_eq_true rfl) (Nat.le_of_ble_eq_true rfl) ⟨Nat.zero_le _, Nat.zero_le _⟩ rfl (st := []) rfl (Nat.le_of_ble_eq_true rfl) dX12_finishes_86 (fun I3 J2 hw => ?_)
      exact wm_return hC hE dX12_finishes_89 ⟨rfl, hw⟩
def P12_finishes_b17_body (l0 : Nat) (l1 : Int) (I : mI) (J : mI) (R : mR) (Q : mI → mI → Prop) (k17 : Int → Prop) (l2 : Int) : Prop := (if (I l0 2) ≤ l2 then (P12_finishes_b53 l0 l1 l2 I J R Q) else (kK (R l0 0) = 21 ∧ (((0 : Int) ≤ l2 ∧ l2 < (kN (R l0 0) : Int)) ∧ (if (I (R l0 0) l2) = 32 then (rg (l2 + 1) ∧ (k17 (l2 + 1))) else (kK (R l0 0) = 21 ∧ (((0 : Int) ≤ l2 ∧ l2 < (kN (R l0 0) : Int)) ∧ (if (I (R l0 0) l2) = 10 then (rg (l2 + 1) ∧ (k17 (l2 + 1))) else (P12_finishes_b53 l0 l1 l2 I J R Q))))))))
def P12_finishes_b17 (l0 : Nat) (l1 : Int) (I : mI) (J : mI) (R : mR) (Q : mI → mI → Prop) : Nat → Int → Prop
  | 0 => fun _ => False
  | f + 1 => fun l2 => P12_finishes_b17_body l0 l1 I J R Q (P12_finishes_b17 l0 l1 I J R Q f) l2
set_option maxRecDepth 20000 in
theorem W12_finishes_b17_body {C : wX} {ad : Nat → Nat} {n : Nat} {I J : mI} {R : mR} {Q : mI → mI → Prop} (hC : wOK C cX12_finishes 3 RX12) (hRm : wRm C 4 78 0 0) (hE : wEnd C none ad n (fun _ I' J' R' => (R' = R) ∧ Q I' J')) {l0 : Nat} {l1 : Int} {l2 : Int}   (hk0 : kK l0 = 12)  {k17 : Int → Prop} (kk17 : ∀ (y2 : Int), k17 y2 → WM C ad n I J R 0 0 17 [(0, vr l0), (1, vi l1), (2, vi y2)] []) (hw : P12_finishes_b17_body l0 l1 I J R Q k17 l2) : WM C ad n I J R 0 0 17 [(0, vr l0), (1, vi l1), (2, vi l2)] [] := by
  unfold P12_finishes_b17_body at hw
  refine wm_iload_n hC 2 dX12_finishes_17 rfl ?_
  refine wm_aload_n hC 0 dX12_finishes_18 rfl (k_ne0 hk0 (by decide)) ?_
  refine x_getI hC 2 fl_X12_17 rfl hk0 dX12_finishes_19 ?_
  refine wm_icmp_ge (tgt := 53) hC dX12_finishes_22 (by decide) hw (fun hw => ?_) (fun hw => ?_)
  · exact W12_finishes_b53 hC hRm hE hk0 hw
  · refine wm_aload_n hC 0 dX12_finishes_25 rfl (k_ne0 hk0 (by decide)) ?_
    refine x_getR2 hC 0 fl_X12_7 rfl hk0 dX12_finishes_26 hw (fun g1 hw => ?_)
    refine wm_iload_n hC 2 dX12_finishes_29 rfl ?_
    refine x_iald hC g1 dX12_finishes_30 hw (fun hw => ?_)
    refine wm_bipush hC dX12_finishes_31 (k := ?_)
    refine wm_icmp_eq (tgt := 47) hC dX12_finishes_33 (by decide) hw (fun hw => ?_) (fun hw => ?_)
    · refine x_iinc hC 2 dX12_finishes_47 rfl (by decide) (L2 := [(2, vi (l2 + 1)), (0, vr l0), (1, vi l1)]) rfl hw (fun hw => ?_)
      refine wm_goto (tgt := 17) hC dX12_finishes_50 (by decide) ?_
      refine wm_sub [1, 2, 0] (L2 := [(0, vr l0), (1, vi l1), (2, vi (l2 + 1))]) rfl ?_
      exact kk17 _ hw
    · refine wm_aload_n hC 0 dX12_finishes_36 rfl (k_ne0 hk0 (by decide)) ?_
      refine x_getR2 hC 0 fl_X12_7 rfl hk0 dX12_finishes_37 hw (fun g2 hw => ?_)
      refine wm_iload_n hC 2 dX12_finishes_40 rfl ?_
      refine x_iald hC g2 dX12_finishes_41 hw (fun hw => ?_)
      refine wm_bipush hC dX12_finishes_42 (k := ?_)
      refine wm_icmp_ne (tgt := 53) hC dX12_finishes_44 (by decide) hw (fun hw => ?_) (fun hw => ?_)
      · refine x_iinc hC 2 dX12_finishes_47 rfl (by decide) (L2 := [(2, vi (l2 + 1)), (0, vr l0), (1, vi l1)]) rfl hw (fun hw => ?_)
        refine wm_goto (tgt := 17) hC dX12_finishes_50 (by decide) ?_
        refine wm_sub [1, 2, 0] (L2 := [(0, vr l0), (1, vi l1), (2, vi (l2 + 1))]) rfl ?_
        exact kk17 _ hw
      · exact W12_finishes_b53 hC hRm hE hk0 hw
set_option maxRecDepth 20000 in
theorem W12_finishes_b17 {C : wX} {ad : Nat → Nat} {n : Nat} {I J : mI} {R : mR} {Q : mI → mI → Prop} (hC : wOK C cX12_finishes 3 RX12) (hRm : wRm C 4 78 0 0) (hE : wEnd C none ad n (fun _ I' J' R' => (R' = R) ∧ Q I' J')) {l0 : Nat} {l1 : Int}   (hk0 : kK l0 = 12)  : ∀ (f : Nat) (l2 : Int), P12_finishes_b17 l0 l1 I J R Q f l2 → WM C ad n I J R 0 0 17 [(0, vr l0), (1, vi l1), (2, vi l2)] [] := by
  intro f
  induction f with
  | zero => intro l2 hw; exact hw.elim
  | succ f ih => intro l2 hw; exact W12_finishes_b17_body hC hRm hE hk0 (fun a0 hw => ih a0 hw) hw
def P12_finishes (l0 : Nat) (l1 : Int) (I : mI) (J : mI) (R : mR) (Q : mI → mI → Prop) : Prop := (P12_lex l0 I (fun I1 => (if (I1 l0 8) ≤ 0 then (∃ f, P12_finishes_b17 l0 l1 I1 J R Q f (I1 l0 5)) else (Q I1 J))))
set_option maxRecDepth 20000 in
theorem C12_finishes {ad : Nat → Nat} {n : Nat} {I J : mI} {R : mR} {Q : mI → mI → Prop}  {l0 : Nat} {l1 : Int} (hk0 : kK l0 = 12) (hw : P12_finishes l0 l1 I J R Q) : wMet yX12_finishes cX12_finishes 3 none 4 78 false ad n I J R [vr l0, vi l1] (fun _ I' J' R' => (R' = R) ∧ Q I' J') := by
  refine wMet_of (by decide) (Nat.le_of_ble_eq_true rfl) (fun C hC hRm hE hS => ?_)
  refine (show WM C ad n I J R 0 0 0 [(0, vr l0), (1, vi l1)] [] from ?_)
  unfold P12_finishes at hw
  refine wm_aload_n hC 0 dX12_finishes_0 rfl (k_ne0 hk0 (by decide)) ?_
  refine y_callV_v_I hC hRm noS ml_X12_241 hk0 (C12_lex hk0 hw) (Nat.le_of_ble_eq_true rfl) (Nat.le_of_ble_eq_true rfl) ⟨Nat.zero_le _, Nat.zero_le _⟩ rfl (st := []) rfl (Nat.le_of_ble_eq_true rfl) dX12_finishes_1 (fun I1 hw => ?_)
  refine wm_aload_n hC 0 dX12_finishes_4 rfl (k_ne0 hk0 (by decide)) ?_
  refine x_getI hC 8 fl_X12_36 rfl hk0 dX12_finishes_5 ?_
  refine wm_if_le (tgt := 12) hC dX12_finishes_8 (by decide) hw (fun hw => ?_) (fun hw => ?_)
  · refine wm_aload_n hC 0 dX12_finishes_12 rfl (k_ne0 hk0 (by decide)) ?_
    refine x_getI hC 5 fl_X12_26 rfl hk0 dX12_finishes_13 ?_
    refine wm_istore_n hC dX12_finishes_16 (by decide) (L2 := [(2, vi (I1 l0 5)), (0, vr l0), (1, vi l1)]) rfl ?_
    obtain ⟨f, hw⟩ := hw
    refine wm_sub [1, 2, 0] (L2 := [(0, vr l0), (1, vi l1), (2, vi (I1 l0 5))]) rfl ?_
    exact W12_finishes_b17 hC hRm hE hk0 f _ hw
  · exact wm_return hC hE dX12_finishes_11 ⟨rfl, hw⟩
def P12_begin_b89_body (l0 : Nat) (R : mR) (Q : mI → Prop) (k89 : Int → mI → Prop) (l1 : Int) (I : mI) : Prop := (if (18 : Int) ≤ l1 then (kK (R l0 50) = 21 ∧ (((0 : Int) ≤ (0 : Int) ∧ (0 : Int) < (kN (R l0 50) : Int)) ∧ wLet (up I (R l0 50) (0 : Int) 0) (fun I7 => (wLet (up I7 l0 53 0) (fun I8 => (wLet (up I8 l0 62 0) (fun I9 => (Q I9)))))))) else (kK (R l0 55) = 21 ∧ (kK (R l0 15) = 21 ∧ (rg (18 * (I l0 13)) ∧ (rg ((18 * (I l0 13)) + l1) ∧ (((0 : Int) ≤ ((18 * (I l0 13)) + l1) ∧ ((18 * (I l0 13)) + l1) < (kN (R l0 15) : Int)) ∧ (((0 : Int) ≤ l1 ∧ l1 < (kN (R l0 55) : Int)) ∧ wLet (up I (R l0 55) l1 (I (R l0 15) ((18 * (I l0 13)) + l1))) (fun I10 => (rg (l1 + 1) ∧ (k89 (l1 + 1) I10))))))))))
def P12_begin_b89 (l0 : Nat) (R : mR) (Q : mI → Prop) : Nat → Int → mI → Prop
  | 0 => fun _ _ => False
  | f + 1 => fun l1 I => P12_begin_b89_body l0 R Q (P12_begin_b89 l0 R Q f) l1 I
set_option maxRecDepth 20000 in
theorem W12_begin_b89_body {C : wX} {ad : Nat → Nat} {n : Nat} {I J : mI} {R : mR} {Q : mI → Prop} (hC : wOK C cX12_begin 2 RX12) (hRm : wRm C 1 12 0 0) (hE : wEnd C none ad n (fun _ I' J' R' => (J' = J ∧ R' = R) ∧ Q I')) {l0 : Nat} {l1 : Int}   (hk0 : kK l0 = 12)  {k89 : Int → mI → Prop} (kk89 : ∀ (y1 : Int) (I' : mI), k89 y1 I' → WM C ad n I' J R 0 0 89 [(0, vr l0), (1, vi y1)] []) (hw : P12_begin_b89_body l0 R Q k89 l1 I) : WM C ad n I J R 0 0 89 [(0, vr l0), (1, vi l1)] [] := by
  unfold P12_begin_b89_body at hw
  refine wm_iload_n hC 1 dX12_begin_89 rfl ?_
  refine wm_bipush hC dX12_begin_90 (k := ?_)
  refine wm_icmp_ge (tgt := 121) hC dX12_begin_92 (by decide) hw (fun hw => ?_) (fun hw => ?_)
  · refine wm_aload_n hC 0 dX12_begin_121 rfl (k_ne0 hk0 (by decide)) ?_
    refine x_getR2 hC 50 fl_X12_165 rfl hk0 dX12_begin_122 hw (fun g9 hw => ?_)
    refine wm_iconst hC dX12_begin_125 (k := ?_)
    refine wm_iconst hC dX12_begin_126 (k := ?_)
    refine x_iast hC g9 dX12_begin_127 hw (fun I7 hw => ?_)
    refine wm_aload_n hC 0 dX12_begin_128 rfl (k_ne0 hk0 (by decide)) ?_
    refine wm_iconst hC dX12_begin_129 (k := ?_)
    refine x_putI hC 53 fl_X12_174 rfl hk0 dX12_begin_130 hw (fun I8 hw => ?_)
    refine wm_aload_n hC 0 dX12_begin_133 rfl (k_ne0 hk0 (by decide)) ?_
    refine wm_iconst hC dX12_begin_134 (k := ?_)
    refine x_putI hC 62 fl_X12_201 rfl hk0 dX12_begin_135 hw (fun I9 hw => ?_)
    exact wm_return hC hE dX12_begin_138 ⟨⟨rfl, rfl⟩, hw⟩
  · refine wm_aload_n hC 0 dX12_begin_95 rfl (k_ne0 hk0 (by decide)) ?_
    refine x_getR2 hC 55 fl_X12_180 rfl hk0 dX12_begin_96 hw (fun g10 hw => ?_)
    refine wm_iload_n hC 1 dX12_begin_99 rfl ?_
    refine wm_aload_n hC 0 dX12_begin_100 rfl (k_ne0 hk0 (by decide)) ?_
    refine x_getR2 hC 15 fl_X12_57 rfl hk0 dX12_begin_101 hw (fun g11 hw => ?_)
    refine wm_bipush hC dX12_begin_104 (k := ?_)
    refine wm_aload_n hC 0 dX12_begin_106 rfl (k_ne0 hk0 (by decide)) ?_
    refine x_getI hC 13 fl_X12_51 rfl hk0 dX12_begin_107 ?_
    refine x_imul hC dX12_begin_110 hw (fun hw => ?_)
    refine wm_iload_n hC 1 dX12_begin_111 rfl ?_
    refine x_iadd hC dX12_begin_112 hw (fun hw => ?_)
    refine x_iald hC g11 dX12_begin_113 hw (fun hw => ?_)
    refine x_iast hC g10 dX12_begin_114 hw (fun I10 hw => ?_)
    refine x_iinc hC 1 dX12_begin_115 rfl (by decide) (L2 := [(1, vi (l1 + 1)), (0, vr l0)]) rfl hw (fun hw => ?_)
    refine wm_goto (tgt := 89) hC dX12_begin_118 (by decide) ?_
    refine wm_sub [1, 0] (L2 := [(0, vr l0), (1, vi (l1 + 1))]) rfl ?_
    exact kk89 _ _ hw
set_option maxRecDepth 20000 in
theorem W12_begin_b89 {C : wX} {ad : Nat → Nat} {n : Nat} {J : mI} {R : mR} {Q : mI → Prop} (hC : wOK C cX12_begin 2 RX12) (hRm : wRm C 1 12 0 0) (hE : wEnd C none ad n (fun _ I' J' R' => (J' = J ∧ R' = R) ∧ Q I')) {l0 : Nat}   (hk0 : kK l0 = 12)  : ∀ (f : Nat) (l1 : Int) (I : mI), P12_begin_b89 l0 R Q f l1 I → WM C ad n I J R 0 0 89 [(0, vr l0), (1, vi l1)] [] := by
  intro f
  induction f with
  | zero => intro l1 I hw; exact hw.elim
  | succ f ih => intro l1 I hw; exact W12_begin_b89_body hC hRm hE hk0 (fun a0 a1 hw => ih a0 a1 hw) hw
def P12_begin_b24_body (l0 : Nat) (R : mR) (Q : mI → Prop) (k24 : Int → mI → Prop) (l1 : Int) (I : mI) : Prop := (if (6 : Int) ≤ l1 then (∃ f, P12_begin_b89 l0 R Q f 0 I) else (kK (R l0 47) = 21 ∧ (((0 : Int) ≤ l1 ∧ l1 < (kN (R l0 47) : Int)) ∧ wLet (up I (R l0 47) l1 l1) (fun I3 => (kK (R l0 48) = 21 ∧ (((0 : Int) ≤ l1 ∧ l1 < (kN (R l0 48) : Int)) ∧ wLet (up I3 (R l0 48) l1 5) (fun I4 => (kK (R l0 49) = 21 ∧ (kK (R l0 20) = 21 ∧ (((0 : Int) ≤ (I4 l0 13) ∧ (I4 l0 13) < (kN (R l0 20) : Int)) ∧ (if (I4 (R l0 20) (I4 l0 13)) ≤ l1 then (((0 : Int) ≤ l1 ∧ l1 < (kN (R l0 49) : Int)) ∧ wLet (up I4 (R l0 49) l1 (-1)) (fun I5 => (rg (l1 + 1) ∧ (k24 (l1 + 1) I5)))) else (kK (R l0 23) = 21 ∧ (rg (6 * (I4 l0 13)) ∧ (rg ((6 * (I4 l0 13)) + l1) ∧ (((0 : Int) ≤ ((6 * (I4 l0 13)) + l1) ∧ ((6 * (I4 l0 13)) + l1) < (kN (R l0 23) : Int)) ∧ (((0 : Int) ≤ l1 ∧ l1 < (kN (R l0 49) : Int)) ∧ wLet (up I4 (R l0 49) l1 (I4 (R l0 23) ((6 * (I4 l0 13)) + l1))) (fun I6 => (rg (l1 + 1) ∧ (k24 (l1 + 1) I6)))))))))))))))))))
def P12_begin_b24 (l0 : Nat) (R : mR) (Q : mI → Prop) : Nat → Int → mI → Prop
  | 0 => fun _ _ => False
  | f + 1 => fun l1 I => P12_begin_b24_body l0 R Q (P12_begin_b24 l0 R Q f) l1 I
set_option maxRecDepth 20000 in
theorem W12_begin_b24_body {C : wX} {ad : Nat → Nat} {n : Nat} {I J : mI} {R : mR} {Q : mI → Prop} (hC : wOK C cX12_begin 2 RX12) (hRm : wRm C 1 12 0 0) (hE : wEnd C none ad n (fun _ I' J' R' => (J' = J ∧ R' = R) ∧ Q I')) {l0 : Nat} {l1 : Int}   (hk0 : kK l0 = 12)  {k24 : Int → mI → Prop} (kk24 : ∀ (y1 : Int) (I' : mI), k24 y1 I' → WM C ad n I' J R 0 0 24 [(0, vr l0), (1, vi y1)] []) (hw : P12_begin_b24_body l0 R Q k24 l1 I) : WM C ad n I J R 0 0 24 [(0, vr l0), (1, vi l1)] [] := by
  unfold P12_begin_b24_body at hw
  refine wm_iload_n hC 1 dX12_begin_24 rfl ?_
  refine wm_bipush hC dX12_begin_25 (k := ?_)
  refine wm_icmp_ge (tgt := 87) hC dX12_begin_27 (by decide) hw (fun hw => ?_) (fun hw => ?_)
  · refine wm_iconst hC dX12_begin_87 (k := ?_)
    refine wm_istore_n hC dX12_begin_88 (by decide) (L2 := [(1, vi 0), (0, vr l0)]) rfl ?_
    obtain ⟨f, hw⟩ := hw
    refine wm_sub [1, 0] (L2 := [(0, vr l0), (1, vi 0)]) rfl ?_
    exact W12_begin_b89 hC hRm hE hk0 f _ _ hw
  · refine wm_aload_n hC 0 dX12_begin_30 rfl (k_ne0 hk0 (by decide)) ?_
    refine x_getR2 hC 47 fl_X12_156 rfl hk0 dX12_begin_31 hw (fun g4 hw => ?_)
    refine wm_iload_n hC 1 dX12_begin_34 rfl ?_
    refine wm_iload_n hC 1 dX12_begin_35 rfl ?_
    refine x_iast hC g4 dX12_begin_36 hw (fun I3 hw => ?_)
    refine wm_aload_n hC 0 dX12_begin_37 rfl (k_ne0 hk0 (by decide)) ?_
    refine x_getR2 hC 48 fl_X12_159 rfl hk0 dX12_begin_38 hw (fun g5 hw => ?_)
    refine wm_iload_n hC 1 dX12_begin_41 rfl ?_
    refine wm_iconst hC dX12_begin_42 (k := ?_)
    refine x_iast hC g5 dX12_begin_43 hw (fun I4 hw => ?_)
    refine wm_aload_n hC 0 dX12_begin_44 rfl (k_ne0 hk0 (by decide)) ?_
    refine x_getR2 hC 49 fl_X12_162 rfl hk0 dX12_begin_45 hw (fun g6 hw => ?_)
    refine wm_iload_n hC 1 dX12_begin_48 rfl ?_
    refine wm_iload_n hC 1 dX12_begin_49 rfl ?_
    refine wm_aload_n hC 0 dX12_begin_50 rfl (k_ne0 hk0 (by decide)) ?_
    refine x_getR2 hC 20 fl_X12_72 rfl hk0 dX12_begin_51 hw (fun g7 hw => ?_)
    refine wm_aload_n hC 0 dX12_begin_54 rfl (k_ne0 hk0 (by decide)) ?_
    refine x_getI hC 13 fl_X12_51 rfl hk0 dX12_begin_55 ?_
    refine x_iald hC g7 dX12_begin_58 hw (fun hw => ?_)
    refine wm_icmp_ge (tgt := 79) hC dX12_begin_59 (by decide) hw (fun hw => ?_) (fun hw => ?_)
    · refine wm_iconst hC dX12_begin_79 (k := ?_)
      refine x_iast hC g6 dX12_begin_80 hw (fun I5 hw => ?_)
      refine x_iinc hC 1 dX12_begin_81 rfl (by decide) (L2 := [(1, vi (l1 + 1)), (0, vr l0)]) rfl hw (fun hw => ?_)
      refine wm_goto (tgt := 24) hC dX12_begin_84 (by decide) ?_
      refine wm_sub [1, 0] (L2 := [(0, vr l0), (1, vi (l1 + 1))]) rfl ?_
      exact kk24 _ _ hw
    · refine wm_aload_n hC 0 dX12_begin_62 rfl (k_ne0 hk0 (by decide)) ?_
      refine x_getR2 hC 23 fl_X12_81 rfl hk0 dX12_begin_63 hw (fun g8 hw => ?_)
      refine wm_bipush hC dX12_begin_66 (k := ?_)
      refine wm_aload_n hC 0 dX12_begin_68 rfl (k_ne0 hk0 (by decide)) ?_
      refine x_getI hC 13 fl_X12_51 rfl hk0 dX12_begin_69 ?_
      refine x_imul hC dX12_begin_72 hw (fun hw => ?_)
      refine wm_iload_n hC 1 dX12_begin_73 rfl ?_
      refine x_iadd hC dX12_begin_74 hw (fun hw => ?_)
      refine x_iald hC g8 dX12_begin_75 hw (fun hw => ?_)
      refine wm_goto (tgt := 80) hC dX12_begin_76 (by decide) ?_
      refine x_iast hC g6 dX12_begin_80 hw (fun I6 hw => ?_)
      refine x_iinc hC 1 dX12_begin_81 rfl (by decide) (L2 := [(1, vi (l1 + 1)), (0, vr l0)]) rfl hw (fun hw => ?_)
      refine wm_goto (tgt := 24) hC dX12_begin_84 (by decide) ?_
      refine wm_sub [1, 0] (L2 := [(0, vr l0), (1, vi (l1 + 1))]) rfl ?_
      exact kk24 _ _ hw
set_option maxRecDepth 20000 in
theorem W12_begin_b24 {C : wX} {ad : Nat → Nat} {n : Nat} {J : mI} {R : mR} {Q : mI → Prop} (hC : wOK C cX12_begin 2 RX12) (hRm : wRm C 1 12 0 0) (hE : wEnd C none ad n (fun _ I' J' R' => (J' = J ∧ R' = R) ∧ Q I')) {l0 : Nat}   (hk0 : kK l0 = 12)  : ∀ (f : Nat) (l1 : Int) (I : mI), P12_begin_b24 l0 R Q f l1 I → WM C ad n I J R 0 0 24 [(0, vr l0), (1, vi l1)] [] := by
  intro f
  induction f with
  | zero => intro l1 I hw; exact hw.elim
  | succ f ih => intro l1 I hw; exact W12_begin_b24_body hC hRm hE hk0 (fun a0 a1 hw => ih a0 a1 hw) hw
def P12_begin (l0 : Nat) (I : mI) (R : mR) (Q : mI → Prop) : Prop := (kK (R l0 45) = 21 ∧ (((0 : Int) ≤ (0 : Int) ∧ (0 : Int) < (kN (R l0 45) : Int)) ∧ wLet (up I (R l0 45) (0 : Int) 0) (fun I1 => (kK (R l0 46) = 21 ∧ (kK (R l0 24) = 21 ∧ (((0 : Int) ≤ (I1 l0 13) ∧ (I1 l0 13) < (kN (R l0 24) : Int)) ∧ (((0 : Int) ≤ (0 : Int) ∧ (0 : Int) < (kN (R l0 46) : Int)) ∧ wLet (up I1 (R l0 46) (0 : Int) (I1 (R l0 24) (I1 l0 13))) (fun I2 => (∃ f, P12_begin_b24 l0 R Q f 0 I2)))))))))
set_option maxRecDepth 20000 in
theorem C12_begin {ad : Nat → Nat} {n : Nat} {I J : mI} {R : mR} {Q : mI → Prop}  {l0 : Nat} (hk0 : kK l0 = 12) (hw : P12_begin l0 I R Q) : wMet yX12_begin cX12_begin 2 none 1 12 false ad n I J R [vr l0] (fun _ I' J' R' => (J' = J ∧ R' = R) ∧ Q I') := by
  refine wMet_of (by decide) (Nat.le_of_ble_eq_true rfl) (fun C hC hRm hE hS => ?_)
  refine (show WM C ad n I J R 0 0 0 [(0, vr l0)] [] from ?_)
  unfold P12_begin at hw
  refine wm_aload_n hC 0 dX12_begin_0 rfl (k_ne0 hk0 (by decide)) ?_
  refine x_getR2 hC 45 fl_X12_150 rfl hk0 dX12_begin_1 hw (fun g1 hw => ?_)
  refine wm_iconst hC dX12_begin_4 (k := ?_)
  refine wm_iconst hC dX12_begin_5 (k := ?_)
  refine x_iast hC g1 dX12_begin_6 hw (fun I1 hw => ?_)
  refine wm_aload_n hC 0 dX12_begin_7 rfl (k_ne0 hk0 (by decide)) ?_
  refine x_getR2 hC 46 fl_X12_153 rfl hk0 dX12_begin_8 hw (fun g2 hw => ?_)
  refine wm_iconst hC dX12_begin_11 (k := ?_)
  refine wm_aload_n hC 0 dX12_begin_12 rfl (k_ne0 hk0 (by decide)) ?_
  refine x_getR2 hC 24 fl_X12_84 rfl hk0 dX12_begin_13 hw (fun g3 hw => ?_)
  refine wm_aload_n hC 0 dX12_begin_16 rfl (k_ne0 hk0 (by decide)) ?_
  refine x_getI hC 13 fl_X12_51 rfl hk0 dX12_begin_17 ?_
  refine x_iald hC g3 dX12_begin_20 hw (fun hw => ?_)
  refine x_iast hC g2 dX12_begin_21 hw (fun I2 hw => ?_)
  refine wm_iconst hC dX12_begin_22 (k := ?_)
  refine wm_istore_n hC dX12_begin_23 (by decide) (L2 := [(1, vi 0), (0, vr l0)]) rfl ?_
  obtain ⟨f, hw⟩ := hw
  refine wm_sub [1, 0] (L2 := [(0, vr l0), (1, vi 0)]) rfl ?_
  exact W12_begin_b24 hC hRm hE hk0 f _ _ hw
def P12_land_b170 (l0 : Nat) (l1 : Int) (I : mI) (J : mI) (R : mR) (Q : Int → mI → mI → Prop) : Prop := (wLet (up I l0 10 (I l0 8)) (fun I18 => (wLet (up I18 l0 11 (I18 l0 9)) (fun I19 => (if (I19 l0 8) ≤ 0 then (wLet (up I19 l0 13 (I19 l0 32)) (fun I20 => (P12_begin l0 I20 R (fun I21 => (Q l1 I21 J))))) else (P12_refuses l0 1 I19 R (fun r1 I22 => (Q r1 I22 J))))))))
set_option maxRecDepth 20000 in
theorem W12_land_b170 {C : wX} {ad : Nat → Nat} {n : Nat} {I J : mI} {R : mR} {Q : Int → mI → mI → Prop} (hC : wOK C cX12_land 2 RX12) (hRm : wRm C 8 165 0 0) (hE : wEnd C (some .int) ad n (fun r I' J' R' => (R' = R) ∧ Q r I' J')) {l0 : Nat} {l1 : Int}   (hk0 : kK l0 = 12)  (hw : P12_land_b170 l0 l1 I J R Q) : WM C ad n I J R 0 0 170 [(0, vr l0), (1, vi l1)] [] := by
  unfold P12_land_b170 at hw
  refine wm_aload_n hC 0 dX12_land_170 rfl (k_ne0 hk0 (by decide)) ?_
  refine wm_aload_n hC 0 dX12_land_171 rfl (k_ne0 hk0 (by decide)) ?_
  refine x_getI hC 8 fl_X12_36 rfl hk0 dX12_land_172 ?_
  refine x_putI hC 10 fl_X12_42 rfl hk0 dX12_land_175 hw (fun I18 hw => ?_)
  refine wm_aload_n hC 0 dX12_land_178 rfl (k_ne0 hk0 (by decide)) ?_
  refine wm_aload_n hC 0 dX12_land_179 rfl (k_ne0 hk0 (by decide)) ?_
  refine x_getI hC 9 fl_X12_39 rfl hk0 dX12_land_180 ?_
  refine x_putI hC 11 fl_X12_45 rfl hk0 dX12_land_183 hw (fun I19 hw => ?_)
  refine wm_aload_n hC 0 dX12_land_186 rfl (k_ne0 hk0 (by decide)) ?_
  refine x_getI hC 8 fl_X12_36 rfl hk0 dX12_land_187 ?_
  refine wm_if_le (tgt := 199) hC dX12_land_190 (by decide) hw (fun hw => ?_) (fun hw => ?_)
  · refine wm_aload_n hC 0 dX12_land_199 rfl (k_ne0 hk0 (by decide)) ?_
    refine wm_aload_n hC 0 dX12_land_200 rfl (k_ne0 hk0 (by decide)) ?_
    refine x_getI hC 32 fl_X12_109 rfl hk0 dX12_land_201 ?_
    refine x_putI hC 13 fl_X12_51 rfl hk0 dX12_land_204 hw (fun I20 hw => ?_)
    refine wm_aload_n hC 0 dX12_land_207 rfl (k_ne0 hk0 (by decide)) ?_
    refine y_callV_v_I hC hRm noS ml_X12_418 hk0 (C12_begin hk0 hw) (Nat.le_of_ble_eq_true rfl) (Nat.le_of_ble_eq_true rfl) ⟨Nat.zero_le _, Nat.zero_le _⟩ rfl (st := []) rfl (Nat.le_of_ble_eq_true rfl) dX12_land_208 (fun I21 hw => ?_)
    refine wm_iload_n hC 1 dX12_land_211 rfl ?_
    exact wm_ireturn hC hE dX12_land_212 ⟨rfl, hw⟩
  · refine wm_aload_n hC 0 dX12_land_193 rfl (k_ne0 hk0 (by decide)) ?_
    refine wm_iconst hC dX12_land_194 (k := ?_)
    refine y_callV_i_I hC hRm noS ml_X12_222 hk0 (C12_refuses hk0 hw) (Nat.le_of_ble_eq_true rfl) (Nat.le_of_ble_eq_true rfl) ⟨Nat.zero_le _, Nat.zero_le _⟩ rfl (st := []) rfl (Nat.le_of_ble_eq_true rfl) dX12_land_195 (fun r1 I22 hw => ?_)
    exact wm_ireturn hC hE dX12_land_198 ⟨rfl, hw⟩
def P12_land_b141_body (l0 : Nat) (R : mR) (Q : Int → mI → mI → Prop) (k141 : Int → mI → mI → Prop) (l1 : Int) (I : mI) (J : mI) : Prop := (if (I l0 8) = 0 then (if (I l0 3) = 0 then (P12_land_b170 l0 l1 I J R Q) else (P12_statement l0 I J R (fun I16 J2 => (rg (l1 + 1) ∧ (P12_finishes l0 (l1 + 1) I16 J2 R (fun I17 J3 => (k141 (l1 + 1) I17 J3))))))) else (P12_land_b170 l0 l1 I J R Q))
def P12_land_b141 (l0 : Nat) (R : mR) (Q : Int → mI → mI → Prop) : Nat → Int → mI → mI → Prop
  | 0 => fun _ _ _ => False
  | f + 1 => fun l1 I J => P12_land_b141_body l0 R Q (P12_land_b141 l0 R Q f) l1 I J
set_option maxRecDepth 20000 in
theorem W12_land_b141_body {C : wX} {ad : Nat → Nat} {n : Nat} {I J : mI} {R : mR} {Q : Int → mI → mI → Prop} (hC : wOK C cX12_land 2 RX12) (hRm : wRm C 8 165 0 0) (hE : wEnd C (some .int) ad n (fun r I' J' R' => (R' = R) ∧ Q r I' J')) {l0 : Nat} {l1 : Int}   (hk0 : kK l0 = 12)  {k141 : Int → mI → mI → Prop} (kk141 : ∀ (y1 : Int) (I' : mI) (J' : mI), k141 y1 I' J' → WM C ad n I' J' R 0 0 141 [(0, vr l0), (1, vi y1)] []) (hw : P12_land_b141_body l0 R Q k141 l1 I J) : WM C ad n I J R 0 0 141 [(0, vr l0), (1, vi l1)] [] := by
  unfold P12_land_b141_body at hw
  refine wm_aload_n hC 0 dX12_land_141 rfl (k_ne0 hk0 (by decide)) ?_
  refine x_getI hC 8 fl_X12_36 rfl hk0 dX12_land_142 ?_
  refine wm_if_ne (tgt := 170) hC dX12_land_145 (by decide) hw (fun hw => ?_) (fun hw => ?_)
  · refine wm_aload_n hC 0 dX12_land_148 rfl (k_ne0 hk0 (by decide)) ?_
    refine x_getI hC 3 fl_X12_20 rfl hk0 dX12_land_149 ?_
    refine wm_if_eq (tgt := 170) hC dX12_land_152 (by decide) hw (fun hw => ?_) (fun hw => ?_)
    · exact W12_land_b170 hC hRm hE hk0 hw
    · refine wm_aload_n hC 0 dX12_land_155 rfl (k_ne0 hk0 (by decide)) ?_
      refine y_callV_v_IJ hC hRm noS ml_X12_412 hk0 (C12_statement hk0 hw) (Nat.le_of_ble_eq_true rfl) (Nat.le_of_ble_eq_true rfl) ⟨Nat.zero_le _, Nat.zero_le _⟩ rfl (st := []) rfl (Nat.le_of_ble_eq_true rfl) dX12_land_156 (fun I16 J2 hw => ?_)
      refine x_iinc hC 1 dX12_land_159 rfl (by decide) (L2 := [(1, vi (l1 + 1)), (0, vr l0)]) rfl hw (fun hw => ?_)
      refine wm_aload_n hC 1 dX12_land_162 rfl (k_ne0 hk0 (by decide)) ?_
      refine wm_iload_n hC 0 dX12_land_163 rfl ?_
      refine y_callV_v_IJ hC hRm noS ml_X12_415 hk0 (C12_finishes hk0 hw) (Nat.le_of_ble_eq_true rfl) (Nat.le_of_ble_eq_true rfl) ⟨Nat.zero_le _, Nat.zero_le _⟩ rfl (st := []) rfl (Nat.le_of_ble_eq_true rfl) dX12_land_164 (fun I17 J3 hw => ?_)
      refine wm_goto (tgt := 141) hC dX12_land_167 (by decide) ?_
      refine wm_sub [1, 0] (L2 := [(0, vr l0), (1, vi (l1 + 1))]) rfl ?_
      exact kk141 _ _ _ hw
  · exact W12_land_b170 hC hRm hE hk0 hw
set_option maxRecDepth 20000 in
theorem W12_land_b141 {C : wX} {ad : Nat → Nat} {n : Nat} {R : mR} {Q : Int → mI → mI → Prop} (hC : wOK C cX12_land 2 RX12) (hRm : wRm C 8 165 0 0) (hE : wEnd C (some .int) ad n (fun r I' J' R' => (R' = R) ∧ Q r I' J')) {l0 : Nat}   (hk0 : kK l0 = 12)  : ∀ (f : Nat) (l1 : Int) (I : mI) (J : mI), P12_land_b141 l0 R Q f l1 I J → WM C ad n I J R 0 0 141 [(0, vr l0), (1, vi l1)] [] := by
  intro f
  induction f with
  | zero => intro l1 I J hw; exact hw.elim
  | succ f ih => intro l1 I J hw; exact W12_land_b141_body hC hRm hE hk0 (fun a0 a1 a2 hw => ih a0 a1 a2 hw) hw
def P12_land_b105_body (l0 : Nat) (J : mI) (R : mR) (Q : Int → mI → mI → Prop) (k105 : Int → mI → Prop) (l1 : Int) (I : mI) : Prop := (rg (3 * (I l0 32)) ∧ (rg ((3 * (I l0 32)) + 3) ∧ (if ((3 * (I l0 32)) + 3) ≤ l1 then (wLet (up I l0 31 0) (fun I13 => (P12_ahead l0 I13 J R (fun I14 J1 => (∃ f, P12_land_b141 l0 R Q f 0 I14 J1))))) else (kK (R l0 26) = 21 ∧ (((0 : Int) ≤ l1 ∧ l1 < (kN (R l0 26) : Int)) ∧ wLet (up I (R l0 26) l1 (-1)) (fun I15 => (rg (l1 + 1) ∧ (k105 (l1 + 1) I15))))))))
def P12_land_b105 (l0 : Nat) (J : mI) (R : mR) (Q : Int → mI → mI → Prop) : Nat → Int → mI → Prop
  | 0 => fun _ _ => False
  | f + 1 => fun l1 I => P12_land_b105_body l0 J R Q (P12_land_b105 l0 J R Q f) l1 I
set_option maxRecDepth 20000 in
theorem W12_land_b105_body {C : wX} {ad : Nat → Nat} {n : Nat} {I J : mI} {R : mR} {Q : Int → mI → mI → Prop} (hC : wOK C cX12_land 2 RX12) (hRm : wRm C 8 165 0 0) (hE : wEnd C (some .int) ad n (fun r I' J' R' => (R' = R) ∧ Q r I' J')) {l0 : Nat} {l1 : Int}   (hk0 : kK l0 = 12)  {k105 : Int → mI → Prop} (kk105 : ∀ (y1 : Int) (I' : mI), k105 y1 I' → WM C ad n I' J R 0 0 105 [(0, vr l0), (1, vi y1)] []) (hw : P12_land_b105_body l0 J R Q k105 l1 I) : WM C ad n I J R 0 0 105 [(0, vr l0), (1, vi l1)] [] := by
  unfold P12_land_b105_body at hw
  refine wm_iload_n hC 1 dX12_land_105 rfl ?_
  refine wm_iconst hC dX12_land_106 (k := ?_)
  refine wm_aload_n hC 0 dX12_land_107 rfl (k_ne0 hk0 (by decide)) ?_
  refine x_getI hC 32 fl_X12_109 rfl hk0 dX12_land_108 ?_
  refine x_imul hC dX12_land_111 hw (fun hw => ?_)
  refine wm_iconst hC dX12_land_112 (k := ?_)
  refine x_iadd hC dX12_land_113 hw (fun hw => ?_)
  refine wm_icmp_ge (tgt := 130) hC dX12_land_114 (by decide) hw (fun hw => ?_) (fun hw => ?_)
  · refine wm_aload_n hC 0 dX12_land_130 rfl (k_ne0 hk0 (by decide)) ?_
    refine wm_iconst hC dX12_land_131 (k := ?_)
    refine x_putI hC 31 fl_X12_106 rfl hk0 dX12_land_132 hw (fun I13 hw => ?_)
    refine wm_iconst hC dX12_land_135 (k := ?_)
    refine wm_istore_n hC dX12_land_136 (by decide) (L2 := [(1, vi 0), (0, vr l0)]) rfl ?_
    refine wm_aload_n hC 1 dX12_land_137 rfl (k_ne0 hk0 (by decide)) ?_
    refine y_callV_v_IJ hC hRm noS ml_X12_247 hk0 (C12_ahead hk0 hw) (Nat.le_of_ble_eq_true rfl) (Nat.le_of_ble_eq_true rfl) ⟨Nat.zero_le _, Nat.zero_le _⟩ rfl (st := []) rfl (Nat.le_of_ble_eq_true rfl) dX12_land_138 (fun I14 J1 hw => ?_)
    obtain ⟨f, hw⟩ := hw
    refine wm_sub [1, 0] (L2 := [(0, vr l0), (1, vi 0)]) rfl ?_
    exact W12_land_b141 hC hRm hE hk0 f _ _ _ hw
  · refine wm_aload_n hC 0 dX12_land_117 rfl (k_ne0 hk0 (by decide)) ?_
    refine x_getR2 hC 26 fl_X12_90 rfl hk0 dX12_land_118 hw (fun g7 hw => ?_)
    refine wm_iload_n hC 1 dX12_land_121 rfl ?_
    refine wm_iconst hC dX12_land_122 (k := ?_)
    refine x_iast hC g7 dX12_land_123 hw (fun I15 hw => ?_)
    refine x_iinc hC 1 dX12_land_124 rfl (by decide) (L2 := [(1, vi (l1 + 1)), (0, vr l0)]) rfl hw (fun hw => ?_)
    refine wm_goto (tgt := 105) hC dX12_land_127 (by decide) ?_
    refine wm_sub [1, 0] (L2 := [(0, vr l0), (1, vi (l1 + 1))]) rfl ?_
    exact kk105 _ _ hw
set_option maxRecDepth 20000 in
theorem W12_land_b105 {C : wX} {ad : Nat → Nat} {n : Nat} {J : mI} {R : mR} {Q : Int → mI → mI → Prop} (hC : wOK C cX12_land 2 RX12) (hRm : wRm C 8 165 0 0) (hE : wEnd C (some .int) ad n (fun r I' J' R' => (R' = R) ∧ Q r I' J')) {l0 : Nat}   (hk0 : kK l0 = 12)  : ∀ (f : Nat) (l1 : Int) (I : mI), P12_land_b105 l0 J R Q f l1 I → WM C ad n I J R 0 0 105 [(0, vr l0), (1, vi l1)] [] := by
  intro f
  induction f with
  | zero => intro l1 I hw; exact hw.elim
  | succ f ih => intro l1 I hw; exact W12_land_b105_body hC hRm hE hk0 (fun a0 a1 hw => ih a0 a1 hw) hw
def P12_land (l0 : Nat) (I : mI) (J : mI) (R : mR) (Q : Int → mI → mI → Prop) : Prop := (wLet (up I l0 2 (I l0 1)) (fun I1 => (wLet (up I1 l0 1 0) (fun I2 => (wLet (up I2 l0 5 0) (fun I3 => (wLet (up I3 l0 8 0) (fun I4 => (wLet (up I4 l0 9 (-1)) (fun I5 => (rg (1 - (I5 l0 13)) ∧ (wLet (up I5 l0 32 (1 - (I5 l0 13))) (fun I6 => (kK (R l0 14) = 21 ∧ (((0 : Int) ≤ (I6 l0 32) ∧ (I6 l0 32) < (kN (R l0 14) : Int)) ∧ wLet (up I6 (R l0 14) (I6 l0 32) 0) (fun I7 => (kK (R l0 16) = 21 ∧ (((0 : Int) ≤ (I7 l0 32) ∧ (I7 l0 32) < (kN (R l0 16) : Int)) ∧ wLet (up I7 (R l0 16) (I7 l0 32) 0) (fun I8 => (kK (R l0 17) = 21 ∧ (((0 : Int) ≤ (I8 l0 32) ∧ (I8 l0 32) < (kN (R l0 17) : Int)) ∧ wLet (up I8 (R l0 17) (I8 l0 32) 0) (fun I9 => (kK (R l0 20) = 21 ∧ (((0 : Int) ≤ (I9 l0 32) ∧ (I9 l0 32) < (kN (R l0 20) : Int)) ∧ wLet (up I9 (R l0 20) (I9 l0 32) 0) (fun I10 => (kK (R l0 24) = 21 ∧ (((0 : Int) ≤ (I10 l0 32) ∧ (I10 l0 32) < (kN (R l0 24) : Int)) ∧ wLet (up I10 (R l0 24) (I10 l0 32) 0) (fun I11 => (kK (R l0 25) = 21 ∧ (((0 : Int) ≤ (I11 l0 32) ∧ (I11 l0 32) < (kN (R l0 25) : Int)) ∧ wLet (up I11 (R l0 25) (I11 l0 32) 0) (fun I12 => (rg (3 * (I12 l0 32)) ∧ (∃ f, P12_land_b105 l0 J R Q f (3 * (I12 l0 32)) I12)))))))))))))))))))))))))))))))))
set_option maxRecDepth 20000 in
theorem C12_land {ad : Nat → Nat} {n : Nat} {I J : mI} {R : mR} {Q : Int → mI → mI → Prop}  {l0 : Nat} (hk0 : kK l0 = 12) (hw : P12_land l0 I J R Q) : wMet yX12_land cX12_land 2 (some .int) 8 165 false ad n I J R [vr l0] (fun r I' J' R' => (R' = R) ∧ Q r I' J') := by
  refine wMet_of (by decide) (Nat.le_of_ble_eq_true rfl) (fun C hC hRm hE hS => ?_)
  refine (show WM C ad n I J R 0 0 0 [(0, vr l0)] [] from ?_)
  unfold P12_land at hw
  refine wm_aload_n hC 0 dX12_land_0 rfl (k_ne0 hk0 (by decide)) ?_
  refine wm_aload_n hC 0 dX12_land_1 rfl (k_ne0 hk0 (by decide)) ?_
  refine x_getI hC 1 fl_X12_13 rfl hk0 dX12_land_2 ?_
  refine x_putI hC 2 fl_X12_17 rfl hk0 dX12_land_5 hw (fun I1 hw => ?_)
  refine wm_aload_n hC 0 dX12_land_8 rfl (k_ne0 hk0 (by decide)) ?_
  refine wm_iconst hC dX12_land_9 (k := ?_)
  refine x_putI hC 1 fl_X12_13 rfl hk0 dX12_land_10 hw (fun I2 hw => ?_)
  refine wm_aload_n hC 0 dX12_land_13 rfl (k_ne0 hk0 (by decide)) ?_
  refine wm_iconst hC dX12_land_14 (k := ?_)
  refine x_putI hC 5 fl_X12_26 rfl hk0 dX12_land_15 hw (fun I3 hw => ?_)
  refine wm_aload_n hC 0 dX12_land_18 rfl (k_ne0 hk0 (by decide)) ?_
  refine wm_iconst hC dX12_land_19 (k := ?_)
  refine x_putI hC 8 fl_X12_36 rfl hk0 dX12_land_20 hw (fun I4 hw => ?_)
  refine wm_aload_n hC 0 dX12_land_23 rfl (k_ne0 hk0 (by decide)) ?_
  refine wm_iconst hC dX12_land_24 (k := ?_)
  refine x_putI hC 9 fl_X12_39 rfl hk0 dX12_land_25 hw (fun I5 hw => ?_)
  refine wm_aload_n hC 0 dX12_land_28 rfl (k_ne0 hk0 (by decide)) ?_
  refine wm_iconst hC dX12_land_29 (k := ?_)
  refine wm_aload_n hC 0 dX12_land_30 rfl (k_ne0 hk0 (by decide)) ?_
  refine x_getI hC 13 fl_X12_51 rfl hk0 dX12_land_31 ?_
  refine x_isub hC dX12_land_34 hw (fun hw => ?_)
  refine x_putI hC 32 fl_X12_109 rfl hk0 dX12_land_35 hw (fun I6 hw => ?_)
  refine wm_aload_n hC 0 dX12_land_38 rfl (k_ne0 hk0 (by decide)) ?_
  refine x_getR2 hC 14 fl_X12_54 rfl hk0 dX12_land_39 hw (fun g1 hw => ?_)
  refine wm_aload_n hC 0 dX12_land_42 rfl (k_ne0 hk0 (by decide)) ?_
  refine x_getI hC 32 fl_X12_109 rfl hk0 dX12_land_43 ?_
  refine wm_iconst hC dX12_land_46 (k := ?_)
  refine x_iast hC g1 dX12_land_47 hw (fun I7 hw => ?_)
  refine wm_aload_n hC 0 dX12_land_48 rfl (k_ne0 hk0 (by decide)) ?_
  refine x_getR2 hC 16 fl_X12_60 rfl hk0 dX12_land_49 hw (fun g2 hw => ?_)
  refine wm_aload_n hC 0 dX12_land_52 rfl (k_ne0 hk0 (by decide)) ?_
  refine x_getI hC 32 fl_X12_109 rfl hk0 dX12_land_53 ?_
  refine wm_iconst hC dX12_land_56 (k := ?_)
  refine x_iast hC g2 dX12_land_57 hw (fun I8 hw => ?_)
  refine wm_aload_n hC 0 dX12_land_58 rfl (k_ne0 hk0 (by decide)) ?_
  refine x_getR2 hC 17 fl_X12_63 rfl hk0 dX12_land_59 hw (fun g3 hw => ?_)
  refine wm_aload_n hC 0 dX12_land_62 rfl (k_ne0 hk0 (by decide)) ?_
  refine x_getI hC 32 fl_X12_109 rfl hk0 dX12_land_63 ?_
  refine wm_iconst hC dX12_land_66 (k := ?_)
  refine x_iast hC g3 dX12_land_67 hw (fun I9 hw => ?_)
  refine wm_aload_n hC 0 dX12_land_68 rfl (k_ne0 hk0 (by decide)) ?_
  refine x_getR2 hC 20 fl_X12_72 rfl hk0 dX12_land_69 hw (fun g4 hw => ?_)
  refine wm_aload_n hC 0 dX12_land_72 rfl (k_ne0 hk0 (by decide)) ?_
  refine x_getI hC 32 fl_X12_109 rfl hk0 dX12_land_73 ?_
  refine wm_iconst hC dX12_land_76 (k := ?_)
  refine x_iast hC g4 dX12_land_77 hw (fun I10 hw => ?_)
  refine wm_aload_n hC 0 dX12_land_78 rfl (k_ne0 hk0 (by decide)) ?_
  refine x_getR2 hC 24 fl_X12_84 rfl hk0 dX12_land_79 hw (fun g5 hw => ?_)
  refine wm_aload_n hC 0 dX12_land_82 rfl (k_ne0 hk0 (by decide)) ?_
  refine x_getI hC 32 fl_X12_109 rfl hk0 dX12_land_83 ?_
  refine wm_iconst hC dX12_land_86 (k := ?_)
  refine x_iast hC g5 dX12_land_87 hw (fun I11 hw => ?_)
  refine wm_aload_n hC 0 dX12_land_88 rfl (k_ne0 hk0 (by decide)) ?_
  refine x_getR2 hC 25 fl_X12_87 rfl hk0 dX12_land_89 hw (fun g6 hw => ?_)
  refine wm_aload_n hC 0 dX12_land_92 rfl (k_ne0 hk0 (by decide)) ?_
  refine x_getI hC 32 fl_X12_109 rfl hk0 dX12_land_93 ?_
  refine wm_iconst hC dX12_land_96 (k := ?_)
  refine x_iast hC g6 dX12_land_97 hw (fun I12 hw => ?_)
  refine wm_iconst hC dX12_land_98 (k := ?_)
  refine wm_aload_n hC 0 dX12_land_99 rfl (k_ne0 hk0 (by decide)) ?_
  refine x_getI hC 32 fl_X12_109 rfl hk0 dX12_land_100 ?_
  refine x_imul hC dX12_land_103 hw (fun hw => ?_)
  refine wm_istore_n hC dX12_land_104 (by decide) (L2 := [(1, vi (3 * (I12 l0 32))), (0, vr l0)]) rfl ?_
  obtain ⟨f, hw⟩ := hw
  refine wm_sub [1, 0] (L2 := [(0, vr l0), (1, vi (3 * (I12 l0 32)))]) rfl ?_
  exact W12_land_b105 hC hRm hE hk0 f _ _ hw
def P12_fault (l0 : Nat) (l1 : Int) (I : mI) (Q : Int → Prop) : Prop := (if l1 = 0 then (Q (I l0 10)) else (if l1 = 1 then (Q (I l0 11)) else (Q (-1))))
set_option maxRecDepth 20000 in
theorem C12_fault {ad : Nat → Nat} {n : Nat} {I J : mI} {R : mR} {Q : Int → Prop}  {l0 : Nat} {l1 : Int} (hk0 : kK l0 = 12) (hw : P12_fault l0 l1 I Q) : wMet yX12_fault cX12_fault 2 (some .int) 1 12 false ad n I J R [vr l0, vi l1] (fun r I' J' R' => (I' = I ∧ J' = J ∧ R' = R) ∧ Q r) := by
  refine wMet_of (by decide) (Nat.le_of_ble_eq_true rfl) (fun C hC hRm hE hS => ?_)
  refine (show WM C ad n I J R 0 0 0 [(0, vr l0), (1, vi l1)] [] from ?_)
  unfold P12_fault at hw
  refine wm_iload_n hC 1 dX12_fault_0 rfl ?_
  refine wm_if_ne (tgt := 11) hC dX12_fault_1 (by decide) hw (fun hw => ?_) (fun hw => ?_)
  · refine wm_aload_n hC 0 dX12_fault_4 rfl (k_ne0 hk0 (by decide)) ?_
    refine x_getI hC 10 fl_X12_42 rfl hk0 dX12_fault_5 ?_
    refine wm_goto (tgt := 24) hC dX12_fault_8 (by decide) ?_
    exact wm_ireturn hC hE dX12_fault_24 ⟨⟨rfl, rfl, rfl⟩, hw⟩
  · refine wm_iload_n hC 1 dX12_fault_11 rfl ?_
    refine wm_iconst hC dX12_fault_12 (k := ?_)
    refine wm_icmp_ne (tgt := 23) hC dX12_fault_13 (by decide) hw (fun hw => ?_) (fun hw => ?_)
    · refine wm_aload_n hC 0 dX12_fault_16 rfl (k_ne0 hk0 (by decide)) ?_
      refine x_getI hC 11 fl_X12_45 rfl hk0 dX12_fault_17 ?_
      refine wm_goto (tgt := 24) hC dX12_fault_20 (by decide) ?_
      exact wm_ireturn hC hE dX12_fault_24 ⟨⟨rfl, rfl, rfl⟩, hw⟩
    · refine wm_iconst hC dX12_fault_23 (k := ?_)
      exact wm_ireturn hC hE dX12_fault_24 ⟨⟨rfl, rfl, rfl⟩, hw⟩
def P12_status (l0 : Nat) (l1 : Int) (I : mI) (R : mR) (Q : Int → Prop) : Prop := (P12_is l1 0 5 (fun r1 => (if r1 = 0 then (Q (-1)) else (kK (R l0 44) = 21 ∧ (((0 : Int) ≤ l1 ∧ l1 < (kN (R l0 44) : Int)) ∧ (Q (I (R l0 44) l1)))))))
set_option maxRecDepth 20000 in
theorem C12_status {ad : Nat → Nat} {n : Nat} {I J : mI} {R : mR} {Q : Int → Prop}  {l0 : Nat} {l1 : Int} (hk0 : kK l0 = 12) (hw : P12_status l0 l1 I R Q) : wMet yX12_status cX12_status 2 (some .int) 2 34 false ad n I J R [vr l0, vi l1] (fun r I' J' R' => (I' = I ∧ J' = J ∧ R' = R) ∧ Q r) := by
  refine wMet_of (by decide) (Nat.le_of_ble_eq_true rfl) (fun C hC hRm hE hS => ?_)
  refine (show WM C ad n I J R 0 0 0 [(0, vr l0), (1, vi l1)] [] from ?_)
  unfold P12_status at hw
  refine wm_iload_n hC 1 dX12_status_0 rfl ?_
  refine wm_iconst hC dX12_status_1 (k := ?_)
  refine wm_iconst hC dX12_status_2 (k := ?_)
  refine y_callS_z_n hC hRm noS ml_X12_309 (C12_is  hw) (Nat.le_of_ble_eq_true rfl) (Nat.le_of_ble_eq_true rfl) ⟨Nat.zero_le _, Nat.zero_le _⟩ rfl (st := []) rfl (Nat.le_of_ble_eq_true rfl) dX12_status_3 (fun r1 hw => ?_)
  refine wm_if_eq (tgt := 18) hC dX12_status_6 (by decide) hw (fun hw => ?_) (fun hw => ?_)
  · refine wm_iconst hC dX12_status_18 (k := ?_)
    exact wm_ireturn hC hE dX12_status_19 ⟨⟨rfl, rfl, rfl⟩, hw⟩
  · refine wm_aload_n hC 0 dX12_status_9 rfl (k_ne0 hk0 (by decide)) ?_
    refine x_getR2 hC 44 fl_X12_147 rfl hk0 dX12_status_10 hw (fun g1 hw => ?_)
    refine wm_iload_n hC 1 dX12_status_13 rfl ?_
    refine x_iald hC g1 dX12_status_14 hw (fun hw => ?_)
    refine wm_goto (tgt := 19) hC dX12_status_15 (by decide) ?_
    exact wm_ireturn hC hE dX12_status_19 ⟨⟨rfl, rfl, rfl⟩, hw⟩
def P12_copies_b118_body (l0 : Nat) (l1 : Int) (l2 : Int) (R : mR) (Q : mI → Prop) (k118 : Int → mI → Prop) (l3 : Int) (I : mI) : Prop := (kK (R l0 50) = 21 ∧ (((0 : Int) ≤ l2 ∧ l2 < (kN (R l0 50) : Int)) ∧ (rg (3 * (I (R l0 50) l2)) ∧ (if (3 * (I (R l0 50) l2)) ≤ l3 then (Q I) else (kK (R l0 51) = 21 ∧ (rg (120 * l1) ∧ (rg ((120 * l1) + l3) ∧ (kK (R l0 51) = 21 ∧ (rg (120 * l2) ∧ (rg ((120 * l2) + l3) ∧ (((0 : Int) ≤ ((120 * l2) + l3) ∧ ((120 * l2) + l3) < (kN (R l0 51) : Int)) ∧ (((0 : Int) ≤ ((120 * l1) + l3) ∧ ((120 * l1) + l3) < (kN (R l0 51) : Int)) ∧ wLet (up I (R l0 51) ((120 * l1) + l3) (I (R l0 51) ((120 * l2) + l3))) (fun I7 => (rg (l3 + 1) ∧ (k118 (l3 + 1) I7)))))))))))))))
def P12_copies_b118 (l0 : Nat) (l1 : Int) (l2 : Int) (R : mR) (Q : mI → Prop) : Nat → Int → mI → Prop
  | 0 => fun _ _ => False
  | f + 1 => fun l3 I => P12_copies_b118_body l0 l1 l2 R Q (P12_copies_b118 l0 l1 l2 R Q f) l3 I
set_option maxRecDepth 20000 in
theorem W12_copies_b118_body {C : wX} {ad : Nat → Nat} {n : Nat} {I J : mI} {R : mR} {Q : mI → Prop} (hC : wOK C cX12_copies 4 RX12) (hRm : wRm C 1 12 0 0) (hE : wEnd C none ad n (fun _ I' J' R' => (J' = J ∧ R' = R) ∧ Q I')) {l0 : Nat} {l1 : Int} {l2 : Int} {l3 : Int}   (hk0 : kK l0 = 12)  {k118 : Int → mI → Prop} (kk118 : ∀ (y3 : Int) (I' : mI), k118 y3 I' → WM C ad n I' J R 0 0 118 [(0, vr l0), (1, vi l1), (2, vi l2), (3, vi y3)] []) (hw : P12_copies_b118_body l0 l1 l2 R Q k118 l3 I) : WM C ad n I J R 0 0 118 [(0, vr l0), (1, vi l1), (2, vi l2), (3, vi l3)] [] := by
  unfold P12_copies_b118_body at hw
  refine wm_iload_n hC 3 dX12_copies_118 rfl ?_
  refine wm_iconst hC dX12_copies_119 (k := ?_)
  refine wm_aload_n hC 0 dX12_copies_120 rfl (k_ne0 hk0 (by decide)) ?_
  refine x_getR2 hC 50 fl_X12_165 rfl hk0 dX12_copies_121 hw (fun g13 hw => ?_)
  refine wm_iload_n hC 2 dX12_copies_124 rfl ?_
  refine x_iald hC g13 dX12_copies_125 hw (fun hw => ?_)
  refine x_imul hC dX12_copies_126 hw (fun hw => ?_)
  refine wm_icmp_ge (tgt := 158) hC dX12_copies_127 (by decide) hw (fun hw => ?_) (fun hw => ?_)
  · exact wm_return hC hE dX12_copies_158 ⟨⟨rfl, rfl⟩, hw⟩
  · refine wm_aload_n hC 0 dX12_copies_130 rfl (k_ne0 hk0 (by decide)) ?_
    refine x_getR2 hC 51 fl_X12_168 rfl hk0 dX12_copies_131 hw (fun g14 hw => ?_)
    refine wm_bipush hC dX12_copies_134 (k := ?_)
    refine wm_iload_n hC 1 dX12_copies_136 rfl ?_
    refine x_imul hC dX12_copies_137 hw (fun hw => ?_)
    refine wm_iload_n hC 3 dX12_copies_138 rfl ?_
    refine x_iadd hC dX12_copies_139 hw (fun hw => ?_)
    refine wm_aload_n hC 0 dX12_copies_140 rfl (k_ne0 hk0 (by decide)) ?_
    refine x_getR2 hC 51 fl_X12_168 rfl hk0 dX12_copies_141 hw (fun g15 hw => ?_)
    refine wm_bipush hC dX12_copies_144 (k := ?_)
    refine wm_iload_n hC 2 dX12_copies_146 rfl ?_
    refine x_imul hC dX12_copies_147 hw (fun hw => ?_)
    refine wm_iload_n hC 3 dX12_copies_148 rfl ?_
    refine x_iadd hC dX12_copies_149 hw (fun hw => ?_)
    refine x_iald hC g15 dX12_copies_150 hw (fun hw => ?_)
    refine x_iast hC g14 dX12_copies_151 hw (fun I7 hw => ?_)
    refine x_iinc hC 3 dX12_copies_152 rfl (by decide) (L2 := [(3, vi (l3 + 1)), (0, vr l0), (1, vi l1), (2, vi l2)]) rfl hw (fun hw => ?_)
    refine wm_goto (tgt := 118) hC dX12_copies_155 (by decide) ?_
    refine wm_sub [1, 2, 3, 0] (L2 := [(0, vr l0), (1, vi l1), (2, vi l2), (3, vi (l3 + 1))]) rfl ?_
    exact kk118 _ _ hw
set_option maxRecDepth 20000 in
theorem W12_copies_b118 {C : wX} {ad : Nat → Nat} {n : Nat} {J : mI} {R : mR} {Q : mI → Prop} (hC : wOK C cX12_copies 4 RX12) (hRm : wRm C 1 12 0 0) (hE : wEnd C none ad n (fun _ I' J' R' => (J' = J ∧ R' = R) ∧ Q I')) {l0 : Nat} {l1 : Int} {l2 : Int}   (hk0 : kK l0 = 12)  : ∀ (f : Nat) (l3 : Int) (I : mI), P12_copies_b118 l0 l1 l2 R Q f l3 I → WM C ad n I J R 0 0 118 [(0, vr l0), (1, vi l1), (2, vi l2), (3, vi l3)] [] := by
  intro f
  induction f with
  | zero => intro l3 I hw; exact hw.elim
  | succ f ih => intro l3 I hw; exact W12_copies_b118_body hC hRm hE hk0 (fun a0 a1 hw => ih a0 a1 hw) hw
def P12_copies_b26_body (l0 : Nat) (l1 : Int) (l2 : Int) (R : mR) (Q : mI → Prop) (k26 : Int → mI → Prop) (l3 : Int) (I : mI) : Prop := (if (6 : Int) ≤ l3 then (kK (R l0 50) = 21 ∧ (kK (R l0 50) = 21 ∧ (((0 : Int) ≤ l2 ∧ l2 < (kN (R l0 50) : Int)) ∧ (((0 : Int) ≤ l1 ∧ l1 < (kN (R l0 50) : Int)) ∧ wLet (up I (R l0 50) l1 (I (R l0 50) l2)) (fun I3 => (∃ f, P12_copies_b118 l0 l1 l2 R Q f 0 I3)))))) else (kK (R l0 47) = 21 ∧ (rg (6 * l1) ∧ (rg ((6 * l1) + l3) ∧ (kK (R l0 47) = 21 ∧ (rg (6 * l2) ∧ (rg ((6 * l2) + l3) ∧ (((0 : Int) ≤ ((6 * l2) + l3) ∧ ((6 * l2) + l3) < (kN (R l0 47) : Int)) ∧ (((0 : Int) ≤ ((6 * l1) + l3) ∧ ((6 * l1) + l3) < (kN (R l0 47) : Int)) ∧ wLet (up I (R l0 47) ((6 * l1) + l3) (I (R l0 47) ((6 * l2) + l3))) (fun I4 => (kK (R l0 48) = 21 ∧ (rg (6 * l1) ∧ (rg ((6 * l1) + l3) ∧ (kK (R l0 48) = 21 ∧ (rg (6 * l2) ∧ (rg ((6 * l2) + l3) ∧ (((0 : Int) ≤ ((6 * l2) + l3) ∧ ((6 * l2) + l3) < (kN (R l0 48) : Int)) ∧ (((0 : Int) ≤ ((6 * l1) + l3) ∧ ((6 * l1) + l3) < (kN (R l0 48) : Int)) ∧ wLet (up I4 (R l0 48) ((6 * l1) + l3) (I4 (R l0 48) ((6 * l2) + l3))) (fun I5 => (kK (R l0 49) = 21 ∧ (rg (6 * l1) ∧ (rg ((6 * l1) + l3) ∧ (kK (R l0 49) = 21 ∧ (rg (6 * l2) ∧ (rg ((6 * l2) + l3) ∧ (((0 : Int) ≤ ((6 * l2) + l3) ∧ ((6 * l2) + l3) < (kN (R l0 49) : Int)) ∧ (((0 : Int) ≤ ((6 * l1) + l3) ∧ ((6 * l1) + l3) < (kN (R l0 49) : Int)) ∧ wLet (up I5 (R l0 49) ((6 * l1) + l3) (I5 (R l0 49) ((6 * l2) + l3))) (fun I6 => (rg (l3 + 1) ∧ (k26 (l3 + 1) I6))))))))))))))))))))))))))))))
def P12_copies_b26 (l0 : Nat) (l1 : Int) (l2 : Int) (R : mR) (Q : mI → Prop) : Nat → Int → mI → Prop
  | 0 => fun _ _ => False
  | f + 1 => fun l3 I => P12_copies_b26_body l0 l1 l2 R Q (P12_copies_b26 l0 l1 l2 R Q f) l3 I
set_option maxRecDepth 20000 in
theorem W12_copies_b26_body {C : wX} {ad : Nat → Nat} {n : Nat} {I J : mI} {R : mR} {Q : mI → Prop} (hC : wOK C cX12_copies 4 RX12) (hRm : wRm C 1 12 0 0) (hE : wEnd C none ad n (fun _ I' J' R' => (J' = J ∧ R' = R) ∧ Q I')) {l0 : Nat} {l1 : Int} {l2 : Int} {l3 : Int}   (hk0 : kK l0 = 12)  {k26 : Int → mI → Prop} (kk26 : ∀ (y3 : Int) (I' : mI), k26 y3 I' → WM C ad n I' J R 0 0 26 [(0, vr l0), (1, vi l1), (2, vi l2), (3, vi y3)] []) (hw : P12_copies_b26_body l0 l1 l2 R Q k26 l3 I) : WM C ad n I J R 0 0 26 [(0, vr l0), (1, vi l1), (2, vi l2), (3, vi l3)] [] := by
  unfold P12_copies_b26_body at hw
  refine wm_iload_n hC 3 dX12_copies_26 rfl ?_
  refine wm_bipush hC dX12_copies_27 (k := ?_)
  refine wm_icmp_ge (tgt := 104) hC dX12_copies_29 (by decide) hw (fun hw => ?_) (fun hw => ?_)
  · refine wm_aload_n hC 0 dX12_copies_104 rfl (k_ne0 hk0 (by decide)) ?_
    refine x_getR2 hC 50 fl_X12_165 rfl hk0 dX12_copies_105 hw (fun g5 hw => ?_)
    refine wm_iload_n hC 1 dX12_copies_108 rfl ?_
    refine wm_aload_n hC 0 dX12_copies_109 rfl (k_ne0 hk0 (by decide)) ?_
    refine x_getR2 hC 50 fl_X12_165 rfl hk0 dX12_copies_110 hw (fun g6 hw => ?_)
    refine wm_iload_n hC 2 dX12_copies_113 rfl ?_
    refine x_iald hC g6 dX12_copies_114 hw (fun hw => ?_)
    refine x_iast hC g5 dX12_copies_115 hw (fun I3 hw => ?_)
    refine wm_iconst hC dX12_copies_116 (k := ?_)
    refine wm_istore_n hC dX12_copies_117 (by decide) (L2 := [(3, vi 0), (0, vr l0), (1, vi l1), (2, vi l2)]) rfl ?_
    obtain ⟨f, hw⟩ := hw
    refine wm_sub [1, 2, 3, 0] (L2 := [(0, vr l0), (1, vi l1), (2, vi l2), (3, vi 0)]) rfl ?_
    exact W12_copies_b118 hC hRm hE hk0 f _ _ hw
  · refine wm_aload_n hC 0 dX12_copies_32 rfl (k_ne0 hk0 (by decide)) ?_
    refine x_getR2 hC 47 fl_X12_156 rfl hk0 dX12_copies_33 hw (fun g7 hw => ?_)
    refine wm_bipush hC dX12_copies_36 (k := ?_)
    refine wm_iload_n hC 1 dX12_copies_38 rfl ?_
    refine x_imul hC dX12_copies_39 hw (fun hw => ?_)
    refine wm_iload_n hC 3 dX12_copies_40 rfl ?_
    refine x_iadd hC dX12_copies_41 hw (fun hw => ?_)
    refine wm_aload_n hC 0 dX12_copies_42 rfl (k_ne0 hk0 (by decide)) ?_
    refine x_getR2 hC 47 fl_X12_156 rfl hk0 dX12_copies_43 hw (fun g8 hw => ?_)
    refine wm_bipush hC dX12_copies_46 (k := ?_)
    refine wm_iload_n hC 2 dX12_copies_48 rfl ?_
    refine x_imul hC dX12_copies_49 hw (fun hw => ?_)
    refine wm_iload_n hC 3 dX12_copies_50 rfl ?_
    refine x_iadd hC dX12_copies_51 hw (fun hw => ?_)
    refine x_iald hC g8 dX12_copies_52 hw (fun hw => ?_)
    refine x_iast hC g7 dX12_copies_53 hw (fun I4 hw => ?_)
    refine wm_aload_n hC 0 dX12_copies_54 rfl (k_ne0 hk0 (by decide)) ?_
    refine x_getR2 hC 48 fl_X12_159 rfl hk0 dX12_copies_55 hw (fun g9 hw => ?_)
    refine wm_bipush hC dX12_copies_58 (k := ?_)
    refine wm_iload_n hC 1 dX12_copies_60 rfl ?_
    refine x_imul hC dX12_copies_61 hw (fun hw => ?_)
    refine wm_iload_n hC 3 dX12_copies_62 rfl ?_
    refine x_iadd hC dX12_copies_63 hw (fun hw => ?_)
    refine wm_aload_n hC 0 dX12_copies_64 rfl (k_ne0 hk0 (by decide)) ?_
    refine x_getR2 hC 48 fl_X12_159 rfl hk0 dX12_copies_65 hw (fun g10 hw => ?_)
    refine wm_bipush hC dX12_copies_68 (k := ?_)
    refine wm_iload_n hC 2 dX12_copies_70 rfl ?_
    refine x_imul hC dX12_copies_71 hw (fun hw => ?_)
    refine wm_iload_n hC 3 dX12_copies_72 rfl ?_
    refine x_iadd hC dX12_copies_73 hw (fun hw => ?_)
    refine x_iald hC g10 dX12_copies_74 hw (fun hw => ?_)
    refine x_iast hC g9 dX12_copies_75 hw (fun I5 hw => ?_)
    refine wm_aload_n hC 0 dX12_copies_76 rfl (k_ne0 hk0 (by decide)) ?_
    refine x_getR2 hC 49 fl_X12_162 rfl hk0 dX12_copies_77 hw (fun g11 hw => ?_)
    refine wm_bipush hC dX12_copies_80 (k := ?_)
    refine wm_iload_n hC 1 dX12_copies_82 rfl ?_
    refine x_imul hC dX12_copies_83 hw (fun hw => ?_)
    refine wm_iload_n hC 3 dX12_copies_84 rfl ?_
    refine x_iadd hC dX12_copies_85 hw (fun hw => ?_)
    refine wm_aload_n hC 0 dX12_copies_86 rfl (k_ne0 hk0 (by decide)) ?_
    refine x_getR2 hC 49 fl_X12_162 rfl hk0 dX12_copies_87 hw (fun g12 hw => ?_)
    refine wm_bipush hC dX12_copies_90 (k := ?_)
    refine wm_iload_n hC 2 dX12_copies_92 rfl ?_
    refine x_imul hC dX12_copies_93 hw (fun hw => ?_)
    refine wm_iload_n hC 3 dX12_copies_94 rfl ?_
    refine x_iadd hC dX12_copies_95 hw (fun hw => ?_)
    refine x_iald hC g12 dX12_copies_96 hw (fun hw => ?_)
    refine x_iast hC g11 dX12_copies_97 hw (fun I6 hw => ?_)
    refine x_iinc hC 3 dX12_copies_98 rfl (by decide) (L2 := [(3, vi (l3 + 1)), (0, vr l0), (1, vi l1), (2, vi l2)]) rfl hw (fun hw => ?_)
    refine wm_goto (tgt := 26) hC dX12_copies_101 (by decide) ?_
    refine wm_sub [1, 2, 3, 0] (L2 := [(0, vr l0), (1, vi l1), (2, vi l2), (3, vi (l3 + 1))]) rfl ?_
    exact kk26 _ _ hw
set_option maxRecDepth 20000 in
theorem W12_copies_b26 {C : wX} {ad : Nat → Nat} {n : Nat} {J : mI} {R : mR} {Q : mI → Prop} (hC : wOK C cX12_copies 4 RX12) (hRm : wRm C 1 12 0 0) (hE : wEnd C none ad n (fun _ I' J' R' => (J' = J ∧ R' = R) ∧ Q I')) {l0 : Nat} {l1 : Int} {l2 : Int}   (hk0 : kK l0 = 12)  : ∀ (f : Nat) (l3 : Int) (I : mI), P12_copies_b26 l0 l1 l2 R Q f l3 I → WM C ad n I J R 0 0 26 [(0, vr l0), (1, vi l1), (2, vi l2), (3, vi l3)] [] := by
  intro f
  induction f with
  | zero => intro l3 I hw; exact hw.elim
  | succ f ih => intro l3 I hw; exact W12_copies_b26_body hC hRm hE hk0 (fun a0 a1 hw => ih a0 a1 hw) hw
def P12_copies (l0 : Nat) (l1 : Int) (l2 : Int) (I : mI) (R : mR) (Q : mI → Prop) : Prop := (kK (R l0 45) = 21 ∧ (kK (R l0 45) = 21 ∧ (((0 : Int) ≤ l2 ∧ l2 < (kN (R l0 45) : Int)) ∧ (((0 : Int) ≤ l1 ∧ l1 < (kN (R l0 45) : Int)) ∧ wLet (up I (R l0 45) l1 (I (R l0 45) l2)) (fun I1 => (kK (R l0 46) = 21 ∧ (kK (R l0 46) = 21 ∧ (((0 : Int) ≤ l2 ∧ l2 < (kN (R l0 46) : Int)) ∧ (((0 : Int) ≤ l1 ∧ l1 < (kN (R l0 46) : Int)) ∧ wLet (up I1 (R l0 46) l1 (I1 (R l0 46) l2)) (fun I2 => (∃ f, P12_copies_b26 l0 l1 l2 R Q f 0 I2)))))))))))
set_option maxRecDepth 20000 in
theorem C12_copies {ad : Nat → Nat} {n : Nat} {I J : mI} {R : mR} {Q : mI → Prop}  {l0 : Nat} {l1 : Int} {l2 : Int} (hk0 : kK l0 = 12) (hw : P12_copies l0 l1 l2 I R Q) : wMet yX12_copies cX12_copies 4 none 1 12 false ad n I J R [vr l0, vi l1, vi l2] (fun _ I' J' R' => (J' = J ∧ R' = R) ∧ Q I') := by
  refine wMet_of (by decide) (Nat.le_of_ble_eq_true rfl) (fun C hC hRm hE hS => ?_)
  refine (show WM C ad n I J R 0 0 0 [(0, vr l0), (1, vi l1), (2, vi l2)] [] from ?_)
  unfold P12_copies at hw
  refine wm_aload_n hC 0 dX12_copies_0 rfl (k_ne0 hk0 (by decide)) ?_
  refine x_getR2 hC 45 fl_X12_150 rfl hk0 dX12_copies_1 hw (fun g1 hw => ?_)
  refine wm_iload_n hC 1 dX12_copies_4 rfl ?_
  refine wm_aload_n hC 0 dX12_copies_5 rfl (k_ne0 hk0 (by decide)) ?_
  refine x_getR2 hC 45 fl_X12_150 rfl hk0 dX12_copies_6 hw (fun g2 hw => ?_)
  refine wm_iload_n hC 2 dX12_copies_9 rfl ?_
  refine x_iald hC g2 dX12_copies_10 hw (fun hw => ?_)
  refine x_iast hC g1 dX12_copies_11 hw (fun I1 hw => ?_)
  refine wm_aload_n hC 0 dX12_copies_12 rfl (k_ne0 hk0 (by decide)) ?_
  refine x_getR2 hC 46 fl_X12_153 rfl hk0 dX12_copies_13 hw (fun g3 hw => ?_)
  refine wm_iload_n hC 1 dX12_copies_16 rfl ?_
  refine wm_aload_n hC 0 dX12_copies_17 rfl (k_ne0 hk0 (by decide)) ?_
  refine x_getR2 hC 46 fl_X12_153 rfl hk0 dX12_copies_18 hw (fun g4 hw => ?_)
  refine wm_iload_n hC 2 dX12_copies_21 rfl ?_
  refine x_iald hC g4 dX12_copies_22 hw (fun hw => ?_)
  refine x_iast hC g3 dX12_copies_23 hw (fun I2 hw => ?_)
  refine wm_iconst hC dX12_copies_24 (k := ?_)
  refine wm_istore_n hC dX12_copies_25 (by decide) (L2 := [(3, vi 0), (0, vr l0), (1, vi l1), (2, vi l2)]) rfl ?_
  obtain ⟨f, hw⟩ := hw
  refine wm_sub [1, 2, 3, 0] (L2 := [(0, vr l0), (1, vi l1), (2, vi l2), (3, vi 0)]) rfl ?_
  exact W12_copies_b26 hC hRm hE hk0 f _ _ hw
