def P12_clear_b94 (l0 : Nat) (l1 : Int) (l2 : Int) (l3 : Int) (I : mI) (R : mR) (k4 : Int → Int → mI → Prop) (Q : Int → mI → Prop) : Prop := (if l3 = 0 then (rg (l2 + 1) ∧ (k4 l1 (l2 + 1) I)) else (P12_isCleared l0 l2 I R (fun r4 I1 => (if r4 = 0 then (rg (l2 + 1) ∧ (k4 l1 (l2 + 1) I1)) else (rg (l2 + 1) ∧ (k4 l2 (l2 + 1) I1))))))
set_option maxRecDepth 20000 in
theorem W12_clear_b94 {C : wX} {ad : Nat → Nat} {n : Nat} {I J : mI} {R : mR} {Q : Int → mI → Prop} (hC : wOK C cX12_clear 5 RX12) (hRm : wRm C 4 80 0 0) (hE : wEnd C (some .int) ad n (fun r I' J' R' => (J' = J ∧ R' = R) ∧ Q r I')) {l0 : Nat} {l1 : Int} {l2 : Int} {l3 : Int}  {k4 : Int → Int → mI → Prop} (hk0 : kK l0 = 12) (kk4 : ∀ (y1 : Int) (y2 : Int) (I' : mI), k4 y1 y2 I' → WM C ad n I' J R 0 0 4 [(0, vr l0), (1, vi y1), (2, vi y2)] []) (hw : P12_clear_b94 l0 l1 l2 l3 I R k4 Q) : WM C ad n I J R 0 0 94 [(0, vr l0), (1, vi l1), (2, vi l2), (3, vi l3)] [] := by
  unfold P12_clear_b94 at hw
  refine wm_iload_n hC 3 dX12_clear_94 rfl ?_
  refine wm_if_eq (tgt := 108) hC dX12_clear_95 (by decide) hw (fun hw => ?_) (fun hw => ?_)
  · refine x_iinc hC 2 dX12_clear_108 rfl (by decide) (L2 := [(2, vi (l2 + 1)), (0, vr l0), (1, vi l1), (3, vi l3)]) rfl hw (fun hw => ?_)
    refine wm_goto (tgt := 4) hC dX12_clear_111 (by decide) ?_
    refine wm_sub [1, 2, 0] (L2 := [(0, vr l0), (1, vi l1), (2, vi (l2 + 1))]) rfl ?_
    exact kk4 _ _ _ hw
  · refine wm_aload_n hC 0 dX12_clear_98 rfl (k_ne0 hk0 (by decide)) ?_
    refine wm_iload_n hC 2 dX12_clear_99 rfl ?_
    refine y_callV_z_I hC hRm noS ml_X12_544 hk0 (C12_isCleared hk0 hw) (Nat.le_of_ble_eq_true rfl) (Nat.le_of_ble_eq_true rfl) ⟨Nat.zero_le _, Nat.zero_le _⟩ rfl (st := []) rfl (Nat.le_of_ble_eq_true rfl) dX12_clear_100 (fun r4 I1 hw => ?_)
    refine wm_if_eq (tgt := 108) hC dX12_clear_103 (by decide) hw (fun hw => ?_) (fun hw => ?_)
    · refine x_iinc hC 2 dX12_clear_108 rfl (by decide) (L2 := [(2, vi (l2 + 1)), (0, vr l0), (1, vi l1), (3, vi l3)]) rfl hw (fun hw => ?_)
      refine wm_goto (tgt := 4) hC dX12_clear_111 (by decide) ?_
      refine wm_sub [1, 2, 0] (L2 := [(0, vr l0), (1, vi l1), (2, vi (l2 + 1))]) rfl ?_
      exact kk4 _ _ _ hw
    · refine wm_iload_n hC 2 dX12_clear_106 rfl ?_
      refine wm_istore_n hC dX12_clear_107 (by decide) (L2 := [(1, vi l2), (0, vr l0), (2, vi l2), (3, vi l3)]) rfl ?_
      refine x_iinc hC 2 dX12_clear_108 rfl (by decide) (L2 := [(2, vi (l2 + 1)), (1, vi l2), (0, vr l0), (3, vi l3)]) rfl hw (fun hw => ?_)
      refine wm_goto (tgt := 4) hC dX12_clear_111 (by decide) ?_
      refine wm_sub [2, 1, 0] (L2 := [(0, vr l0), (1, vi l2), (2, vi (l2 + 1))]) rfl ?_
      exact kk4 _ _ _ hw
def P12_clear_b44_body (l0 : Nat) (l1 : Int) (l2 : Int) (I : mI) (R : mR) (k4 : Int → Int → mI → Prop) (Q : Int → mI → Prop) (k44 : Int → Int → Prop) (l3 : Int) (l4 : Int) : Prop := (kK (R l0 20) = 21 ∧ (((0 : Int) ≤ (I l0 13) ∧ (I l0 13) < (kN (R l0 20) : Int)) ∧ (if (I (R l0 20) (I l0 13)) ≤ l4 then (P12_clear_b94 l0 l1 l2 l3 I R k4 Q) else (if l3 = 0 then (P12_clear_b94 l0 l1 l2 l3 I R k4 Q) else (P12_has2 l2 l4 (fun r3 => (if r3 = 0 then (rg (l4 + 1) ∧ (k44 1 (l4 + 1))) else (kK (R l0 49) = 21 ∧ (((0 : Int) ≤ l4 ∧ l4 < (kN (R l0 49) : Int)) ∧ (if (I (R l0 49) l4) = (-1) then (rg (l4 + 1) ∧ (k44 0 (l4 + 1))) else (rg (l4 + 1) ∧ (k44 1 (l4 + 1)))))))))))))
def P12_clear_b44 (l0 : Nat) (l1 : Int) (l2 : Int) (I : mI) (R : mR) (k4 : Int → Int → mI → Prop) (Q : Int → mI → Prop) : Nat → Int → Int → Prop
  | 0 => fun _ _ => False
  | f + 1 => fun l3 l4 => P12_clear_b44_body l0 l1 l2 I R k4 Q (P12_clear_b44 l0 l1 l2 I R k4 Q f) l3 l4
set_option maxRecDepth 20000 in
theorem W12_clear_b44_body {C : wX} {ad : Nat → Nat} {n : Nat} {I J : mI} {R : mR} {Q : Int → mI → Prop} (hC : wOK C cX12_clear 5 RX12) (hRm : wRm C 4 80 0 0) (hE : wEnd C (some .int) ad n (fun r I' J' R' => (J' = J ∧ R' = R) ∧ Q r I')) {l0 : Nat} {l1 : Int} {l2 : Int} {l3 : Int} {l4 : Int}  {k4 : Int → Int → mI → Prop} (hk0 : kK l0 = 12) (kk4 : ∀ (y1 : Int) (y2 : Int) (I' : mI), k4 y1 y2 I' → WM C ad n I' J R 0 0 4 [(0, vr l0), (1, vi y1), (2, vi y2)] []) {k44 : Int → Int → Prop} (kk44 : ∀ (y3 : Int) (y4 : Int), k44 y3 y4 → WM C ad n I J R 0 0 44 [(0, vr l0), (1, vi l1), (2, vi l2), (3, vi y3), (4, vi y4)] []) (hw : P12_clear_b44_body l0 l1 l2 I R k4 Q k44 l3 l4) : WM C ad n I J R 0 0 44 [(0, vr l0), (1, vi l1), (2, vi l2), (3, vi l3), (4, vi l4)] [] := by
  unfold P12_clear_b44_body at hw
  refine wm_iload hC 4 dX12_clear_44 rfl ?_
  refine wm_aload_n hC 0 dX12_clear_46 rfl (k_ne0 hk0 (by decide)) ?_
  refine x_getR2 hC 20 fl_X12_72 rfl hk0 dX12_clear_47 hw (fun g2 hw => ?_)
  refine wm_aload_n hC 0 dX12_clear_50 rfl (k_ne0 hk0 (by decide)) ?_
  refine x_getI hC 13 fl_X12_51 rfl hk0 dX12_clear_51 ?_
  refine x_iald hC g2 dX12_clear_54 hw (fun hw => ?_)
  refine wm_icmp_ge (tgt := 94) hC dX12_clear_55 (by decide) hw (fun hw => ?_) (fun hw => ?_)
  · refine wm_sub [0, 1, 2, 3] (L2 := [(0, vr l0), (1, vi l1), (2, vi l2), (3, vi l3)]) rfl ?_
    exact W12_clear_b94 hC hRm hE hk0 kk4 hw
  · refine wm_iload_n hC 3 dX12_clear_58 rfl ?_
    refine wm_if_eq (tgt := 94) hC dX12_clear_59 (by decide) hw (fun hw => ?_) (fun hw => ?_)
    · refine wm_sub [0, 1, 2, 3] (L2 := [(0, vr l0), (1, vi l1), (2, vi l2), (3, vi l3)]) rfl ?_
      exact W12_clear_b94 hC hRm hE hk0 kk4 hw
    · refine wm_iload_n hC 2 dX12_clear_62 rfl ?_
      refine wm_iload hC 4 dX12_clear_63 rfl ?_
      refine y_callS_z_n hC hRm noS ml_X12_351 (C12_has2  hw) (Nat.le_of_ble_eq_true rfl) (Nat.le_of_ble_eq_true rfl) ⟨Nat.zero_le _, Nat.zero_le _⟩ rfl (st := []) rfl (Nat.le_of_ble_eq_true rfl) dX12_clear_65 (fun r3 hw => ?_)
      refine wm_if_eq (tgt := 82) hC dX12_clear_68 (by decide) hw (fun hw => ?_) (fun hw => ?_)
      · refine wm_iconst hC dX12_clear_82 (k := ?_)
        refine wm_goto (tgt := 87) hC dX12_clear_83 (by decide) ?_
        refine wm_istore_n hC dX12_clear_87 (by decide) (L2 := [(3, vi 1), (0, vr l0), (1, vi l1), (2, vi l2), (4, vi l4)]) rfl ?_
        refine x_iinc hC 4 dX12_clear_88 rfl (by decide) (L2 := [(4, vi (l4 + 1)), (3, vi 1), (0, vr l0), (1, vi l1), (2, vi l2)]) rfl hw (fun hw => ?_)
        refine wm_goto (tgt := 44) hC dX12_clear_91 (by decide) ?_
        refine wm_sub [2, 3, 4, 1, 0] (L2 := [(0, vr l0), (1, vi l1), (2, vi l2), (3, vi 1), (4, vi (l4 + 1))]) rfl ?_
        exact kk44 _ _ hw
      · refine wm_aload_n hC 0 dX12_clear_71 rfl (k_ne0 hk0 (by decide)) ?_
        refine x_getR2 hC 49 fl_X12_162 rfl hk0 dX12_clear_72 hw (fun g3 hw => ?_)
        refine wm_iload hC 4 dX12_clear_75 rfl ?_
        refine x_iald hC g3 dX12_clear_77 hw (fun hw => ?_)
        refine wm_iconst hC dX12_clear_78 (k := ?_)
        refine wm_icmp_eq (tgt := 86) hC dX12_clear_79 (by decide) hw (fun hw => ?_) (fun hw => ?_)
        · refine wm_iconst hC dX12_clear_86 (k := ?_)
          refine wm_istore_n hC dX12_clear_87 (by decide) (L2 := [(3, vi 0), (0, vr l0), (1, vi l1), (2, vi l2), (4, vi l4)]) rfl ?_
          refine x_iinc hC 4 dX12_clear_88 rfl (by decide) (L2 := [(4, vi (l4 + 1)), (3, vi 0), (0, vr l0), (1, vi l1), (2, vi l2)]) rfl hw (fun hw => ?_)
          refine wm_goto (tgt := 44) hC dX12_clear_91 (by decide) ?_
          refine wm_sub [2, 3, 4, 1, 0] (L2 := [(0, vr l0), (1, vi l1), (2, vi l2), (3, vi 0), (4, vi (l4 + 1))]) rfl ?_
          exact kk44 _ _ hw
        · refine wm_iconst hC dX12_clear_82 (k := ?_)
          refine wm_goto (tgt := 87) hC dX12_clear_83 (by decide) ?_
          refine wm_istore_n hC dX12_clear_87 (by decide) (L2 := [(3, vi 1), (0, vr l0), (1, vi l1), (2, vi l2), (4, vi l4)]) rfl ?_
          refine x_iinc hC 4 dX12_clear_88 rfl (by decide) (L2 := [(4, vi (l4 + 1)), (3, vi 1), (0, vr l0), (1, vi l1), (2, vi l2)]) rfl hw (fun hw => ?_)
          refine wm_goto (tgt := 44) hC dX12_clear_91 (by decide) ?_
          refine wm_sub [2, 3, 4, 1, 0] (L2 := [(0, vr l0), (1, vi l1), (2, vi l2), (3, vi 1), (4, vi (l4 + 1))]) rfl ?_
          exact kk44 _ _ hw
set_option maxRecDepth 20000 in
theorem W12_clear_b44 {C : wX} {ad : Nat → Nat} {n : Nat} {I J : mI} {R : mR} {Q : Int → mI → Prop} (hC : wOK C cX12_clear 5 RX12) (hRm : wRm C 4 80 0 0) (hE : wEnd C (some .int) ad n (fun r I' J' R' => (J' = J ∧ R' = R) ∧ Q r I')) {l0 : Nat} {l1 : Int} {l2 : Int}  {k4 : Int → Int → mI → Prop} (hk0 : kK l0 = 12) (kk4 : ∀ (y1 : Int) (y2 : Int) (I' : mI), k4 y1 y2 I' → WM C ad n I' J R 0 0 4 [(0, vr l0), (1, vi y1), (2, vi y2)] []) : ∀ (f : Nat) (l3 : Int) (l4 : Int), P12_clear_b44 l0 l1 l2 I R k4 Q f l3 l4 → WM C ad n I J R 0 0 44 [(0, vr l0), (1, vi l1), (2, vi l2), (3, vi l3), (4, vi l4)] [] := by
  intro f
  induction f with
  | zero => intro l3 l4 hw; exact hw.elim
  | succ f ih => intro l3 l4 hw; exact W12_clear_b44_body hC hRm hE hk0 kk4 (fun a0 a1 hw => ih a0 a1 hw) hw
def P12_clear_b4_body (l0 : Nat) (R : mR) (Q : Int → mI → Prop) (k4 : Int → Int → mI → Prop) (l1 : Int) (l2 : Int) (I : mI) : Prop := (kK (R l0 20) = 21 ∧ (((0 : Int) ≤ (I l0 13) ∧ (I l0 13) < (kN (R l0 20) : Int)) ∧ (if (bShl 1 (I (R l0 20) (I l0 13))) ≤ l2 then (Q l1 I) else (if l1 = (-1) then (∃ f, P12_clear_b44 l0 l1 l2 I R k4 Q f 1 0) else (P12_bits l2 (fun r1 => (P12_bits l1 (fun r2 => (if r2 ≤ r1 then (∃ f, P12_clear_b44 l0 l1 l2 I R k4 Q f 0 0) else (∃ f, P12_clear_b44 l0 l1 l2 I R k4 Q f 1 0))))))))))
def P12_clear_b4 (l0 : Nat) (R : mR) (Q : Int → mI → Prop) : Nat → Int → Int → mI → Prop
  | 0 => fun _ _ _ => False
  | f + 1 => fun l1 l2 I => P12_clear_b4_body l0 R Q (P12_clear_b4 l0 R Q f) l1 l2 I
set_option maxRecDepth 20000 in
theorem W12_clear_b4_body {C : wX} {ad : Nat → Nat} {n : Nat} {I J : mI} {R : mR} {Q : Int → mI → Prop} (hC : wOK C cX12_clear 5 RX12) (hRm : wRm C 4 80 0 0) (hE : wEnd C (some .int) ad n (fun r I' J' R' => (J' = J ∧ R' = R) ∧ Q r I')) {l0 : Nat} {l1 : Int} {l2 : Int}   (hk0 : kK l0 = 12)  {k4 : Int → Int → mI → Prop} (kk4 : ∀ (y1 : Int) (y2 : Int) (I' : mI), k4 y1 y2 I' → WM C ad n I' J R 0 0 4 [(0, vr l0), (1, vi y1), (2, vi y2)] []) (hw : P12_clear_b4_body l0 R Q k4 l1 l2 I) : WM C ad n I J R 0 0 4 [(0, vr l0), (1, vi l1), (2, vi l2)] [] := by
  unfold P12_clear_b4_body at hw
  refine wm_iload_n hC 2 dX12_clear_4 rfl ?_
  refine wm_iconst hC dX12_clear_5 (k := ?_)
  refine wm_aload_n hC 0 dX12_clear_6 rfl (k_ne0 hk0 (by decide)) ?_
  refine x_getR2 hC 20 fl_X12_72 rfl hk0 dX12_clear_7 hw (fun g1 hw => ?_)
  refine wm_aload_n hC 0 dX12_clear_10 rfl (k_ne0 hk0 (by decide)) ?_
  refine x_getI hC 13 fl_X12_51 rfl hk0 dX12_clear_11 ?_
  refine x_iald hC g1 dX12_clear_14 hw (fun hw => ?_)
  refine wm_ishl hC dX12_clear_15 ?_
  refine wm_icmp_ge (tgt := 114) hC dX12_clear_16 (by decide) hw (fun hw => ?_) (fun hw => ?_)
  · refine wm_iload_n hC 1 dX12_clear_114 rfl ?_
    exact wm_ireturn hC hE dX12_clear_115 ⟨⟨rfl, rfl⟩, hw⟩
  · refine wm_iload_n hC 1 dX12_clear_19 rfl ?_
    refine wm_iconst hC dX12_clear_20 (k := ?_)
    refine wm_icmp_eq (tgt := 35) hC dX12_clear_21 (by decide) hw (fun hw => ?_) (fun hw => ?_)
    · refine wm_iconst hC dX12_clear_35 (k := ?_)
      refine wm_goto (tgt := 40) hC dX12_clear_36 (by decide) ?_
      refine wm_istore_n hC dX12_clear_40 (by decide) (L2 := [(3, vi 1), (0, vr l0), (1, vi l1), (2, vi l2)]) rfl ?_
      refine wm_iconst hC dX12_clear_41 (k := ?_)
      refine wm_istore hC dX12_clear_42 (by decide) (L2 := [(4, vi 0), (3, vi 1), (0, vr l0), (1, vi l1), (2, vi l2)]) rfl ?_
      obtain ⟨f, hw⟩ := hw
      refine wm_sub [2, 3, 4, 1, 0] (L2 := [(0, vr l0), (1, vi l1), (2, vi l2), (3, vi 1), (4, vi 0)]) rfl ?_
      exact W12_clear_b44 hC hRm hE hk0 kk4 f _ _ hw
    · refine wm_iload_n hC 2 dX12_clear_24 rfl ?_
      refine y_callS_i_n hC hRm noS ml_X12_521 (C12_bits  hw) (Nat.le_of_ble_eq_true rfl) (Nat.le_of_ble_eq_true rfl) ⟨Nat.zero_le _, Nat.zero_le _⟩ rfl (st := []) rfl (Nat.le_of_ble_eq_true rfl) dX12_clear_25 (fun r1 hw => ?_)
      refine wm_iload_n hC 1 dX12_clear_28 rfl ?_
      refine y_callS_i_n hC hRm noS ml_X12_521 (C12_bits  hw) (Nat.le_of_ble_eq_true rfl) (Nat.le_of_ble_eq_true rfl) ⟨Nat.zero_le _, Nat.zero_le _⟩ rfl (st := [vi r1]) rfl (Nat.le_of_ble_eq_true rfl) dX12_clear_29 (fun r2 hw => ?_)
      refine wm_icmp_ge (tgt := 39) hC dX12_clear_32 (by decide) hw (fun hw => ?_) (fun hw => ?_)
      · refine wm_iconst hC dX12_clear_39 (k := ?_)
        refine wm_istore_n hC dX12_clear_40 (by decide) (L2 := [(3, vi 0), (0, vr l0), (1, vi l1), (2, vi l2)]) rfl ?_
        refine wm_iconst hC dX12_clear_41 (k := ?_)
        refine wm_istore hC dX12_clear_42 (by decide) (L2 := [(4, vi 0), (3, vi 0), (0, vr l0), (1, vi l1), (2, vi l2)]) rfl ?_
        obtain ⟨f, hw⟩ := hw
        refine wm_sub [2, 3, 4, 1, 0] (L2 := [(0, vr l0), (1, vi l1), (2, vi l2), (3, vi 0), (4, vi 0)]) rfl ?_
        exact W12_clear_b44 hC hRm hE hk0 kk4 f _ _ hw
      · refine wm_iconst hC dX12_clear_35 (k := ?_)
        refine wm_goto (tgt := 40) hC dX12_clear_36 (by decide) ?_
        refine wm_istore_n hC dX12_clear_40 (by decide) (L2 := [(3, vi 1), (0, vr l0), (1, vi l1), (2, vi l2)]) rfl ?_
        refine wm_iconst hC dX12_clear_41 (k := ?_)
        refine wm_istore hC dX12_clear_42 (by decide) (L2 := [(4, vi 0), (3, vi 1), (0, vr l0), (1, vi l1), (2, vi l2)]) rfl ?_
        obtain ⟨f, hw⟩ := hw
        refine wm_sub [2, 3, 4, 1, 0] (L2 := [(0, vr l0), (1, vi l1), (2, vi l2), (3, vi 1), (4, vi 0)]) rfl ?_
        exact W12_clear_b44 hC hRm hE hk0 kk4 f _ _ hw
set_option maxRecDepth 20000 in
theorem W12_clear_b4 {C : wX} {ad : Nat → Nat} {n : Nat} {J : mI} {R : mR} {Q : Int → mI → Prop} (hC : wOK C cX12_clear 5 RX12) (hRm : wRm C 4 80 0 0) (hE : wEnd C (some .int) ad n (fun r I' J' R' => (J' = J ∧ R' = R) ∧ Q r I')) {l0 : Nat}   (hk0 : kK l0 = 12)  : ∀ (f : Nat) (l1 : Int) (l2 : Int) (I : mI), P12_clear_b4 l0 R Q f l1 l2 I → WM C ad n I J R 0 0 4 [(0, vr l0), (1, vi l1), (2, vi l2)] [] := by
  intro f
  induction f with
  | zero => intro l1 l2 I hw; exact hw.elim
  | succ f ih => intro l1 l2 I hw; exact W12_clear_b4_body hC hRm hE hk0 (fun a0 a1 a2 hw => ih a0 a1 a2 hw) hw
def P12_clear (l0 : Nat) (I : mI) (R : mR) (Q : Int → mI → Prop) : Prop := (∃ f, P12_clear_b4 l0 R Q f (-1) 0 I)
set_option maxRecDepth 20000 in
theorem C12_clear {ad : Nat → Nat} {n : Nat} {I J : mI} {R : mR} {Q : Int → mI → Prop}  {l0 : Nat} (hk0 : kK l0 = 12) (hw : P12_clear l0 I R Q) : wMet yX12_clear cX12_clear 5 (some .int) 4 80 false ad n I J R [vr l0] (fun r I' J' R' => (J' = J ∧ R' = R) ∧ Q r I') := by
  refine wMet_of (by decide) (Nat.le_of_ble_eq_true rfl) (fun C hC hRm hE hS => ?_)
  refine (show WM C ad n I J R 0 0 0 [(0, vr l0)] [] from ?_)
  unfold P12_clear at hw
  refine wm_iconst hC dX12_clear_0 (k := ?_)
  refine wm_istore_n hC dX12_clear_1 (by decide) (L2 := [(1, vi (-1)), (0, vr l0)]) rfl ?_
  refine wm_iconst hC dX12_clear_2 (k := ?_)
  refine wm_istore_n hC dX12_clear_3 (by decide) (L2 := [(2, vi 0), (1, vi (-1)), (0, vr l0)]) rfl ?_
  obtain ⟨f, hw⟩ := hw
  refine wm_sub [2, 1, 0] (L2 := [(0, vr l0), (1, vi (-1)), (2, vi 0)]) rfl ?_
  exact W12_clear_b4 hC hRm hE hk0 f _ _ _ hw
def P12_odds_b128_body (l0 : Nat) (l1 : Int) (l2 : Int) (R : mR) (Q : Int → mI → mI → Prop) (k128 : Int → Int → mI → mI → Prop) (l3 : Int) (l4 : Int) (I : mI) (J : mI) : Prop := (kK (R l0 14) = 21 ∧ (((0 : Int) ≤ (I l0 13) ∧ (I l0 13) < (kN (R l0 14) : Int)) ∧ (if (I (R l0 14) (I l0 13)) ≤ l4 then (Q l3 I J) else (P12_everybody l0 I R (fun r5 => (P12_choiceOf l0 0 l2 (bAnd r5 (bXor (bShl 1 l4) (-1))) I J R (fun r6 I2 J2 => (if r6 = l1 then (kK (R l0 25) = 21 ∧ (((0 : Int) ≤ (I2 l0 13) ∧ (I2 l0 13) < (kN (R l0 25) : Int)) ∧ (rg (l3 + (I2 (R l0 25) (I2 l0 13))) ∧ (wLet (l3 + (I2 (R l0 25) (I2 l0 13))) (fun x3 => (rg (l4 + 1) ∧ (k128 x3 (l4 + 1) I2 J2))))))) else (rg (l3 + 0) ∧ (rg (l4 + 1) ∧ (k128 (l3 + 0) (l4 + 1) I2 J2)))))))))))
def P12_odds_b128 (l0 : Nat) (l1 : Int) (l2 : Int) (R : mR) (Q : Int → mI → mI → Prop) : Nat → Int → Int → mI → mI → Prop
  | 0 => fun _ _ _ _ => False
  | f + 1 => fun l3 l4 I J => P12_odds_b128_body l0 l1 l2 R Q (P12_odds_b128 l0 l1 l2 R Q f) l3 l4 I J
set_option maxRecDepth 20000 in
theorem W12_odds_b128_body {C : wX} {ad : Nat → Nat} {n : Nat} {I J : mI} {R : mR} {Q : Int → mI → mI → Prop} (hC : wOK C cX12_odds 5 RX12) (hRm : wRm C 8 188 0 0) (hE : wEnd C (some .int) ad n (fun r I' J' R' => (R' = R) ∧ Q r I' J')) {l0 : Nat} {l1 : Int} {l2 : Int} {l3 : Int} {l4 : Int}   (hk0 : kK l0 = 12)  {k128 : Int → Int → mI → mI → Prop} (kk128 : ∀ (y3 : Int) (y4 : Int) (I' : mI) (J' : mI), k128 y3 y4 I' J' → WM C ad n I' J' R 0 0 128 [(0, vr l0), (1, vi l1), (2, vi l2), (3, vi y3), (4, vi y4)] []) (hw : P12_odds_b128_body l0 l1 l2 R Q k128 l3 l4 I J) : WM C ad n I J R 0 0 128 [(0, vr l0), (1, vi l1), (2, vi l2), (3, vi l3), (4, vi l4)] [] := by
  unfold P12_odds_b128_body at hw
  refine wm_iload hC 4 dX12_odds_128 rfl ?_
  refine wm_aload_n hC 0 dX12_odds_130 rfl (k_ne0 hk0 (by decide)) ?_
  refine x_getR2 hC 14 fl_X12_54 rfl hk0 dX12_odds_131 hw (fun g8 hw => ?_)
  refine wm_aload_n hC 0 dX12_odds_134 rfl (k_ne0 hk0 (by decide)) ?_
  refine x_getI hC 13 fl_X12_51 rfl hk0 dX12_odds_135 ?_
  refine x_iald hC g8 dX12_odds_138 hw (fun hw => ?_)
  refine wm_icmp_ge (tgt := 185) hC dX12_odds_139 (by decide) hw (fun hw => ?_) (fun hw => ?_)
  · refine wm_iload_n hC 3 dX12_odds_185 rfl ?_
    exact wm_ireturn hC hE dX12_odds_186 ⟨rfl, hw⟩
  · refine wm_iload_n hC 3 dX12_odds_142 rfl ?_
    refine wm_aload_n hC 0 dX12_odds_143 rfl (k_ne0 hk0 (by decide)) ?_
    refine wm_iconst hC dX12_odds_144 (k := ?_)
    refine wm_iload_n hC 2 dX12_odds_145 rfl ?_
    refine wm_aload_n hC 0 dX12_odds_146 rfl (k_ne0 hk0 (by decide)) ?_
    refine y_callV_i_n hC hRm noS ml_X12_487 hk0 (C12_everybody hk0 hw) (Nat.le_of_ble_eq_true rfl) (Nat.le_of_ble_eq_true rfl) ⟨Nat.zero_le _, Nat.zero_le _⟩ rfl (st := [vi l2, vi 0, vr l0, vi l3]) rfl (Nat.le_of_ble_eq_true rfl) dX12_odds_147 (fun r5 hw => ?_)
    refine wm_iconst hC dX12_odds_150 (k := ?_)
    refine wm_iload hC 4 dX12_odds_151 rfl ?_
    refine wm_ishl hC dX12_odds_153 ?_
    refine wm_iconst hC dX12_odds_154 (k := ?_)
    refine wm_ixor hC dX12_odds_155 ?_
    refine wm_iand hC dX12_odds_156 ?_
    refine y_callV_i_IJ hC hRm noS ml_X12_491 hk0 (C12_choiceOf hk0 hw) (Nat.le_of_ble_eq_true rfl) (Nat.le_of_ble_eq_true rfl) ⟨Nat.zero_le _, Nat.zero_le _⟩ rfl (st := [vi l3]) rfl (Nat.le_of_ble_eq_true rfl) dX12_odds_157 (fun r6 I2 J2 hw => ?_)
    refine wm_iload_n hC 1 dX12_odds_160 rfl ?_
    refine wm_icmp_ne (tgt := 176) hC dX12_odds_161 (by decide) hw (fun hw => ?_) (fun hw => ?_)
    · refine wm_aload_n hC 0 dX12_odds_164 rfl (k_ne0 hk0 (by decide)) ?_
      refine x_getR2 hC 25 fl_X12_87 rfl hk0 dX12_odds_165 hw (fun g9 hw => ?_)
      refine wm_aload_n hC 0 dX12_odds_168 rfl (k_ne0 hk0 (by decide)) ?_
      refine x_getI hC 13 fl_X12_51 rfl hk0 dX12_odds_169 ?_
      refine x_iald hC g9 dX12_odds_172 hw (fun hw => ?_)
      refine wm_goto (tgt := 177) hC dX12_odds_173 (by decide) ?_
      refine x_iadd hC dX12_odds_177 hw (fun hw => ?_)
      refine x_nameI hw (fun x3 hw => ?_)
      refine wm_istore_n hC dX12_odds_178 (by decide) (L2 := [(3, vi x3), (0, vr l0), (1, vi l1), (2, vi l2), (4, vi l4)]) rfl ?_
      refine x_iinc hC 4 dX12_odds_179 rfl (by decide) (L2 := [(4, vi (l4 + 1)), (3, vi x3), (0, vr l0), (1, vi l1), (2, vi l2)]) rfl hw (fun hw => ?_)
      refine wm_goto (tgt := 128) hC dX12_odds_182 (by decide) ?_
      refine wm_sub [2, 3, 4, 1, 0] (L2 := [(0, vr l0), (1, vi l1), (2, vi l2), (3, vi x3), (4, vi (l4 + 1))]) rfl ?_
      exact kk128 _ _ _ _ hw
    · refine wm_iconst hC dX12_odds_176 (k := ?_)
      refine x_iadd hC dX12_odds_177 hw (fun hw => ?_)
      refine wm_istore_n hC dX12_odds_178 (by decide) (L2 := [(3, vi (l3 + 0)), (0, vr l0), (1, vi l1), (2, vi l2), (4, vi l4)]) rfl ?_
      refine x_iinc hC 4 dX12_odds_179 rfl (by decide) (L2 := [(4, vi (l4 + 1)), (3, vi (l3 + 0)), (0, vr l0), (1, vi l1), (2, vi l2)]) rfl hw (fun hw => ?_)
      refine wm_goto (tgt := 128) hC dX12_odds_182 (by decide) ?_
      refine wm_sub [2, 3, 4, 1, 0] (L2 := [(0, vr l0), (1, vi l1), (2, vi l2), (3, vi (l3 + 0)), (4, vi (l4 + 1))]) rfl ?_
      exact kk128 _ _ _ _ hw
set_option maxRecDepth 20000 in
theorem W12_odds_b128 {C : wX} {ad : Nat → Nat} {n : Nat} {R : mR} {Q : Int → mI → mI → Prop} (hC : wOK C cX12_odds 5 RX12) (hRm : wRm C 8 188 0 0) (hE : wEnd C (some .int) ad n (fun r I' J' R' => (R' = R) ∧ Q r I' J')) {l0 : Nat} {l1 : Int} {l2 : Int}   (hk0 : kK l0 = 12)  : ∀ (f : Nat) (l3 : Int) (l4 : Int) (I : mI) (J : mI), P12_odds_b128 l0 l1 l2 R Q f l3 l4 I J → WM C ad n I J R 0 0 128 [(0, vr l0), (1, vi l1), (2, vi l2), (3, vi l3), (4, vi l4)] [] := by
  intro f
  induction f with
  | zero => intro l3 l4 I J hw; exact hw.elim
  | succ f ih => intro l3 l4 I J hw; exact W12_odds_b128_body hC hRm hE hk0 (fun a0 a1 a2 a3 hw => ih a0 a1 a2 a3 hw) hw
def P12_odds_b13 (l0 : Nat) (l1 : Int) (I : mI) (J : mI) (R : mR) (Q : Int → mI → mI → Prop) : Prop := (kK (R l0 14) = 21 ∧ (((0 : Int) ≤ (I l0 13) ∧ (I l0 13) < (kN (R l0 14) : Int)) ∧ (if (I (R l0 14) (I l0 13)) = 0 then (Q (-1) I J) else (kK (R l0 20) = 21 ∧ (((0 : Int) ≤ (I l0 13) ∧ (I l0 13) < (kN (R l0 20) : Int)) ∧ (if (I (R l0 20) (I l0 13)) = 0 then (Q (-1) I J) else (P12_isAhead l0 1 1 1 I R (fun r2 => (if r2 = 0 then (Q (-1) I J) else (if l1 = (-1) then (kK (R l0 14) = 21 ∧ (((0 : Int) ≤ (I l0 13) ∧ (I l0 13) < (kN (R l0 14) : Int)) ∧ (rg (100 * (I (R l0 14) (I l0 13))) ∧ (Q (100 * (I (R l0 14) (I l0 13))) I J)))) else (kK (R l0 45) = 21 ∧ (((0 : Int) ≤ (0 : Int) ∧ (0 : Int) < (kN (R l0 45) : Int)) ∧ (kK (R l0 20) = 21 ∧ (((0 : Int) ≤ (I l0 13) ∧ (I l0 13) < (kN (R l0 20) : Int)) ∧ ((I (R l0 20) (I l0 13)) ≠ 0 ∧ (wLet (Int.tmod (I (R l0 45) (0 : Int)) (I (R l0 20) (I l0 13))) (fun x1 => (P12_everybody l0 I R (fun r3 => (P12_choiceOf l0 0 x1 r3 I J R (fun r4 I1 J1 => (if r4 = l1 then (kK (R l0 25) = 21 ∧ (((0 : Int) ≤ (I1 l0 13) ∧ (I1 l0 13) < (kN (R l0 25) : Int)) ∧ (rg (100 - (I1 (R l0 25) (I1 l0 13))) ∧ (kK (R l0 14) = 21 ∧ (((0 : Int) ≤ (I1 l0 13) ∧ (I1 l0 13) < (kN (R l0 14) : Int)) ∧ (rg ((100 - (I1 (R l0 25) (I1 l0 13))) * (I1 (R l0 14) (I1 l0 13))) ∧ (wLet ((100 - (I1 (R l0 25) (I1 l0 13))) * (I1 (R l0 14) (I1 l0 13))) (fun x2 => (∃ f, P12_odds_b128 l0 l1 x1 R Q f x2 0 I1 J1))))))))) else (∃ f, P12_odds_b128 l0 l1 x1 R Q f 0 0 I1 J1)))))))))))))))))))))))
set_option maxRecDepth 20000 in
theorem W12_odds_b13 {C : wX} {ad : Nat → Nat} {n : Nat} {I J : mI} {R : mR} {Q : Int → mI → mI → Prop} (hC : wOK C cX12_odds 5 RX12) (hRm : wRm C 8 188 0 0) (hE : wEnd C (some .int) ad n (fun r I' J' R' => (R' = R) ∧ Q r I' J')) {l0 : Nat} {l1 : Int}   (hk0 : kK l0 = 12)  (hw : P12_odds_b13 l0 l1 I J R Q) : WM C ad n I J R 0 0 13 [(0, vr l0), (1, vi l1)] [] := by
  unfold P12_odds_b13 at hw
  refine wm_aload_n hC 0 dX12_odds_13 rfl (k_ne0 hk0 (by decide)) ?_
  refine x_getR2 hC 14 fl_X12_54 rfl hk0 dX12_odds_14 hw (fun g1 hw => ?_)
  refine wm_aload_n hC 0 dX12_odds_17 rfl (k_ne0 hk0 (by decide)) ?_
  refine x_getI hC 13 fl_X12_51 rfl hk0 dX12_odds_18 ?_
  refine x_iald hC g1 dX12_odds_21 hw (fun hw => ?_)
  refine wm_if_eq (tgt := 47) hC dX12_odds_22 (by decide) hw (fun hw => ?_) (fun hw => ?_)
  · refine wm_iconst hC dX12_odds_47 (k := ?_)
    exact wm_ireturn hC hE dX12_odds_48 ⟨rfl, hw⟩
  · refine wm_aload_n hC 0 dX12_odds_25 rfl (k_ne0 hk0 (by decide)) ?_
    refine x_getR2 hC 20 fl_X12_72 rfl hk0 dX12_odds_26 hw (fun g2 hw => ?_)
    refine wm_aload_n hC 0 dX12_odds_29 rfl (k_ne0 hk0 (by decide)) ?_
    refine x_getI hC 13 fl_X12_51 rfl hk0 dX12_odds_30 ?_
    refine x_iald hC g2 dX12_odds_33 hw (fun hw => ?_)
    refine wm_if_eq (tgt := 47) hC dX12_odds_34 (by decide) hw (fun hw => ?_) (fun hw => ?_)
    · refine wm_iconst hC dX12_odds_47 (k := ?_)
      exact wm_ireturn hC hE dX12_odds_48 ⟨rfl, hw⟩
    · refine wm_aload_n hC 0 dX12_odds_37 rfl (k_ne0 hk0 (by decide)) ?_
      refine wm_iconst hC dX12_odds_38 (k := ?_)
      refine wm_iconst hC dX12_odds_39 (k := ?_)
      refine wm_iconst hC dX12_odds_40 (k := ?_)
      refine y_callV_z_n hC hRm noS ml_X12_529 hk0 (C12_isAhead hk0 hw) (Nat.le_of_ble_eq_true rfl) (Nat.le_of_ble_eq_true rfl) ⟨Nat.zero_le _, Nat.zero_le _⟩ rfl (st := []) rfl (Nat.le_of_ble_eq_true rfl) dX12_odds_41 (fun r2 hw => ?_)
      refine wm_if_ne (tgt := 49) hC dX12_odds_44 (by decide) hw (fun hw => ?_) (fun hw => ?_)
      · refine wm_iconst hC dX12_odds_47 (k := ?_)
        exact wm_ireturn hC hE dX12_odds_48 ⟨rfl, hw⟩
      · refine wm_iload_n hC 1 dX12_odds_49 rfl ?_
        refine wm_iconst hC dX12_odds_50 (k := ?_)
        refine wm_icmp_ne (tgt := 67) hC dX12_odds_51 (by decide) hw (fun hw => ?_) (fun hw => ?_)
        · refine wm_bipush hC dX12_odds_54 (k := ?_)
          refine wm_aload_n hC 0 dX12_odds_56 rfl (k_ne0 hk0 (by decide)) ?_
          refine x_getR2 hC 14 fl_X12_54 rfl hk0 dX12_odds_57 hw (fun g7 hw => ?_)
          refine wm_aload_n hC 0 dX12_odds_60 rfl (k_ne0 hk0 (by decide)) ?_
          refine x_getI hC 13 fl_X12_51 rfl hk0 dX12_odds_61 ?_
          refine x_iald hC g7 dX12_odds_64 hw (fun hw => ?_)
          refine x_imul hC dX12_odds_65 hw (fun hw => ?_)
          exact wm_ireturn hC hE dX12_odds_66 ⟨rfl, hw⟩
        · refine wm_aload_n hC 0 dX12_odds_67 rfl (k_ne0 hk0 (by decide)) ?_
          refine x_getR2 hC 45 fl_X12_150 rfl hk0 dX12_odds_68 hw (fun g3 hw => ?_)
          refine wm_iconst hC dX12_odds_71 (k := ?_)
          refine x_iald hC g3 dX12_odds_72 hw (fun hw => ?_)
          refine wm_aload_n hC 0 dX12_odds_73 rfl (k_ne0 hk0 (by decide)) ?_
          refine x_getR2 hC 20 fl_X12_72 rfl hk0 dX12_odds_74 hw (fun g4 hw => ?_)
          refine wm_aload_n hC 0 dX12_odds_77 rfl (k_ne0 hk0 (by decide)) ?_
          refine x_getI hC 13 fl_X12_51 rfl hk0 dX12_odds_78 ?_
          refine x_iald hC g4 dX12_odds_81 hw (fun hw => ?_)
          refine x_irem hC dX12_odds_82 hw (fun hw => ?_)
          refine x_nameI hw (fun x1 hw => ?_)
          refine wm_istore_n hC dX12_odds_83 (by decide) (L2 := [(2, vi x1), (0, vr l0), (1, vi l1)]) rfl ?_
          refine wm_aload_n hC 1 dX12_odds_84 rfl (k_ne0 hk0 (by decide)) ?_
          refine wm_iconst hC dX12_odds_85 (k := ?_)
          refine wm_iload_n hC 0 dX12_odds_86 rfl ?_
          refine wm_aload_n hC 1 dX12_odds_87 rfl (k_ne0 hk0 (by decide)) ?_
          refine y_callV_i_n hC hRm noS ml_X12_487 hk0 (C12_everybody hk0 hw) (Nat.le_of_ble_eq_true rfl) (Nat.le_of_ble_eq_true rfl) ⟨Nat.zero_le _, Nat.zero_le _⟩ rfl (st := [vi x1, vi 0, vr l0]) rfl (Nat.le_of_ble_eq_true rfl) dX12_odds_88 (fun r3 hw => ?_)
          refine y_callV_i_IJ hC hRm noS ml_X12_491 hk0 (C12_choiceOf hk0 hw) (Nat.le_of_ble_eq_true rfl) (Nat.le_of_ble_eq_true rfl) ⟨Nat.zero_le _, Nat.zero_le _⟩ rfl (st := []) rfl (Nat.le_of_ble_eq_true rfl) dX12_odds_91 (fun r4 I1 J1 hw => ?_)
          refine wm_iload_n hC 2 dX12_odds_94 rfl ?_
          refine wm_icmp_ne (tgt := 123) hC dX12_odds_95 (by decide) hw (fun hw => ?_) (fun hw => ?_)
          · refine wm_bipush hC dX12_odds_98 (k := ?_)
            refine wm_aload_n hC 1 dX12_odds_100 rfl (k_ne0 hk0 (by decide)) ?_
            refine x_getR2 hC 25 fl_X12_87 rfl hk0 dX12_odds_101 hw (fun g5 hw => ?_)
            refine wm_aload_n hC 1 dX12_odds_104 rfl (k_ne0 hk0 (by decide)) ?_
            refine x_getI hC 13 fl_X12_51 rfl hk0 dX12_odds_105 ?_
            refine x_iald hC g5 dX12_odds_108 hw (fun hw => ?_)
            refine x_isub hC dX12_odds_109 hw (fun hw => ?_)
            refine wm_aload_n hC 1 dX12_odds_110 rfl (k_ne0 hk0 (by decide)) ?_
            refine x_getR2 hC 14 fl_X12_54 rfl hk0 dX12_odds_111 hw (fun g6 hw => ?_)
            refine wm_aload_n hC 1 dX12_odds_114 rfl (k_ne0 hk0 (by decide)) ?_
            refine x_getI hC 13 fl_X12_51 rfl hk0 dX12_odds_115 ?_
            refine x_iald hC g6 dX12_odds_118 hw (fun hw => ?_)
            refine x_imul hC dX12_odds_119 hw (fun hw => ?_)
            refine wm_goto (tgt := 124) hC dX12_odds_120 (by decide) ?_
            refine x_nameI hw (fun x2 hw => ?_)
            refine wm_istore_n hC dX12_odds_124 (by decide) (L2 := [(3, vi x2), (2, vi x1), (0, vr l0), (1, vi l1)]) rfl ?_
            refine wm_iconst hC dX12_odds_125 (k := ?_)
            refine wm_istore hC dX12_odds_126 (by decide) (L2 := [(4, vi 0), (3, vi x2), (2, vi x1), (0, vr l0), (1, vi l1)]) rfl ?_
            obtain ⟨f, hw⟩ := hw
            refine wm_sub [3, 4, 2, 1, 0] (L2 := [(0, vr l0), (1, vi l1), (2, vi x1), (3, vi x2), (4, vi 0)]) rfl ?_
            exact W12_odds_b128 hC hRm hE hk0 f _ _ _ _ hw
          · refine wm_iconst hC dX12_odds_123 (k := ?_)
            refine wm_istore_n hC dX12_odds_124 (by decide) (L2 := [(3, vi 0), (2, vi x1), (0, vr l0), (1, vi l1)]) rfl ?_
            refine wm_iconst hC dX12_odds_125 (k := ?_)
            refine wm_istore hC dX12_odds_126 (by decide) (L2 := [(4, vi 0), (3, vi 0), (2, vi x1), (0, vr l0), (1, vi l1)]) rfl ?_
            obtain ⟨f, hw⟩ := hw
            refine wm_sub [3, 4, 2, 1, 0] (L2 := [(0, vr l0), (1, vi l1), (2, vi x1), (3, vi 0), (4, vi 0)]) rfl ?_
            exact W12_odds_b128 hC hRm hE hk0 f _ _ _ _ hw
def P12_odds (l0 : Nat) (l1 : Int) (I : mI) (J : mI) (R : mR) (Q : Int → mI → mI → Prop) : Prop := (if l1 = (-1) then (P12_odds_b13 l0 l1 I J R Q) else (P12_isColour l0 l1 I R (fun r1 => (if r1 = 0 then (Q (-1) I J) else (P12_odds_b13 l0 l1 I J R Q)))))
set_option maxRecDepth 20000 in
theorem C12_odds {ad : Nat → Nat} {n : Nat} {I J : mI} {R : mR} {Q : Int → mI → mI → Prop}  {l0 : Nat} {l1 : Int} (hk0 : kK l0 = 12) (hw : P12_odds l0 l1 I J R Q) : wMet yX12_odds cX12_odds 5 (some .int) 8 188 false ad n I J R [vr l0, vi l1] (fun r I' J' R' => (R' = R) ∧ Q r I' J') := by
  refine wMet_of (by decide) (Nat.le_of_ble_eq_true rfl) (fun C hC hRm hE hS => ?_)
  refine (show WM C ad n I J R 0 0 0 [(0, vr l0), (1, vi l1)] [] from ?_)
  unfold P12_odds at hw
  refine wm_iload_n hC 1 dX12_odds_0 rfl ?_
  refine wm_iconst hC dX12_odds_1 (k := ?_)
  refine wm_icmp_eq (tgt := 13) hC dX12_odds_2 (by decide) hw (fun hw => ?_) (fun hw => ?_)
  · exact W12_odds_b13 hC hRm hE hk0 hw
  · refine wm_aload_n hC 0 dX12_odds_5 rfl (k_ne0 hk0 (by decide)) ?_
    refine wm_iload_n hC 1 dX12_odds_6 rfl ?_
    refine y_callV_z_n hC hRm noS ml_X12_510 hk0 (C12_isColour hk0 hw) (Nat.le_of_ble_eq_true rfl) (Nat.le_of_ble_eq_true rfl) ⟨Nat.zero_le _, Nat.zero_le _⟩ rfl (st := []) rfl (Nat.le_of_ble_eq_true rfl) dX12_odds_7 (fun r1 hw => ?_)
    refine wm_if_eq (tgt := 47) hC dX12_odds_10 (by decide) hw (fun hw => ?_) (fun hw => ?_)
    · refine wm_iconst hC dX12_odds_47 (k := ?_)
      exact wm_ireturn hC hE dX12_odds_48 ⟨rfl, hw⟩
    · exact W12_odds_b13 hC hRm hE hk0 hw
def P12_meet_b129_body (l0 : Nat) (R : mR) (Q : Int → mI → Prop) (k129 : Int → mI → Prop) (l3 : Int) (I : mI) : Prop := (if (I l0 62) ≤ l3 then (Q (I l0 62) I) else (kK (R l0 63) = 21 ∧ (kK (R l0 0) = 21 ∧ (rg (3 * l3) ∧ (((0 : Int) ≤ (3 * l3) ∧ (3 * l3) < (kN (R l0 0) : Int)) ∧ (((0 : Int) ≤ l3 ∧ l3 < (kN (R l0 63) : Int)) ∧ wLet (up I (R l0 63) l3 (I (R l0 0) (3 * l3))) (fun I4 => (kK (R l0 64) = 21 ∧ (kK (R l0 0) = 21 ∧ (rg (3 * l3) ∧ (rg ((3 * l3) + 1) ∧ (((0 : Int) ≤ ((3 * l3) + 1) ∧ ((3 * l3) + 1) < (kN (R l0 0) : Int)) ∧ (((0 : Int) ≤ l3 ∧ l3 < (kN (R l0 64) : Int)) ∧ wLet (up I4 (R l0 64) l3 (I4 (R l0 0) ((3 * l3) + 1))) (fun I5 => (kK (R l0 65) = 21 ∧ (kK (R l0 0) = 21 ∧ (rg (3 * l3) ∧ (rg ((3 * l3) + 2) ∧ (((0 : Int) ≤ ((3 * l3) + 2) ∧ ((3 * l3) + 2) < (kN (R l0 0) : Int)) ∧ (if (I5 (R l0 0) ((3 * l3) + 2)) = 255 then (((0 : Int) ≤ l3 ∧ l3 < (kN (R l0 65) : Int)) ∧ wLet (up I5 (R l0 65) l3 (-1)) (fun I7 => (rg (l3 + 1) ∧ (k129 (l3 + 1) I7)))) else (kK (R l0 0) = 21 ∧ (rg (3 * l3) ∧ (rg ((3 * l3) + 2) ∧ (((0 : Int) ≤ ((3 * l3) + 2) ∧ ((3 * l3) + 2) < (kN (R l0 0) : Int)) ∧ (((0 : Int) ≤ l3 ∧ l3 < (kN (R l0 65) : Int)) ∧ wLet (up I5 (R l0 65) l3 (I5 (R l0 0) ((3 * l3) + 2))) (fun I6 => (rg (l3 + 1) ∧ (k129 (l3 + 1) I6))))))))))))))))))))))))))))
def P12_meet_b129 (l0 : Nat) (R : mR) (Q : Int → mI → Prop) : Nat → Int → mI → Prop
  | 0 => fun _ _ => False
  | f + 1 => fun l3 I => P12_meet_b129_body l0 R Q (P12_meet_b129 l0 R Q f) l3 I
set_option maxRecDepth 20000 in
theorem W12_meet_b129_body {C : wX} {ad : Nat → Nat} {n : Nat} {I J : mI} {R : mR} {Q : Int → mI → Prop} (hC : wOK C cX12_meet 4 RX12) (hRm : wRm C 2 33 0 0) (hE : wEnd C (some .int) ad n (fun r I' J' R' => (J' = J ∧ R' = R) ∧ Q r I')) {l0 : Nat} {l3 : Int}   (hk0 : kK l0 = 12)  {k129 : Int → mI → Prop} (kk129 : ∀ (y3 : Int) (I' : mI), k129 y3 I' → WM C ad n I' J R 0 0 129 [(0, vr l0), (3, vi y3)] []) (hw : P12_meet_b129_body l0 R Q k129 l3 I) : WM C ad n I J R 0 0 129 [(0, vr l0), (3, vi l3)] [] := by
  unfold P12_meet_b129_body at hw
  refine wm_iload_n hC 1 dX12_meet_129 rfl ?_
  refine wm_aload_n hC 0 dX12_meet_130 rfl (k_ne0 hk0 (by decide)) ?_
  refine x_getI hC 62 fl_X12_201 rfl hk0 dX12_meet_131 ?_
  refine wm_icmp_ge (tgt := 209) hC dX12_meet_134 (by decide) hw (fun hw => ?_) (fun hw => ?_)
  · refine wm_aload_n hC 0 dX12_meet_209 rfl (k_ne0 hk0 (by decide)) ?_
    refine x_getI hC 62 fl_X12_201 rfl hk0 dX12_meet_210 ?_
    exact wm_ireturn hC hE dX12_meet_213 ⟨⟨rfl, rfl⟩, hw⟩
  · refine wm_aload_n hC 0 dX12_meet_137 rfl (k_ne0 hk0 (by decide)) ?_
    refine x_getR2 hC 63 fl_X12_204 rfl hk0 dX12_meet_138 hw (fun g5 hw => ?_)
    refine wm_iload_n hC 1 dX12_meet_141 rfl ?_
    refine wm_aload_n hC 0 dX12_meet_142 rfl (k_ne0 hk0 (by decide)) ?_
    refine x_getR2 hC 0 fl_X12_7 rfl hk0 dX12_meet_143 hw (fun g6 hw => ?_)
    refine wm_iconst hC dX12_meet_146 (k := ?_)
    refine wm_iload_n hC 1 dX12_meet_147 rfl ?_
    refine x_imul hC dX12_meet_148 hw (fun hw => ?_)
    refine x_iald hC g6 dX12_meet_149 hw (fun hw => ?_)
    refine x_iast hC g5 dX12_meet_150 hw (fun I4 hw => ?_)
    refine wm_aload_n hC 0 dX12_meet_151 rfl (k_ne0 hk0 (by decide)) ?_
    refine x_getR2 hC 64 fl_X12_207 rfl hk0 dX12_meet_152 hw (fun g7 hw => ?_)
    refine wm_iload_n hC 1 dX12_meet_155 rfl ?_
    refine wm_aload_n hC 0 dX12_meet_156 rfl (k_ne0 hk0 (by decide)) ?_
    refine x_getR2 hC 0 fl_X12_7 rfl hk0 dX12_meet_157 hw (fun g8 hw => ?_)
    refine wm_iconst hC dX12_meet_160 (k := ?_)
    refine wm_iload_n hC 1 dX12_meet_161 rfl ?_
    refine x_imul hC dX12_meet_162 hw (fun hw => ?_)
    refine wm_iconst hC dX12_meet_163 (k := ?_)
    refine x_iadd hC dX12_meet_164 hw (fun hw => ?_)
    refine x_iald hC g8 dX12_meet_165 hw (fun hw => ?_)
    refine x_iast hC g7 dX12_meet_166 hw (fun I5 hw => ?_)
    refine wm_aload_n hC 0 dX12_meet_167 rfl (k_ne0 hk0 (by decide)) ?_
    refine x_getR2 hC 65 fl_X12_210 rfl hk0 dX12_meet_168 hw (fun g9 hw => ?_)
    refine wm_iload_n hC 1 dX12_meet_171 rfl ?_
    refine wm_aload_n hC 0 dX12_meet_172 rfl (k_ne0 hk0 (by decide)) ?_
    refine x_getR2 hC 0 fl_X12_7 rfl hk0 dX12_meet_173 hw (fun g10 hw => ?_)
    refine wm_iconst hC dX12_meet_176 (k := ?_)
    refine wm_iload_n hC 1 dX12_meet_177 rfl ?_
    refine x_imul hC dX12_meet_178 hw (fun hw => ?_)
    refine wm_iconst hC dX12_meet_179 (k := ?_)
    refine x_iadd hC dX12_meet_180 hw (fun hw => ?_)
    refine x_iald hC g10 dX12_meet_181 hw (fun hw => ?_)
    refine wm_sipush hC dX12_meet_182 (k := ?_)
    refine wm_icmp_ne (tgt := 192) hC dX12_meet_185 (by decide) hw (fun hw => ?_) (fun hw => ?_)
    · refine wm_iconst hC dX12_meet_188 (k := ?_)
      refine wm_goto (tgt := 202) hC dX12_meet_189 (by decide) ?_
      refine x_iast hC g9 dX12_meet_202 hw (fun I7 hw => ?_)
      refine x_iinc hC 1 dX12_meet_203 rfl (by decide) (L2 := [(3, vi (l3 + 1)), (0, vr l0)]) rfl hw (fun hw => ?_)
      refine wm_goto (tgt := 129) hC dX12_meet_206 (by decide) ?_
      refine wm_sub [1, 0] (L2 := [(0, vr l0), (3, vi (l3 + 1))]) rfl ?_
      exact kk129 _ _ hw
    · refine wm_aload_n hC 0 dX12_meet_192 rfl (k_ne0 hk0 (by decide)) ?_
      refine x_getR2 hC 0 fl_X12_7 rfl hk0 dX12_meet_193 hw (fun g11 hw => ?_)
      refine wm_iconst hC dX12_meet_196 (k := ?_)
      refine wm_iload_n hC 1 dX12_meet_197 rfl ?_
      refine x_imul hC dX12_meet_198 hw (fun hw => ?_)
      refine wm_iconst hC dX12_meet_199 (k := ?_)
      refine x_iadd hC dX12_meet_200 hw (fun hw => ?_)
      refine x_iald hC g11 dX12_meet_201 hw (fun hw => ?_)
      refine x_iast hC g9 dX12_meet_202 hw (fun I6 hw => ?_)
      refine x_iinc hC 1 dX12_meet_203 rfl (by decide) (L2 := [(3, vi (l3 + 1)), (0, vr l0)]) rfl hw (fun hw => ?_)
      refine wm_goto (tgt := 129) hC dX12_meet_206 (by decide) ?_
      refine wm_sub [1, 0] (L2 := [(0, vr l0), (3, vi (l3 + 1))]) rfl ?_
      exact kk129 _ _ hw
set_option maxRecDepth 20000 in
theorem W12_meet_b129 {C : wX} {ad : Nat → Nat} {n : Nat} {J : mI} {R : mR} {Q : Int → mI → Prop} (hC : wOK C cX12_meet 4 RX12) (hRm : wRm C 2 33 0 0) (hE : wEnd C (some .int) ad n (fun r I' J' R' => (J' = J ∧ R' = R) ∧ Q r I')) {l0 : Nat}   (hk0 : kK l0 = 12)  : ∀ (f : Nat) (l3 : Int) (I : mI), P12_meet_b129 l0 R Q f l3 I → WM C ad n I J R 0 0 129 [(0, vr l0), (3, vi l3)] [] := by
  intro f
  induction f with
  | zero => intro l3 I hw; exact hw.elim
  | succ f ih => intro l3 I hw; exact W12_meet_b129_body hC hRm hE hk0 (fun a0 a1 hw => ih a0 a1 hw) hw
def P12_meet_b110 (l0 : Nat) (l1 : Int) (l2 : Int) (I : mI) (R : mR) (Q : Int → mI → Prop) : Prop := (if l2 = 0 then (P12_refuses l0 5 I R (fun r3 I3 => (Q r3 I3))) else (wLet (up I l0 62 (Int.tdiv l1 3)) (fun I2 => (∃ f, P12_meet_b129 l0 R Q f 0 I2))))
set_option maxRecDepth 20000 in
theorem W12_meet_b110 {C : wX} {ad : Nat → Nat} {n : Nat} {I J : mI} {R : mR} {Q : Int → mI → Prop} (hC : wOK C cX12_meet 4 RX12) (hRm : wRm C 2 33 0 0) (hE : wEnd C (some .int) ad n (fun r I' J' R' => (J' = J ∧ R' = R) ∧ Q r I')) {l0 : Nat} {l1 : Int} {l2 : Int}   (hk0 : kK l0 = 12)  (hw : P12_meet_b110 l0 l1 l2 I R Q) : WM C ad n I J R 0 0 110 [(0, vr l0), (1, vi l1), (2, vi l2)] [] := by
  unfold P12_meet_b110 at hw
  refine wm_iload_n hC 2 dX12_meet_110 rfl ?_
  refine wm_if_ne (tgt := 120) hC dX12_meet_111 (by decide) hw (fun hw => ?_) (fun hw => ?_)
  · refine wm_aload_n hC 0 dX12_meet_114 rfl (k_ne0 hk0 (by decide)) ?_
    refine wm_iconst hC dX12_meet_115 (k := ?_)
    refine y_callV_i_I hC hRm noS ml_X12_222 hk0 (C12_refuses hk0 hw) (Nat.le_of_ble_eq_true rfl) (Nat.le_of_ble_eq_true rfl) ⟨Nat.zero_le _, Nat.zero_le _⟩ rfl (st := []) rfl (Nat.le_of_ble_eq_true rfl) dX12_meet_116 (fun r3 I3 hw => ?_)
    exact wm_ireturn hC hE dX12_meet_119 ⟨⟨rfl, rfl⟩, hw⟩
  · refine wm_aload_n hC 0 dX12_meet_120 rfl (k_ne0 hk0 (by decide)) ?_
    refine wm_iload_n hC 1 dX12_meet_121 rfl ?_
    refine wm_iconst hC dX12_meet_122 (k := ?_)
    refine x_idivP hC (by decide) dX12_meet_123 ?_
    refine x_putI hC 62 fl_X12_201 rfl hk0 dX12_meet_124 hw (fun I2 hw => ?_)
    refine wm_iconst hC dX12_meet_127 (k := ?_)
    refine wm_istore_n hC dX12_meet_128 (by decide) (L2 := [(3, vi 0), (0, vr l0), (1, vi l1), (2, vi l2)]) rfl ?_
    obtain ⟨f, hw⟩ := hw
    refine wm_sub [1, 0] (L2 := [(0, vr l0), (3, vi 0)]) rfl ?_
    exact W12_meet_b129 hC hRm hE hk0 f _ _ hw
def P12_meet_b34_body (l0 : Nat) (l1 : Int) (I : mI) (R : mR) (Q : Int → mI → Prop) (k34 : Int → Int → Prop) (l2 : Int) (l3 : Int) : Prop := (if l1 ≤ l3 then (P12_meet_b110 l0 l1 l2 I R Q) else (if l2 = 0 then (P12_meet_b110 l0 l1 l2 I R Q) else (kK (R l0 0) = 21 ∧ (((0 : Int) ≤ l3 ∧ l3 < (kN (R l0 0) : Int)) ∧ (if (30 : Int) < (I (R l0 0) l3) then (rg (l3 + 3) ∧ (k34 0 (l3 + 3))) else (kK (R l0 0) = 21 ∧ (rg (l3 + 1) ∧ (((0 : Int) ≤ (l3 + 1) ∧ (l3 + 1) < (kN (R l0 0) : Int)) ∧ (P12_isThing l0 (I (R l0 0) (l3 + 1)) I R (fun r1 => (if r1 = 0 then (rg (l3 + 3) ∧ (k34 0 (l3 + 3))) else (kK (R l0 0) = 21 ∧ (rg (l3 + 2) ∧ (((0 : Int) ≤ (l3 + 2) ∧ (l3 + 2) < (kN (R l0 0) : Int)) ∧ (P12_isColour l0 (I (R l0 0) (l3 + 2)) I R (fun r2 => (if r2 = 0 then (kK (R l0 0) = 21 ∧ (rg (l3 + 2) ∧ (((0 : Int) ≤ (l3 + 2) ∧ (l3 + 2) < (kN (R l0 0) : Int)) ∧ (if (I (R l0 0) (l3 + 2)) = 255 then (rg (l3 + 3) ∧ (k34 1 (l3 + 3))) else (rg (l3 + 3) ∧ (k34 0 (l3 + 3))))))) else (rg (l3 + 3) ∧ (k34 1 (l3 + 3))))))))))))))))))))
def P12_meet_b34 (l0 : Nat) (l1 : Int) (I : mI) (R : mR) (Q : Int → mI → Prop) : Nat → Int → Int → Prop
  | 0 => fun _ _ => False
  | f + 1 => fun l2 l3 => P12_meet_b34_body l0 l1 I R Q (P12_meet_b34 l0 l1 I R Q f) l2 l3
set_option maxRecDepth 20000 in
theorem W12_meet_b34_body {C : wX} {ad : Nat → Nat} {n : Nat} {I J : mI} {R : mR} {Q : Int → mI → Prop} (hC : wOK C cX12_meet 4 RX12) (hRm : wRm C 2 33 0 0) (hE : wEnd C (some .int) ad n (fun r I' J' R' => (J' = J ∧ R' = R) ∧ Q r I')) {l0 : Nat} {l1 : Int} {l2 : Int} {l3 : Int}   (hk0 : kK l0 = 12)  {k34 : Int → Int → Prop} (kk34 : ∀ (y2 : Int) (y3 : Int), k34 y2 y3 → WM C ad n I J R 0 0 34 [(0, vr l0), (1, vi l1), (2, vi y2), (3, vi y3)] []) (hw : P12_meet_b34_body l0 l1 I R Q k34 l2 l3) : WM C ad n I J R 0 0 34 [(0, vr l0), (1, vi l1), (2, vi l2), (3, vi l3)] [] := by
  unfold P12_meet_b34_body at hw
  refine wm_iload_n hC 3 dX12_meet_34 rfl ?_
  refine wm_iload_n hC 1 dX12_meet_35 rfl ?_
  refine wm_icmp_ge (tgt := 110) hC dX12_meet_36 (by decide) hw (fun hw => ?_) (fun hw => ?_)
  · refine wm_sub [0, 1, 2] (L2 := [(0, vr l0), (1, vi l1), (2, vi l2)]) rfl ?_
    exact W12_meet_b110 hC hRm hE hk0 hw
  · refine wm_iload_n hC 2 dX12_meet_39 rfl ?_
    refine wm_if_eq (tgt := 110) hC dX12_meet_40 (by decide) hw (fun hw => ?_) (fun hw => ?_)
    · refine wm_sub [0, 1, 2] (L2 := [(0, vr l0), (1, vi l1), (2, vi l2)]) rfl ?_
      exact W12_meet_b110 hC hRm hE hk0 hw
    · refine wm_aload_n hC 0 dX12_meet_43 rfl (k_ne0 hk0 (by decide)) ?_
      refine x_getR2 hC 0 fl_X12_7 rfl hk0 dX12_meet_44 hw (fun g1 hw => ?_)
      refine wm_iload_n hC 3 dX12_meet_47 rfl ?_
      refine x_iald hC g1 dX12_meet_48 hw (fun hw => ?_)
      refine wm_bipush hC dX12_meet_49 (k := ?_)
      refine wm_icmp_gt (tgt := 102) hC dX12_meet_51 (by decide) hw (fun hw => ?_) (fun hw => ?_)
      · refine wm_iconst hC dX12_meet_102 (k := ?_)
        refine wm_istore_n hC dX12_meet_103 (by decide) (L2 := [(2, vi 0), (0, vr l0), (1, vi l1), (3, vi l3)]) rfl ?_
        refine x_iinc hC 3 dX12_meet_104 rfl (by decide) (L2 := [(3, vi (l3 + 3)), (2, vi 0), (0, vr l0), (1, vi l1)]) rfl hw (fun hw => ?_)
        refine wm_goto (tgt := 34) hC dX12_meet_107 (by decide) ?_
        refine wm_sub [2, 3, 1, 0] (L2 := [(0, vr l0), (1, vi l1), (2, vi 0), (3, vi (l3 + 3))]) rfl ?_
        exact kk34 _ _ hw
      · refine wm_aload_n hC 0 dX12_meet_54 rfl (k_ne0 hk0 (by decide)) ?_
        refine wm_aload_n hC 0 dX12_meet_55 rfl (k_ne0 hk0 (by decide)) ?_
        refine x_getR2 hC 0 fl_X12_7 rfl hk0 dX12_meet_56 hw (fun g2 hw => ?_)
        refine wm_iload_n hC 3 dX12_meet_59 rfl ?_
        refine wm_iconst hC dX12_meet_60 (k := ?_)
        refine x_iadd hC dX12_meet_61 hw (fun hw => ?_)
        refine x_iald hC g2 dX12_meet_62 hw (fun hw => ?_)
        refine y_callV_z_n hC hRm noS ml_X12_513 hk0 (C12_isThing hk0 hw) (Nat.le_of_ble_eq_true rfl) (Nat.le_of_ble_eq_true rfl) ⟨Nat.zero_le _, Nat.zero_le _⟩ rfl (st := []) rfl (Nat.le_of_ble_eq_true rfl) dX12_meet_63 (fun r1 hw => ?_)
        refine wm_if_eq (tgt := 102) hC dX12_meet_66 (by decide) hw (fun hw => ?_) (fun hw => ?_)
        · refine wm_iconst hC dX12_meet_102 (k := ?_)
          refine wm_istore_n hC dX12_meet_103 (by decide) (L2 := [(2, vi 0), (0, vr l0), (1, vi l1), (3, vi l3)]) rfl ?_
          refine x_iinc hC 3 dX12_meet_104 rfl (by decide) (L2 := [(3, vi (l3 + 3)), (2, vi 0), (0, vr l0), (1, vi l1)]) rfl hw (fun hw => ?_)
          refine wm_goto (tgt := 34) hC dX12_meet_107 (by decide) ?_
          refine wm_sub [2, 3, 1, 0] (L2 := [(0, vr l0), (1, vi l1), (2, vi 0), (3, vi (l3 + 3))]) rfl ?_
          exact kk34 _ _ hw
        · refine wm_aload_n hC 0 dX12_meet_69 rfl (k_ne0 hk0 (by decide)) ?_
          refine wm_aload_n hC 0 dX12_meet_70 rfl (k_ne0 hk0 (by decide)) ?_
          refine x_getR2 hC 0 fl_X12_7 rfl hk0 dX12_meet_71 hw (fun g3 hw => ?_)
          refine wm_iload_n hC 3 dX12_meet_74 rfl ?_
          refine wm_iconst hC dX12_meet_75 (k := ?_)
          refine x_iadd hC dX12_meet_76 hw (fun hw => ?_)
          refine x_iald hC g3 dX12_meet_77 hw (fun hw => ?_)
          refine y_callV_z_n hC hRm noS ml_X12_510 hk0 (C12_isColour hk0 hw) (Nat.le_of_ble_eq_true rfl) (Nat.le_of_ble_eq_true rfl) ⟨Nat.zero_le _, Nat.zero_le _⟩ rfl (st := []) rfl (Nat.le_of_ble_eq_true rfl) dX12_meet_78 (fun r2 hw => ?_)
          refine wm_if_ne (tgt := 98) hC dX12_meet_81 (by decide) hw (fun hw => ?_) (fun hw => ?_)
          · refine wm_aload_n hC 0 dX12_meet_84 rfl (k_ne0 hk0 (by decide)) ?_
            refine x_getR2 hC 0 fl_X12_7 rfl hk0 dX12_meet_85 hw (fun g4 hw => ?_)
            refine wm_iload_n hC 3 dX12_meet_88 rfl ?_
            refine wm_iconst hC dX12_meet_89 (k := ?_)
            refine x_iadd hC dX12_meet_90 hw (fun hw => ?_)
            refine x_iald hC g4 dX12_meet_91 hw (fun hw => ?_)
            refine wm_sipush hC dX12_meet_92 (k := ?_)
            refine wm_icmp_ne (tgt := 102) hC dX12_meet_95 (by decide) hw (fun hw => ?_) (fun hw => ?_)
            · refine wm_iconst hC dX12_meet_98 (k := ?_)
              refine wm_goto (tgt := 103) hC dX12_meet_99 (by decide) ?_
              refine wm_istore_n hC dX12_meet_103 (by decide) (L2 := [(2, vi 1), (0, vr l0), (1, vi l1), (3, vi l3)]) rfl ?_
              refine x_iinc hC 3 dX12_meet_104 rfl (by decide) (L2 := [(3, vi (l3 + 3)), (2, vi 1), (0, vr l0), (1, vi l1)]) rfl hw (fun hw => ?_)
              refine wm_goto (tgt := 34) hC dX12_meet_107 (by decide) ?_
              refine wm_sub [2, 3, 1, 0] (L2 := [(0, vr l0), (1, vi l1), (2, vi 1), (3, vi (l3 + 3))]) rfl ?_
              exact kk34 _ _ hw
            · refine wm_iconst hC dX12_meet_102 (k := ?_)
              refine wm_istore_n hC dX12_meet_103 (by decide) (L2 := [(2, vi 0), (0, vr l0), (1, vi l1), (3, vi l3)]) rfl ?_
              refine x_iinc hC 3 dX12_meet_104 rfl (by decide) (L2 := [(3, vi (l3 + 3)), (2, vi 0), (0, vr l0), (1, vi l1)]) rfl hw (fun hw => ?_)
              refine wm_goto (tgt := 34) hC dX12_meet_107 (by decide) ?_
              refine wm_sub [2, 3, 1, 0] (L2 := [(0, vr l0), (1, vi l1), (2, vi 0), (3, vi (l3 + 3))]) rfl ?_
              exact kk34 _ _ hw
          · refine wm_iconst hC dX12_meet_98 (k := ?_)
            refine wm_goto (tgt := 103) hC dX12_meet_99 (by decide) ?_
            refine wm_istore_n hC dX12_meet_103 (by decide) (L2 := [(2, vi 1), (0, vr l0), (1, vi l1), (3, vi l3)]) rfl ?_
            refine x_iinc hC 3 dX12_meet_104 rfl (by decide) (L2 := [(3, vi (l3 + 3)), (2, vi 1), (0, vr l0), (1, vi l1)]) rfl hw (fun hw => ?_)
            refine wm_goto (tgt := 34) hC dX12_meet_107 (by decide) ?_
            refine wm_sub [2, 3, 1, 0] (L2 := [(0, vr l0), (1, vi l1), (2, vi 1), (3, vi (l3 + 3))]) rfl ?_
            exact kk34 _ _ hw
set_option maxRecDepth 20000 in
theorem W12_meet_b34 {C : wX} {ad : Nat → Nat} {n : Nat} {I J : mI} {R : mR} {Q : Int → mI → Prop} (hC : wOK C cX12_meet 4 RX12) (hRm : wRm C 2 33 0 0) (hE : wEnd C (some .int) ad n (fun r I' J' R' => (J' = J ∧ R' = R) ∧ Q r I')) {l0 : Nat} {l1 : Int}   (hk0 : kK l0 = 12)  : ∀ (f : Nat) (l2 : Int) (l3 : Int), P12_meet_b34 l0 l1 I R Q f l2 l3 → WM C ad n I J R 0 0 34 [(0, vr l0), (1, vi l1), (2, vi l2), (3, vi l3)] [] := by
  intro f
  induction f with
  | zero => intro l2 l3 hw; exact hw.elim
  | succ f ih => intro l2 l3 hw; exact W12_meet_b34_body hC hRm hE hk0 (fun a0 a1 hw => ih a0 a1 hw) hw
def P12_meet (l0 : Nat) (I : mI) (R : mR) (Q : Int → mI → Prop) : Prop := (wLet (up I l0 1 0) (fun I1 => (if (I l0 1) ≤ 0 then (∃ f, P12_meet_b34 l0 (I l0 1) I1 R Q f 0 0) else (if (Int.tmod (I l0 1) 3) = 0 then (if (48 : Int) < (I l0 1) then (∃ f, P12_meet_b34 l0 (I l0 1) I1 R Q f 0 0) else (∃ f, P12_meet_b34 l0 (I l0 1) I1 R Q f 1 0)) else (∃ f, P12_meet_b34 l0 (I l0 1) I1 R Q f 0 0)))))
set_option maxRecDepth 20000 in
theorem C12_meet {ad : Nat → Nat} {n : Nat} {I J : mI} {R : mR} {Q : Int → mI → Prop}  {l0 : Nat} (hk0 : kK l0 = 12) (hw : P12_meet l0 I R Q) : wMet yX12_meet cX12_meet 4 (some .int) 2 33 false ad n I J R [vr l0] (fun r I' J' R' => (J' = J ∧ R' = R) ∧ Q r I') := by
  refine wMet_of (by decide) (Nat.le_of_ble_eq_true rfl) (fun C hC hRm hE hS => ?_)
  refine (show WM C ad n I J R 0 0 0 [(0, vr l0)] [] from ?_)
  unfold P12_meet at hw
  refine wm_aload_n hC 0 dX12_meet_0 rfl (k_ne0 hk0 (by decide)) ?_
  refine x_getI hC 1 fl_X12_13 rfl hk0 dX12_meet_1 ?_
  refine wm_istore_n hC dX12_meet_4 (by decide) (L2 := [(1, vi (I l0 1)), (0, vr l0)]) rfl ?_
  refine wm_aload_n hC 1 dX12_meet_5 rfl (k_ne0 hk0 (by decide)) ?_
  refine wm_iconst hC dX12_meet_6 (k := ?_)
  refine x_putI hC 1 fl_X12_13 rfl hk0 dX12_meet_7 hw (fun I1 hw => ?_)
  refine wm_iload_n hC 0 dX12_meet_10 rfl ?_
  refine wm_if_le (tgt := 30) hC dX12_meet_11 (by decide) hw (fun hw => ?_) (fun hw => ?_)
  · refine wm_iconst hC dX12_meet_30 (k := ?_)
    refine wm_istore_n hC dX12_meet_31 (by decide) (L2 := [(2, vi 0), (1, vi (I l0 1)), (0, vr l0)]) rfl ?_
    refine wm_iconst hC dX12_meet_32 (k := ?_)
    refine wm_istore_n hC dX12_meet_33 (by decide) (L2 := [(3, vi 0), (2, vi 0), (1, vi (I l0 1)), (0, vr l0)]) rfl ?_
    obtain ⟨f, hw⟩ := hw
    refine wm_sub [3, 2, 1, 0] (L2 := [(0, vr l0), (1, vi (I l0 1)), (2, vi 0), (3, vi 0)]) rfl ?_
    exact W12_meet_b34 hC hRm hE hk0 f _ _ hw
  · refine wm_iload_n hC 0 dX12_meet_14 rfl ?_
    refine wm_iconst hC dX12_meet_15 (k := ?_)
    refine x_iremP hC (by decide) dX12_meet_16 ?_
    refine wm_if_ne (tgt := 30) hC dX12_meet_17 (by decide) hw (fun hw => ?_) (fun hw => ?_)
    · refine wm_iload_n hC 0 dX12_meet_20 rfl ?_
      refine wm_bipush hC dX12_meet_21 (k := ?_)
      refine wm_icmp_gt (tgt := 30) hC dX12_meet_23 (by decide) hw (fun hw => ?_) (fun hw => ?_)
      · refine wm_iconst hC dX12_meet_30 (k := ?_)
        refine wm_istore_n hC dX12_meet_31 (by decide) (L2 := [(2, vi 0), (1, vi (I l0 1)), (0, vr l0)]) rfl ?_
        refine wm_iconst hC dX12_meet_32 (k := ?_)
        refine wm_istore_n hC dX12_meet_33 (by decide) (L2 := [(3, vi 0), (2, vi 0), (1, vi (I l0 1)), (0, vr l0)]) rfl ?_
        obtain ⟨f, hw⟩ := hw
        refine wm_sub [3, 2, 1, 0] (L2 := [(0, vr l0), (1, vi (I l0 1)), (2, vi 0), (3, vi 0)]) rfl ?_
        exact W12_meet_b34 hC hRm hE hk0 f _ _ hw
      · refine wm_iconst hC dX12_meet_26 (k := ?_)
        refine wm_goto (tgt := 31) hC dX12_meet_27 (by decide) ?_
        refine wm_istore_n hC dX12_meet_31 (by decide) (L2 := [(2, vi 1), (1, vi (I l0 1)), (0, vr l0)]) rfl ?_
        refine wm_iconst hC dX12_meet_32 (k := ?_)
        refine wm_istore_n hC dX12_meet_33 (by decide) (L2 := [(3, vi 0), (2, vi 1), (1, vi (I l0 1)), (0, vr l0)]) rfl ?_
        obtain ⟨f, hw⟩ := hw
        refine wm_sub [3, 2, 1, 0] (L2 := [(0, vr l0), (1, vi (I l0 1)), (2, vi 1), (3, vi 0)]) rfl ?_
        exact W12_meet_b34 hC hRm hE hk0 f _ _ hw
    · refine wm_iconst hC dX12_meet_30 (k := ?_)
      refine wm_istore_n hC dX12_meet_31 (by decide) (L2 := [(2, vi 0), (1, vi (I l0 1)), (0, vr l0)]) rfl ?_
      refine wm_iconst hC dX12_meet_32 (k := ?_)
      refine wm_istore_n hC dX12_meet_33 (by decide) (L2 := [(3, vi 0), (2, vi 0), (1, vi (I l0 1)), (0, vr l0)]) rfl ?_
      obtain ⟨f, hw⟩ := hw
      refine wm_sub [3, 2, 1, 0] (L2 := [(0, vr l0), (1, vi (I l0 1)), (2, vi 0), (3, vi 0)]) rfl ?_
      exact W12_meet_b34 hC hRm hE hk0 f _ _ hw
def P12_tasteBits_b97_body (l0 : Nat) (l1 : Int) (l2 : Int) (l3 : Int) (l5 : Int) (I : mI) (J : mI) (R : mR) (k4 : Int → Int → mI → mI → Prop) (k31 : Int → Int → mI → mI → Prop) (Q : Int → mI → mI → Prop) (k97 : Int → Int → Prop) (l4 : Int) (l6 : Int) : Prop := (if (I l0 62) ≤ l6 then (P12_ticks l0 1 (-1) I J R (fun r2 I5 J1 => (rg (l5 + 1) ∧ (k31 l4 (l5 + 1) I5 J1)))) else (kK (R l0 63) = 21 ∧ (((0 : Int) ≤ l6 ∧ l6 < (kN (R l0 63) : Int)) ∧ (if (I (R l0 63) l6) = l5 then (kK (R l0 49) = 21 ∧ (kK (R l0 64) = 21 ∧ (((0 : Int) ≤ l6 ∧ l6 < (kN (R l0 64) : Int)) ∧ (rg (6 + (I (R l0 64) l6)) ∧ (((0 : Int) ≤ (6 + (I (R l0 64) l6)) ∧ (6 + (I (R l0 64) l6)) < (kN (R l0 49) : Int)) ∧ (kK (R l0 65) = 21 ∧ (((0 : Int) ≤ l6 ∧ l6 < (kN (R l0 65) : Int)) ∧ (if (I (R l0 49) (6 + (I (R l0 64) l6))) = (I (R l0 65) l6) then (rg (l4 + 1) ∧ (rg (l6 + 1) ∧ (k97 (l4 + 1) (l6 + 1)))) else (rg (l4 + 0) ∧ (rg (l6 + 1) ∧ (k97 (l4 + 0) (l6 + 1)))))))))))) else (rg (l4 + 0) ∧ (rg (l6 + 1) ∧ (k97 (l4 + 0) (l6 + 1))))))))
def P12_tasteBits_b97 (l0 : Nat) (l1 : Int) (l2 : Int) (l3 : Int) (l5 : Int) (I : mI) (J : mI) (R : mR) (k4 : Int → Int → mI → mI → Prop) (k31 : Int → Int → mI → mI → Prop) (Q : Int → mI → mI → Prop) : Nat → Int → Int → Prop
  | 0 => fun _ _ => False
  | f + 1 => fun l4 l6 => P12_tasteBits_b97_body l0 l1 l2 l3 l5 I J R k4 k31 Q (P12_tasteBits_b97 l0 l1 l2 l3 l5 I J R k4 k31 Q f) l4 l6
set_option maxRecDepth 20000 in
theorem W12_tasteBits_b97_body {C : wX} {ad : Nat → Nat} {n : Nat} {I J : mI} {R : mR} {Q : Int → mI → mI → Prop} (hC : wOK C cX12_tasteBits 7 RX12) (hRm : wRm C 9 214 0 0) (hE : wEnd C (some .int) ad n (fun r I' J' R' => (R' = R) ∧ Q r I' J')) {l0 : Nat} {l1 : Int} {l2 : Int} {l3 : Int} {l5 : Int} {l4 : Int} {l6 : Int}  {k4 : Int → Int → mI → mI → Prop} {k31 : Int → Int → mI → mI → Prop} (hk0 : kK l0 = 12) (kk4 : ∀ (y2 : Int) (y3 : Int) (I' : mI) (J' : mI), k4 y2 y3 I' J' → WM C ad n I' J' R 0 0 4 [(0, vr l0), (1, vi l1), (2, vi y2), (3, vi y3)] []) (kk31 : ∀ (y4 : Int) (y5 : Int) (I' : mI) (J' : mI), k31 y4 y5 I' J' → WM C ad n I' J' R 0 0 31 [(0, vr l0), (1, vi l1), (2, vi l2), (3, vi l3), (4, vi y4), (5, vi y5)] []) {k97 : Int → Int → Prop} (kk97 : ∀ (y4 : Int) (y6 : Int), k97 y4 y6 → WM C ad n I J R 0 0 97 [(0, vr l0), (1, vi l1), (2, vi l2), (3, vi l3), (4, vi y4), (5, vi l5), (6, vi y6)] []) (hw : P12_tasteBits_b97_body l0 l1 l2 l3 l5 I J R k4 k31 Q k97 l4 l6) : WM C ad n I J R 0 0 97 [(0, vr l0), (1, vi l1), (2, vi l2), (3, vi l3), (4, vi l4), (5, vi l5), (6, vi l6)] [] := by
  unfold P12_tasteBits_b97_body at hw
  refine wm_iload hC 6 dX12_tasteBits_97 rfl ?_
  refine wm_aload_n hC 0 dX12_tasteBits_99 rfl (k_ne0 hk0 (by decide)) ?_
  refine x_getI hC 62 fl_X12_201 rfl hk0 dX12_tasteBits_100 ?_
  refine wm_icmp_ge (tgt := 159) hC dX12_tasteBits_103 (by decide) hw (fun hw => ?_) (fun hw => ?_)
  · refine wm_aload_n hC 0 dX12_tasteBits_159 rfl (k_ne0 hk0 (by decide)) ?_
    refine wm_iconst hC dX12_tasteBits_160 (k := ?_)
    refine wm_iconst hC dX12_tasteBits_161 (k := ?_)
    refine y_callV_z_IJ hC hRm noS ml_X12_526 hk0 (C12_ticks hk0 hw) (Nat.le_of_ble_eq_true rfl) (Nat.le_of_ble_eq_true rfl) ⟨Nat.zero_le _, Nat.zero_le _⟩ rfl (st := []) rfl (Nat.le_of_ble_eq_true rfl) dX12_tasteBits_162 (fun r2 I5 J1 hw => ?_)
    refine wm_pop hC dX12_tasteBits_165 (k := ?_)
    refine x_iinc hC 5 dX12_tasteBits_166 rfl (by decide) (L2 := [(5, vi (l5 + 1)), (0, vr l0), (1, vi l1), (2, vi l2), (3, vi l3), (4, vi l4), (6, vi l6)]) rfl hw (fun hw => ?_)
    refine wm_goto (tgt := 31) hC dX12_tasteBits_169 (by decide) ?_
    refine wm_sub [1, 2, 3, 4, 5, 0] (L2 := [(0, vr l0), (1, vi l1), (2, vi l2), (3, vi l3), (4, vi l4), (5, vi (l5 + 1))]) rfl ?_
    exact kk31 _ _ _ _ hw
  · refine wm_iload hC 4 dX12_tasteBits_106 rfl ?_
    refine wm_aload_n hC 0 dX12_tasteBits_108 rfl (k_ne0 hk0 (by decide)) ?_
    refine x_getR2 hC 63 fl_X12_204 rfl hk0 dX12_tasteBits_109 hw (fun g7 hw => ?_)
    refine wm_iload hC 6 dX12_tasteBits_112 rfl ?_
    refine x_iald hC g7 dX12_tasteBits_114 hw (fun hw => ?_)
    refine wm_iload hC 5 dX12_tasteBits_115 rfl ?_
    refine wm_icmp_ne (tgt := 149) hC dX12_tasteBits_117 (by decide) hw (fun hw => ?_) (fun hw => ?_)
    · refine wm_aload_n hC 0 dX12_tasteBits_120 rfl (k_ne0 hk0 (by decide)) ?_
      refine x_getR2 hC 49 fl_X12_162 rfl hk0 dX12_tasteBits_121 hw (fun g8 hw => ?_)
      refine wm_bipush hC dX12_tasteBits_124 (k := ?_)
      refine wm_aload_n hC 0 dX12_tasteBits_126 rfl (k_ne0 hk0 (by decide)) ?_
      refine x_getR2 hC 64 fl_X12_207 rfl hk0 dX12_tasteBits_127 hw (fun g9 hw => ?_)
      refine wm_iload hC 6 dX12_tasteBits_130 rfl ?_
      refine x_iald hC g9 dX12_tasteBits_132 hw (fun hw => ?_)
      refine x_iadd hC dX12_tasteBits_133 hw (fun hw => ?_)
      refine x_iald hC g8 dX12_tasteBits_134 hw (fun hw => ?_)
      refine wm_aload_n hC 0 dX12_tasteBits_135 rfl (k_ne0 hk0 (by decide)) ?_
      refine x_getR2 hC 65 fl_X12_210 rfl hk0 dX12_tasteBits_136 hw (fun g10 hw => ?_)
      refine wm_iload hC 6 dX12_tasteBits_139 rfl ?_
      refine x_iald hC g10 dX12_tasteBits_141 hw (fun hw => ?_)
      refine wm_icmp_ne (tgt := 149) hC dX12_tasteBits_142 (by decide) hw (fun hw => ?_) (fun hw => ?_)
      · refine wm_iconst hC dX12_tasteBits_145 (k := ?_)
        refine wm_goto (tgt := 150) hC dX12_tasteBits_146 (by decide) ?_
        refine x_iadd hC dX12_tasteBits_150 hw (fun hw => ?_)
        refine wm_istore hC dX12_tasteBits_151 (by decide) (L2 := [(4, vi (l4 + 1)), (0, vr l0), (1, vi l1), (2, vi l2), (3, vi l3), (5, vi l5), (6, vi l6)]) rfl ?_
        refine x_iinc hC 6 dX12_tasteBits_153 rfl (by decide) (L2 := [(6, vi (l6 + 1)), (4, vi (l4 + 1)), (0, vr l0), (1, vi l1), (2, vi l2), (3, vi l3), (5, vi l5)]) rfl hw (fun hw => ?_)
        refine wm_goto (tgt := 97) hC dX12_tasteBits_156 (by decide) ?_
        refine wm_sub [2, 3, 4, 5, 1, 6, 0] (L2 := [(0, vr l0), (1, vi l1), (2, vi l2), (3, vi l3), (4, vi (l4 + 1)), (5, vi l5), (6, vi (l6 + 1))]) rfl ?_
        exact kk97 _ _ hw
      · refine wm_iconst hC dX12_tasteBits_149 (k := ?_)
        refine x_iadd hC dX12_tasteBits_150 hw (fun hw => ?_)
        refine wm_istore hC dX12_tasteBits_151 (by decide) (L2 := [(4, vi (l4 + 0)), (0, vr l0), (1, vi l1), (2, vi l2), (3, vi l3), (5, vi l5), (6, vi l6)]) rfl ?_
        refine x_iinc hC 6 dX12_tasteBits_153 rfl (by decide) (L2 := [(6, vi (l6 + 1)), (4, vi (l4 + 0)), (0, vr l0), (1, vi l1), (2, vi l2), (3, vi l3), (5, vi l5)]) rfl hw (fun hw => ?_)
        refine wm_goto (tgt := 97) hC dX12_tasteBits_156 (by decide) ?_
        refine wm_sub [2, 3, 4, 5, 1, 6, 0] (L2 := [(0, vr l0), (1, vi l1), (2, vi l2), (3, vi l3), (4, vi (l4 + 0)), (5, vi l5), (6, vi (l6 + 1))]) rfl ?_
        exact kk97 _ _ hw
    · refine wm_iconst hC dX12_tasteBits_149 (k := ?_)
      refine x_iadd hC dX12_tasteBits_150 hw (fun hw => ?_)
      refine wm_istore hC dX12_tasteBits_151 (by decide) (L2 := [(4, vi (l4 + 0)), (0, vr l0), (1, vi l1), (2, vi l2), (3, vi l3), (5, vi l5), (6, vi l6)]) rfl ?_
      refine x_iinc hC 6 dX12_tasteBits_153 rfl (by decide) (L2 := [(6, vi (l6 + 1)), (4, vi (l4 + 0)), (0, vr l0), (1, vi l1), (2, vi l2), (3, vi l3), (5, vi l5)]) rfl hw (fun hw => ?_)
      refine wm_goto (tgt := 97) hC dX12_tasteBits_156 (by decide) ?_
      refine wm_sub [2, 3, 4, 5, 1, 6, 0] (L2 := [(0, vr l0), (1, vi l1), (2, vi l2), (3, vi l3), (4, vi (l4 + 0)), (5, vi l5), (6, vi (l6 + 1))]) rfl ?_
      exact kk97 _ _ hw
set_option maxRecDepth 20000 in
theorem W12_tasteBits_b97 {C : wX} {ad : Nat → Nat} {n : Nat} {I J : mI} {R : mR} {Q : Int → mI → mI → Prop} (hC : wOK C cX12_tasteBits 7 RX12) (hRm : wRm C 9 214 0 0) (hE : wEnd C (some .int) ad n (fun r I' J' R' => (R' = R) ∧ Q r I' J')) {l0 : Nat} {l1 : Int} {l2 : Int} {l3 : Int} {l5 : Int}  {k4 : Int → Int → mI → mI → Prop} {k31 : Int → Int → mI → mI → Prop} (hk0 : kK l0 = 12) (kk4 : ∀ (y2 : Int) (y3 : Int) (I' : mI) (J' : mI), k4 y2 y3 I' J' → WM C ad n I' J' R 0 0 4 [(0, vr l0), (1, vi l1), (2, vi y2), (3, vi y3)] []) (kk31 : ∀ (y4 : Int) (y5 : Int) (I' : mI) (J' : mI), k31 y4 y5 I' J' → WM C ad n I' J' R 0 0 31 [(0, vr l0), (1, vi l1), (2, vi l2), (3, vi l3), (4, vi y4), (5, vi y5)] []) : ∀ (f : Nat) (l4 : Int) (l6 : Int), P12_tasteBits_b97 l0 l1 l2 l3 l5 I J R k4 k31 Q f l4 l6 → WM C ad n I J R 0 0 97 [(0, vr l0), (1, vi l1), (2, vi l2), (3, vi l3), (4, vi l4), (5, vi l5), (6, vi l6)] [] := by
  intro f
  induction f with
  | zero => intro l4 l6 hw; exact hw.elim
  | succ f ih => intro l4 l6 hw; exact W12_tasteBits_b97_body hC hRm hE hk0 kk4 kk31 (fun a0 a1 hw => ih a0 a1 hw) hw
def P12_tasteBits_b46_body (l0 : Nat) (l1 : Int) (l2 : Int) (l3 : Int) (l4 : Int) (l5 : Int) (J : mI) (R : mR) (k4 : Int → Int → mI → mI → Prop) (k31 : Int → Int → mI → mI → Prop) (Q : Int → mI → mI → Prop) (k46 : Int → mI → Prop) (l6 : Int) (I : mI) : Prop := (kK (R l0 20) = 21 ∧ (((0 : Int) ≤ (I l0 13) ∧ (I l0 13) < (kN (R l0 20) : Int)) ∧ (if (I (R l0 20) (I l0 13)) ≤ l6 then (∃ f, P12_tasteBits_b97 l0 l1 l2 l3 l5 I J R k4 k31 Q f l4 0) else (kK (R l0 66) = 21 ∧ (rg (31 * l3) ∧ (rg ((31 * l3) + l5) ∧ (rg (6 * ((31 * l3) + l5)) ∧ (rg ((6 * ((31 * l3) + l5)) + l6) ∧ (kK (R l0 49) = 21 ∧ (rg (6 + l6) ∧ (((0 : Int) ≤ (6 + l6) ∧ (6 + l6) < (kN (R l0 49) : Int)) ∧ (((0 : Int) ≤ ((6 * ((31 * l3) + l5)) + l6) ∧ ((6 * ((31 * l3) + l5)) + l6) < (kN (R l0 66) : Int)) ∧ wLet (up I (R l0 66) ((6 * ((31 * l3) + l5)) + l6) (I (R l0 49) (6 + l6))) (fun I4 => (rg (l6 + 1) ∧ (k46 (l6 + 1) I4)))))))))))))))
def P12_tasteBits_b46 (l0 : Nat) (l1 : Int) (l2 : Int) (l3 : Int) (l4 : Int) (l5 : Int) (J : mI) (R : mR) (k4 : Int → Int → mI → mI → Prop) (k31 : Int → Int → mI → mI → Prop) (Q : Int → mI → mI → Prop) : Nat → Int → mI → Prop
  | 0 => fun _ _ => False
  | f + 1 => fun l6 I => P12_tasteBits_b46_body l0 l1 l2 l3 l4 l5 J R k4 k31 Q (P12_tasteBits_b46 l0 l1 l2 l3 l4 l5 J R k4 k31 Q f) l6 I
set_option maxRecDepth 20000 in
theorem W12_tasteBits_b46_body {C : wX} {ad : Nat → Nat} {n : Nat} {I J : mI} {R : mR} {Q : Int → mI → mI → Prop} (hC : wOK C cX12_tasteBits 7 RX12) (hRm : wRm C 9 214 0 0) (hE : wEnd C (some .int) ad n (fun r I' J' R' => (R' = R) ∧ Q r I' J')) {l0 : Nat} {l1 : Int} {l2 : Int} {l3 : Int} {l4 : Int} {l5 : Int} {l6 : Int}  {k4 : Int → Int → mI → mI → Prop} {k31 : Int → Int → mI → mI → Prop} (hk0 : kK l0 = 12) (kk4 : ∀ (y2 : Int) (y3 : Int) (I' : mI) (J' : mI), k4 y2 y3 I' J' → WM C ad n I' J' R 0 0 4 [(0, vr l0), (1, vi l1), (2, vi y2), (3, vi y3)] []) (kk31 : ∀ (y4 : Int) (y5 : Int) (I' : mI) (J' : mI), k31 y4 y5 I' J' → WM C ad n I' J' R 0 0 31 [(0, vr l0), (1, vi l1), (2, vi l2), (3, vi l3), (4, vi y4), (5, vi y5)] []) {k46 : Int → mI → Prop} (kk46 : ∀ (y6 : Int) (I' : mI), k46 y6 I' → WM C ad n I' J R 0 0 46 [(0, vr l0), (1, vi l1), (2, vi l2), (3, vi l3), (4, vi l4), (5, vi l5), (6, vi y6)] []) (hw : P12_tasteBits_b46_body l0 l1 l2 l3 l4 l5 J R k4 k31 Q k46 l6 I) : WM C ad n I J R 0 0 46 [(0, vr l0), (1, vi l1), (2, vi l2), (3, vi l3), (4, vi l4), (5, vi l5), (6, vi l6)] [] := by
  unfold P12_tasteBits_b46_body at hw
  refine wm_iload hC 6 dX12_tasteBits_46 rfl ?_
  refine wm_aload_n hC 0 dX12_tasteBits_48 rfl (k_ne0 hk0 (by decide)) ?_
  refine x_getR2 hC 20 fl_X12_72 rfl hk0 dX12_tasteBits_49 hw (fun g4 hw => ?_)
  refine wm_aload_n hC 0 dX12_tasteBits_52 rfl (k_ne0 hk0 (by decide)) ?_
  refine x_getI hC 13 fl_X12_51 rfl hk0 dX12_tasteBits_53 ?_
  refine x_iald hC g4 dX12_tasteBits_56 hw (fun hw => ?_)
  refine wm_icmp_ge (tgt := 94) hC dX12_tasteBits_57 (by decide) hw (fun hw => ?_) (fun hw => ?_)
  · refine wm_iconst hC dX12_tasteBits_94 (k := ?_)
    refine wm_istore hC dX12_tasteBits_95 (by decide) (L2 := [(6, vi 0), (0, vr l0), (1, vi l1), (2, vi l2), (3, vi l3), (4, vi l4), (5, vi l5)]) rfl ?_
    obtain ⟨f, hw⟩ := hw
    refine wm_sub [1, 2, 3, 4, 5, 6, 0] (L2 := [(0, vr l0), (1, vi l1), (2, vi l2), (3, vi l3), (4, vi l4), (5, vi l5), (6, vi 0)]) rfl ?_
    exact W12_tasteBits_b97 hC hRm hE hk0 kk4 kk31 f _ _ hw
  · refine wm_aload_n hC 0 dX12_tasteBits_60 rfl (k_ne0 hk0 (by decide)) ?_
    refine x_getR2 hC 66 fl_X12_213 rfl hk0 dX12_tasteBits_61 hw (fun g5 hw => ?_)
    refine wm_bipush hC dX12_tasteBits_64 (k := ?_)
    refine wm_bipush hC dX12_tasteBits_66 (k := ?_)
    refine wm_iload_n hC 3 dX12_tasteBits_68 rfl ?_
    refine x_imul hC dX12_tasteBits_69 hw (fun hw => ?_)
    refine wm_iload hC 5 dX12_tasteBits_70 rfl ?_
    refine x_iadd hC dX12_tasteBits_72 hw (fun hw => ?_)
    refine x_imul hC dX12_tasteBits_73 hw (fun hw => ?_)
    refine wm_iload hC 6 dX12_tasteBits_74 rfl ?_
    refine x_iadd hC dX12_tasteBits_76 hw (fun hw => ?_)
    refine wm_aload_n hC 0 dX12_tasteBits_77 rfl (k_ne0 hk0 (by decide)) ?_
    refine x_getR2 hC 49 fl_X12_162 rfl hk0 dX12_tasteBits_78 hw (fun g6 hw => ?_)
    refine wm_bipush hC dX12_tasteBits_81 (k := ?_)
    refine wm_iload hC 6 dX12_tasteBits_83 rfl ?_
    refine x_iadd hC dX12_tasteBits_85 hw (fun hw => ?_)
    refine x_iald hC g6 dX12_tasteBits_86 hw (fun hw => ?_)
    refine x_iast hC g5 dX12_tasteBits_87 hw (fun I4 hw => ?_)
    refine x_iinc hC 6 dX12_tasteBits_88 rfl (by decide) (L2 := [(6, vi (l6 + 1)), (0, vr l0), (1, vi l1), (2, vi l2), (3, vi l3), (4, vi l4), (5, vi l5)]) rfl hw (fun hw => ?_)
    refine wm_goto (tgt := 46) hC dX12_tasteBits_91 (by decide) ?_
    refine wm_sub [1, 2, 3, 4, 5, 6, 0] (L2 := [(0, vr l0), (1, vi l1), (2, vi l2), (3, vi l3), (4, vi l4), (5, vi l5), (6, vi (l6 + 1))]) rfl ?_
    exact kk46 _ _ hw
set_option maxRecDepth 20000 in
theorem W12_tasteBits_b46 {C : wX} {ad : Nat → Nat} {n : Nat} {J : mI} {R : mR} {Q : Int → mI → mI → Prop} (hC : wOK C cX12_tasteBits 7 RX12) (hRm : wRm C 9 214 0 0) (hE : wEnd C (some .int) ad n (fun r I' J' R' => (R' = R) ∧ Q r I' J')) {l0 : Nat} {l1 : Int} {l2 : Int} {l3 : Int} {l4 : Int} {l5 : Int}  {k4 : Int → Int → mI → mI → Prop} {k31 : Int → Int → mI → mI → Prop} (hk0 : kK l0 = 12) (kk4 : ∀ (y2 : Int) (y3 : Int) (I' : mI) (J' : mI), k4 y2 y3 I' J' → WM C ad n I' J' R 0 0 4 [(0, vr l0), (1, vi l1), (2, vi y2), (3, vi y3)] []) (kk31 : ∀ (y4 : Int) (y5 : Int) (I' : mI) (J' : mI), k31 y4 y5 I' J' → WM C ad n I' J' R 0 0 31 [(0, vr l0), (1, vi l1), (2, vi l2), (3, vi l3), (4, vi y4), (5, vi y5)] []) : ∀ (f : Nat) (l6 : Int) (I : mI), P12_tasteBits_b46 l0 l1 l2 l3 l4 l5 J R k4 k31 Q f l6 I → WM C ad n I J R 0 0 46 [(0, vr l0), (1, vi l1), (2, vi l2), (3, vi l3), (4, vi l4), (5, vi l5), (6, vi l6)] [] := by
  intro f
  induction f with
  | zero => intro l6 I hw; exact hw.elim
  | succ f ih => intro l6 I hw; exact W12_tasteBits_b46_body hC hRm hE hk0 kk4 kk31 (fun a0 a1 hw => ih a0 a1 hw) hw
def P12_tasteBits_b31_body (l0 : Nat) (l1 : Int) (l2 : Int) (l3 : Int) (R : mR) (k4 : Int → Int → mI → mI → Prop) (Q : Int → mI → mI → Prop) (k31 : Int → Int → mI → mI → Prop) (l4 : Int) (l5 : Int) (I : mI) (J : mI) : Prop := (P12_isAhead l0 l5 0 30 I R (fun r1 => (if r1 = 0 then (if l4 = (I l0 62) then (rg (l3 + 1) ∧ (k4 (bOr l2 (bShl 1 l3)) (l3 + 1) I J)) else (rg (l3 + 1) ∧ (k4 (bOr l2 0) (l3 + 1) I J))) else (∃ f, P12_tasteBits_b46 l0 l1 l2 l3 l4 l5 J R k4 k31 Q f 0 I))))
def P12_tasteBits_b31 (l0 : Nat) (l1 : Int) (l2 : Int) (l3 : Int) (R : mR) (k4 : Int → Int → mI → mI → Prop) (Q : Int → mI → mI → Prop) : Nat → Int → Int → mI → mI → Prop
  | 0 => fun _ _ _ _ => False
  | f + 1 => fun l4 l5 I J => P12_tasteBits_b31_body l0 l1 l2 l3 R k4 Q (P12_tasteBits_b31 l0 l1 l2 l3 R k4 Q f) l4 l5 I J
set_option maxRecDepth 20000 in
theorem W12_tasteBits_b31_body {C : wX} {ad : Nat → Nat} {n : Nat} {I J : mI} {R : mR} {Q : Int → mI → mI → Prop} (hC : wOK C cX12_tasteBits 7 RX12) (hRm : wRm C 9 214 0 0) (hE : wEnd C (some .int) ad n (fun r I' J' R' => (R' = R) ∧ Q r I' J')) {l0 : Nat} {l1 : Int} {l2 : Int} {l3 : Int} {l4 : Int} {l5 : Int}  {k4 : Int → Int → mI → mI → Prop} (hk0 : kK l0 = 12) (kk4 : ∀ (y2 : Int) (y3 : Int) (I' : mI) (J' : mI), k4 y2 y3 I' J' → WM C ad n I' J' R 0 0 4 [(0, vr l0), (1, vi l1), (2, vi y2), (3, vi y3)] []) {k31 : Int → Int → mI → mI → Prop} (kk31 : ∀ (y4 : Int) (y5 : Int) (I' : mI) (J' : mI), k31 y4 y5 I' J' → WM C ad n I' J' R 0 0 31 [(0, vr l0), (1, vi l1), (2, vi l2), (3, vi l3), (4, vi y4), (5, vi y5)] []) (hw : P12_tasteBits_b31_body l0 l1 l2 l3 R k4 Q k31 l4 l5 I J) : WM C ad n I J R 0 0 31 [(0, vr l0), (1, vi l1), (2, vi l2), (3, vi l3), (4, vi l4), (5, vi l5)] [] := by
  unfold P12_tasteBits_b31_body at hw
  refine wm_aload_n hC 0 dX12_tasteBits_31 rfl (k_ne0 hk0 (by decide)) ?_
  refine wm_iload hC 5 dX12_tasteBits_32 rfl ?_
  refine wm_iconst hC dX12_tasteBits_34 (k := ?_)
  refine wm_bipush hC dX12_tasteBits_35 (k := ?_)
  refine y_callV_z_n hC hRm noS ml_X12_529 hk0 (C12_isAhead hk0 hw) (Nat.le_of_ble_eq_true rfl) (Nat.le_of_ble_eq_true rfl) ⟨Nat.zero_le _, Nat.zero_le _⟩ rfl (st := []) rfl (Nat.le_of_ble_eq_true rfl) dX12_tasteBits_37 (fun r1 hw => ?_)
  refine wm_if_eq (tgt := 172) hC dX12_tasteBits_40 (by decide) hw (fun hw => ?_) (fun hw => ?_)
  · refine wm_iload_n hC 2 dX12_tasteBits_172 rfl ?_
    refine wm_iload hC 4 dX12_tasteBits_173 rfl ?_
    refine wm_aload_n hC 0 dX12_tasteBits_175 rfl (k_ne0 hk0 (by decide)) ?_
    refine x_getI hC 62 fl_X12_201 rfl hk0 dX12_tasteBits_176 ?_
    refine wm_icmp_ne (tgt := 188) hC dX12_tasteBits_179 (by decide) hw (fun hw => ?_) (fun hw => ?_)
    · refine wm_iconst hC dX12_tasteBits_182 (k := ?_)
      refine wm_iload_n hC 3 dX12_tasteBits_183 rfl ?_
      refine wm_ishl hC dX12_tasteBits_184 ?_
      refine wm_goto (tgt := 189) hC dX12_tasteBits_185 (by decide) ?_
      refine wm_ior hC dX12_tasteBits_189 ?_
      refine wm_istore_n hC dX12_tasteBits_190 (by decide) (L2 := [(2, vi (bOr l2 (bShl 1 l3))), (0, vr l0), (1, vi l1), (3, vi l3), (4, vi l4), (5, vi l5)]) rfl ?_
      refine x_iinc hC 3 dX12_tasteBits_191 rfl (by decide) (L2 := [(3, vi (l3 + 1)), (2, vi (bOr l2 (bShl 1 l3))), (0, vr l0), (1, vi l1), (4, vi l4), (5, vi l5)]) rfl hw (fun hw => ?_)
      refine wm_goto (tgt := 4) hC dX12_tasteBits_194 (by decide) ?_
      refine wm_sub [2, 3, 1, 0] (L2 := [(0, vr l0), (1, vi l1), (2, vi (bOr l2 (bShl 1 l3))), (3, vi (l3 + 1))]) rfl ?_
      exact kk4 _ _ _ _ hw
    · refine wm_iconst hC dX12_tasteBits_188 (k := ?_)
      refine wm_ior hC dX12_tasteBits_189 ?_
      refine wm_istore_n hC dX12_tasteBits_190 (by decide) (L2 := [(2, vi (bOr l2 0)), (0, vr l0), (1, vi l1), (3, vi l3), (4, vi l4), (5, vi l5)]) rfl ?_
      refine x_iinc hC 3 dX12_tasteBits_191 rfl (by decide) (L2 := [(3, vi (l3 + 1)), (2, vi (bOr l2 0)), (0, vr l0), (1, vi l1), (4, vi l4), (5, vi l5)]) rfl hw (fun hw => ?_)
      refine wm_goto (tgt := 4) hC dX12_tasteBits_194 (by decide) ?_
      refine wm_sub [2, 3, 1, 0] (L2 := [(0, vr l0), (1, vi l1), (2, vi (bOr l2 0)), (3, vi (l3 + 1))]) rfl ?_
      exact kk4 _ _ _ _ hw
  · refine wm_iconst hC dX12_tasteBits_43 (k := ?_)
    refine wm_istore hC dX12_tasteBits_44 (by decide) (L2 := [(6, vi 0), (0, vr l0), (1, vi l1), (2, vi l2), (3, vi l3), (4, vi l4), (5, vi l5)]) rfl ?_
    obtain ⟨f, hw⟩ := hw
    refine wm_sub [1, 2, 3, 4, 5, 6, 0] (L2 := [(0, vr l0), (1, vi l1), (2, vi l2), (3, vi l3), (4, vi l4), (5, vi l5), (6, vi 0)]) rfl ?_
    exact W12_tasteBits_b46 hC hRm hE hk0 kk4 kk31 f _ _ hw
set_option maxRecDepth 20000 in
theorem W12_tasteBits_b31 {C : wX} {ad : Nat → Nat} {n : Nat} {R : mR} {Q : Int → mI → mI → Prop} (hC : wOK C cX12_tasteBits 7 RX12) (hRm : wRm C 9 214 0 0) (hE : wEnd C (some .int) ad n (fun r I' J' R' => (R' = R) ∧ Q r I' J')) {l0 : Nat} {l1 : Int} {l2 : Int} {l3 : Int}  {k4 : Int → Int → mI → mI → Prop} (hk0 : kK l0 = 12) (kk4 : ∀ (y2 : Int) (y3 : Int) (I' : mI) (J' : mI), k4 y2 y3 I' J' → WM C ad n I' J' R 0 0 4 [(0, vr l0), (1, vi l1), (2, vi y2), (3, vi y3)] []) : ∀ (f : Nat) (l4 : Int) (l5 : Int) (I : mI) (J : mI), P12_tasteBits_b31 l0 l1 l2 l3 R k4 Q f l4 l5 I J → WM C ad n I J R 0 0 31 [(0, vr l0), (1, vi l1), (2, vi l2), (3, vi l3), (4, vi l4), (5, vi l5)] [] := by
  intro f
  induction f with
  | zero => intro l4 l5 I J hw; exact hw.elim
  | succ f ih => intro l4 l5 I J hw; exact W12_tasteBits_b31_body hC hRm hE hk0 kk4 (fun a0 a1 a2 a3 hw => ih a0 a1 a2 a3 hw) hw
def P12_tasteBits_b4_body (l0 : Nat) (l1 : Int) (R : mR) (Q : Int → mI → mI → Prop) (k4 : Int → Int → mI → mI → Prop) (l2 : Int) (l3 : Int) (I : mI) (J : mI) : Prop := (if (9 : Int) < l3 then (kK (R l0 55) = 21 ∧ (rg (3 * l1) ∧ (kK (R l0 15) = 21 ∧ (rg (18 * (I l0 13)) ∧ (rg (3 * l1) ∧ (rg ((18 * (I l0 13)) + (3 * l1)) ∧ (((0 : Int) ≤ ((18 * (I l0 13)) + (3 * l1)) ∧ ((18 * (I l0 13)) + (3 * l1)) < (kN (R l0 15) : Int)) ∧ (((0 : Int) ≤ (3 * l1) ∧ (3 * l1) < (kN (R l0 55) : Int)) ∧ wLet (up I (R l0 55) (3 * l1) (I (R l0 15) ((18 * (I l0 13)) + (3 * l1)))) (fun I1 => (Q l2 I1 J)))))))))) else (P12_copies l0 1 0 I R (fun I2 => (kK (R l0 55) = 21 ∧ (rg (3 * l1) ∧ (((0 : Int) ≤ (3 * l1) ∧ (3 * l1) < (kN (R l0 55) : Int)) ∧ wLet (up I2 (R l0 55) (3 * l1) l3) (fun I3 => (∃ f, P12_tasteBits_b31 l0 l1 l2 l3 R k4 Q f 0 0 I3 J))))))))
def P12_tasteBits_b4 (l0 : Nat) (l1 : Int) (R : mR) (Q : Int → mI → mI → Prop) : Nat → Int → Int → mI → mI → Prop
  | 0 => fun _ _ _ _ => False
  | f + 1 => fun l2 l3 I J => P12_tasteBits_b4_body l0 l1 R Q (P12_tasteBits_b4 l0 l1 R Q f) l2 l3 I J
set_option maxRecDepth 20000 in
theorem W12_tasteBits_b4_body {C : wX} {ad : Nat → Nat} {n : Nat} {I J : mI} {R : mR} {Q : Int → mI → mI → Prop} (hC : wOK C cX12_tasteBits 7 RX12) (hRm : wRm C 9 214 0 0) (hE : wEnd C (some .int) ad n (fun r I' J' R' => (R' = R) ∧ Q r I' J')) {l0 : Nat} {l1 : Int} {l2 : Int} {l3 : Int}   (hk0 : kK l0 = 12)  {k4 : Int → Int → mI → mI → Prop} (kk4 : ∀ (y2 : Int) (y3 : Int) (I' : mI) (J' : mI), k4 y2 y3 I' J' → WM C ad n I' J' R 0 0 4 [(0, vr l0), (1, vi l1), (2, vi y2), (3, vi y3)] []) (hw : P12_tasteBits_b4_body l0 l1 R Q k4 l2 l3 I J) : WM C ad n I J R 0 0 4 [(0, vr l0), (1, vi l1), (2, vi l2), (3, vi l3)] [] := by
  unfold P12_tasteBits_b4_body at hw
  refine wm_iload_n hC 3 dX12_tasteBits_4 rfl ?_
  refine wm_bipush hC dX12_tasteBits_5 (k := ?_)
  refine wm_icmp_gt (tgt := 197) hC dX12_tasteBits_7 (by decide) hw (fun hw => ?_) (fun hw => ?_)
  · refine wm_aload_n hC 0 dX12_tasteBits_197 rfl (k_ne0 hk0 (by decide)) ?_
    refine x_getR2 hC 55 fl_X12_180 rfl hk0 dX12_tasteBits_198 hw (fun g1 hw => ?_)
    refine wm_iconst hC dX12_tasteBits_201 (k := ?_)
    refine wm_iload_n hC 1 dX12_tasteBits_202 rfl ?_
    refine x_imul hC dX12_tasteBits_203 hw (fun hw => ?_)
    refine wm_aload_n hC 0 dX12_tasteBits_204 rfl (k_ne0 hk0 (by decide)) ?_
    refine x_getR2 hC 15 fl_X12_57 rfl hk0 dX12_tasteBits_205 hw (fun g2 hw => ?_)
    refine wm_bipush hC dX12_tasteBits_208 (k := ?_)
    refine wm_aload_n hC 0 dX12_tasteBits_210 rfl (k_ne0 hk0 (by decide)) ?_
    refine x_getI hC 13 fl_X12_51 rfl hk0 dX12_tasteBits_211 ?_
    refine x_imul hC dX12_tasteBits_214 hw (fun hw => ?_)
    refine wm_iconst hC dX12_tasteBits_215 (k := ?_)
    refine wm_iload_n hC 1 dX12_tasteBits_216 rfl ?_
    refine x_imul hC dX12_tasteBits_217 hw (fun hw => ?_)
    refine x_iadd hC dX12_tasteBits_218 hw (fun hw => ?_)
    refine x_iald hC g2 dX12_tasteBits_219 hw (fun hw => ?_)
    refine x_iast hC g1 dX12_tasteBits_220 hw (fun I1 hw => ?_)
    refine wm_iload_n hC 2 dX12_tasteBits_221 rfl ?_
    exact wm_ireturn hC hE dX12_tasteBits_222 ⟨rfl, hw⟩
  · refine wm_aload_n hC 0 dX12_tasteBits_10 rfl (k_ne0 hk0 (by decide)) ?_
    refine wm_iconst hC dX12_tasteBits_11 (k := ?_)
    refine wm_iconst hC dX12_tasteBits_12 (k := ?_)
    refine y_callV_v_I hC hRm noS ml_X12_424 hk0 (C12_copies hk0 hw) (Nat.le_of_ble_eq_true rfl) (Nat.le_of_ble_eq_true rfl) ⟨Nat.zero_le _, Nat.zero_le _⟩ rfl (st := []) rfl (Nat.le_of_ble_eq_true rfl) dX12_tasteBits_13 (fun I2 hw => ?_)
    refine wm_aload_n hC 0 dX12_tasteBits_16 rfl (k_ne0 hk0 (by decide)) ?_
    refine x_getR2 hC 55 fl_X12_180 rfl hk0 dX12_tasteBits_17 hw (fun g3 hw => ?_)
    refine wm_iconst hC dX12_tasteBits_20 (k := ?_)
    refine wm_iload_n hC 1 dX12_tasteBits_21 rfl ?_
    refine x_imul hC dX12_tasteBits_22 hw (fun hw => ?_)
    refine wm_iload_n hC 3 dX12_tasteBits_23 rfl ?_
    refine x_iast hC g3 dX12_tasteBits_24 hw (fun I3 hw => ?_)
    refine wm_iconst hC dX12_tasteBits_25 (k := ?_)
    refine wm_istore hC dX12_tasteBits_26 (by decide) (L2 := [(4, vi 0), (0, vr l0), (1, vi l1), (2, vi l2), (3, vi l3)]) rfl ?_
    refine wm_iconst hC dX12_tasteBits_28 (k := ?_)
    refine wm_istore hC dX12_tasteBits_29 (by decide) (L2 := [(5, vi 0), (4, vi 0), (0, vr l0), (1, vi l1), (2, vi l2), (3, vi l3)]) rfl ?_
    obtain ⟨f, hw⟩ := hw
    refine wm_sub [2, 3, 4, 5, 1, 0] (L2 := [(0, vr l0), (1, vi l1), (2, vi l2), (3, vi l3), (4, vi 0), (5, vi 0)]) rfl ?_
    exact W12_tasteBits_b31 hC hRm hE hk0 kk4 f _ _ _ _ hw
set_option maxRecDepth 20000 in
theorem W12_tasteBits_b4 {C : wX} {ad : Nat → Nat} {n : Nat} {R : mR} {Q : Int → mI → mI → Prop} (hC : wOK C cX12_tasteBits 7 RX12) (hRm : wRm C 9 214 0 0) (hE : wEnd C (some .int) ad n (fun r I' J' R' => (R' = R) ∧ Q r I' J')) {l0 : Nat} {l1 : Int}   (hk0 : kK l0 = 12)  : ∀ (f : Nat) (l2 : Int) (l3 : Int) (I : mI) (J : mI), P12_tasteBits_b4 l0 l1 R Q f l2 l3 I J → WM C ad n I J R 0 0 4 [(0, vr l0), (1, vi l1), (2, vi l2), (3, vi l3)] [] := by
  intro f
  induction f with
  | zero => intro l2 l3 I J hw; exact hw.elim
  | succ f ih => intro l2 l3 I J hw; exact W12_tasteBits_b4_body hC hRm hE hk0 (fun a0 a1 a2 a3 hw => ih a0 a1 a2 a3 hw) hw
def P12_tasteBits (l0 : Nat) (l1 : Int) (I : mI) (J : mI) (R : mR) (Q : Int → mI → mI → Prop) : Prop := (∃ f, P12_tasteBits_b4 l0 l1 R Q f 0 0 I J)
set_option maxRecDepth 20000 in
theorem C12_tasteBits {ad : Nat → Nat} {n : Nat} {I J : mI} {R : mR} {Q : Int → mI → mI → Prop}  {l0 : Nat} {l1 : Int} (hk0 : kK l0 = 12) (hw : P12_tasteBits l0 l1 I J R Q) : wMet yX12_tasteBits cX12_tasteBits 7 (some .int) 9 214 false ad n I J R [vr l0, vi l1] (fun r I' J' R' => (R' = R) ∧ Q r I' J') := by
  refine wMet_of (by decide) (Nat.le_of_ble_eq_true rfl) (fun C hC hRm hE hS => ?_)
  refine (show WM C ad n I J R 0 0 0 [(0, vr l0), (1, vi l1)] [] from ?_)
  unfold P12_tasteBits at hw
  refine wm_iconst hC dX12_tasteBits_0 (k := ?_)
  refine wm_istore_n hC dX12_tasteBits_1 (by decide) (L2 := [(2, vi 0), (0, vr l0), (1, vi l1)]) rfl ?_
  refine wm_iconst hC dX12_tasteBits_2 (k := ?_)
  refine wm_istore_n hC dX12_tasteBits_3 (by decide) (L2 := [(3, vi 0), (2, vi 0), (0, vr l0), (1, vi l1)]) rfl ?_
  obtain ⟨f, hw⟩ := hw
  refine wm_sub [2, 3, 1, 0] (L2 := [(0, vr l0), (1, vi l1), (2, vi 0), (3, vi 0)]) rfl ?_
  exact W12_tasteBits_b4 hC hRm hE hk0 f _ _ _ _ hw
def P12_tastes (l0 : Nat) (l1 : Int) (I : mI) (J : mI) (R : mR) (Q : Int → mI → mI → Prop) : Prop := (P12_isBlind l0 l1 I R (fun r1 => (if r1 = 0 then (Q (-1) I J) else (P12_tasteBits l0 l1 I J R (fun r2 I1 J1 => (Q r2 I1 J1))))))
set_option maxRecDepth 20000 in
theorem C12_tastes {ad : Nat → Nat} {n : Nat} {I J : mI} {R : mR} {Q : Int → mI → mI → Prop}  {l0 : Nat} {l1 : Int} (hk0 : kK l0 = 12) (hw : P12_tastes l0 l1 I J R Q) : wMet yX12_tastes cX12_tastes 2 (some .int) 10 240 false ad n I J R [vr l0, vi l1] (fun r I' J' R' => (R' = R) ∧ Q r I' J') := by
  refine wMet_of (by decide) (Nat.le_of_ble_eq_true rfl) (fun C hC hRm hE hS => ?_)
  refine (show WM C ad n I J R 0 0 0 [(0, vr l0), (1, vi l1)] [] from ?_)
  unfold P12_tastes at hw
  refine wm_aload_n hC 0 dX12_tastes_0 rfl (k_ne0 hk0 (by decide)) ?_
  refine wm_iload_n hC 1 dX12_tastes_1 rfl ?_
  refine y_callV_z_n hC hRm noS ml_X12_507 hk0 (C12_isBlind hk0 hw) (Nat.le_of_ble_eq_true rfl) (Nat.le_of_ble_eq_true rfl) ⟨Nat.zero_le _, Nat.zero_le _⟩ rfl (st := []) rfl (Nat.le_of_ble_eq_true rfl) dX12_tastes_2 (fun r1 hw => ?_)
  refine wm_if_eq (tgt := 16) hC dX12_tastes_5 (by decide) hw (fun hw => ?_) (fun hw => ?_)
  · refine wm_iconst hC dX12_tastes_16 (k := ?_)
    exact wm_ireturn hC hE dX12_tastes_17 ⟨rfl, hw⟩
  · refine wm_aload_n hC 0 dX12_tastes_8 rfl (k_ne0 hk0 (by decide)) ?_
    refine wm_iload_n hC 1 dX12_tastes_9 rfl ?_
    refine y_callV_i_IJ hC hRm noS ml_X12_547 hk0 (C12_tasteBits hk0 hw) (Nat.le_of_ble_eq_true rfl) (Nat.le_of_ble_eq_true rfl) ⟨Nat.zero_le _, Nat.zero_le _⟩ rfl (st := []) rfl (Nat.le_of_ble_eq_true rfl) dX12_tastes_10 (fun r2 I1 J1 hw => ?_)
    refine wm_goto (tgt := 17) hC dX12_tastes_13 (by decide) ?_
    exact wm_ireturn hC hE dX12_tastes_17 ⟨rfl, hw⟩
def P12_mostBy_b19_body (l0 : Nat) (l1 : Int) (l2 : Int) (l3 : Int) (l4 : Int) (l5 : Int) (I : mI) (R : mR) (k6 : Int → Int → Prop) (Q : Int → Prop) (k19 : Int → Int → Prop) (l6 : Int) (l7 : Int) : Prop := (if (9 : Int) < l7 then (if l6 ≤ l4 then (rg (l5 + 1) ∧ (k6 l4 (l5 + 1))) else (rg (l5 + 1) ∧ (k6 l6 (l5 + 1)))) else (P12_has2 l1 l5 (fun r1 => (if r1 = 0 then (rg (l6 + 0) ∧ (rg (l7 + 1) ∧ (k19 (l6 + 0) (l7 + 1)))) else (P12_has2 l1 l7 (fun r2 => (if r2 = 0 then (rg (l6 + 0) ∧ (rg (l7 + 1) ∧ (k19 (l6 + 0) (l7 + 1)))) else (kK (R l0 66) = 21 ∧ (rg (31 * l5) ∧ (rg ((31 * l5) + l2) ∧ (rg (6 * ((31 * l5) + l2)) ∧ (rg ((6 * ((31 * l5) + l2)) + l3) ∧ (((0 : Int) ≤ ((6 * ((31 * l5) + l2)) + l3) ∧ ((6 * ((31 * l5) + l2)) + l3) < (kN (R l0 66) : Int)) ∧ (kK (R l0 66) = 21 ∧ (rg (31 * l7) ∧ (rg ((31 * l7) + l2) ∧ (rg (6 * ((31 * l7) + l2)) ∧ (rg ((6 * ((31 * l7) + l2)) + l3) ∧ (((0 : Int) ≤ ((6 * ((31 * l7) + l2)) + l3) ∧ ((6 * ((31 * l7) + l2)) + l3) < (kN (R l0 66) : Int)) ∧ (if (I (R l0 66) ((6 * ((31 * l5) + l2)) + l3)) = (I (R l0 66) ((6 * ((31 * l7) + l2)) + l3)) then (rg (l6 + 1) ∧ (rg (l7 + 1) ∧ (k19 (l6 + 1) (l7 + 1)))) else (rg (l6 + 0) ∧ (rg (l7 + 1) ∧ (k19 (l6 + 0) (l7 + 1))))))))))))))))))))))))
def P12_mostBy_b19 (l0 : Nat) (l1 : Int) (l2 : Int) (l3 : Int) (l4 : Int) (l5 : Int) (I : mI) (R : mR) (k6 : Int → Int → Prop) (Q : Int → Prop) : Nat → Int → Int → Prop
  | 0 => fun _ _ => False
  | f + 1 => fun l6 l7 => P12_mostBy_b19_body l0 l1 l2 l3 l4 l5 I R k6 Q (P12_mostBy_b19 l0 l1 l2 l3 l4 l5 I R k6 Q f) l6 l7
set_option maxRecDepth 20000 in
theorem W12_mostBy_b19_body {C : wX} {ad : Nat → Nat} {n : Nat} {I J : mI} {R : mR} {Q : Int → Prop} (hC : wOK C cX12_mostBy 8 RX12) (hRm : wRm C 2 33 0 0) (hE : wEnd C (some .int) ad n (fun r I' J' R' => (I' = I ∧ J' = J ∧ R' = R) ∧ Q r)) {l0 : Nat} {l1 : Int} {l2 : Int} {l3 : Int} {l4 : Int} {l5 : Int} {l6 : Int} {l7 : Int}  {k6 : Int → Int → Prop} (hk0 : kK l0 = 12) (kk6 : ∀ (y4 : Int) (y5 : Int), k6 y4 y5 → WM C ad n I J R 0 0 6 [(0, vr l0), (1, vi l1), (2, vi l2), (3, vi l3), (4, vi y4), (5, vi y5)] []) {k19 : Int → Int → Prop} (kk19 : ∀ (y6 : Int) (y7 : Int), k19 y6 y7 → WM C ad n I J R 0 0 19 [(0, vr l0), (1, vi l1), (2, vi l2), (3, vi l3), (4, vi l4), (5, vi l5), (6, vi y6), (7, vi y7)] []) (hw : P12_mostBy_b19_body l0 l1 l2 l3 l4 l5 I R k6 Q k19 l6 l7) : WM C ad n I J R 0 0 19 [(0, vr l0), (1, vi l1), (2, vi l2), (3, vi l3), (4, vi l4), (5, vi l5), (6, vi l6), (7, vi l7)] [] := by
  unfold P12_mostBy_b19_body at hw
  refine wm_iload hC 7 dX12_mostBy_19 rfl ?_
  refine wm_bipush hC dX12_mostBy_21 (k := ?_)
  refine wm_icmp_gt (tgt := 97) hC dX12_mostBy_23 (by decide) hw (fun hw => ?_) (fun hw => ?_)
  · refine wm_iload hC 6 dX12_mostBy_97 rfl ?_
    refine wm_iload hC 4 dX12_mostBy_99 rfl ?_
    refine wm_icmp_le (tgt := 109) hC dX12_mostBy_101 (by decide) hw (fun hw => ?_) (fun hw => ?_)
    · refine wm_iload hC 4 dX12_mostBy_109 rfl ?_
      refine wm_istore hC dX12_mostBy_111 (by decide) (L2 := [(4, vi l4), (0, vr l0), (1, vi l1), (2, vi l2), (3, vi l3), (5, vi l5), (6, vi l6), (7, vi l7)]) rfl ?_
      refine x_iinc hC 5 dX12_mostBy_113 rfl (by decide) (L2 := [(5, vi (l5 + 1)), (4, vi l4), (0, vr l0), (1, vi l1), (2, vi l2), (3, vi l3), (6, vi l6), (7, vi l7)]) rfl hw (fun hw => ?_)
      refine wm_goto (tgt := 6) hC dX12_mostBy_116 (by decide) ?_
      refine wm_sub [2, 3, 4, 5, 1, 0] (L2 := [(0, vr l0), (1, vi l1), (2, vi l2), (3, vi l3), (4, vi l4), (5, vi (l5 + 1))]) rfl ?_
      exact kk6 _ _ hw
    · refine wm_iload hC 6 dX12_mostBy_104 rfl ?_
      refine wm_goto (tgt := 111) hC dX12_mostBy_106 (by decide) ?_
      refine wm_istore hC dX12_mostBy_111 (by decide) (L2 := [(4, vi l6), (0, vr l0), (1, vi l1), (2, vi l2), (3, vi l3), (5, vi l5), (6, vi l6), (7, vi l7)]) rfl ?_
      refine x_iinc hC 5 dX12_mostBy_113 rfl (by decide) (L2 := [(5, vi (l5 + 1)), (4, vi l6), (0, vr l0), (1, vi l1), (2, vi l2), (3, vi l3), (6, vi l6), (7, vi l7)]) rfl hw (fun hw => ?_)
      refine wm_goto (tgt := 6) hC dX12_mostBy_116 (by decide) ?_
      refine wm_sub [2, 3, 4, 5, 1, 0] (L2 := [(0, vr l0), (1, vi l1), (2, vi l2), (3, vi l3), (4, vi l6), (5, vi (l5 + 1))]) rfl ?_
      exact kk6 _ _ hw
  · refine wm_iload hC 6 dX12_mostBy_26 rfl ?_
    refine wm_iload_n hC 1 dX12_mostBy_28 rfl ?_
    refine wm_iload hC 5 dX12_mostBy_29 rfl ?_
    refine y_callS_z_n hC hRm noS ml_X12_351 (C12_has2  hw) (Nat.le_of_ble_eq_true rfl) (Nat.le_of_ble_eq_true rfl) ⟨Nat.zero_le _, Nat.zero_le _⟩ rfl (st := [vi l6]) rfl (Nat.le_of_ble_eq_true rfl) dX12_mostBy_31 (fun r1 hw => ?_)
    refine wm_if_eq (tgt := 87) hC dX12_mostBy_34 (by decide) hw (fun hw => ?_) (fun hw => ?_)
    · refine wm_iconst hC dX12_mostBy_87 (k := ?_)
      refine x_iadd hC dX12_mostBy_88 hw (fun hw => ?_)
      refine wm_istore hC dX12_mostBy_89 (by decide) (L2 := [(6, vi (l6 + 0)), (0, vr l0), (1, vi l1), (2, vi l2), (3, vi l3), (4, vi l4), (5, vi l5), (7, vi l7)]) rfl ?_
      refine x_iinc hC 7 dX12_mostBy_91 rfl (by decide) (L2 := [(7, vi (l7 + 1)), (6, vi (l6 + 0)), (0, vr l0), (1, vi l1), (2, vi l2), (3, vi l3), (4, vi l4), (5, vi l5)]) rfl hw (fun hw => ?_)
      refine wm_goto (tgt := 19) hC dX12_mostBy_94 (by decide) ?_
      refine wm_sub [2, 3, 4, 5, 6, 7, 1, 0] (L2 := [(0, vr l0), (1, vi l1), (2, vi l2), (3, vi l3), (4, vi l4), (5, vi l5), (6, vi (l6 + 0)), (7, vi (l7 + 1))]) rfl ?_
      exact kk19 _ _ hw
    · refine wm_iload_n hC 1 dX12_mostBy_37 rfl ?_
      refine wm_iload hC 7 dX12_mostBy_38 rfl ?_
      refine y_callS_z_n hC hRm noS ml_X12_351 (C12_has2  hw) (Nat.le_of_ble_eq_true rfl) (Nat.le_of_ble_eq_true rfl) ⟨Nat.zero_le _, Nat.zero_le _⟩ rfl (st := [vi l6]) rfl (Nat.le_of_ble_eq_true rfl) dX12_mostBy_40 (fun r2 hw => ?_)
      refine wm_if_eq (tgt := 87) hC dX12_mostBy_43 (by decide) hw (fun hw => ?_) (fun hw => ?_)
      · refine wm_iconst hC dX12_mostBy_87 (k := ?_)
        refine x_iadd hC dX12_mostBy_88 hw (fun hw => ?_)
        refine wm_istore hC dX12_mostBy_89 (by decide) (L2 := [(6, vi (l6 + 0)), (0, vr l0), (1, vi l1), (2, vi l2), (3, vi l3), (4, vi l4), (5, vi l5), (7, vi l7)]) rfl ?_
        refine x_iinc hC 7 dX12_mostBy_91 rfl (by decide) (L2 := [(7, vi (l7 + 1)), (6, vi (l6 + 0)), (0, vr l0), (1, vi l1), (2, vi l2), (3, vi l3), (4, vi l4), (5, vi l5)]) rfl hw (fun hw => ?_)
        refine wm_goto (tgt := 19) hC dX12_mostBy_94 (by decide) ?_
        refine wm_sub [2, 3, 4, 5, 6, 7, 1, 0] (L2 := [(0, vr l0), (1, vi l1), (2, vi l2), (3, vi l3), (4, vi l4), (5, vi l5), (6, vi (l6 + 0)), (7, vi (l7 + 1))]) rfl ?_
        exact kk19 _ _ hw
      · refine wm_aload_n hC 0 dX12_mostBy_46 rfl (k_ne0 hk0 (by decide)) ?_
        refine x_getR2 hC 66 fl_X12_213 rfl hk0 dX12_mostBy_47 hw (fun g1 hw => ?_)
        refine wm_bipush hC dX12_mostBy_50 (k := ?_)
        refine wm_bipush hC dX12_mostBy_52 (k := ?_)
        refine wm_iload hC 5 dX12_mostBy_54 rfl ?_
        refine x_imul hC dX12_mostBy_56 hw (fun hw => ?_)
        refine wm_iload_n hC 2 dX12_mostBy_57 rfl ?_
        refine x_iadd hC dX12_mostBy_58 hw (fun hw => ?_)
        refine x_imul hC dX12_mostBy_59 hw (fun hw => ?_)
        refine wm_iload_n hC 3 dX12_mostBy_60 rfl ?_
        refine x_iadd hC dX12_mostBy_61 hw (fun hw => ?_)
        refine x_iald hC g1 dX12_mostBy_62 hw (fun hw => ?_)
        refine wm_aload_n hC 0 dX12_mostBy_63 rfl (k_ne0 hk0 (by decide)) ?_
        refine x_getR2 hC 66 fl_X12_213 rfl hk0 dX12_mostBy_64 hw (fun g2 hw => ?_)
        refine wm_bipush hC dX12_mostBy_67 (k := ?_)
        refine wm_bipush hC dX12_mostBy_69 (k := ?_)
        refine wm_iload hC 7 dX12_mostBy_71 rfl ?_
        refine x_imul hC dX12_mostBy_73 hw (fun hw => ?_)
        refine wm_iload_n hC 2 dX12_mostBy_74 rfl ?_
        refine x_iadd hC dX12_mostBy_75 hw (fun hw => ?_)
        refine x_imul hC dX12_mostBy_76 hw (fun hw => ?_)
        refine wm_iload_n hC 3 dX12_mostBy_77 rfl ?_
        refine x_iadd hC dX12_mostBy_78 hw (fun hw => ?_)
        refine x_iald hC g2 dX12_mostBy_79 hw (fun hw => ?_)
        refine wm_icmp_ne (tgt := 87) hC dX12_mostBy_80 (by decide) hw (fun hw => ?_) (fun hw => ?_)
        · refine wm_iconst hC dX12_mostBy_83 (k := ?_)
          refine wm_goto (tgt := 88) hC dX12_mostBy_84 (by decide) ?_
          refine x_iadd hC dX12_mostBy_88 hw (fun hw => ?_)
          refine wm_istore hC dX12_mostBy_89 (by decide) (L2 := [(6, vi (l6 + 1)), (0, vr l0), (1, vi l1), (2, vi l2), (3, vi l3), (4, vi l4), (5, vi l5), (7, vi l7)]) rfl ?_
          refine x_iinc hC 7 dX12_mostBy_91 rfl (by decide) (L2 := [(7, vi (l7 + 1)), (6, vi (l6 + 1)), (0, vr l0), (1, vi l1), (2, vi l2), (3, vi l3), (4, vi l4), (5, vi l5)]) rfl hw (fun hw => ?_)
          refine wm_goto (tgt := 19) hC dX12_mostBy_94 (by decide) ?_
          refine wm_sub [2, 3, 4, 5, 6, 7, 1, 0] (L2 := [(0, vr l0), (1, vi l1), (2, vi l2), (3, vi l3), (4, vi l4), (5, vi l5), (6, vi (l6 + 1)), (7, vi (l7 + 1))]) rfl ?_
          exact kk19 _ _ hw
        · refine wm_iconst hC dX12_mostBy_87 (k := ?_)
          refine x_iadd hC dX12_mostBy_88 hw (fun hw => ?_)
          refine wm_istore hC dX12_mostBy_89 (by decide) (L2 := [(6, vi (l6 + 0)), (0, vr l0), (1, vi l1), (2, vi l2), (3, vi l3), (4, vi l4), (5, vi l5), (7, vi l7)]) rfl ?_
          refine x_iinc hC 7 dX12_mostBy_91 rfl (by decide) (L2 := [(7, vi (l7 + 1)), (6, vi (l6 + 0)), (0, vr l0), (1, vi l1), (2, vi l2), (3, vi l3), (4, vi l4), (5, vi l5)]) rfl hw (fun hw => ?_)
          refine wm_goto (tgt := 19) hC dX12_mostBy_94 (by decide) ?_
          refine wm_sub [2, 3, 4, 5, 6, 7, 1, 0] (L2 := [(0, vr l0), (1, vi l1), (2, vi l2), (3, vi l3), (4, vi l4), (5, vi l5), (6, vi (l6 + 0)), (7, vi (l7 + 1))]) rfl ?_
          exact kk19 _ _ hw
set_option maxRecDepth 20000 in
theorem W12_mostBy_b19 {C : wX} {ad : Nat → Nat} {n : Nat} {I J : mI} {R : mR} {Q : Int → Prop} (hC : wOK C cX12_mostBy 8 RX12) (hRm : wRm C 2 33 0 0) (hE : wEnd C (some .int) ad n (fun r I' J' R' => (I' = I ∧ J' = J ∧ R' = R) ∧ Q r)) {l0 : Nat} {l1 : Int} {l2 : Int} {l3 : Int} {l4 : Int} {l5 : Int}  {k6 : Int → Int → Prop} (hk0 : kK l0 = 12) (kk6 : ∀ (y4 : Int) (y5 : Int), k6 y4 y5 → WM C ad n I J R 0 0 6 [(0, vr l0), (1, vi l1), (2, vi l2), (3, vi l3), (4, vi y4), (5, vi y5)] []) : ∀ (f : Nat) (l6 : Int) (l7 : Int), P12_mostBy_b19 l0 l1 l2 l3 l4 l5 I R k6 Q f l6 l7 → WM C ad n I J R 0 0 19 [(0, vr l0), (1, vi l1), (2, vi l2), (3, vi l3), (4, vi l4), (5, vi l5), (6, vi l6), (7, vi l7)] [] := by
  intro f
  induction f with
  | zero => intro l6 l7 hw; exact hw.elim
  | succ f ih => intro l6 l7 hw; exact W12_mostBy_b19_body hC hRm hE hk0 kk6 (fun a0 a1 hw => ih a0 a1 hw) hw
def P12_mostBy_b6_body (l0 : Nat) (l1 : Int) (l2 : Int) (l3 : Int) (I : mI) (R : mR) (Q : Int → Prop) (k6 : Int → Int → Prop) (l4 : Int) (l5 : Int) : Prop := (if (9 : Int) < l5 then (Q l4) else (∃ f, P12_mostBy_b19 l0 l1 l2 l3 l4 l5 I R k6 Q f 0 0))
def P12_mostBy_b6 (l0 : Nat) (l1 : Int) (l2 : Int) (l3 : Int) (I : mI) (R : mR) (Q : Int → Prop) : Nat → Int → Int → Prop
  | 0 => fun _ _ => False
  | f + 1 => fun l4 l5 => P12_mostBy_b6_body l0 l1 l2 l3 I R Q (P12_mostBy_b6 l0 l1 l2 l3 I R Q f) l4 l5
set_option maxRecDepth 20000 in
theorem W12_mostBy_b6_body {C : wX} {ad : Nat → Nat} {n : Nat} {I J : mI} {R : mR} {Q : Int → Prop} (hC : wOK C cX12_mostBy 8 RX12) (hRm : wRm C 2 33 0 0) (hE : wEnd C (some .int) ad n (fun r I' J' R' => (I' = I ∧ J' = J ∧ R' = R) ∧ Q r)) {l0 : Nat} {l1 : Int} {l2 : Int} {l3 : Int} {l4 : Int} {l5 : Int}   (hk0 : kK l0 = 12)  {k6 : Int → Int → Prop} (kk6 : ∀ (y4 : Int) (y5 : Int), k6 y4 y5 → WM C ad n I J R 0 0 6 [(0, vr l0), (1, vi l1), (2, vi l2), (3, vi l3), (4, vi y4), (5, vi y5)] []) (hw : P12_mostBy_b6_body l0 l1 l2 l3 I R Q k6 l4 l5) : WM C ad n I J R 0 0 6 [(0, vr l0), (1, vi l1), (2, vi l2), (3, vi l3), (4, vi l4), (5, vi l5)] [] := by
  unfold P12_mostBy_b6_body at hw
  refine wm_iload hC 5 dX12_mostBy_6 rfl ?_
  refine wm_bipush hC dX12_mostBy_8 (k := ?_)
  refine wm_icmp_gt (tgt := 119) hC dX12_mostBy_10 (by decide) hw (fun hw => ?_) (fun hw => ?_)
  · refine wm_iload hC 4 dX12_mostBy_119 rfl ?_
    exact wm_ireturn hC hE dX12_mostBy_121 ⟨⟨rfl, rfl, rfl⟩, hw⟩
  · refine wm_iconst hC dX12_mostBy_13 (k := ?_)
    refine wm_istore hC dX12_mostBy_14 (by decide) (L2 := [(6, vi 0), (0, vr l0), (1, vi l1), (2, vi l2), (3, vi l3), (4, vi l4), (5, vi l5)]) rfl ?_
    refine wm_iconst hC dX12_mostBy_16 (k := ?_)
    refine wm_istore hC dX12_mostBy_17 (by decide) (L2 := [(7, vi 0), (6, vi 0), (0, vr l0), (1, vi l1), (2, vi l2), (3, vi l3), (4, vi l4), (5, vi l5)]) rfl ?_
    obtain ⟨f, hw⟩ := hw
    refine wm_sub [2, 3, 4, 5, 6, 7, 1, 0] (L2 := [(0, vr l0), (1, vi l1), (2, vi l2), (3, vi l3), (4, vi l4), (5, vi l5), (6, vi 0), (7, vi 0)]) rfl ?_
    exact W12_mostBy_b19 hC hRm hE hk0 kk6 f _ _ hw
set_option maxRecDepth 20000 in
theorem W12_mostBy_b6 {C : wX} {ad : Nat → Nat} {n : Nat} {I J : mI} {R : mR} {Q : Int → Prop} (hC : wOK C cX12_mostBy 8 RX12) (hRm : wRm C 2 33 0 0) (hE : wEnd C (some .int) ad n (fun r I' J' R' => (I' = I ∧ J' = J ∧ R' = R) ∧ Q r)) {l0 : Nat} {l1 : Int} {l2 : Int} {l3 : Int}   (hk0 : kK l0 = 12)  : ∀ (f : Nat) (l4 : Int) (l5 : Int), P12_mostBy_b6 l0 l1 l2 l3 I R Q f l4 l5 → WM C ad n I J R 0 0 6 [(0, vr l0), (1, vi l1), (2, vi l2), (3, vi l3), (4, vi l4), (5, vi l5)] [] := by
  intro f
  induction f with
  | zero => intro l4 l5 hw; exact hw.elim
  | succ f ih => intro l4 l5 hw; exact W12_mostBy_b6_body hC hRm hE hk0 (fun a0 a1 hw => ih a0 a1 hw) hw
def P12_mostBy (l0 : Nat) (l1 : Int) (l2 : Int) (l3 : Int) (I : mI) (R : mR) (Q : Int → Prop) : Prop := (∃ f, P12_mostBy_b6 l0 l1 l2 l3 I R Q f 0 0)
set_option maxRecDepth 20000 in
theorem C12_mostBy {ad : Nat → Nat} {n : Nat} {I J : mI} {R : mR} {Q : Int → Prop}  {l0 : Nat} {l1 : Int} {l2 : Int} {l3 : Int} (hk0 : kK l0 = 12) (hw : P12_mostBy l0 l1 l2 l3 I R Q) : wMet yX12_mostBy cX12_mostBy 8 (some .int) 2 33 false ad n I J R [vr l0, vi l1, vi l2, vi l3] (fun r I' J' R' => (I' = I ∧ J' = J ∧ R' = R) ∧ Q r) := by
  refine wMet_of (by decide) (Nat.le_of_ble_eq_true rfl) (fun C hC hRm hE hS => ?_)
  refine (show WM C ad n I J R 0 0 0 [(0, vr l0), (1, vi l1), (2, vi l2), (3, vi l3)] [] from ?_)
  unfold P12_mostBy at hw
  refine wm_iconst hC dX12_mostBy_0 (k := ?_)
  refine wm_istore hC dX12_mostBy_1 (by decide) (L2 := [(4, vi 0), (0, vr l0), (1, vi l1), (2, vi l2), (3, vi l3)]) rfl ?_
  refine wm_iconst hC dX12_mostBy_3 (k := ?_)
  refine wm_istore hC dX12_mostBy_4 (by decide) (L2 := [(5, vi 0), (4, vi 0), (0, vr l0), (1, vi l1), (2, vi l2), (3, vi l3)]) rfl ?_
  obtain ⟨f, hw⟩ := hw
  refine wm_sub [2, 3, 4, 5, 1, 0] (L2 := [(0, vr l0), (1, vi l1), (2, vi l2), (3, vi l3), (4, vi 0), (5, vi 0)]) rfl ?_
  exact W12_mostBy_b6 hC hRm hE hk0 f _ _ hw
def P12_tells_b55_body (l0 : Nat) (l2 : Int) (l3 : Int) (l6 : Int) (I : mI) (J : mI) (R : mR) (k36 : Int → Int → Int → Prop) (Q : Int → mI → mI → Prop) (k55 : Int → Int → Int → Prop) (l4 : Int) (l5 : Int) (l7 : Int) : Prop := (kK (R l0 20) = 21 ∧ (((0 : Int) ≤ (I l0 13) ∧ (I l0 13) < (kN (R l0 20) : Int)) ∧ (if (I (R l0 20) (I l0 13)) ≤ l7 then (rg (l6 + 1) ∧ (k36 l4 l5 (l6 + 1))) else (P12_mostBy l0 l3 l6 l7 I R (fun r5 => (if r5 < l5 then (rg (6 * l6) ∧ (rg ((6 * l6) + l7) ∧ (rg (l7 + 1) ∧ (k55 ((6 * l6) + l7) r5 (l7 + 1))))) else (rg (l7 + 1) ∧ (k55 l4 l5 (l7 + 1)))))))))
def P12_tells_b55 (l0 : Nat) (l2 : Int) (l3 : Int) (l6 : Int) (I : mI) (J : mI) (R : mR) (k36 : Int → Int → Int → Prop) (Q : Int → mI → mI → Prop) : Nat → Int → Int → Int → Prop
  | 0 => fun _ _ _ => False
  | f + 1 => fun l4 l5 l7 => P12_tells_b55_body l0 l2 l3 l6 I J R k36 Q (P12_tells_b55 l0 l2 l3 l6 I J R k36 Q f) l4 l5 l7
set_option maxRecDepth 20000 in
theorem W12_tells_b55_body {C : wX} {ad : Nat → Nat} {n : Nat} {I J : mI} {R : mR} {Q : Int → mI → mI → Prop} (hC : wOK C cX12_tells 9 RX12) (hRm : wRm C 10 240 0 0) (hE : wEnd C (some .int) ad n (fun r I' J' R' => (R' = R) ∧ Q r I' J')) {l0 : Nat} {l2 : Int} {l3 : Int} {l6 : Int} {l4 : Int} {l5 : Int} {l7 : Int}  {k36 : Int → Int → Int → Prop} (hk0 : kK l0 = 12) (kk36 : ∀ (y4 : Int) (y5 : Int) (y6 : Int), k36 y4 y5 y6 → WM C ad n I J R 0 0 36 [(0, vr l0), (2, vi l2), (3, vi l3), (4, vi y4), (5, vi y5), (6, vi y6)] []) {k55 : Int → Int → Int → Prop} (kk55 : ∀ (y4 : Int) (y5 : Int) (y7 : Int), k55 y4 y5 y7 → WM C ad n I J R 0 0 55 [(0, vr l0), (2, vi l2), (3, vi l3), (4, vi y4), (5, vi y5), (6, vi l6), (7, vi y7)] []) (hw : P12_tells_b55_body l0 l2 l3 l6 I J R k36 Q k55 l4 l5 l7) : WM C ad n I J R 0 0 55 [(0, vr l0), (2, vi l2), (3, vi l3), (4, vi l4), (5, vi l5), (6, vi l6), (7, vi l7)] [] := by
  unfold P12_tells_b55_body at hw
  refine wm_iload hC 6 dX12_tells_55 rfl ?_
  refine wm_aload_n hC 0 dX12_tells_57 rfl (k_ne0 hk0 (by decide)) ?_
  refine x_getR2 hC 20 fl_X12_72 rfl hk0 dX12_tells_58 hw (fun g1 hw => ?_)
  refine wm_aload_n hC 0 dX12_tells_61 rfl (k_ne0 hk0 (by decide)) ?_
  refine x_getI hC 13 fl_X12_51 rfl hk0 dX12_tells_62 ?_
  refine x_iald hC g1 dX12_tells_65 hw (fun hw => ?_)
  refine wm_icmp_ge (tgt := 110) hC dX12_tells_66 (by decide) hw (fun hw => ?_) (fun hw => ?_)
  · refine x_iinc hC 5 dX12_tells_110 rfl (by decide) (L2 := [(6, vi (l6 + 1)), (0, vr l0), (2, vi l2), (3, vi l3), (4, vi l4), (5, vi l5), (7, vi l7)]) rfl hw (fun hw => ?_)
    refine wm_goto (tgt := 36) hC dX12_tells_113 (by decide) ?_
    refine wm_sub [1, 2, 3, 4, 5, 0] (L2 := [(0, vr l0), (2, vi l2), (3, vi l3), (4, vi l4), (5, vi l5), (6, vi (l6 + 1))]) rfl ?_
    exact kk36 _ _ _ hw
  · refine wm_aload_n hC 0 dX12_tells_69 rfl (k_ne0 hk0 (by decide)) ?_
    refine wm_iload_n hC 2 dX12_tells_70 rfl ?_
    refine wm_iload hC 5 dX12_tells_71 rfl ?_
    refine wm_iload hC 6 dX12_tells_73 rfl ?_
    refine y_callV_i_n hC hRm noS ml_X12_551 hk0 (C12_mostBy hk0 hw) (Nat.le_of_ble_eq_true rfl) (Nat.le_of_ble_eq_true rfl) ⟨Nat.zero_le _, Nat.zero_le _⟩ rfl (st := []) rfl (Nat.le_of_ble_eq_true rfl) dX12_tells_75 (fun r5 hw => ?_)
    refine wm_istore hC dX12_tells_78 (by decide) (L2 := [(8, vi r5), (0, vr l0), (2, vi l2), (3, vi l3), (4, vi l4), (5, vi l5), (6, vi l6), (7, vi l7)]) rfl ?_
    refine wm_iload hC 0 dX12_tells_80 rfl ?_
    refine wm_iload hC 5 dX12_tells_82 rfl ?_
    refine wm_icmp_lt (tgt := 90) hC dX12_tells_84 (by decide) hw (fun hw => ?_) (fun hw => ?_)
    · refine wm_iload hC 0 dX12_tells_90 rfl ?_
      refine wm_istore hC dX12_tells_92 (by decide) (L2 := [(5, vi r5), (8, vi r5), (0, vr l0), (2, vi l2), (3, vi l3), (4, vi l4), (6, vi l6), (7, vi l7)]) rfl ?_
      refine wm_bipush hC dX12_tells_94 (k := ?_)
      refine wm_iload hC 6 dX12_tells_96 rfl ?_
      refine x_imul hC dX12_tells_98 hw (fun hw => ?_)
      refine wm_iload hC 7 dX12_tells_99 rfl ?_
      refine x_iadd hC dX12_tells_101 hw (fun hw => ?_)
      refine wm_istore hC dX12_tells_102 (by decide) (L2 := [(4, vi ((6 * l6) + l7)), (5, vi r5), (8, vi r5), (0, vr l0), (2, vi l2), (3, vi l3), (6, vi l6), (7, vi l7)]) rfl ?_
      refine x_iinc hC 7 dX12_tells_104 rfl (by decide) (L2 := [(7, vi (l7 + 1)), (4, vi ((6 * l6) + l7)), (5, vi r5), (8, vi r5), (0, vr l0), (2, vi l2), (3, vi l3), (6, vi l6)]) rfl hw (fun hw => ?_)
      refine wm_goto (tgt := 55) hC dX12_tells_107 (by decide) ?_
      refine wm_sub [4, 5, 6, 1, 2, 7, 0] (L2 := [(0, vr l0), (2, vi l2), (3, vi l3), (4, vi ((6 * l6) + l7)), (5, vi r5), (6, vi l6), (7, vi (l7 + 1))]) rfl ?_
      exact kk55 _ _ _ hw
    · refine wm_goto (tgt := 104) hC dX12_tells_87 (by decide) ?_
      refine x_iinc hC 7 dX12_tells_104 rfl (by decide) (L2 := [(7, vi (l7 + 1)), (8, vi r5), (0, vr l0), (2, vi l2), (3, vi l3), (4, vi l4), (5, vi l5), (6, vi l6)]) rfl hw (fun hw => ?_)
      refine wm_goto (tgt := 55) hC dX12_tells_107 (by decide) ?_
      refine wm_sub [2, 3, 4, 5, 6, 7, 0] (L2 := [(0, vr l0), (2, vi l2), (3, vi l3), (4, vi l4), (5, vi l5), (6, vi l6), (7, vi (l7 + 1))]) rfl ?_
      exact kk55 _ _ _ hw
set_option maxRecDepth 20000 in
theorem W12_tells_b55 {C : wX} {ad : Nat → Nat} {n : Nat} {I J : mI} {R : mR} {Q : Int → mI → mI → Prop} (hC : wOK C cX12_tells 9 RX12) (hRm : wRm C 10 240 0 0) (hE : wEnd C (some .int) ad n (fun r I' J' R' => (R' = R) ∧ Q r I' J')) {l0 : Nat} {l2 : Int} {l3 : Int} {l6 : Int}  {k36 : Int → Int → Int → Prop} (hk0 : kK l0 = 12) (kk36 : ∀ (y4 : Int) (y5 : Int) (y6 : Int), k36 y4 y5 y6 → WM C ad n I J R 0 0 36 [(0, vr l0), (2, vi l2), (3, vi l3), (4, vi y4), (5, vi y5), (6, vi y6)] []) : ∀ (f : Nat) (l4 : Int) (l5 : Int) (l7 : Int), P12_tells_b55 l0 l2 l3 l6 I J R k36 Q f l4 l5 l7 → WM C ad n I J R 0 0 55 [(0, vr l0), (2, vi l2), (3, vi l3), (4, vi l4), (5, vi l5), (6, vi l6), (7, vi l7)] [] := by
  intro f
  induction f with
  | zero => intro l4 l5 l7 hw; exact hw.elim
  | succ f ih => intro l4 l5 l7 hw; exact W12_tells_b55_body hC hRm hE hk0 kk36 (fun a0 a1 a2 hw => ih a0 a1 a2 hw) hw
def P12_tells_b116 (l2 : Int) (l4 : Int) (l5 : Int) (I : mI) (J : mI) (R : mR) (Q : Int → mI → mI → Prop) : Prop := (if l4 = (-1) then (Q (-1) I J) else (if l2 = 0 then (Q (Int.tdiv l4 6) I J) else (if l2 = 1 then (Q (Int.tmod l4 6) I J) else (Q l5 I J))))
set_option maxRecDepth 20000 in
theorem W12_tells_b116 {C : wX} {ad : Nat → Nat} {n : Nat} {I J : mI} {R : mR} {Q : Int → mI → mI → Prop} (hC : wOK C cX12_tells 9 RX12) (hRm : wRm C 10 240 0 0) (hE : wEnd C (some .int) ad n (fun r I' J' R' => (R' = R) ∧ Q r I' J')) {l2 : Int} {l4 : Int} {l5 : Int}     (hw : P12_tells_b116 l2 l4 l5 I J R Q) : WM C ad n I J R 0 0 116 [(2, vi l2), (4, vi l4), (5, vi l5)] [] := by
  unfold P12_tells_b116 at hw
  refine wm_iload hC 1 dX12_tells_116 rfl ?_
  refine wm_iconst hC dX12_tells_118 (k := ?_)
  refine wm_icmp_ne (tgt := 126) hC dX12_tells_119 (by decide) hw (fun hw => ?_) (fun hw => ?_)
  · refine wm_iconst hC dX12_tells_122 (k := ?_)
    refine wm_goto (tgt := 153) hC dX12_tells_123 (by decide) ?_
    exact wm_ireturn hC hE dX12_tells_153 ⟨rfl, hw⟩
  · refine wm_iload_n hC 0 dX12_tells_126 rfl ?_
    refine wm_if_ne (tgt := 138) hC dX12_tells_127 (by decide) hw (fun hw => ?_) (fun hw => ?_)
    · refine wm_iload hC 1 dX12_tells_130 rfl ?_
      refine wm_bipush hC dX12_tells_132 (k := ?_)
      refine x_idivP hC (by decide) dX12_tells_134 ?_
      refine wm_goto (tgt := 153) hC dX12_tells_135 (by decide) ?_
      exact wm_ireturn hC hE dX12_tells_153 ⟨rfl, hw⟩
    · refine wm_iload_n hC 0 dX12_tells_138 rfl ?_
      refine wm_iconst hC dX12_tells_139 (k := ?_)
      refine wm_icmp_ne (tgt := 151) hC dX12_tells_140 (by decide) hw (fun hw => ?_) (fun hw => ?_)
      · refine wm_iload hC 1 dX12_tells_143 rfl ?_
        refine wm_bipush hC dX12_tells_145 (k := ?_)
        refine x_iremP hC (by decide) dX12_tells_147 ?_
        refine wm_goto (tgt := 153) hC dX12_tells_148 (by decide) ?_
        exact wm_ireturn hC hE dX12_tells_153 ⟨rfl, hw⟩
      · refine wm_iload hC 2 dX12_tells_151 rfl ?_
        exact wm_ireturn hC hE dX12_tells_153 ⟨rfl, hw⟩
def P12_tells_b36_body (l0 : Nat) (l2 : Int) (l3 : Int) (I : mI) (J : mI) (R : mR) (Q : Int → mI → mI → Prop) (k36 : Int → Int → Int → Prop) (l4 : Int) (l5 : Int) (l6 : Int) : Prop := (P12_isAhead l0 l6 1 30 I R (fun r4 => (if r4 = 0 then (P12_tells_b116 l2 l4 l5 I J R Q) else (if l3 = 0 then (P12_tells_b116 l2 l4 l5 I J R Q) else (∃ f, P12_tells_b55 l0 l2 l3 l6 I J R k36 Q f l4 l5 0)))))
def P12_tells_b36 (l0 : Nat) (l2 : Int) (l3 : Int) (I : mI) (J : mI) (R : mR) (Q : Int → mI → mI → Prop) : Nat → Int → Int → Int → Prop
  | 0 => fun _ _ _ => False
  | f + 1 => fun l4 l5 l6 => P12_tells_b36_body l0 l2 l3 I J R Q (P12_tells_b36 l0 l2 l3 I J R Q f) l4 l5 l6
set_option maxRecDepth 20000 in
theorem W12_tells_b36_body {C : wX} {ad : Nat → Nat} {n : Nat} {I J : mI} {R : mR} {Q : Int → mI → mI → Prop} (hC : wOK C cX12_tells 9 RX12) (hRm : wRm C 10 240 0 0) (hE : wEnd C (some .int) ad n (fun r I' J' R' => (R' = R) ∧ Q r I' J')) {l0 : Nat} {l2 : Int} {l3 : Int} {l4 : Int} {l5 : Int} {l6 : Int}   (hk0 : kK l0 = 12)  {k36 : Int → Int → Int → Prop} (kk36 : ∀ (y4 : Int) (y5 : Int) (y6 : Int), k36 y4 y5 y6 → WM C ad n I J R 0 0 36 [(0, vr l0), (2, vi l2), (3, vi l3), (4, vi y4), (5, vi y5), (6, vi y6)] []) (hw : P12_tells_b36_body l0 l2 l3 I J R Q k36 l4 l5 l6) : WM C ad n I J R 0 0 36 [(0, vr l0), (2, vi l2), (3, vi l3), (4, vi l4), (5, vi l5), (6, vi l6)] [] := by
  unfold P12_tells_b36_body at hw
  refine wm_aload_n hC 0 dX12_tells_36 rfl (k_ne0 hk0 (by decide)) ?_
  refine wm_iload hC 5 dX12_tells_37 rfl ?_
  refine wm_iconst hC dX12_tells_39 (k := ?_)
  refine wm_bipush hC dX12_tells_40 (k := ?_)
  refine y_callV_z_n hC hRm noS ml_X12_529 hk0 (C12_isAhead hk0 hw) (Nat.le_of_ble_eq_true rfl) (Nat.le_of_ble_eq_true rfl) ⟨Nat.zero_le _, Nat.zero_le _⟩ rfl (st := []) rfl (Nat.le_of_ble_eq_true rfl) dX12_tells_42 (fun r4 hw => ?_)
  refine wm_if_eq (tgt := 116) hC dX12_tells_45 (by decide) hw (fun hw => ?_) (fun hw => ?_)
  · refine wm_sub [1, 3, 4] (L2 := [(2, vi l2), (4, vi l4), (5, vi l5)]) rfl ?_
    exact W12_tells_b116 hC hRm hE  hw
  · refine wm_iload_n hC 2 dX12_tells_48 rfl ?_
    refine wm_if_eq (tgt := 116) hC dX12_tells_49 (by decide) hw (fun hw => ?_) (fun hw => ?_)
    · refine wm_sub [1, 3, 4] (L2 := [(2, vi l2), (4, vi l4), (5, vi l5)]) rfl ?_
      exact W12_tells_b116 hC hRm hE  hw
    · refine wm_iconst hC dX12_tells_52 (k := ?_)
      refine wm_istore hC dX12_tells_53 (by decide) (L2 := [(7, vi 0), (0, vr l0), (2, vi l2), (3, vi l3), (4, vi l4), (5, vi l5), (6, vi l6)]) rfl ?_
      obtain ⟨f, hw⟩ := hw
      refine wm_sub [1, 2, 3, 4, 5, 6, 0] (L2 := [(0, vr l0), (2, vi l2), (3, vi l3), (4, vi l4), (5, vi l5), (6, vi l6), (7, vi 0)]) rfl ?_
      exact W12_tells_b55 hC hRm hE hk0 kk36 f _ _ _ hw
set_option maxRecDepth 20000 in
theorem W12_tells_b36 {C : wX} {ad : Nat → Nat} {n : Nat} {I J : mI} {R : mR} {Q : Int → mI → mI → Prop} (hC : wOK C cX12_tells 9 RX12) (hRm : wRm C 10 240 0 0) (hE : wEnd C (some .int) ad n (fun r I' J' R' => (R' = R) ∧ Q r I' J')) {l0 : Nat} {l2 : Int} {l3 : Int}   (hk0 : kK l0 = 12)  : ∀ (f : Nat) (l4 : Int) (l5 : Int) (l6 : Int), P12_tells_b36 l0 l2 l3 I J R Q f l4 l5 l6 → WM C ad n I J R 0 0 36 [(0, vr l0), (2, vi l2), (3, vi l3), (4, vi l4), (5, vi l5), (6, vi l6)] [] := by
  intro f
  induction f with
  | zero => intro l4 l5 l6 hw; exact hw.elim
  | succ f ih => intro l4 l5 l6 hw; exact W12_tells_b36_body hC hRm hE hk0 (fun a0 a1 a2 hw => ih a0 a1 a2 hw) hw
def P12_tells (l0 : Nat) (l1 : Int) (l2 : Int) (I : mI) (J : mI) (R : mR) (Q : Int → mI → mI → Prop) : Prop := (P12_isBlind l0 l1 I R (fun r1 => (if r1 = 0 then (Q (-1) I J) else (P12_is l2 0 2 (fun r2 => (if r2 = 0 then (Q (-1) I J) else (P12_tasteBits l0 l1 I J R (fun r3 I1 J1 => (∃ f, P12_tells_b36 l0 l2 r3 I1 J1 R Q f (-1) 100000000 1)))))))))
set_option maxRecDepth 20000 in
theorem C12_tells {ad : Nat → Nat} {n : Nat} {I J : mI} {R : mR} {Q : Int → mI → mI → Prop}  {l0 : Nat} {l1 : Int} {l2 : Int} (hk0 : kK l0 = 12) (hw : P12_tells l0 l1 l2 I J R Q) : wMet yX12_tells cX12_tells 9 (some .int) 10 240 false ad n I J R [vr l0, vi l1, vi l2] (fun r I' J' R' => (R' = R) ∧ Q r I' J') := by
  refine wMet_of (by decide) (Nat.le_of_ble_eq_true rfl) (fun C hC hRm hE hS => ?_)
  refine (show WM C ad n I J R 0 0 0 [(0, vr l0), (1, vi l1), (2, vi l2)] [] from ?_)
  unfold P12_tells at hw
  refine wm_aload_n hC 0 dX12_tells_0 rfl (k_ne0 hk0 (by decide)) ?_
  refine wm_iload_n hC 1 dX12_tells_1 rfl ?_
  refine y_callV_z_n hC hRm noS ml_X12_507 hk0 (C12_isBlind hk0 hw) (Nat.le_of_ble_eq_true rfl) (Nat.le_of_ble_eq_true rfl) ⟨Nat.zero_le _, Nat.zero_le _⟩ rfl (st := []) rfl (Nat.le_of_ble_eq_true rfl) dX12_tells_2 (fun r1 hw => ?_)
  refine wm_if_eq (tgt := 17) hC dX12_tells_5 (by decide) hw (fun hw => ?_) (fun hw => ?_)
  · refine wm_iconst hC dX12_tells_17 (k := ?_)
    exact wm_ireturn hC hE dX12_tells_18 ⟨rfl, hw⟩
  · refine wm_iload_n hC 2 dX12_tells_8 rfl ?_
    refine wm_iconst hC dX12_tells_9 (k := ?_)
    refine wm_iconst hC dX12_tells_10 (k := ?_)
    refine y_callS_z_n hC hRm noS ml_X12_309 (C12_is  hw) (Nat.le_of_ble_eq_true rfl) (Nat.le_of_ble_eq_true rfl) ⟨Nat.zero_le _, Nat.zero_le _⟩ rfl (st := []) rfl (Nat.le_of_ble_eq_true rfl) dX12_tells_11 (fun r2 hw => ?_)
    refine wm_if_ne (tgt := 19) hC dX12_tells_14 (by decide) hw (fun hw => ?_) (fun hw => ?_)
    · refine wm_iconst hC dX12_tells_17 (k := ?_)
      exact wm_ireturn hC hE dX12_tells_18 ⟨rfl, hw⟩
    · refine wm_aload_n hC 0 dX12_tells_19 rfl (k_ne0 hk0 (by decide)) ?_
      refine wm_iload_n hC 1 dX12_tells_20 rfl ?_
      refine y_callV_i_IJ hC hRm noS ml_X12_547 hk0 (C12_tasteBits hk0 hw) (Nat.le_of_ble_eq_true rfl) (Nat.le_of_ble_eq_true rfl) ⟨Nat.zero_le _, Nat.zero_le _⟩ rfl (st := []) rfl (Nat.le_of_ble_eq_true rfl) dX12_tells_21 (fun r3 I1 J1 hw => ?_)
      refine wm_istore_n hC dX12_tells_24 (by decide) (L2 := [(3, vi r3), (0, vr l0), (1, vi l1), (2, vi l2)]) rfl ?_
      refine wm_iconst hC dX12_tells_25 (k := ?_)
      refine wm_istore hC dX12_tells_26 (by decide) (L2 := [(4, vi (-1)), (3, vi r3), (0, vr l0), (1, vi l1), (2, vi l2)]) rfl ?_
      refine wm_ldcw hC (x := 100000000) tc_X12_550 rfl dX12_tells_28 (k := ?_)
      refine wm_istore hC dX12_tells_31 (by decide) (L2 := [(5, vi 100000000), (4, vi (-1)), (3, vi r3), (0, vr l0), (1, vi l1), (2, vi l2)]) rfl ?_
      refine wm_iconst hC dX12_tells_33 (k := ?_)
      refine wm_istore hC dX12_tells_34 (by decide) (L2 := [(6, vi 1), (5, vi 100000000), (4, vi (-1)), (3, vi r3), (0, vr l0), (1, vi l1), (2, vi l2)]) rfl ?_
      obtain ⟨f, hw⟩ := hw
      refine wm_sub [4, 6, 3, 2, 1, 0] (L2 := [(0, vr l0), (2, vi l2), (3, vi r3), (4, vi (-1)), (5, vi 100000000), (6, vi 1)]) rfl ?_
      exact W12_tells_b36 hC hRm hE hk0 f _ _ _ hw
def P12_years_b25_body (l0 : Nat) (l1 : Int) (R : mR) (Q : Int → mI → mI → Prop) (k25 : Int → Int → mI → mI → Prop) (l2 : Int) (l3 : Int) (I : mI) (J : mI) : Prop := (if l1 ≤ l3 then (Q l2 I J) else (P12_ticks l0 0 (-1) I J R (fun r3 I3 J1 => (if r3 = 0 then (rg (l2 + 0) ∧ (rg (l3 + 1) ∧ (k25 (l2 + 0) (l3 + 1) I3 J1))) else (rg (l2 + 1) ∧ (rg (l3 + 1) ∧ (k25 (l2 + 1) (l3 + 1) I3 J1)))))))
def P12_years_b25 (l0 : Nat) (l1 : Int) (R : mR) (Q : Int → mI → mI → Prop) : Nat → Int → Int → mI → mI → Prop
  | 0 => fun _ _ _ _ => False
  | f + 1 => fun l2 l3 I J => P12_years_b25_body l0 l1 R Q (P12_years_b25 l0 l1 R Q f) l2 l3 I J
set_option maxRecDepth 20000 in
theorem W12_years_b25_body {C : wX} {ad : Nat → Nat} {n : Nat} {I J : mI} {R : mR} {Q : Int → mI → mI → Prop} (hC : wOK C cX12_years 4 RX12) (hRm : wRm C 9 214 0 0) (hE : wEnd C (some .int) ad n (fun r I' J' R' => (R' = R) ∧ Q r I' J')) {l0 : Nat} {l1 : Int} {l2 : Int} {l3 : Int}   (hk0 : kK l0 = 12)  {k25 : Int → Int → mI → mI → Prop} (kk25 : ∀ (y2 : Int) (y3 : Int) (I' : mI) (J' : mI), k25 y2 y3 I' J' → WM C ad n I' J' R 0 0 25 [(0, vr l0), (1, vi l1), (2, vi y2), (3, vi y3)] []) (hw : P12_years_b25_body l0 l1 R Q k25 l2 l3 I J) : WM C ad n I J R 0 0 25 [(0, vr l0), (1, vi l1), (2, vi l2), (3, vi l3)] [] := by
  unfold P12_years_b25_body at hw
  refine wm_iload_n hC 3 dX12_years_25 rfl ?_
  refine wm_iload_n hC 1 dX12_years_26 rfl ?_
  refine wm_icmp_ge (tgt := 53) hC dX12_years_27 (by decide) hw (fun hw => ?_) (fun hw => ?_)
  · refine wm_iload_n hC 2 dX12_years_53 rfl ?_
    exact wm_ireturn hC hE dX12_years_54 ⟨rfl, hw⟩
  · refine wm_iload_n hC 2 dX12_years_30 rfl ?_
    refine wm_aload_n hC 0 dX12_years_31 rfl (k_ne0 hk0 (by decide)) ?_
    refine wm_iconst hC dX12_years_32 (k := ?_)
    refine wm_iconst hC dX12_years_33 (k := ?_)
    refine y_callV_z_IJ hC hRm noS ml_X12_526 hk0 (C12_ticks hk0 hw) (Nat.le_of_ble_eq_true rfl) (Nat.le_of_ble_eq_true rfl) ⟨Nat.zero_le _, Nat.zero_le _⟩ rfl (st := [vi l2]) rfl (Nat.le_of_ble_eq_true rfl) dX12_years_34 (fun r3 I3 J1 hw => ?_)
    refine wm_if_eq (tgt := 44) hC dX12_years_37 (by decide) hw (fun hw => ?_) (fun hw => ?_)
    · refine wm_iconst hC dX12_years_44 (k := ?_)
      refine x_iadd hC dX12_years_45 hw (fun hw => ?_)
      refine wm_istore_n hC dX12_years_46 (by decide) (L2 := [(2, vi (l2 + 0)), (0, vr l0), (1, vi l1), (3, vi l3)]) rfl ?_
      refine x_iinc hC 3 dX12_years_47 rfl (by decide) (L2 := [(3, vi (l3 + 1)), (2, vi (l2 + 0)), (0, vr l0), (1, vi l1)]) rfl hw (fun hw => ?_)
      refine wm_goto (tgt := 25) hC dX12_years_50 (by decide) ?_
      refine wm_sub [2, 3, 1, 0] (L2 := [(0, vr l0), (1, vi l1), (2, vi (l2 + 0)), (3, vi (l3 + 1))]) rfl ?_
      exact kk25 _ _ _ _ hw
    · refine wm_iconst hC dX12_years_40 (k := ?_)
      refine wm_goto (tgt := 45) hC dX12_years_41 (by decide) ?_
      refine x_iadd hC dX12_years_45 hw (fun hw => ?_)
      refine wm_istore_n hC dX12_years_46 (by decide) (L2 := [(2, vi (l2 + 1)), (0, vr l0), (1, vi l1), (3, vi l3)]) rfl ?_
      refine x_iinc hC 3 dX12_years_47 rfl (by decide) (L2 := [(3, vi (l3 + 1)), (2, vi (l2 + 1)), (0, vr l0), (1, vi l1)]) rfl hw (fun hw => ?_)
      refine wm_goto (tgt := 25) hC dX12_years_50 (by decide) ?_
      refine wm_sub [2, 3, 1, 0] (L2 := [(0, vr l0), (1, vi l1), (2, vi (l2 + 1)), (3, vi (l3 + 1))]) rfl ?_
      exact kk25 _ _ _ _ hw
set_option maxRecDepth 20000 in
theorem W12_years_b25 {C : wX} {ad : Nat → Nat} {n : Nat} {R : mR} {Q : Int → mI → mI → Prop} (hC : wOK C cX12_years 4 RX12) (hRm : wRm C 9 214 0 0) (hE : wEnd C (some .int) ad n (fun r I' J' R' => (R' = R) ∧ Q r I' J')) {l0 : Nat} {l1 : Int}   (hk0 : kK l0 = 12)  : ∀ (f : Nat) (l2 : Int) (l3 : Int) (I : mI) (J : mI), P12_years_b25 l0 l1 R Q f l2 l3 I J → WM C ad n I J R 0 0 25 [(0, vr l0), (1, vi l1), (2, vi l2), (3, vi l3)] [] := by
  intro f
  induction f with
  | zero => intro l2 l3 I J hw; exact hw.elim
  | succ f ih => intro l2 l3 I J hw; exact W12_years_b25_body hC hRm hE hk0 (fun a0 a1 a2 a3 hw => ih a0 a1 a2 a3 hw) hw
def P12_years (l0 : Nat) (l1 : Int) (I : mI) (J : mI) (R : mR) (Q : Int → mI → mI → Prop) : Prop := (P12_isAhead l0 l1 1 40 I R (fun r1 => (if r1 = 0 then (P12_refuses l0 2 I R (fun r2 I2 => (Q r2 I2 J))) else (P12_keeps l0 I R (fun I1 => (∃ f, P12_years_b25 l0 l1 R Q f 0 0 I1 J))))))
set_option maxRecDepth 20000 in
theorem C12_years {ad : Nat → Nat} {n : Nat} {I J : mI} {R : mR} {Q : Int → mI → mI → Prop}  {l0 : Nat} {l1 : Int} (hk0 : kK l0 = 12) (hw : P12_years l0 l1 I J R Q) : wMet yX12_years cX12_years 4 (some .int) 9 214 false ad n I J R [vr l0, vi l1] (fun r I' J' R' => (R' = R) ∧ Q r I' J') := by
  refine wMet_of (by decide) (Nat.le_of_ble_eq_true rfl) (fun C hC hRm hE hS => ?_)
  refine (show WM C ad n I J R 0 0 0 [(0, vr l0), (1, vi l1)] [] from ?_)
  unfold P12_years at hw
  refine wm_aload_n hC 0 dX12_years_0 rfl (k_ne0 hk0 (by decide)) ?_
  refine wm_iload_n hC 1 dX12_years_1 rfl ?_
  refine wm_iconst hC dX12_years_2 (k := ?_)
  refine wm_bipush hC dX12_years_3 (k := ?_)
  refine y_callV_z_n hC hRm noS ml_X12_529 hk0 (C12_isAhead hk0 hw) (Nat.le_of_ble_eq_true rfl) (Nat.le_of_ble_eq_true rfl) ⟨Nat.zero_le _, Nat.zero_le _⟩ rfl (st := []) rfl (Nat.le_of_ble_eq_true rfl) dX12_years_5 (fun r1 hw => ?_)
  refine wm_if_ne (tgt := 17) hC dX12_years_8 (by decide) hw (fun hw => ?_) (fun hw => ?_)
  · refine wm_aload_n hC 0 dX12_years_11 rfl (k_ne0 hk0 (by decide)) ?_
    refine wm_iconst hC dX12_years_12 (k := ?_)
    refine y_callV_i_I hC hRm noS ml_X12_222 hk0 (C12_refuses hk0 hw) (Nat.le_of_ble_eq_true rfl) (Nat.le_of_ble_eq_true rfl) ⟨Nat.zero_le _, Nat.zero_le _⟩ rfl (st := []) rfl (Nat.le_of_ble_eq_true rfl) dX12_years_13 (fun r2 I2 hw => ?_)
    exact wm_ireturn hC hE dX12_years_16 ⟨rfl, hw⟩
  · refine wm_aload_n hC 0 dX12_years_17 rfl (k_ne0 hk0 (by decide)) ?_
    refine y_callV_v_I hC hRm noS ml_X12_554 hk0 (C12_keeps hk0 hw) (Nat.le_of_ble_eq_true rfl) (Nat.le_of_ble_eq_true rfl) ⟨Nat.zero_le _, Nat.zero_le _⟩ rfl (st := []) rfl (Nat.le_of_ble_eq_true rfl) dX12_years_18 (fun I1 hw => ?_)
    refine wm_iconst hC dX12_years_21 (k := ?_)
    refine wm_istore_n hC dX12_years_22 (by decide) (L2 := [(2, vi 0), (0, vr l0), (1, vi l1)]) rfl ?_
    refine wm_iconst hC dX12_years_23 (k := ?_)
    refine wm_istore_n hC dX12_years_24 (by decide) (L2 := [(3, vi 0), (2, vi 0), (0, vr l0), (1, vi l1)]) rfl ?_
    obtain ⟨f, hw⟩ := hw
    refine wm_sub [2, 3, 1, 0] (L2 := [(0, vr l0), (1, vi l1), (2, vi 0), (3, vi 0)]) rfl ?_
    exact W12_years_b25 hC hRm hE hk0 f _ _ _ _ hw
def P12_draw (l0 : Nat) (l1 : Int) (J : mI) (Q : Int → mI → Prop) : Prop := (rl (1103515245 * (J l0 54)) ∧ (rl ((1103515245 * (J l0 54)) + 12345) ∧ (wLet (up J l0 54 (Int.tmod ((1103515245 * (J l0 54)) + 12345) 2147483648)) (fun J1 => (l1 ≠ 0 ∧ (rg (Int.tmod (Int.tdiv (J1 l0 54) 64) l1) ∧ (Q (Int.tmod (Int.tdiv (J1 l0 54) 64) l1) J1)))))))
set_option maxRecDepth 20000 in
theorem C12_draw {ad : Nat → Nat} {n : Nat} {I J : mI} {R : mR} {Q : Int → mI → Prop}  {l0 : Nat} {l1 : Int} (hk0 : kK l0 = 12) (hw : P12_draw l0 l1 J Q) : wMet yX12_draw cX12_draw 2 (some .int) 1 12 false ad n I J R [vr l0, vi l1] (fun r I' J' R' => (I' = I ∧ R' = R) ∧ Q r J') := by
  refine wMet_of (by decide) (Nat.le_of_ble_eq_true rfl) (fun C hC hRm hE hS => ?_)
  refine (show WM C ad n I J R 0 0 0 [(0, vr l0), (1, vi l1)] [] from ?_)
  unfold P12_draw at hw
  refine wm_aload_n hC 0 dX12_draw_0 rfl (k_ne0 hk0 (by decide)) ?_
  refine wm_ldc2 hC (x := 1103515245) tc_X12_557 rfl dX12_draw_1 (k := ?_)
  refine wm_aload_n hC 0 dX12_draw_4 rfl (k_ne0 hk0 (by decide)) ?_
  refine x_getJ hC 54 fl_X12_177 rfl hk0 dX12_draw_5 ?_
  refine x_lmul hC dX12_draw_8 hw (fun hw => ?_)
  refine wm_ldc2 hC (x := 12345) tc_X12_559 rfl dX12_draw_9 (k := ?_)
  refine x_ladd hC dX12_draw_12 hw (fun hw => ?_)
  refine wm_ldc2 hC (x := 2147483648) tc_X12_561 rfl dX12_draw_13 (k := ?_)
  refine x_lremP hC (by decide) dX12_draw_16 ?_
  refine x_putJ hC 54 fl_X12_177 rfl hk0 dX12_draw_17 hw (fun J1 hw => ?_)
  refine wm_aload_n hC 0 dX12_draw_20 rfl (k_ne0 hk0 (by decide)) ?_
  refine x_getJ hC 54 fl_X12_177 rfl hk0 dX12_draw_21 ?_
  refine wm_ldc2 hC (x := 64) tc_X12_563 rfl dX12_draw_24 (k := ?_)
  refine x_ldivP hC (by decide) dX12_draw_27 ?_
  refine wm_iload_n hC 1 dX12_draw_28 rfl ?_
  refine wm_i2l hC dX12_draw_29 ?_
  refine x_lrem hC dX12_draw_30 hw (fun hw => ?_)
  refine x_l2i hC dX12_draw_31 hw (fun hw => ?_)
  exact wm_ireturn hC hE dX12_draw_32 ⟨⟨rfl, rfl⟩, hw⟩
def P12_chance_b78 (l0 : Nat) (l1 : Int) (l3 : Int) (l4 : Int) (s0 : Int) (s1 : Int) (I : mI) (J : mI) (R : mR) (k25 : Int → Int → mI → mI → Prop) (Q : Int → mI → mI → Prop) : Prop := (rg (s0 + s1) ∧ (if l4 = 0 then (P12_ticks l0 0 (-1) I J R (fun r4 I3 J2 => (rg (l3 + 1) ∧ (k25 (s0 + s1) (l3 + 1) I3 J2)))) else (kK (R l0 14) = 21 ∧ (((0 : Int) ≤ (I l0 13) ∧ (I l0 13) < (kN (R l0 14) : Int)) ∧ (P12_draw l0 (I (R l0 14) (I l0 13)) J (fun r5 J3 => (P12_ticks l0 0 r5 I J3 R (fun r6 I4 J4 => (rg (l3 + 1) ∧ (k25 (s0 + s1) (l3 + 1) I4 J4))))))))))
set_option maxRecDepth 20000 in
theorem W12_chance_b78 {C : wX} {ad : Nat → Nat} {n : Nat} {I J : mI} {R : mR} {Q : Int → mI → mI → Prop} (hC : wOK C cX12_chance 5 RX12) (hRm : wRm C 9 214 0 0) (hE : wEnd C (some .int) ad n (fun r I' J' R' => (R' = R) ∧ Q r I' J')) {l0 : Nat} {l1 : Int} {l3 : Int} {l4 : Int} {s0 : Int} {s1 : Int}  {k25 : Int → Int → mI → mI → Prop} (hk0 : kK l0 = 12) (kk25 : ∀ (y2 : Int) (y3 : Int) (I' : mI) (J' : mI), k25 y2 y3 I' J' → WM C ad n I' J' R 0 0 25 [(0, vr l0), (1, vi l1), (2, vi y2), (3, vi y3)] []) (hw : P12_chance_b78 l0 l1 l3 l4 s0 s1 I J R k25 Q) : WM C ad n I J R 0 0 78 [(0, vr l0), (1, vi l1), (3, vi l3), (4, vi l4)] [vi s1, vi s0] := by
  unfold P12_chance_b78 at hw
  refine x_iadd hC dX12_chance_78 hw (fun hw => ?_)
  refine wm_istore_n hC dX12_chance_79 (by decide) (L2 := [(2, vi (s0 + s1)), (0, vr l0), (1, vi l1), (3, vi l3), (4, vi l4)]) rfl ?_
  refine wm_aload_n hC 1 dX12_chance_80 rfl (k_ne0 hk0 (by decide)) ?_
  refine wm_iconst hC dX12_chance_81 (k := ?_)
  refine wm_iload hC 4 dX12_chance_82 rfl ?_
  refine wm_if_eq (tgt := 103) hC dX12_chance_84 (by decide) hw (fun hw => ?_) (fun hw => ?_)
  · refine wm_iconst hC dX12_chance_103 (k := ?_)
    refine y_callV_z_IJ hC hRm noS ml_X12_526 hk0 (C12_ticks hk0 hw) (Nat.le_of_ble_eq_true rfl) (Nat.le_of_ble_eq_true rfl) ⟨Nat.zero_le _, Nat.zero_le _⟩ rfl (st := []) rfl (Nat.le_of_ble_eq_true rfl) dX12_chance_104 (fun r4 I3 J2 hw => ?_)
    refine wm_pop hC dX12_chance_107 (k := ?_)
    refine x_iinc hC 3 dX12_chance_108 rfl (by decide) (L2 := [(3, vi (l3 + 1)), (2, vi (s0 + s1)), (0, vr l0), (1, vi l1), (4, vi l4)]) rfl hw (fun hw => ?_)
    refine wm_goto (tgt := 25) hC dX12_chance_111 (by decide) ?_
    refine wm_sub [2, 3, 1, 0] (L2 := [(0, vr l0), (1, vi l1), (2, vi (s0 + s1)), (3, vi (l3 + 1))]) rfl ?_
    exact kk25 _ _ _ _ hw
  · refine wm_aload_n hC 1 dX12_chance_87 rfl (k_ne0 hk0 (by decide)) ?_
    refine wm_aload_n hC 1 dX12_chance_88 rfl (k_ne0 hk0 (by decide)) ?_
    refine x_getR2 hC 14 fl_X12_54 rfl hk0 dX12_chance_89 hw (fun g3 hw => ?_)
    refine wm_aload_n hC 1 dX12_chance_92 rfl (k_ne0 hk0 (by decide)) ?_
    refine x_getI hC 13 fl_X12_51 rfl hk0 dX12_chance_93 ?_
    refine x_iald hC g3 dX12_chance_96 hw (fun hw => ?_)
    refine y_callV_i_J hC hRm noS ml_X12_565 hk0 (C12_draw hk0 hw) (Nat.le_of_ble_eq_true rfl) (Nat.le_of_ble_eq_true rfl) ⟨Nat.zero_le _, Nat.zero_le _⟩ rfl (st := [vi 0, vr l0]) rfl (Nat.le_of_ble_eq_true rfl) dX12_chance_97 (fun r5 J3 hw => ?_)
    refine wm_goto (tgt := 104) hC dX12_chance_100 (by decide) ?_
    refine y_callV_z_IJ hC hRm noS ml_X12_526 hk0 (C12_ticks hk0 hw) (Nat.le_of_ble_eq_true rfl) (Nat.le_of_ble_eq_true rfl) ⟨Nat.zero_le _, Nat.zero_le _⟩ rfl (st := []) rfl (Nat.le_of_ble_eq_true rfl) dX12_chance_104 (fun r6 I4 J4 hw => ?_)
    refine wm_pop hC dX12_chance_107 (k := ?_)
    refine x_iinc hC 3 dX12_chance_108 rfl (by decide) (L2 := [(3, vi (l3 + 1)), (2, vi (s0 + s1)), (0, vr l0), (1, vi l1), (4, vi l4)]) rfl hw (fun hw => ?_)
    refine wm_goto (tgt := 25) hC dX12_chance_111 (by decide) ?_
    refine wm_sub [2, 3, 1, 0] (L2 := [(0, vr l0), (1, vi l1), (2, vi (s0 + s1)), (3, vi (l3 + 1))]) rfl ?_
    exact kk25 _ _ _ _ hw
def P12_chance_b65 (l0 : Nat) (l1 : Int) (l2 : Int) (l3 : Int) (s0 : Int) (I : mI) (J : mI) (R : mR) (k25 : Int → Int → mI → mI → Prop) (Q : Int → mI → mI → Prop) : Prop := (if s0 = 0 then (P12_chance_b78 l0 l1 l3 s0 l2 0 I J R k25 Q) else (P12_chance_b78 l0 l1 l3 s0 l2 1 I J R k25 Q))
set_option maxRecDepth 20000 in
theorem W12_chance_b65 {C : wX} {ad : Nat → Nat} {n : Nat} {I J : mI} {R : mR} {Q : Int → mI → mI → Prop} (hC : wOK C cX12_chance 5 RX12) (hRm : wRm C 9 214 0 0) (hE : wEnd C (some .int) ad n (fun r I' J' R' => (R' = R) ∧ Q r I' J')) {l0 : Nat} {l1 : Int} {l2 : Int} {l3 : Int} {s0 : Int}  {k25 : Int → Int → mI → mI → Prop} (hk0 : kK l0 = 12) (kk25 : ∀ (y2 : Int) (y3 : Int) (I' : mI) (J' : mI), k25 y2 y3 I' J' → WM C ad n I' J' R 0 0 25 [(0, vr l0), (1, vi l1), (2, vi y2), (3, vi y3)] []) (hw : P12_chance_b65 l0 l1 l2 l3 s0 I J R k25 Q) : WM C ad n I J R 0 0 65 [(0, vr l0), (1, vi l1), (2, vi l2), (3, vi l3)] [vi s0] := by
  unfold P12_chance_b65 at hw
  refine wm_istore hC dX12_chance_65 (by decide) (L2 := [(4, vi s0), (0, vr l0), (1, vi l1), (2, vi l2), (3, vi l3)]) rfl ?_
  refine wm_iload_n hC 3 dX12_chance_67 rfl ?_
  refine wm_iload hC 0 dX12_chance_68 rfl ?_
  refine wm_if_eq (tgt := 77) hC dX12_chance_70 (by decide) hw (fun hw => ?_) (fun hw => ?_)
  · refine wm_iconst hC dX12_chance_77 (k := ?_)
    refine wm_sub [1, 2, 4, 0] (L2 := [(0, vr l0), (1, vi l1), (3, vi l3), (4, vi s0)]) rfl ?_
    exact W12_chance_b78 hC hRm hE hk0 kk25 hw
  · refine wm_iconst hC dX12_chance_73 (k := ?_)
    refine wm_goto (tgt := 78) hC dX12_chance_74 (by decide) ?_
    refine wm_sub [1, 2, 4, 0] (L2 := [(0, vr l0), (1, vi l1), (3, vi l3), (4, vi s0)]) rfl ?_
    exact W12_chance_b78 hC hRm hE hk0 kk25 hw
def P12_chance_b64 (l0 : Nat) (l1 : Int) (l2 : Int) (l3 : Int) (I : mI) (J : mI) (R : mR) (k25 : Int → Int → mI → mI → Prop) (Q : Int → mI → mI → Prop) : Prop := (P12_chance_b65 l0 l1 l2 l3 0 I J R k25 Q)
set_option maxRecDepth 20000 in
theorem W12_chance_b64 {C : wX} {ad : Nat → Nat} {n : Nat} {I J : mI} {R : mR} {Q : Int → mI → mI → Prop} (hC : wOK C cX12_chance 5 RX12) (hRm : wRm C 9 214 0 0) (hE : wEnd C (some .int) ad n (fun r I' J' R' => (R' = R) ∧ Q r I' J')) {l0 : Nat} {l1 : Int} {l2 : Int} {l3 : Int}  {k25 : Int → Int → mI → mI → Prop} (hk0 : kK l0 = 12) (kk25 : ∀ (y2 : Int) (y3 : Int) (I' : mI) (J' : mI), k25 y2 y3 I' J' → WM C ad n I' J' R 0 0 25 [(0, vr l0), (1, vi l1), (2, vi y2), (3, vi y3)] []) (hw : P12_chance_b64 l0 l1 l2 l3 I J R k25 Q) : WM C ad n I J R 0 0 64 [(0, vr l0), (1, vi l1), (2, vi l2), (3, vi l3)] [] := by
  unfold P12_chance_b64 at hw
  refine wm_iconst hC dX12_chance_64 (k := ?_)
  exact W12_chance_b65 hC hRm hE hk0 kk25 hw
def P12_chance_b25_body (l0 : Nat) (l1 : Int) (R : mR) (Q : Int → mI → mI → Prop) (k25 : Int → Int → mI → mI → Prop) (l2 : Int) (l3 : Int) (I : mI) (J : mI) : Prop := (if l1 ≤ l3 then (Q l2 I J) else (P12_draw l0 100 J (fun r3 J1 => (kK (R l0 25) = 21 ∧ (((0 : Int) ≤ (I l0 13) ∧ (I l0 13) < (kN (R l0 25) : Int)) ∧ (if (I (R l0 25) (I l0 13)) ≤ r3 then (P12_chance_b64 l0 l1 l2 l3 I J1 R k25 Q) else (kK (R l0 14) = 21 ∧ (((0 : Int) ≤ (I l0 13) ∧ (I l0 13) < (kN (R l0 14) : Int)) ∧ (if (I (R l0 14) (I l0 13)) ≤ 0 then (P12_chance_b64 l0 l1 l2 l3 I J1 R k25 Q) else (P12_chance_b65 l0 l1 l2 l3 1 I J1 R k25 Q))))))))))
def P12_chance_b25 (l0 : Nat) (l1 : Int) (R : mR) (Q : Int → mI → mI → Prop) : Nat → Int → Int → mI → mI → Prop
  | 0 => fun _ _ _ _ => False
  | f + 1 => fun l2 l3 I J => P12_chance_b25_body l0 l1 R Q (P12_chance_b25 l0 l1 R Q f) l2 l3 I J
set_option maxRecDepth 20000 in
theorem W12_chance_b25_body {C : wX} {ad : Nat → Nat} {n : Nat} {I J : mI} {R : mR} {Q : Int → mI → mI → Prop} (hC : wOK C cX12_chance 5 RX12) (hRm : wRm C 9 214 0 0) (hE : wEnd C (some .int) ad n (fun r I' J' R' => (R' = R) ∧ Q r I' J')) {l0 : Nat} {l1 : Int} {l2 : Int} {l3 : Int}   (hk0 : kK l0 = 12)  {k25 : Int → Int → mI → mI → Prop} (kk25 : ∀ (y2 : Int) (y3 : Int) (I' : mI) (J' : mI), k25 y2 y3 I' J' → WM C ad n I' J' R 0 0 25 [(0, vr l0), (1, vi l1), (2, vi y2), (3, vi y3)] []) (hw : P12_chance_b25_body l0 l1 R Q k25 l2 l3 I J) : WM C ad n I J R 0 0 25 [(0, vr l0), (1, vi l1), (2, vi l2), (3, vi l3)] [] := by
  unfold P12_chance_b25_body at hw
  refine wm_iload_n hC 3 dX12_chance_25 rfl ?_
  refine wm_iload_n hC 1 dX12_chance_26 rfl ?_
  refine wm_icmp_ge (tgt := 114) hC dX12_chance_27 (by decide) hw (fun hw => ?_) (fun hw => ?_)
  · refine wm_iload_n hC 2 dX12_chance_114 rfl ?_
    exact wm_ireturn hC hE dX12_chance_115 ⟨rfl, hw⟩
  · refine wm_aload_n hC 0 dX12_chance_30 rfl (k_ne0 hk0 (by decide)) ?_
    refine wm_bipush hC dX12_chance_31 (k := ?_)
    refine y_callV_i_J hC hRm noS ml_X12_565 hk0 (C12_draw hk0 hw) (Nat.le_of_ble_eq_true rfl) (Nat.le_of_ble_eq_true rfl) ⟨Nat.zero_le _, Nat.zero_le _⟩ rfl (st := []) rfl (Nat.le_of_ble_eq_true rfl) dX12_chance_33 (fun r3 J1 hw => ?_)
    refine wm_aload_n hC 0 dX12_chance_36 rfl (k_ne0 hk0 (by decide)) ?_
    refine x_getR2 hC 25 fl_X12_87 rfl hk0 dX12_chance_37 hw (fun g1 hw => ?_)
    refine wm_aload_n hC 0 dX12_chance_40 rfl (k_ne0 hk0 (by decide)) ?_
    refine x_getI hC 13 fl_X12_51 rfl hk0 dX12_chance_41 ?_
    refine x_iald hC g1 dX12_chance_44 hw (fun hw => ?_)
    refine wm_icmp_ge (tgt := 64) hC dX12_chance_45 (by decide) hw (fun hw => ?_) (fun hw => ?_)
    · exact W12_chance_b64 hC hRm hE hk0 kk25 hw
    · refine wm_aload_n hC 0 dX12_chance_48 rfl (k_ne0 hk0 (by decide)) ?_
      refine x_getR2 hC 14 fl_X12_54 rfl hk0 dX12_chance_49 hw (fun g2 hw => ?_)
      refine wm_aload_n hC 0 dX12_chance_52 rfl (k_ne0 hk0 (by decide)) ?_
      refine x_getI hC 13 fl_X12_51 rfl hk0 dX12_chance_53 ?_
      refine x_iald hC g2 dX12_chance_56 hw (fun hw => ?_)
      refine wm_if_le (tgt := 64) hC dX12_chance_57 (by decide) hw (fun hw => ?_) (fun hw => ?_)
      · exact W12_chance_b64 hC hRm hE hk0 kk25 hw
      · refine wm_iconst hC dX12_chance_60 (k := ?_)
        refine wm_goto (tgt := 65) hC dX12_chance_61 (by decide) ?_
        exact W12_chance_b65 hC hRm hE hk0 kk25 hw
set_option maxRecDepth 20000 in
theorem W12_chance_b25 {C : wX} {ad : Nat → Nat} {n : Nat} {R : mR} {Q : Int → mI → mI → Prop} (hC : wOK C cX12_chance 5 RX12) (hRm : wRm C 9 214 0 0) (hE : wEnd C (some .int) ad n (fun r I' J' R' => (R' = R) ∧ Q r I' J')) {l0 : Nat} {l1 : Int}   (hk0 : kK l0 = 12)  : ∀ (f : Nat) (l2 : Int) (l3 : Int) (I : mI) (J : mI), P12_chance_b25 l0 l1 R Q f l2 l3 I J → WM C ad n I J R 0 0 25 [(0, vr l0), (1, vi l1), (2, vi l2), (3, vi l3)] [] := by
  intro f
  induction f with
  | zero => intro l2 l3 I J hw; exact hw.elim
  | succ f ih => intro l2 l3 I J hw; exact W12_chance_b25_body hC hRm hE hk0 (fun a0 a1 a2 a3 hw => ih a0 a1 a2 a3 hw) hw
def P12_chance (l0 : Nat) (l1 : Int) (I : mI) (J : mI) (R : mR) (Q : Int → mI → mI → Prop) : Prop := (P12_isAhead l0 l1 1 40 I R (fun r1 => (if r1 = 0 then (P12_refuses l0 2 I R (fun r2 I2 => (Q r2 I2 J))) else (P12_keeps l0 I R (fun I1 => (∃ f, P12_chance_b25 l0 l1 R Q f 0 0 I1 J))))))
set_option maxRecDepth 20000 in
theorem C12_chance {ad : Nat → Nat} {n : Nat} {I J : mI} {R : mR} {Q : Int → mI → mI → Prop}  {l0 : Nat} {l1 : Int} (hk0 : kK l0 = 12) (hw : P12_chance l0 l1 I J R Q) : wMet yX12_chance cX12_chance 5 (some .int) 9 214 false ad n I J R [vr l0, vi l1] (fun r I' J' R' => (R' = R) ∧ Q r I' J') := by
  refine wMet_of (by decide) (Nat.le_of_ble_eq_true rfl) (fun C hC hRm hE hS => ?_)
  refine (show WM C ad n I J R 0 0 0 [(0, vr l0), (1, vi l1)] [] from ?_)
  unfold P12_chance at hw
  refine wm_aload_n hC 0 dX12_chance_0 rfl (k_ne0 hk0 (by decide)) ?_
  refine wm_iload_n hC 1 dX12_chance_1 rfl ?_
  refine wm_iconst hC dX12_chance_2 (k := ?_)
  refine wm_bipush hC dX12_chance_3 (k := ?_)
  refine y_callV_z_n hC hRm noS ml_X12_529 hk0 (C12_isAhead hk0 hw) (Nat.le_of_ble_eq_true rfl) (Nat.le_of_ble_eq_true rfl) ⟨Nat.zero_le _, Nat.zero_le _⟩ rfl (st := []) rfl (Nat.le_of_ble_eq_true rfl) dX12_chance_5 (fun r1 hw => ?_)
  refine wm_if_ne (tgt := 17) hC dX12_chance_8 (by decide) hw (fun hw => ?_) (fun hw => ?_)
  · refine wm_aload_n hC 0 dX12_chance_11 rfl (k_ne0 hk0 (by decide)) ?_
    refine wm_iconst hC dX12_chance_12 (k := ?_)
    refine y_callV_i_I hC hRm noS ml_X12_222 hk0 (C12_refuses hk0 hw) (Nat.le_of_ble_eq_true rfl) (Nat.le_of_ble_eq_true rfl) ⟨Nat.zero_le _, Nat.zero_le _⟩ rfl (st := []) rfl (Nat.le_of_ble_eq_true rfl) dX12_chance_13 (fun r2 I2 hw => ?_)
    exact wm_ireturn hC hE dX12_chance_16 ⟨rfl, hw⟩
  · refine wm_aload_n hC 0 dX12_chance_17 rfl (k_ne0 hk0 (by decide)) ?_
    refine y_callV_v_I hC hRm noS ml_X12_554 hk0 (C12_keeps hk0 hw) (Nat.le_of_ble_eq_true rfl) (Nat.le_of_ble_eq_true rfl) ⟨Nat.zero_le _, Nat.zero_le _⟩ rfl (st := []) rfl (Nat.le_of_ble_eq_true rfl) dX12_chance_18 (fun I1 hw => ?_)
    refine wm_iconst hC dX12_chance_21 (k := ?_)
    refine wm_istore_n hC dX12_chance_22 (by decide) (L2 := [(2, vi 0), (0, vr l0), (1, vi l1)]) rfl ?_
    refine wm_iconst hC dX12_chance_23 (k := ?_)
    refine wm_istore_n hC dX12_chance_24 (by decide) (L2 := [(3, vi 0), (2, vi 0), (0, vr l0), (1, vi l1)]) rfl ?_
    obtain ⟨f, hw⟩ := hw
    refine wm_sub [2, 3, 1, 0] (L2 := [(0, vr l0), (1, vi l1), (2, vi 0), (3, vi 0)]) rfl ?_
    exact W12_chance_b25 hC hRm hE hk0 f _ _ _ _ hw
def P12_paint_b31 (l0 : Nat) (I : mI) (R : mR) (Q : Int → mI → Prop) : Prop := (P12_refuses l0 3 I R (fun r3 I3 => (if r3 < 0 then (Q 0 I3) else (Q 1 I3))))
set_option maxRecDepth 20000 in
theorem W12_paint_b31 {C : wX} {ad : Nat → Nat} {n : Nat} {I J : mI} {R : mR} {Q : Int → mI → Prop} (hC : wOK C cX12_paint 3 RX12) (hRm : wRm C 3 55 0 0) (hE : wEnd C (some .boolean) ad n (fun r I' J' R' => (J' = J ∧ R' = R) ∧ Q r I')) {l0 : Nat}   (hk0 : kK l0 = 12)  (hw : P12_paint_b31 l0 I R Q) : WM C ad n I J R 0 0 31 [(0, vr l0)] [] := by
  unfold P12_paint_b31 at hw
  refine wm_aload_n hC 0 dX12_paint_31 rfl (k_ne0 hk0 (by decide)) ?_
  refine wm_iconst hC dX12_paint_32 (k := ?_)
  refine y_callV_i_I hC hRm noS ml_X12_222 hk0 (C12_refuses hk0 hw) (Nat.le_of_ble_eq_true rfl) (Nat.le_of_ble_eq_true rfl) ⟨Nat.zero_le _, Nat.zero_le _⟩ rfl (st := []) rfl (Nat.le_of_ble_eq_true rfl) dX12_paint_33 (fun r3 I3 hw => ?_)
  refine wm_if_lt (tgt := 43) hC dX12_paint_36 (by decide) hw (fun hw => ?_) (fun hw => ?_)
  · refine wm_iconst hC dX12_paint_43 (k := ?_)
    exact wm_zreturn hC hE (Or.inl rfl) dX12_paint_44 ⟨⟨rfl, rfl⟩, hw⟩
  · refine wm_iconst hC dX12_paint_39 (k := ?_)
    refine wm_goto (tgt := 44) hC dX12_paint_40 (by decide) ?_
    exact wm_zreturn hC hE (Or.inr rfl) dX12_paint_44 ⟨⟨rfl, rfl⟩, hw⟩
def P12_paint_b21 (l0 : Nat) (l1 : Int) (l2 : Int) (I : mI) (R : mR) (Q : Int → mI → Prop) : Prop := (kK (R l0 49) = 21 ∧ (((0 : Int) ≤ l1 ∧ l1 < (kN (R l0 49) : Int)) ∧ (if (I (R l0 49) l1) = l2 then (P12_paint_b31 l0 I R Q) else (P12_keeps l0 I R (fun I1 => (kK (R l0 49) = 21 ∧ (((0 : Int) ≤ l1 ∧ l1 < (kN (R l0 49) : Int)) ∧ wLet (up I1 (R l0 49) l1 l2) (fun I2 => (Q 1 I2)))))))))
set_option maxRecDepth 20000 in
theorem W12_paint_b21 {C : wX} {ad : Nat → Nat} {n : Nat} {I J : mI} {R : mR} {Q : Int → mI → Prop} (hC : wOK C cX12_paint 3 RX12) (hRm : wRm C 3 55 0 0) (hE : wEnd C (some .boolean) ad n (fun r I' J' R' => (J' = J ∧ R' = R) ∧ Q r I')) {l0 : Nat} {l1 : Int} {l2 : Int}   (hk0 : kK l0 = 12)  (hw : P12_paint_b21 l0 l1 l2 I R Q) : WM C ad n I J R 0 0 21 [(0, vr l0), (1, vi l1), (2, vi l2)] [] := by
  unfold P12_paint_b21 at hw
  refine wm_aload_n hC 0 dX12_paint_21 rfl (k_ne0 hk0 (by decide)) ?_
  refine x_getR2 hC 49 fl_X12_162 rfl hk0 dX12_paint_22 hw (fun g1 hw => ?_)
  refine wm_iload_n hC 1 dX12_paint_25 rfl ?_
  refine x_iald hC g1 dX12_paint_26 hw (fun hw => ?_)
  refine wm_iload_n hC 2 dX12_paint_27 rfl ?_
  refine wm_icmp_ne (tgt := 45) hC dX12_paint_28 (by decide) hw (fun hw => ?_) (fun hw => ?_)
  · refine wm_sub [0] (L2 := [(0, vr l0)]) rfl ?_
    exact W12_paint_b31 hC hRm hE hk0 hw
  · refine wm_aload_n hC 0 dX12_paint_45 rfl (k_ne0 hk0 (by decide)) ?_
    refine y_callV_v_I hC hRm noS ml_X12_554 hk0 (C12_keeps hk0 hw) (Nat.le_of_ble_eq_true rfl) (Nat.le_of_ble_eq_true rfl) ⟨Nat.zero_le _, Nat.zero_le _⟩ rfl (st := []) rfl (Nat.le_of_ble_eq_true rfl) dX12_paint_46 (fun I1 hw => ?_)
    refine wm_aload_n hC 0 dX12_paint_49 rfl (k_ne0 hk0 (by decide)) ?_
    refine x_getR2 hC 49 fl_X12_162 rfl hk0 dX12_paint_50 hw (fun g2 hw => ?_)
    refine wm_iload_n hC 1 dX12_paint_53 rfl ?_
    refine wm_iload_n hC 2 dX12_paint_54 rfl ?_
    refine x_iast hC g2 dX12_paint_55 hw (fun I2 hw => ?_)
    refine wm_iconst hC dX12_paint_56 (k := ?_)
    exact wm_zreturn hC hE (Or.inr rfl) dX12_paint_57 ⟨⟨rfl, rfl⟩, hw⟩
def P12_paint (l0 : Nat) (l1 : Int) (l2 : Int) (I : mI) (R : mR) (Q : Int → mI → Prop) : Prop := (P12_isThing l0 l1 I R (fun r1 => (if r1 = 0 then (P12_paint_b31 l0 I R Q) else (if l2 = (-1) then (P12_paint_b21 l0 l1 l2 I R Q) else (P12_isColour l0 l2 I R (fun r2 => (if r2 = 0 then (P12_paint_b31 l0 I R Q) else (P12_paint_b21 l0 l1 l2 I R Q))))))))
set_option maxRecDepth 20000 in
theorem C12_paint {ad : Nat → Nat} {n : Nat} {I J : mI} {R : mR} {Q : Int → mI → Prop}  {l0 : Nat} {l1 : Int} {l2 : Int} (hk0 : kK l0 = 12) (hw : P12_paint l0 l1 l2 I R Q) : wMet yX12_paint cX12_paint 3 (some .boolean) 3 55 false ad n I J R [vr l0, vi l1, vi l2] (fun r I' J' R' => (J' = J ∧ R' = R) ∧ Q r I') := by
  refine wMet_of (by decide) (Nat.le_of_ble_eq_true rfl) (fun C hC hRm hE hS => ?_)
  refine (show WM C ad n I J R 0 0 0 [(0, vr l0), (1, vi l1), (2, vi l2)] [] from ?_)
  unfold P12_paint at hw
  refine wm_aload_n hC 0 dX12_paint_0 rfl (k_ne0 hk0 (by decide)) ?_
  refine wm_iload_n hC 1 dX12_paint_1 rfl ?_
  refine y_callV_z_n hC hRm noS ml_X12_513 hk0 (C12_isThing hk0 hw) (Nat.le_of_ble_eq_true rfl) (Nat.le_of_ble_eq_true rfl) ⟨Nat.zero_le _, Nat.zero_le _⟩ rfl (st := []) rfl (Nat.le_of_ble_eq_true rfl) dX12_paint_2 (fun r1 hw => ?_)
  refine wm_if_eq (tgt := 31) hC dX12_paint_5 (by decide) hw (fun hw => ?_) (fun hw => ?_)
  · refine wm_sub [0] (L2 := [(0, vr l0)]) rfl ?_
    exact W12_paint_b31 hC hRm hE hk0 hw
  · refine wm_iload_n hC 2 dX12_paint_8 rfl ?_
    refine wm_iconst hC dX12_paint_9 (k := ?_)
    refine wm_icmp_eq (tgt := 21) hC dX12_paint_10 (by decide) hw (fun hw => ?_) (fun hw => ?_)
    · exact W12_paint_b21 hC hRm hE hk0 hw
    · refine wm_aload_n hC 0 dX12_paint_13 rfl (k_ne0 hk0 (by decide)) ?_
      refine wm_iload_n hC 2 dX12_paint_14 rfl ?_
      refine y_callV_z_n hC hRm noS ml_X12_510 hk0 (C12_isColour hk0 hw) (Nat.le_of_ble_eq_true rfl) (Nat.le_of_ble_eq_true rfl) ⟨Nat.zero_le _, Nat.zero_le _⟩ rfl (st := []) rfl (Nat.le_of_ble_eq_true rfl) dX12_paint_15 (fun r2 hw => ?_)
      refine wm_if_eq (tgt := 31) hC dX12_paint_18 (by decide) hw (fun hw => ?_) (fun hw => ?_)
      · refine wm_sub [0] (L2 := [(0, vr l0)]) rfl ?_
        exact W12_paint_b31 hC hRm hE hk0 hw
      · exact W12_paint_b21 hC hRm hE hk0 hw
def P12_swap_b21 (l0 : Nat) (I : mI) (R : mR) (Q : Int → mI → Prop) : Prop := (P12_refuses l0 3 I R (fun r3 I4 => (if r3 < 0 then (Q 0 I4) else (Q 1 I4))))
set_option maxRecDepth 20000 in
theorem W12_swap_b21 {C : wX} {ad : Nat → Nat} {n : Nat} {I J : mI} {R : mR} {Q : Int → mI → Prop} (hC : wOK C cX12_swap 4 RX12) (hRm : wRm C 3 55 0 0) (hE : wEnd C (some .boolean) ad n (fun r I' J' R' => (J' = J ∧ R' = R) ∧ Q r I')) {l0 : Nat}   (hk0 : kK l0 = 12)  (hw : P12_swap_b21 l0 I R Q) : WM C ad n I J R 0 0 21 [(0, vr l0)] [] := by
  unfold P12_swap_b21 at hw
  refine wm_aload_n hC 0 dX12_swap_21 rfl (k_ne0 hk0 (by decide)) ?_
  refine wm_iconst hC dX12_swap_22 (k := ?_)
  refine y_callV_i_I hC hRm noS ml_X12_222 hk0 (C12_refuses hk0 hw) (Nat.le_of_ble_eq_true rfl) (Nat.le_of_ble_eq_true rfl) ⟨Nat.zero_le _, Nat.zero_le _⟩ rfl (st := []) rfl (Nat.le_of_ble_eq_true rfl) dX12_swap_23 (fun r3 I4 hw => ?_)
  refine wm_if_lt (tgt := 33) hC dX12_swap_26 (by decide) hw (fun hw => ?_) (fun hw => ?_)
  · refine wm_iconst hC dX12_swap_33 (k := ?_)
    exact wm_zreturn hC hE (Or.inl rfl) dX12_swap_34 ⟨⟨rfl, rfl⟩, hw⟩
  · refine wm_iconst hC dX12_swap_29 (k := ?_)
    refine wm_goto (tgt := 34) hC dX12_swap_30 (by decide) ?_
    exact wm_zreturn hC hE (Or.inr rfl) dX12_swap_34 ⟨⟨rfl, rfl⟩, hw⟩
def P12_swap (l0 : Nat) (l1 : Int) (l2 : Int) (I : mI) (R : mR) (Q : Int → mI → Prop) : Prop := (P12_isBlind l0 l1 I R (fun r1 => (if r1 = 0 then (P12_swap_b21 l0 I R Q) else (P12_isBlind l0 l2 I R (fun r2 => (if r2 = 0 then (P12_swap_b21 l0 I R Q) else (if l1 = l2 then (P12_swap_b21 l0 I R Q) else (P12_keeps l0 I R (fun I1 => (kK (R l0 47) = 21 ∧ (((0 : Int) ≤ l1 ∧ l1 < (kN (R l0 47) : Int)) ∧ (kK (R l0 47) = 21 ∧ (kK (R l0 47) = 21 ∧ (((0 : Int) ≤ l2 ∧ l2 < (kN (R l0 47) : Int)) ∧ (((0 : Int) ≤ l1 ∧ l1 < (kN (R l0 47) : Int)) ∧ wLet (up I1 (R l0 47) l1 (I1 (R l0 47) l2)) (fun I2 => (kK (R l0 47) = 21 ∧ (((0 : Int) ≤ l2 ∧ l2 < (kN (R l0 47) : Int)) ∧ wLet (up I2 (R l0 47) l2 (I1 (R l0 47) l1)) (fun I3 => (Q 1 I3))))))))))))))))))))
set_option maxRecDepth 20000 in
theorem C12_swap {ad : Nat → Nat} {n : Nat} {I J : mI} {R : mR} {Q : Int → mI → Prop}  {l0 : Nat} {l1 : Int} {l2 : Int} (hk0 : kK l0 = 12) (hw : P12_swap l0 l1 l2 I R Q) : wMet yX12_swap cX12_swap 4 (some .boolean) 3 55 false ad n I J R [vr l0, vi l1, vi l2] (fun r I' J' R' => (J' = J ∧ R' = R) ∧ Q r I') := by
  refine wMet_of (by decide) (Nat.le_of_ble_eq_true rfl) (fun C hC hRm hE hS => ?_)
  refine (show WM C ad n I J R 0 0 0 [(0, vr l0), (1, vi l1), (2, vi l2)] [] from ?_)
  unfold P12_swap at hw
  refine wm_aload_n hC 0 dX12_swap_0 rfl (k_ne0 hk0 (by decide)) ?_
  refine wm_iload_n hC 1 dX12_swap_1 rfl ?_
  refine y_callV_z_n hC hRm noS ml_X12_507 hk0 (C12_isBlind hk0 hw) (Nat.le_of_ble_eq_true rfl) (Nat.le_of_ble_eq_true rfl) ⟨Nat.zero_le _, Nat.zero_le _⟩ rfl (st := []) rfl (Nat.le_of_ble_eq_true rfl) dX12_swap_2 (fun r1 hw => ?_)
  refine wm_if_eq (tgt := 21) hC dX12_swap_5 (by decide) hw (fun hw => ?_) (fun hw => ?_)
  · refine wm_sub [0] (L2 := [(0, vr l0)]) rfl ?_
    exact W12_swap_b21 hC hRm hE hk0 hw
  · refine wm_aload_n hC 0 dX12_swap_8 rfl (k_ne0 hk0 (by decide)) ?_
    refine wm_iload_n hC 2 dX12_swap_9 rfl ?_
    refine y_callV_z_n hC hRm noS ml_X12_507 hk0 (C12_isBlind hk0 hw) (Nat.le_of_ble_eq_true rfl) (Nat.le_of_ble_eq_true rfl) ⟨Nat.zero_le _, Nat.zero_le _⟩ rfl (st := []) rfl (Nat.le_of_ble_eq_true rfl) dX12_swap_10 (fun r2 hw => ?_)
    refine wm_if_eq (tgt := 21) hC dX12_swap_13 (by decide) hw (fun hw => ?_) (fun hw => ?_)
    · refine wm_sub [0] (L2 := [(0, vr l0)]) rfl ?_
      exact W12_swap_b21 hC hRm hE hk0 hw
    · refine wm_iload_n hC 1 dX12_swap_16 rfl ?_
      refine wm_iload_n hC 2 dX12_swap_17 rfl ?_
      refine wm_icmp_ne (tgt := 35) hC dX12_swap_18 (by decide) hw (fun hw => ?_) (fun hw => ?_)
      · refine wm_sub [0] (L2 := [(0, vr l0)]) rfl ?_
        exact W12_swap_b21 hC hRm hE hk0 hw
      · refine wm_aload_n hC 0 dX12_swap_35 rfl (k_ne0 hk0 (by decide)) ?_
        refine y_callV_v_I hC hRm noS ml_X12_554 hk0 (C12_keeps hk0 hw) (Nat.le_of_ble_eq_true rfl) (Nat.le_of_ble_eq_true rfl) ⟨Nat.zero_le _, Nat.zero_le _⟩ rfl (st := []) rfl (Nat.le_of_ble_eq_true rfl) dX12_swap_36 (fun I1 hw => ?_)
        refine wm_aload_n hC 0 dX12_swap_39 rfl (k_ne0 hk0 (by decide)) ?_
        refine x_getR2 hC 47 fl_X12_156 rfl hk0 dX12_swap_40 hw (fun g1 hw => ?_)
        refine wm_iload_n hC 1 dX12_swap_43 rfl ?_
        refine x_iald hC g1 dX12_swap_44 hw (fun hw => ?_)
        refine wm_istore_n hC dX12_swap_45 (by decide) (L2 := [(3, vi (I1 (R l0 47) l1)), (0, vr l0), (1, vi l1), (2, vi l2)]) rfl ?_
        refine wm_aload_n hC 1 dX12_swap_46 rfl (k_ne0 hk0 (by decide)) ?_
        refine x_getR2 hC 47 fl_X12_156 rfl hk0 dX12_swap_47 hw (fun g2 hw => ?_)
        refine wm_iload_n hC 2 dX12_swap_50 rfl ?_
        refine wm_aload_n hC 1 dX12_swap_51 rfl (k_ne0 hk0 (by decide)) ?_
        refine x_getR2 hC 47 fl_X12_156 rfl hk0 dX12_swap_52 hw (fun g3 hw => ?_)
        refine wm_iload_n hC 3 dX12_swap_55 rfl ?_
        refine x_iald hC g3 dX12_swap_56 hw (fun hw => ?_)
        refine x_iast hC g2 dX12_swap_57 hw (fun I2 hw => ?_)
        refine wm_aload_n hC 1 dX12_swap_58 rfl (k_ne0 hk0 (by decide)) ?_
        refine x_getR2 hC 47 fl_X12_156 rfl hk0 dX12_swap_59 hw (fun g4 hw => ?_)
        refine wm_iload_n hC 3 dX12_swap_62 rfl ?_
        refine wm_iload_n hC 0 dX12_swap_63 rfl ?_
        refine x_iast hC g4 dX12_swap_64 hw (fun I3 hw => ?_)
        refine wm_iconst hC dX12_swap_65 (k := ?_)
        exact wm_zreturn hC hE (Or.inr rfl) dX12_swap_66 ⟨⟨rfl, rfl⟩, hw⟩
def P12_fill_b21 (l0 : Nat) (I : mI) (R : mR) (Q : Int → mI → Prop) : Prop := (P12_refuses l0 3 I R (fun r2 I3 => (if r2 < 0 then (Q 0 I3) else (Q 1 I3))))
set_option maxRecDepth 20000 in
theorem W12_fill_b21 {C : wX} {ad : Nat → Nat} {n : Nat} {I J : mI} {R : mR} {Q : Int → mI → Prop} (hC : wOK C cX12_fill 2 RX12) (hRm : wRm C 3 55 0 0) (hE : wEnd C (some .boolean) ad n (fun r I' J' R' => (J' = J ∧ R' = R) ∧ Q r I')) {l0 : Nat}   (hk0 : kK l0 = 12)  (hw : P12_fill_b21 l0 I R Q) : WM C ad n I J R 0 0 21 [(0, vr l0)] [] := by
  unfold P12_fill_b21 at hw
  refine wm_aload_n hC 0 dX12_fill_21 rfl (k_ne0 hk0 (by decide)) ?_
  refine wm_iconst hC dX12_fill_22 (k := ?_)
  refine y_callV_i_I hC hRm noS ml_X12_222 hk0 (C12_refuses hk0 hw) (Nat.le_of_ble_eq_true rfl) (Nat.le_of_ble_eq_true rfl) ⟨Nat.zero_le _, Nat.zero_le _⟩ rfl (st := []) rfl (Nat.le_of_ble_eq_true rfl) dX12_fill_23 (fun r2 I3 hw => ?_)
  refine wm_if_lt (tgt := 33) hC dX12_fill_26 (by decide) hw (fun hw => ?_) (fun hw => ?_)
  · refine wm_iconst hC dX12_fill_33 (k := ?_)
    exact wm_zreturn hC hE (Or.inl rfl) dX12_fill_34 ⟨⟨rfl, rfl⟩, hw⟩
  · refine wm_iconst hC dX12_fill_29 (k := ?_)
    refine wm_goto (tgt := 34) hC dX12_fill_30 (by decide) ?_
    exact wm_zreturn hC hE (Or.inr rfl) dX12_fill_34 ⟨⟨rfl, rfl⟩, hw⟩
def P12_fill (l0 : Nat) (l1 : Int) (I : mI) (R : mR) (Q : Int → mI → Prop) : Prop := (P12_is l1 0 9999 (fun r1 => (if r1 = 0 then (P12_fill_b21 l0 I R Q) else (kK (R l0 46) = 21 ∧ (((0 : Int) ≤ (0 : Int) ∧ (0 : Int) < (kN (R l0 46) : Int)) ∧ (if (I (R l0 46) (0 : Int)) = l1 then (P12_fill_b21 l0 I R Q) else (P12_keeps l0 I R (fun I1 => (kK (R l0 46) = 21 ∧ (((0 : Int) ≤ (0 : Int) ∧ (0 : Int) < (kN (R l0 46) : Int)) ∧ wLet (up I1 (R l0 46) (0 : Int) l1) (fun I2 => (Q 1 I2))))))))))))
set_option maxRecDepth 20000 in
theorem C12_fill {ad : Nat → Nat} {n : Nat} {I J : mI} {R : mR} {Q : Int → mI → Prop}  {l0 : Nat} {l1 : Int} (hk0 : kK l0 = 12) (hw : P12_fill l0 l1 I R Q) : wMet yX12_fill cX12_fill 2 (some .boolean) 3 55 false ad n I J R [vr l0, vi l1] (fun r I' J' R' => (J' = J ∧ R' = R) ∧ Q r I') := by
  refine wMet_of (by decide) (Nat.le_of_ble_eq_true rfl) (fun C hC hRm hE hS => ?_)
  refine (show WM C ad n I J R 0 0 0 [(0, vr l0), (1, vi l1)] [] from ?_)
  unfold P12_fill at hw
  refine wm_iload_n hC 1 dX12_fill_0 rfl ?_
  refine wm_iconst hC dX12_fill_1 (k := ?_)
  refine wm_sipush hC dX12_fill_2 (k := ?_)
  refine y_callS_z_n hC hRm noS ml_X12_309 (C12_is  hw) (Nat.le_of_ble_eq_true rfl) (Nat.le_of_ble_eq_true rfl) ⟨Nat.zero_le _, Nat.zero_le _⟩ rfl (st := []) rfl (Nat.le_of_ble_eq_true rfl) dX12_fill_5 (fun r1 hw => ?_)
  refine wm_if_eq (tgt := 21) hC dX12_fill_8 (by decide) hw (fun hw => ?_) (fun hw => ?_)
  · refine wm_sub [0] (L2 := [(0, vr l0)]) rfl ?_
    exact W12_fill_b21 hC hRm hE hk0 hw
  · refine wm_aload_n hC 0 dX12_fill_11 rfl (k_ne0 hk0 (by decide)) ?_
    refine x_getR2 hC 46 fl_X12_153 rfl hk0 dX12_fill_12 hw (fun g1 hw => ?_)
    refine wm_iconst hC dX12_fill_15 (k := ?_)
    refine x_iald hC g1 dX12_fill_16 hw (fun hw => ?_)
    refine wm_iload_n hC 1 dX12_fill_17 rfl ?_
    refine wm_icmp_ne (tgt := 35) hC dX12_fill_18 (by decide) hw (fun hw => ?_) (fun hw => ?_)
    · refine wm_sub [0] (L2 := [(0, vr l0)]) rfl ?_
      exact W12_fill_b21 hC hRm hE hk0 hw
    · refine wm_aload_n hC 0 dX12_fill_35 rfl (k_ne0 hk0 (by decide)) ?_
      refine y_callV_v_I hC hRm noS ml_X12_554 hk0 (C12_keeps hk0 hw) (Nat.le_of_ble_eq_true rfl) (Nat.le_of_ble_eq_true rfl) ⟨Nat.zero_le _, Nat.zero_le _⟩ rfl (st := []) rfl (Nat.le_of_ble_eq_true rfl) dX12_fill_36 (fun I1 hw => ?_)
      refine wm_aload_n hC 0 dX12_fill_39 rfl (k_ne0 hk0 (by decide)) ?_
      refine x_getR2 hC 46 fl_X12_153 rfl hk0 dX12_fill_40 hw (fun g2 hw => ?_)
      refine wm_iconst hC dX12_fill_43 (k := ?_)
      refine wm_iload_n hC 1 dX12_fill_44 rfl ?_
      refine x_iast hC g2 dX12_fill_45 hw (fun I2 hw => ?_)
      refine wm_iconst hC dX12_fill_46 (k := ?_)
      exact wm_zreturn hC hE (Or.inr rfl) dX12_fill_47 ⟨⟨rfl, rfl⟩, hw⟩
def P12_seed (l0 : Nat) (l1 : Int) (I : mI) (J : mI) (R : mR) (Q : Int → mI → mI → Prop) : Prop := (if (0 : Int) ≤ l1 then (wLet (up J l0 54 l1) (fun J1 => (Q 1 I J1))) else (P12_refuses l0 5 I R (fun r1 I1 => (if r1 < 0 then (Q 0 I1 J) else (Q 1 I1 J)))))
set_option maxRecDepth 20000 in
theorem C12_seed {ad : Nat → Nat} {n : Nat} {I J : mI} {R : mR} {Q : Int → mI → mI → Prop}  {l0 : Nat} {l1 : Int} (hk0 : kK l0 = 12) (hw : P12_seed l0 l1 I J R Q) : wMet yX12_seed cX12_seed 2 (some .boolean) 2 33 false ad n I J R [vr l0, vi l1] (fun r I' J' R' => (R' = R) ∧ Q r I' J') := by
  refine wMet_of (by decide) (Nat.le_of_ble_eq_true rfl) (fun C hC hRm hE hS => ?_)
  refine (show WM C ad n I J R 0 0 0 [(0, vr l0), (1, vi l1)] [] from ?_)
  unfold P12_seed at hw
  refine wm_iload_n hC 1 dX12_seed_0 rfl ?_
  refine wm_if_ge (tgt := 18) hC dX12_seed_1 (by decide) hw (fun hw => ?_) (fun hw => ?_)
  · refine wm_aload_n hC 0 dX12_seed_18 rfl (k_ne0 hk0 (by decide)) ?_
    refine wm_iload_n hC 1 dX12_seed_19 rfl ?_
    refine wm_i2l hC dX12_seed_20 ?_
    refine x_putJ hC 54 fl_X12_177 rfl hk0 dX12_seed_21 hw (fun J1 hw => ?_)
    refine wm_iconst hC dX12_seed_24 (k := ?_)
    exact wm_zreturn hC hE (Or.inr rfl) dX12_seed_25 ⟨rfl, hw⟩
  · refine wm_aload_n hC 0 dX12_seed_4 rfl (k_ne0 hk0 (by decide)) ?_
    refine wm_iconst hC dX12_seed_5 (k := ?_)
    refine y_callV_i_I hC hRm noS ml_X12_222 hk0 (C12_refuses hk0 hw) (Nat.le_of_ble_eq_true rfl) (Nat.le_of_ble_eq_true rfl) ⟨Nat.zero_le _, Nat.zero_le _⟩ rfl (st := []) rfl (Nat.le_of_ble_eq_true rfl) dX12_seed_6 (fun r1 I1 hw => ?_)
    refine wm_if_lt (tgt := 16) hC dX12_seed_9 (by decide) hw (fun hw => ?_) (fun hw => ?_)
    · refine wm_iconst hC dX12_seed_16 (k := ?_)
      exact wm_zreturn hC hE (Or.inl rfl) dX12_seed_17 ⟨rfl, hw⟩
    · refine wm_iconst hC dX12_seed_12 (k := ?_)
      refine wm_goto (tgt := 17) hC dX12_seed_13 (by decide) ?_
      exact wm_zreturn hC hE (Or.inr rfl) dX12_seed_17 ⟨rfl, hw⟩
def P12_kept (l0 : Nat) (l1 : Int) (l2 : Int) (I : mI) (R : mR) (Q : Int → Prop) : Prop := (kK (R l0 50) = 21 ∧ (((0 : Int) ≤ (0 : Int) ∧ (0 : Int) < (kN (R l0 50) : Int)) ∧ (rg ((I (R l0 50) (0 : Int)) - 1) ∧ (P12_is l1 0 ((I (R l0 50) (0 : Int)) - 1) (fun r1 => (if r1 = 0 then (Q (-1)) else (P12_is l2 0 2 (fun r2 => (if r2 = 0 then (Q (-1)) else (kK (R l0 51) = 21 ∧ (rg (3 * l1) ∧ (rg ((3 * l1) + l2) ∧ (((0 : Int) ≤ ((3 * l1) + l2) ∧ ((3 * l1) + l2) < (kN (R l0 51) : Int)) ∧ (Q (I (R l0 51) ((3 * l1) + l2))))))))))))))))
set_option maxRecDepth 20000 in
theorem C12_kept {ad : Nat → Nat} {n : Nat} {I J : mI} {R : mR} {Q : Int → Prop}  {l0 : Nat} {l1 : Int} {l2 : Int} (hk0 : kK l0 = 12) (hw : P12_kept l0 l1 l2 I R Q) : wMet yX12_kept cX12_kept 3 (some .int) 2 34 false ad n I J R [vr l0, vi l1, vi l2] (fun r I' J' R' => (I' = I ∧ J' = J ∧ R' = R) ∧ Q r) := by
  refine wMet_of (by decide) (Nat.le_of_ble_eq_true rfl) (fun C hC hRm hE hS => ?_)
  refine (show WM C ad n I J R 0 0 0 [(0, vr l0), (1, vi l1), (2, vi l2)] [] from ?_)
  unfold P12_kept at hw
  refine wm_iload_n hC 1 dX12_kept_0 rfl ?_
  refine wm_iconst hC dX12_kept_1 (k := ?_)
  refine wm_aload_n hC 0 dX12_kept_2 rfl (k_ne0 hk0 (by decide)) ?_
  refine x_getR2 hC 50 fl_X12_165 rfl hk0 dX12_kept_3 hw (fun g1 hw => ?_)
  refine wm_iconst hC dX12_kept_6 (k := ?_)
  refine x_iald hC g1 dX12_kept_7 hw (fun hw => ?_)
  refine wm_iconst hC dX12_kept_8 (k := ?_)
  refine x_isub hC dX12_kept_9 hw (fun hw => ?_)
  refine y_callS_z_n hC hRm noS ml_X12_309 (C12_is  hw) (Nat.le_of_ble_eq_true rfl) (Nat.le_of_ble_eq_true rfl) ⟨Nat.zero_le _, Nat.zero_le _⟩ rfl (st := []) rfl (Nat.le_of_ble_eq_true rfl) dX12_kept_10 (fun r1 hw => ?_)
  refine wm_if_eq (tgt := 38) hC dX12_kept_13 (by decide) hw (fun hw => ?_) (fun hw => ?_)
  · refine wm_iconst hC dX12_kept_38 (k := ?_)
    exact wm_ireturn hC hE dX12_kept_39 ⟨⟨rfl, rfl, rfl⟩, hw⟩
  · refine wm_iload_n hC 2 dX12_kept_16 rfl ?_
    refine wm_iconst hC dX12_kept_17 (k := ?_)
    refine wm_iconst hC dX12_kept_18 (k := ?_)
    refine y_callS_z_n hC hRm noS ml_X12_309 (C12_is  hw) (Nat.le_of_ble_eq_true rfl) (Nat.le_of_ble_eq_true rfl) ⟨Nat.zero_le _, Nat.zero_le _⟩ rfl (st := []) rfl (Nat.le_of_ble_eq_true rfl) dX12_kept_19 (fun r2 hw => ?_)
    refine wm_if_eq (tgt := 38) hC dX12_kept_22 (by decide) hw (fun hw => ?_) (fun hw => ?_)
    · refine wm_iconst hC dX12_kept_38 (k := ?_)
      exact wm_ireturn hC hE dX12_kept_39 ⟨⟨rfl, rfl, rfl⟩, hw⟩
    · refine wm_aload_n hC 0 dX12_kept_25 rfl (k_ne0 hk0 (by decide)) ?_
      refine x_getR2 hC 51 fl_X12_168 rfl hk0 dX12_kept_26 hw (fun g2 hw => ?_)
      refine wm_iconst hC dX12_kept_29 (k := ?_)
      refine wm_iload_n hC 1 dX12_kept_30 rfl ?_
      refine x_imul hC dX12_kept_31 hw (fun hw => ?_)
      refine wm_iload_n hC 2 dX12_kept_32 rfl ?_
      refine x_iadd hC dX12_kept_33 hw (fun hw => ?_)
      refine x_iald hC g2 dX12_kept_34 hw (fun hw => ?_)
      refine wm_goto (tgt := 39) hC dX12_kept_35 (by decide) ?_
      exact wm_ireturn hC hE dX12_kept_39 ⟨⟨rfl, rfl, rfl⟩, hw⟩
