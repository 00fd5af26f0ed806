def P3_letterOf_b72_body (l3 : Int) (I : mI) (R : mR) (Q : Int → Prop) (k72 : Int → Int → Prop) (l4 : Int) (l6 : Int) : Prop := (if l6 ≤ l3 then (Q (Int.tmod l4 27)) else (rg (l6 + (-1)) ∧ (k72 (Int.tdiv l4 27) (l6 + (-1)))))
def P3_letterOf_b72 (l3 : Int) (I : mI) (R : mR) (Q : Int → Prop) : Nat → Int → Int → Prop
  | 0 => fun _ _ => False
  | f + 1 => fun l4 l6 => P3_letterOf_b72_body l3 I R Q (P3_letterOf_b72 l3 I R Q f) l4 l6
set_option maxRecDepth 20000 in
theorem W3_letterOf_b72_body {C : wX} {ad : Nat → Nat} {n : Nat} {I J : mI} {R : mR} {Q : Int → Prop} (hC : wOK C cX3_letterOf 7 RX3) (hRm : wRm C 2 34 0 0) (hE : wEnd C (some .int) ad n (fun r I' J' R' => (I' = I ∧ J' = J ∧ R' = R) ∧ Q r)) {l3 : Int} {l4 : Int} {l6 : Int}     {k72 : Int → Int → Prop} (kk72 : ∀ (y4 : Int) (y6 : Int), k72 y4 y6 → WM C ad n I J R 0 0 72 [(3, vi l3), (4, vi y4), (6, vi y6)] []) (hw : P3_letterOf_b72_body l3 I R Q k72 l4 l6) : WM C ad n I J R 0 0 72 [(3, vi l3), (4, vi l4), (6, vi l6)] [] := by
  unfold P3_letterOf_b72_body at hw
  refine wm_iload hC 2 dX3_letterOf_72 rfl ?_
  refine wm_iload_n hC 0 dX3_letterOf_74 rfl ?_
  refine wm_icmp_le (tgt := 91) hC dX3_letterOf_75 (by decide) hw (fun hw => ?_) (fun hw => ?_)
  · refine wm_iload hC 1 dX3_letterOf_91 rfl ?_
    refine wm_bipush hC dX3_letterOf_93 (k := ?_)
    refine x_iremP hC (by decide) dX3_letterOf_95 ?_
    exact wm_ireturn hC hE dX3_letterOf_96 ⟨⟨rfl, rfl, rfl⟩, hw⟩
  · refine wm_iload hC 1 dX3_letterOf_78 rfl ?_
    refine wm_bipush hC dX3_letterOf_80 (k := ?_)
    refine x_idivP hC (by decide) dX3_letterOf_82 ?_
    refine wm_istore hC dX3_letterOf_83 (by decide) (L2 := [(4, vi (Int.tdiv l4 27)), (3, vi l3), (6, vi l6)]) rfl ?_
    refine x_iinc hC 2 dX3_letterOf_85 rfl (by decide) (L2 := [(6, vi (l6 + (-1))), (4, vi (Int.tdiv l4 27)), (3, vi l3)]) rfl hw (fun hw => ?_)
    refine wm_goto (tgt := 72) hC dX3_letterOf_88 (by decide) ?_
    refine wm_sub [2, 1, 0] (L2 := [(3, vi l3), (4, vi (Int.tdiv l4 27)), (6, vi (l6 + (-1)))]) rfl ?_
    exact kk72 _ _ hw
set_option maxRecDepth 20000 in
theorem W3_letterOf_b72 {C : wX} {ad : Nat → Nat} {n : Nat} {I J : mI} {R : mR} {Q : Int → Prop} (hC : wOK C cX3_letterOf 7 RX3) (hRm : wRm C 2 34 0 0) (hE : wEnd C (some .int) ad n (fun r I' J' R' => (I' = I ∧ J' = J ∧ R' = R) ∧ Q r)) {l3 : Int}     : ∀ (f : Nat) (l4 : Int) (l6 : Int), P3_letterOf_b72 l3 I R Q f l4 l6 → WM C ad n I J R 0 0 72 [(3, vi l3), (4, vi l4), (6, vi l6)] [] := by
  intro f
  induction f with
  | zero => intro l4 l6 hw; exact hw.elim
  | succ f ih => intro l4 l6 hw; exact W3_letterOf_b72_body hC hRm hE  (fun a0 a1 hw => ih a0 a1 hw) hw
def P3_letterOf_b58 (l3 : Int) (l4 : Int) (l5 : Int) (I : mI) (R : mR) (Q : Int → Prop) : Prop := (if l3 < l5 then (rg (l5 - 1) ∧ (∃ f, P3_letterOf_b72 l3 I R Q f l4 (l5 - 1))) else (Q 0))
set_option maxRecDepth 20000 in
theorem W3_letterOf_b58 {C : wX} {ad : Nat → Nat} {n : Nat} {I J : mI} {R : mR} {Q : Int → Prop} (hC : wOK C cX3_letterOf 7 RX3) (hRm : wRm C 2 34 0 0) (hE : wEnd C (some .int) ad n (fun r I' J' R' => (I' = I ∧ J' = J ∧ R' = R) ∧ Q r)) {l3 : Int} {l4 : Int} {l5 : Int}     (hw : P3_letterOf_b58 l3 l4 l5 I R Q) : WM C ad n I J R 0 0 58 [(3, vi l3), (4, vi l4), (5, vi l5)] [] := by
  unfold P3_letterOf_b58 at hw
  refine wm_iload_n hC 0 dX3_letterOf_58 rfl ?_
  refine wm_iload hC 2 dX3_letterOf_59 rfl ?_
  refine wm_icmp_lt (tgt := 66) hC dX3_letterOf_61 (by decide) hw (fun hw => ?_) (fun hw => ?_)
  · refine wm_iload hC 2 dX3_letterOf_66 rfl ?_
    refine wm_iconst hC dX3_letterOf_68 (k := ?_)
    refine x_isub hC dX3_letterOf_69 hw (fun hw => ?_)
    refine wm_istore hC dX3_letterOf_70 (by decide) (L2 := [(6, vi (l5 - 1)), (3, vi l3), (4, vi l4), (5, vi l5)]) rfl ?_
    obtain ⟨f, hw⟩ := hw
    refine wm_sub [1, 2, 0] (L2 := [(3, vi l3), (4, vi l4), (6, vi (l5 - 1))]) rfl ?_
    exact W3_letterOf_b72 hC hRm hE  f _ _ hw
  · refine wm_iconst hC dX3_letterOf_64 (k := ?_)
    exact wm_ireturn hC hE dX3_letterOf_65 ⟨⟨rfl, rfl, rfl⟩, hw⟩
def P3_letterOf_b33_body (l3 : Int) (l4 : Int) (I : mI) (R : mR) (Q : Int → Prop) (k33 : Int → Int → Prop) (l5 : Int) (l6 : Int) : Prop := (if l6 ≤ 0 then (P3_letterOf_b58 l3 l4 l5 I R Q) else (if (6 : Int) ≤ l5 then (P3_letterOf_b58 l3 l4 l5 I R Q) else (rg (l5 + 1) ∧ (k33 (l5 + 1) (Int.tdiv l6 27)))))
def P3_letterOf_b33 (l3 : Int) (l4 : Int) (I : mI) (R : mR) (Q : Int → Prop) : Nat → Int → Int → Prop
  | 0 => fun _ _ => False
  | f + 1 => fun l5 l6 => P3_letterOf_b33_body l3 l4 I R Q (P3_letterOf_b33 l3 l4 I R Q f) l5 l6
set_option maxRecDepth 20000 in
theorem W3_letterOf_b33_body {C : wX} {ad : Nat → Nat} {n : Nat} {I J : mI} {R : mR} {Q : Int → Prop} (hC : wOK C cX3_letterOf 7 RX3) (hRm : wRm C 2 34 0 0) (hE : wEnd C (some .int) ad n (fun r I' J' R' => (I' = I ∧ J' = J ∧ R' = R) ∧ Q r)) {l3 : Int} {l4 : Int} {l5 : Int} {l6 : Int}     {k33 : Int → Int → Prop} (kk33 : ∀ (y5 : Int) (y6 : Int), k33 y5 y6 → WM C ad n I J R 0 0 33 [(3, vi l3), (4, vi l4), (5, vi y5), (6, vi y6)] []) (hw : P3_letterOf_b33_body l3 l4 I R Q k33 l5 l6) : WM C ad n I J R 0 0 33 [(3, vi l3), (4, vi l4), (5, vi l5), (6, vi l6)] [] := by
  unfold P3_letterOf_b33_body at hw
  refine wm_iload hC 3 dX3_letterOf_33 rfl ?_
  refine wm_if_le (tgt := 58) hC dX3_letterOf_35 (by decide) hw (fun hw => ?_) (fun hw => ?_)
  · refine wm_sub [0, 1, 2] (L2 := [(3, vi l3), (4, vi l4), (5, vi l5)]) rfl ?_
    exact W3_letterOf_b58 hC hRm hE  hw
  · refine wm_iload hC 2 dX3_letterOf_38 rfl ?_
    refine wm_bipush hC dX3_letterOf_40 (k := ?_)
    refine wm_icmp_ge (tgt := 58) hC dX3_letterOf_42 (by decide) hw (fun hw => ?_) (fun hw => ?_)
    · refine wm_sub [0, 1, 2] (L2 := [(3, vi l3), (4, vi l4), (5, vi l5)]) rfl ?_
      exact W3_letterOf_b58 hC hRm hE  hw
    · refine x_iinc hC 2 dX3_letterOf_45 rfl (by decide) (L2 := [(5, vi (l5 + 1)), (3, vi l3), (4, vi l4), (6, vi l6)]) rfl hw (fun hw => ?_)
      refine wm_iload hC 3 dX3_letterOf_48 rfl ?_
      refine wm_bipush hC dX3_letterOf_50 (k := ?_)
      refine x_idivP hC (by decide) dX3_letterOf_52 ?_
      refine wm_istore hC dX3_letterOf_53 (by decide) (L2 := [(6, vi (Int.tdiv l6 27)), (5, vi (l5 + 1)), (3, vi l3), (4, vi l4)]) rfl ?_
      refine wm_goto (tgt := 33) hC dX3_letterOf_55 (by decide) ?_
      refine wm_sub [2, 3, 1, 0] (L2 := [(3, vi l3), (4, vi l4), (5, vi (l5 + 1)), (6, vi (Int.tdiv l6 27))]) rfl ?_
      exact kk33 _ _ hw
set_option maxRecDepth 20000 in
theorem W3_letterOf_b33 {C : wX} {ad : Nat → Nat} {n : Nat} {I J : mI} {R : mR} {Q : Int → Prop} (hC : wOK C cX3_letterOf 7 RX3) (hRm : wRm C 2 34 0 0) (hE : wEnd C (some .int) ad n (fun r I' J' R' => (I' = I ∧ J' = J ∧ R' = R) ∧ Q r)) {l3 : Int} {l4 : Int}     : ∀ (f : Nat) (l5 : Int) (l6 : Int), P3_letterOf_b33 l3 l4 I R Q f l5 l6 → WM C ad n I J R 0 0 33 [(3, vi l3), (4, vi l4), (5, vi l5), (6, vi l6)] [] := by
  intro f
  induction f with
  | zero => intro l5 l6 hw; exact hw.elim
  | succ f ih => intro l5 l6 hw; exact W3_letterOf_b33_body hC hRm hE  (fun a0 a1 hw => ih a0 a1 hw) hw
def P3_letterOf (l0 : Nat) (l1 : Int) (l2 : Int) (l3 : Int) (I : mI) (R : mR) (Q : Int → Prop) : Prop := (P3_isThere l0 l1 l2 I R (fun r1 => (if r1 = 0 then (∃ f, P3_letterOf_b33 l3 0 I R Q f 0 0) else (kK (R l0 1) = 21 ∧ (rg (l1 * 6) ∧ (rg ((l1 * 6) + l2) ∧ (((0 : Int) ≤ ((l1 * 6) + l2) ∧ ((l1 * 6) + l2) < (kN (R l0 1) : Int)) ∧ (wLet (I (R l0 1) ((l1 * 6) + l2)) (fun x1 => (∃ f, P3_letterOf_b33 l3 x1 I R Q f 0 x1))))))))))
set_option maxRecDepth 20000 in
theorem C3_letterOf {ad : Nat → Nat} {n : Nat} {I J : mI} {R : mR} {Q : Int → Prop}  {l0 : Nat} {l1 : Int} {l2 : Int} {l3 : Int} (hk0 : kK l0 = 3) (hw : P3_letterOf l0 l1 l2 l3 I R Q) : wMet yX3_letterOf cX3_letterOf 7 (some .int) 2 34 false ad n I J R [vr l0, vi l1, vi l2, vi l3] (fun r I' J' R' => (I' = I ∧ J' = J ∧ R' = R) ∧ Q r) := by
  refine wMet_of (by decide) (Nat.le_of_ble_eq_true rfl) (fun C hC hRm hE hS => ?_)
  refine (show WM C ad n I J R 0 0 0 [(0, vr l0), (1, vi l1), (2, vi l2), (3, vi l3)] [] from ?_)
  unfold P3_letterOf at hw
  refine wm_aload_n hC 0 dX3_letterOf_0 rfl (k_ne0 hk0 (by decide)) ?_
  refine wm_iload_n hC 1 dX3_letterOf_1 rfl ?_
  refine wm_iload_n hC 2 dX3_letterOf_2 rfl ?_
  refine y_callV_z_n hC hRm noS ml_X3_58 hk0 (C3_isThere hk0 hw) (Nat.le_of_ble_eq_true rfl) (Nat.le_of_ble_eq_true rfl) ⟨Nat.zero_le _, Nat.zero_le _⟩ rfl (st := []) rfl (Nat.le_of_ble_eq_true rfl) dX3_letterOf_3 (fun r1 hw => ?_)
  refine wm_if_eq (tgt := 23) hC dX3_letterOf_6 (by decide) hw (fun hw => ?_) (fun hw => ?_)
  · refine wm_iconst hC dX3_letterOf_23 (k := ?_)
    refine wm_istore hC dX3_letterOf_24 (by decide) (L2 := [(4, vi 0), (0, vr l0), (1, vi l1), (2, vi l2), (3, vi l3)]) rfl ?_
    refine wm_iconst hC dX3_letterOf_26 (k := ?_)
    refine wm_istore hC dX3_letterOf_27 (by decide) (L2 := [(5, vi 0), (4, vi 0), (0, vr l0), (1, vi l1), (2, vi l2), (3, vi l3)]) rfl ?_
    refine wm_iload hC 1 dX3_letterOf_29 rfl ?_
    refine wm_istore hC dX3_letterOf_31 (by decide) (L2 := [(6, vi 0), (5, vi 0), (4, vi 0), (0, vr l0), (1, vi l1), (2, vi l2), (3, vi l3)]) rfl ?_
    obtain ⟨f, hw⟩ := hw
    refine wm_sub [6, 2, 1, 0] (L2 := [(3, vi l3), (4, vi 0), (5, vi 0), (6, vi 0)]) rfl ?_
    exact W3_letterOf_b33 hC hRm hE  f _ _ hw
  · refine wm_aload_n hC 0 dX3_letterOf_9 rfl (k_ne0 hk0 (by decide)) ?_
    refine x_getR2 hC 1 fl_X3_15 rfl hk0 dX3_letterOf_10 hw (fun g1 hw => ?_)
    refine wm_iload_n hC 1 dX3_letterOf_13 rfl ?_
    refine wm_bipush hC dX3_letterOf_14 (k := ?_)
    refine x_imul hC dX3_letterOf_16 hw (fun hw => ?_)
    refine wm_iload_n hC 2 dX3_letterOf_17 rfl ?_
    refine x_iadd hC dX3_letterOf_18 hw (fun hw => ?_)
    refine x_iald hC g1 dX3_letterOf_19 hw (fun hw => ?_)
    refine wm_goto (tgt := 24) hC dX3_letterOf_20 (by decide) ?_
    refine x_nameI hw (fun x1 hw => ?_)
    refine wm_istore hC dX3_letterOf_24 (by decide) (L2 := [(4, vi x1), (0, vr l0), (1, vi l1), (2, vi l2), (3, vi l3)]) rfl ?_
    refine wm_iconst hC dX3_letterOf_26 (k := ?_)
    refine wm_istore hC dX3_letterOf_27 (by decide) (L2 := [(5, vi 0), (4, vi x1), (0, vr l0), (1, vi l1), (2, vi l2), (3, vi l3)]) rfl ?_
    refine wm_iload hC 1 dX3_letterOf_29 rfl ?_
    refine wm_istore hC dX3_letterOf_31 (by decide) (L2 := [(6, vi x1), (5, vi 0), (4, vi x1), (0, vr l0), (1, vi l1), (2, vi l2), (3, vi l3)]) rfl ?_
    obtain ⟨f, hw⟩ := hw
    refine wm_sub [6, 2, 1, 0] (L2 := [(3, vi l3), (4, vi x1), (5, vi 0), (6, vi x1)]) rfl ?_
    exact W3_letterOf_b33 hC hRm hE  f _ _ hw
def P3_clashesBelow_b5_body (l0 : Nat) (l1 : Nat) (l2 : Int) (I : mI) (R : mR) (Q : Int → Prop) (k5 : Int → Int → Prop) (l3 : Int) (l4 : Int) : Prop := (if l2 ≤ l4 then (Q l3) else (if (kN l1 : Int) ≤ l2 then (Q l3) else (kK (R l0 3) = 21 ∧ (((0 : Int) ≤ l2 ∧ l2 < (kN (R l0 3) : Int)) ∧ (if (bAnd (bShr (I (R l0 3) l2) l4) 1) = 1 then (((0 : Int) ≤ l2 ∧ l2 < (kN l1 : Int)) ∧ (if (I l1 l2) = (-1) then (rg (l4 + 1) ∧ (k5 l3 (l4 + 1))) else (((0 : Int) ≤ l2 ∧ l2 < (kN l1 : Int)) ∧ (((0 : Int) ≤ l4 ∧ l4 < (kN l1 : Int)) ∧ (if (I l1 l2) = (I l1 l4) then (rg (l3 + 1) ∧ (rg (l4 + 1) ∧ (k5 (l3 + 1) (l4 + 1)))) else (rg (l4 + 1) ∧ (k5 l3 (l4 + 1)))))))) else (rg (l4 + 1) ∧ (k5 l3 (l4 + 1))))))))
def P3_clashesBelow_b5 (l0 : Nat) (l1 : Nat) (l2 : Int) (I : mI) (R : mR) (Q : Int → Prop) : Nat → Int → Int → Prop
  | 0 => fun _ _ => False
  | f + 1 => fun l3 l4 => P3_clashesBelow_b5_body l0 l1 l2 I R Q (P3_clashesBelow_b5 l0 l1 l2 I R Q f) l3 l4
set_option maxRecDepth 20000 in
theorem W3_clashesBelow_b5_body {C : wX} {ad : Nat → Nat} {n : Nat} {I J : mI} {R : mR} {Q : Int → Prop} (hC : wOK C cX3_clashesBelow 5 RX3) (hRm : wRm C 1 12 0 0) (hE : wEnd C (some .int) ad n (fun r I' J' R' => (I' = I ∧ J' = J ∧ R' = R) ∧ Q r)) {l0 : Nat} {l1 : Nat} {l2 : Int} {l3 : Int} {l4 : Int}   (hk0 : kK l0 = 3) (hk1 : kK l1 = 21)  {k5 : Int → Int → Prop} (kk5 : ∀ (y3 : Int) (y4 : Int), k5 y3 y4 → WM C ad n I J R 0 0 5 [(0, vr l0), (1, vr l1), (2, vi l2), (3, vi y3), (4, vi y4)] []) (hw : P3_clashesBelow_b5_body l0 l1 l2 I R Q k5 l3 l4) : WM C ad n I J R 0 0 5 [(0, vr l0), (1, vr l1), (2, vi l2), (3, vi l3), (4, vi l4)] [] := by
  unfold P3_clashesBelow_b5_body at hw
  refine wm_iload hC 4 dX3_clashesBelow_5 rfl ?_
  refine wm_iload_n hC 2 dX3_clashesBelow_7 rfl ?_
  refine wm_icmp_ge (tgt := 58) hC dX3_clashesBelow_8 (by decide) hw (fun hw => ?_) (fun hw => ?_)
  · refine wm_iload_n hC 3 dX3_clashesBelow_58 rfl ?_
    exact wm_ireturn hC hE dX3_clashesBelow_59 ⟨⟨rfl, rfl, rfl⟩, hw⟩
  · refine wm_iload_n hC 2 dX3_clashesBelow_11 rfl ?_
    refine wm_aload_n hC 1 dX3_clashesBelow_12 rfl (k_ne0 hk1 (by decide)) ?_
    refine x_alen hC hk1 (by decide) dX3_clashesBelow_13 ?_
    refine wm_icmp_ge (tgt := 58) hC dX3_clashesBelow_14 (by decide) hw (fun hw => ?_) (fun hw => ?_)
    · refine wm_iload_n hC 3 dX3_clashesBelow_58 rfl ?_
      exact wm_ireturn hC hE dX3_clashesBelow_59 ⟨⟨rfl, rfl, rfl⟩, hw⟩
    · refine wm_aload_n hC 0 dX3_clashesBelow_17 rfl (k_ne0 hk0 (by decide)) ?_
      refine x_getR2 hC 3 fl_X3_21 rfl hk0 dX3_clashesBelow_18 hw (fun g1 hw => ?_)
      refine wm_iload_n hC 2 dX3_clashesBelow_21 rfl ?_
      refine x_iald hC g1 dX3_clashesBelow_22 hw (fun hw => ?_)
      refine wm_iload hC 4 dX3_clashesBelow_23 rfl ?_
      refine wm_ishr hC dX3_clashesBelow_25 ?_
      refine wm_iconst hC dX3_clashesBelow_26 (k := ?_)
      refine wm_iand hC dX3_clashesBelow_27 ?_
      refine wm_iconst hC dX3_clashesBelow_28 (k := ?_)
      refine wm_icmp_ne (tgt := 52) hC dX3_clashesBelow_29 (by decide) hw (fun hw => ?_) (fun hw => ?_)
      · refine wm_aload_n hC 1 dX3_clashesBelow_32 rfl (k_ne0 hk1 (by decide)) ?_
        refine wm_iload_n hC 2 dX3_clashesBelow_33 rfl ?_
        refine x_iald hC hk1 dX3_clashesBelow_34 hw (fun hw => ?_)
        refine wm_iconst hC dX3_clashesBelow_35 (k := ?_)
        refine wm_icmp_eq (tgt := 52) hC dX3_clashesBelow_36 (by decide) hw (fun hw => ?_) (fun hw => ?_)
        · refine x_iinc hC 4 dX3_clashesBelow_52 rfl (by decide) (L2 := [(4, vi (l4 + 1)), (0, vr l0), (1, vr l1), (2, vi l2), (3, vi l3)]) rfl hw (fun hw => ?_)
          refine wm_goto (tgt := 5) hC dX3_clashesBelow_55 (by decide) ?_
          refine wm_sub [1, 2, 3, 4, 0] (L2 := [(0, vr l0), (1, vr l1), (2, vi l2), (3, vi l3), (4, vi (l4 + 1))]) rfl ?_
          exact kk5 _ _ hw
        · refine wm_aload_n hC 1 dX3_clashesBelow_39 rfl (k_ne0 hk1 (by decide)) ?_
          refine wm_iload_n hC 2 dX3_clashesBelow_40 rfl ?_
          refine x_iald hC hk1 dX3_clashesBelow_41 hw (fun hw => ?_)
          refine wm_aload_n hC 1 dX3_clashesBelow_42 rfl (k_ne0 hk1 (by decide)) ?_
          refine wm_iload hC 4 dX3_clashesBelow_43 rfl ?_
          refine x_iald hC hk1 dX3_clashesBelow_45 hw (fun hw => ?_)
          refine wm_icmp_ne (tgt := 52) hC dX3_clashesBelow_46 (by decide) hw (fun hw => ?_) (fun hw => ?_)
          · refine x_iinc hC 3 dX3_clashesBelow_49 rfl (by decide) (L2 := [(3, vi (l3 + 1)), (0, vr l0), (1, vr l1), (2, vi l2), (4, vi l4)]) rfl hw (fun hw => ?_)
            refine x_iinc hC 4 dX3_clashesBelow_52 rfl (by decide) (L2 := [(4, vi (l4 + 1)), (3, vi (l3 + 1)), (0, vr l0), (1, vr l1), (2, vi l2)]) rfl hw (fun hw => ?_)
            refine wm_goto (tgt := 5) hC dX3_clashesBelow_55 (by decide) ?_
            refine wm_sub [2, 3, 4, 1, 0] (L2 := [(0, vr l0), (1, vr l1), (2, vi l2), (3, vi (l3 + 1)), (4, vi (l4 + 1))]) rfl ?_
            exact kk5 _ _ hw
          · refine x_iinc hC 4 dX3_clashesBelow_52 rfl (by decide) (L2 := [(4, vi (l4 + 1)), (0, vr l0), (1, vr l1), (2, vi l2), (3, vi l3)]) rfl hw (fun hw => ?_)
            refine wm_goto (tgt := 5) hC dX3_clashesBelow_55 (by decide) ?_
            refine wm_sub [1, 2, 3, 4, 0] (L2 := [(0, vr l0), (1, vr l1), (2, vi l2), (3, vi l3), (4, vi (l4 + 1))]) rfl ?_
            exact kk5 _ _ hw
      · refine x_iinc hC 4 dX3_clashesBelow_52 rfl (by decide) (L2 := [(4, vi (l4 + 1)), (0, vr l0), (1, vr l1), (2, vi l2), (3, vi l3)]) rfl hw (fun hw => ?_)
        refine wm_goto (tgt := 5) hC dX3_clashesBelow_55 (by decide) ?_
        refine wm_sub [1, 2, 3, 4, 0] (L2 := [(0, vr l0), (1, vr l1), (2, vi l2), (3, vi l3), (4, vi (l4 + 1))]) rfl ?_
        exact kk5 _ _ hw
set_option maxRecDepth 20000 in
theorem W3_clashesBelow_b5 {C : wX} {ad : Nat → Nat} {n : Nat} {I J : mI} {R : mR} {Q : Int → Prop} (hC : wOK C cX3_clashesBelow 5 RX3) (hRm : wRm C 1 12 0 0) (hE : wEnd C (some .int) ad n (fun r I' J' R' => (I' = I ∧ J' = J ∧ R' = R) ∧ Q r)) {l0 : Nat} {l1 : Nat} {l2 : Int}   (hk0 : kK l0 = 3) (hk1 : kK l1 = 21)  : ∀ (f : Nat) (l3 : Int) (l4 : Int), P3_clashesBelow_b5 l0 l1 l2 I R Q f l3 l4 → WM C ad n I J R 0 0 5 [(0, vr l0), (1, vr l1), (2, vi l2), (3, vi l3), (4, vi l4)] [] := by
  intro f
  induction f with
  | zero => intro l3 l4 hw; exact hw.elim
  | succ f ih => intro l3 l4 hw; exact W3_clashesBelow_b5_body hC hRm hE hk0 hk1 (fun a0 a1 hw => ih a0 a1 hw) hw
def P3_clashesBelow (l0 : Nat) (l1 : Nat) (l2 : Int) (I : mI) (R : mR) (Q : Int → Prop) : Prop := (∃ f, P3_clashesBelow_b5 l0 l1 l2 I R Q f 0 0)
set_option maxRecDepth 20000 in
theorem C3_clashesBelow {ad : Nat → Nat} {n : Nat} {I J : mI} {R : mR} {Q : Int → Prop}  {l0 : Nat} {l1 : Nat} {l2 : Int} (hk0 : kK l0 = 3) (hk1 : kK l1 = 21) (hw : P3_clashesBelow l0 l1 l2 I R Q) : wMet yX3_clashesBelow cX3_clashesBelow 5 (some .int) 1 12 false ad n I J R [vr l0, vr l1, vi l2] (fun r I' J' R' => (I' = I ∧ J' = J ∧ R' = R) ∧ Q r) := by
  refine wMet_of (by decide) (Nat.le_of_ble_eq_true rfl) (fun C hC hRm hE hS => ?_)
  refine (show WM C ad n I J R 0 0 0 [(0, vr l0), (1, vr l1), (2, vi l2)] [] from ?_)
  unfold P3_clashesBelow at hw
  refine wm_iconst hC dX3_clashesBelow_0 (k := ?_)
  refine wm_istore_n hC dX3_clashesBelow_1 (by decide) (L2 := [(3, vi 0), (0, vr l0), (1, vr l1), (2, vi l2)]) rfl ?_
  refine wm_iconst hC dX3_clashesBelow_2 (k := ?_)
  refine wm_istore hC dX3_clashesBelow_3 (by decide) (L2 := [(4, vi 0), (3, vi 0), (0, vr l0), (1, vr l1), (2, vi l2)]) rfl ?_
  obtain ⟨f, hw⟩ := hw
  refine wm_sub [2, 3, 4, 1, 0] (L2 := [(0, vr l0), (1, vr l1), (2, vi l2), (3, vi 0), (4, vi 0)]) rfl ?_
  exact W3_clashesBelow_b5 hC hRm hE hk0 hk1 f _ _ hw
def P3_clashes_b4_body (l0 : Nat) (l1 : Nat) (I : mI) (R : mR) (Q : Int → Prop) (k4 : Int → Int → Prop) (l2 : Int) (l3 : Int) : Prop := (kK (R l0 0) = 21 ∧ (((0 : Int) ≤ (2 : Int) ∧ (2 : Int) < (kN (R l0 0) : Int)) ∧ (if (I (R l0 0) (2 : Int)) ≤ l3 then (Q l2) else (P3_clashesBelow l0 l1 l3 I R (fun r1 => (rg (l2 + r1) ∧ (rg (l3 + 1) ∧ (k4 (l2 + r1) (l3 + 1)))))))))
def P3_clashes_b4 (l0 : Nat) (l1 : Nat) (I : mI) (R : mR) (Q : Int → Prop) : Nat → Int → Int → Prop
  | 0 => fun _ _ => False
  | f + 1 => fun l2 l3 => P3_clashes_b4_body l0 l1 I R Q (P3_clashes_b4 l0 l1 I R Q f) l2 l3
set_option maxRecDepth 20000 in
theorem W3_clashes_b4_body {C : wX} {ad : Nat → Nat} {n : Nat} {I J : mI} {R : mR} {Q : Int → Prop} (hC : wOK C cX3_clashes 4 RX3) (hRm : wRm C 2 36 0 0) (hE : wEnd C (some .int) ad n (fun r I' J' R' => (I' = I ∧ J' = J ∧ R' = R) ∧ Q r)) {l0 : Nat} {l1 : Nat} {l2 : Int} {l3 : Int}   (hk0 : kK l0 = 3) (hk1 : kK l1 = 21)  {k4 : Int → Int → Prop} (kk4 : ∀ (y2 : Int) (y3 : Int), k4 y2 y3 → WM C ad n I J R 0 0 4 [(0, vr l0), (1, vr l1), (2, vi y2), (3, vi y3)] []) (hw : P3_clashes_b4_body l0 l1 I R Q k4 l2 l3) : WM C ad n I J R 0 0 4 [(0, vr l0), (1, vr l1), (2, vi l2), (3, vi l3)] [] := by
  unfold P3_clashes_b4_body at hw
  refine wm_iload_n hC 3 dX3_clashes_4 rfl ?_
  refine wm_aload_n hC 0 dX3_clashes_5 rfl (k_ne0 hk0 (by decide)) ?_
  refine x_getR2 hC 0 fl_X3_9 rfl hk0 dX3_clashes_6 hw (fun g1 hw => ?_)
  refine wm_iconst hC dX3_clashes_9 (k := ?_)
  refine x_iald hC g1 dX3_clashes_10 hw (fun hw => ?_)
  refine wm_icmp_ge (tgt := 29) hC dX3_clashes_11 (by decide) hw (fun hw => ?_) (fun hw => ?_)
  · refine wm_iload_n hC 2 dX3_clashes_29 rfl ?_
    exact wm_ireturn hC hE dX3_clashes_30 ⟨⟨rfl, rfl, rfl⟩, hw⟩
  · refine wm_iload_n hC 2 dX3_clashes_14 rfl ?_
    refine wm_aload_n hC 0 dX3_clashes_15 rfl (k_ne0 hk0 (by decide)) ?_
    refine wm_aload_n hC 1 dX3_clashes_16 rfl (k_ne0 hk1 (by decide)) ?_
    refine wm_iload_n hC 3 dX3_clashes_17 rfl ?_
    refine y_callV_i_n hC hRm noS ml_X3_66 hk0 (C3_clashesBelow hk0 hk1 hw) (Nat.le_of_ble_eq_true rfl) (Nat.le_of_ble_eq_true rfl) ⟨Nat.zero_le _, Nat.zero_le _⟩ rfl (st := [vi l2]) rfl (Nat.le_of_ble_eq_true rfl) dX3_clashes_18 (fun r1 hw => ?_)
    refine x_iadd hC dX3_clashes_21 hw (fun hw => ?_)
    refine wm_istore_n hC dX3_clashes_22 (by decide) (L2 := [(2, vi (l2 + r1)), (0, vr l0), (1, vr l1), (3, vi l3)]) rfl ?_
    refine x_iinc hC 3 dX3_clashes_23 rfl (by decide) (L2 := [(3, vi (l3 + 1)), (2, vi (l2 + r1)), (0, vr l0), (1, vr l1)]) rfl hw (fun hw => ?_)
    refine wm_goto (tgt := 4) hC dX3_clashes_26 (by decide) ?_
    refine wm_sub [2, 3, 1, 0] (L2 := [(0, vr l0), (1, vr l1), (2, vi (l2 + r1)), (3, vi (l3 + 1))]) rfl ?_
    exact kk4 _ _ hw
set_option maxRecDepth 20000 in
theorem W3_clashes_b4 {C : wX} {ad : Nat → Nat} {n : Nat} {I J : mI} {R : mR} {Q : Int → Prop} (hC : wOK C cX3_clashes 4 RX3) (hRm : wRm C 2 36 0 0) (hE : wEnd C (some .int) ad n (fun r I' J' R' => (I' = I ∧ J' = J ∧ R' = R) ∧ Q r)) {l0 : Nat} {l1 : Nat}   (hk0 : kK l0 = 3) (hk1 : kK l1 = 21)  : ∀ (f : Nat) (l2 : Int) (l3 : Int), P3_clashes_b4 l0 l1 I R Q f l2 l3 → WM C ad n I J R 0 0 4 [(0, vr l0), (1, vr l1), (2, vi l2), (3, vi l3)] [] := by
  intro f
  induction f with
  | zero => intro l2 l3 hw; exact hw.elim
  | succ f ih => intro l2 l3 hw; exact W3_clashes_b4_body hC hRm hE hk0 hk1 (fun a0 a1 hw => ih a0 a1 hw) hw
def P3_clashes (l0 : Nat) (l1 : Nat) (I : mI) (R : mR) (Q : Int → Prop) : Prop := (∃ f, P3_clashes_b4 l0 l1 I R Q f 0 0)
set_option maxRecDepth 20000 in
theorem C3_clashes {ad : Nat → Nat} {n : Nat} {I J : mI} {R : mR} {Q : Int → Prop}  {l0 : Nat} {l1 : Nat} (hk0 : kK l0 = 3) (hk1 : kK l1 = 21) (hw : P3_clashes l0 l1 I R Q) : wMet yX3_clashes cX3_clashes 4 (some .int) 2 36 false ad n I J R [vr l0, vr l1] (fun r I' J' R' => (I' = I ∧ J' = J ∧ R' = R) ∧ Q r) := by
  refine wMet_of (by decide) (Nat.le_of_ble_eq_true rfl) (fun C hC hRm hE hS => ?_)
  refine (show WM C ad n I J R 0 0 0 [(0, vr l0), (1, vr l1)] [] from ?_)
  unfold P3_clashes at hw
  refine wm_iconst hC dX3_clashes_0 (k := ?_)
  refine wm_istore_n hC dX3_clashes_1 (by decide) (L2 := [(2, vi 0), (0, vr l0), (1, vr l1)]) rfl ?_
  refine wm_iconst hC dX3_clashes_2 (k := ?_)
  refine wm_istore_n hC dX3_clashes_3 (by decide) (L2 := [(3, vi 0), (2, vi 0), (0, vr l0), (1, vr l1)]) rfl ?_
  obtain ⟨f, hw⟩ := hw
  refine wm_sub [2, 3, 1, 0] (L2 := [(0, vr l0), (1, vr l1), (2, vi 0), (3, vi 0)]) rfl ?_
  exact W3_clashes_b4 hC hRm hE hk0 hk1 f _ _ hw
def PJ6_bitCount_0f7a4 (l0 : Int)  (Q : Int → Prop) : Prop := (rg (l0 - (bAnd (bUshr l0 1) 1431655765)) ∧ (wLet (l0 - (bAnd (bUshr l0 1) 1431655765)) (fun x1 => (rg ((bAnd x1 858993459) + (bAnd (bUshr x1 2) 858993459)) ∧ (wLet ((bAnd x1 858993459) + (bAnd (bUshr x1 2) 858993459)) (fun x2 => (rg (x2 + (bUshr x2 4)) ∧ (wLet (bAnd (x2 + (bUshr x2 4)) 252645135) (fun x3 => (rg (x3 + (bUshr x3 8)) ∧ (rg ((x3 + (bUshr x3 8)) + (bUshr (x3 + (bUshr x3 8)) 16)) ∧ (wLet ((x3 + (bUshr x3 8)) + (bUshr (x3 + (bUshr x3 8)) 16)) (fun x4 => (Q (bAnd x4 63)))))))))))))))
set_option maxRecDepth 20000 in
theorem CJ6_bitCount_0f7a4 {ad : Nat → Nat} {n : Nat} {I J : mI} {R : mR} {Q : Int → Prop}  {l0 : Int}  (hw : PJ6_bitCount_0f7a4 l0 Q) : wMet yJ6_bitCount_0f7a4 cJ6_bitCount_0f7a4 1 (some .int) 1 12 false ad n I J R [vi l0] (fun r I' J' R' => (I' = I ∧ J' = J ∧ R' = R) ∧ Q r) := by
  refine wMet_of (by decide) (Nat.le_of_ble_eq_true rfl) (fun C hC hRm hE hS => ?_)
  refine (show WM C ad n I J R 0 0 0 [(0, vi l0)] [] from ?_)
  unfold PJ6_bitCount_0f7a4 at hw
  refine wm_iload_n hC 0 dJ6_bitCount_0f7a4_0 rfl ?_
  refine wm_iload_n hC 0 dJ6_bitCount_0f7a4_1 rfl ?_
  refine wm_iconst hC dJ6_bitCount_0f7a4_2 (k := ?_)
  refine wm_iushr2 hC dJ6_bitCount_0f7a4_3 ?_
  refine wm_ldcw hC (x := 1431655765) tc_J6_265 rfl dJ6_bitCount_0f7a4_4 (k := ?_)
  refine wm_iand hC dJ6_bitCount_0f7a4_7 ?_
  refine x_isub hC dJ6_bitCount_0f7a4_8 hw (fun hw => ?_)
  refine x_nameI hw (fun x1 hw => ?_)
  refine wm_istore_n hC dJ6_bitCount_0f7a4_9 (by decide) (L2 := [(0, vi x1)]) rfl ?_
  refine wm_iload_n hC 0 dJ6_bitCount_0f7a4_10 rfl ?_
  refine wm_ldcw hC (x := 858993459) tc_J6_266 rfl dJ6_bitCount_0f7a4_11 (k := ?_)
  refine wm_iand hC dJ6_bitCount_0f7a4_14 ?_
  refine wm_iload_n hC 0 dJ6_bitCount_0f7a4_15 rfl ?_
  refine wm_iconst hC dJ6_bitCount_0f7a4_16 (k := ?_)
  refine wm_iushr2 hC dJ6_bitCount_0f7a4_17 ?_
  refine wm_ldcw hC (x := 858993459) tc_J6_266 rfl dJ6_bitCount_0f7a4_18 (k := ?_)
  refine wm_iand hC dJ6_bitCount_0f7a4_21 ?_
  refine x_iadd hC dJ6_bitCount_0f7a4_22 hw (fun hw => ?_)
  refine x_nameI hw (fun x2 hw => ?_)
  refine wm_istore_n hC dJ6_bitCount_0f7a4_23 (by decide) (L2 := [(0, vi x2)]) rfl ?_
  refine wm_iload_n hC 0 dJ6_bitCount_0f7a4_24 rfl ?_
  refine wm_iload_n hC 0 dJ6_bitCount_0f7a4_25 rfl ?_
  refine wm_iconst hC dJ6_bitCount_0f7a4_26 (k := ?_)
  refine wm_iushr2 hC dJ6_bitCount_0f7a4_27 ?_
  refine x_iadd hC dJ6_bitCount_0f7a4_28 hw (fun hw => ?_)
  refine wm_ldcw hC (x := 252645135) tc_J6_267 rfl dJ6_bitCount_0f7a4_29 (k := ?_)
  refine wm_iand hC dJ6_bitCount_0f7a4_32 ?_
  refine x_nameI hw (fun x3 hw => ?_)
  refine wm_istore_n hC dJ6_bitCount_0f7a4_33 (by decide) (L2 := [(0, vi x3)]) rfl ?_
  refine wm_iload_n hC 0 dJ6_bitCount_0f7a4_34 rfl ?_
  refine wm_iload_n hC 0 dJ6_bitCount_0f7a4_35 rfl ?_
  refine wm_bipush hC dJ6_bitCount_0f7a4_36 (k := ?_)
  refine wm_iushr2 hC dJ6_bitCount_0f7a4_38 ?_
  refine x_iadd hC dJ6_bitCount_0f7a4_39 hw (fun hw => ?_)
  refine wm_istore_n hC dJ6_bitCount_0f7a4_40 (by decide) (L2 := [(0, vi (x3 + (bUshr x3 8)))]) rfl ?_
  refine wm_iload_n hC 0 dJ6_bitCount_0f7a4_41 rfl ?_
  refine wm_iload_n hC 0 dJ6_bitCount_0f7a4_42 rfl ?_
  refine wm_bipush hC dJ6_bitCount_0f7a4_43 (k := ?_)
  refine wm_iushr2 hC dJ6_bitCount_0f7a4_45 ?_
  refine x_iadd hC dJ6_bitCount_0f7a4_46 hw (fun hw => ?_)
  refine x_nameI hw (fun x4 hw => ?_)
  refine wm_istore_n hC dJ6_bitCount_0f7a4_47 (by decide) (L2 := [(0, vi x4)]) rfl ?_
  refine wm_iload_n hC 0 dJ6_bitCount_0f7a4_48 rfl ?_
  refine wm_bipush hC dJ6_bitCount_0f7a4_49 (k := ?_)
  refine wm_iand hC dJ6_bitCount_0f7a4_51 ?_
  exact wm_ireturn hC hE dJ6_bitCount_0f7a4_52 ⟨⟨rfl, rfl, rfl⟩, hw⟩
abbrev RTcc : Type := Nat → Nat → Int → Int → mI → mR → (Int → mI → Prop) → Prop
def P3_canClear_b56_body (rc : RTcc) (l0 : Nat) (l1 : Nat) (l2 : Int) (l3 : Int) (R : mR) (Q : Int → mI → Prop) (k56 : Int → mI → Prop) (l4 : Int) (I : mI) : Prop := (kK (R l0 0) = 21 ∧ (((0 : Int) ≤ (1 : Int) ∧ (1 : Int) < (kN (R l0 0) : Int)) ∧ (if (I (R l0 0) (1 : Int)) ≤ l4 then (Q 0 I) else (((0 : Int) ≤ l3 ∧ l3 < (kN l1 : Int)) ∧ wLet (up I l1 l3 l4) (fun I2 => (P3_clashesBelow l0 l1 l3 I2 R (fun r3 => (if r3 = 0 then (rg (l3 + 1) ∧ (rc l0 l1 l2 (l3 + 1) I2 R (fun r4 I3 => (if r4 = 0 then (rg (l4 + 1) ∧ (k56 (l4 + 1) I3)) else (Q 1 I3))))) else (rg (l4 + 1) ∧ (k56 (l4 + 1) I2))))))))))
def P3_canClear_b56 (rc : RTcc) (l0 : Nat) (l1 : Nat) (l2 : Int) (l3 : Int) (R : mR) (Q : Int → mI → Prop) : Nat → Int → mI → Prop
  | 0 => fun _ _ => False
  | f + 1 => fun l4 I => P3_canClear_b56_body rc l0 l1 l2 l3 R Q (P3_canClear_b56 rc l0 l1 l2 l3 R Q f) l4 I
set_option maxRecDepth 20000 in
theorem W3_canClear_b56_body {rc : RTcc} {d : Nat} {C : wX} {ad : Nat → Nat} {n : Nat} {I J : mI} {R : mR} {Q : Int → mI → Prop} (hC : wOK C cX3_canClear 5 RX3) (hRm : wRm C (4 + (d + 1)) (100 + 40 * (d + 1)) 0 0) (hE : wEnd C (some .boolean) ad n (fun r I' J' R' => (J' = J ∧ R' = R) ∧ Q r I')) (hrc0 : ∀ {l0 l1 : Nat} {l2 l3 : Int} {I J : mI} {R : mR} {Q : Int → mI → Prop}, kK l0 = 3 → kK l1 = 21 → rc l0 l1 l2 l3 I R Q → wMet yX3_canClear cX3_canClear 5 (some .boolean) (4 + d) (100 + 40 * d) false ad n I J R [vr l0, vr l1, vi l2, vi l3] (fun r I' J' R' => (J' = J ∧ R' = R) ∧ Q r I')) {l0 : Nat} {l1 : Nat} {l2 : Int} {l3 : Int} {l4 : Int}   (hk0 : kK l0 = 3) (hk1 : kK l1 = 21)  {k56 : Int → mI → Prop} (kk56 : ∀ (y4 : Int) (I' : mI), k56 y4 I' → WM C ad n I' J R 0 0 56 [(0, vr l0), (1, vr l1), (2, vi l2), (3, vi l3), (4, vi y4)] []) (hw : P3_canClear_b56_body rc l0 l1 l2 l3 R Q k56 l4 I) : WM C ad n I J R 0 0 56 [(0, vr l0), (1, vr l1), (2, vi l2), (3, vi l3), (4, vi l4)] [] := by
  unfold P3_canClear_b56_body at hw
  refine wm_iload hC 4 dX3_canClear_56 rfl ?_
  refine wm_aload_n hC 0 dX3_canClear_58 rfl (k_ne0 hk0 (by decide)) ?_
  refine x_getR2 hC 0 fl_X3_9 rfl hk0 dX3_canClear_59 hw (fun g2 hw => ?_)
  refine wm_iconst hC dX3_canClear_62 (k := ?_)
  refine x_iald hC g2 dX3_canClear_63 hw (fun hw => ?_)
  refine wm_icmp_ge (tgt := 101) hC dX3_canClear_64 (by decide) hw (fun hw => ?_) (fun hw => ?_)
  · refine wm_iconst hC dX3_canClear_101 (k := ?_)
    exact wm_zreturn hC hE (Or.inl rfl) dX3_canClear_102 ⟨⟨rfl, rfl⟩, hw⟩
  · refine wm_aload_n hC 1 dX3_canClear_67 rfl (k_ne0 hk1 (by decide)) ?_
    refine wm_iload_n hC 3 dX3_canClear_68 rfl ?_
    refine wm_iload hC 4 dX3_canClear_69 rfl ?_
    refine x_iast hC hk1 dX3_canClear_71 hw (fun I2 hw => ?_)
    refine wm_aload_n hC 0 dX3_canClear_72 rfl (k_ne0 hk0 (by decide)) ?_
    refine wm_aload_n hC 1 dX3_canClear_73 rfl (k_ne0 hk1 (by decide)) ?_
    refine wm_iload_n hC 3 dX3_canClear_74 rfl ?_
    refine y_callV_i_n hC hRm noS ml_X3_66 hk0 (C3_clashesBelow hk0 hk1 hw) (by omega) (by omega) ⟨Nat.zero_le _, Nat.zero_le _⟩ rfl (st := []) rfl (Nat.le_of_ble_eq_true rfl) dX3_canClear_75 (fun r3 hw => ?_)
    refine wm_if_ne (tgt := 95) hC dX3_canClear_78 (by decide) hw (fun hw => ?_) (fun hw => ?_)
    · refine wm_aload_n hC 0 dX3_canClear_81 rfl (k_ne0 hk0 (by decide)) ?_
      refine wm_aload_n hC 1 dX3_canClear_82 rfl (k_ne0 hk1 (by decide)) ?_
      refine wm_iload_n hC 2 dX3_canClear_83 rfl ?_
      refine wm_iload_n hC 3 dX3_canClear_84 rfl ?_
      refine wm_iconst hC dX3_canClear_85 (k := ?_)
      refine x_iadd hC dX3_canClear_86 hw (fun hw => ?_)
      refine y_callS_z_I hC hRm noS ml_X3_82 (hrc0 hk0 hk1 hw) (by omega) (by omega) ⟨Nat.zero_le _, Nat.zero_le _⟩ rfl (st := []) rfl (Nat.le_of_ble_eq_true rfl) dX3_canClear_87 (fun r4 I3 hw => ?_)
      refine wm_if_eq (tgt := 95) hC dX3_canClear_90 (by decide) hw (fun hw => ?_) (fun hw => ?_)
      · refine x_iinc hC 4 dX3_canClear_95 rfl (by decide) (L2 := [(4, vi (l4 + 1)), (0, vr l0), (1, vr l1), (2, vi l2), (3, vi l3)]) rfl hw (fun hw => ?_)
        refine wm_goto (tgt := 56) hC dX3_canClear_98 (by decide) ?_
        refine wm_sub [1, 2, 3, 4, 0] (L2 := [(0, vr l0), (1, vr l1), (2, vi l2), (3, vi l3), (4, vi (l4 + 1))]) rfl ?_
        exact kk56 _ _ hw
      · refine wm_iconst hC dX3_canClear_93 (k := ?_)
        exact wm_zreturn hC hE (Or.inr rfl) dX3_canClear_94 ⟨⟨rfl, rfl⟩, hw⟩
    · refine x_iinc hC 4 dX3_canClear_95 rfl (by decide) (L2 := [(4, vi (l4 + 1)), (0, vr l0), (1, vr l1), (2, vi l2), (3, vi l3)]) rfl hw (fun hw => ?_)
      refine wm_goto (tgt := 56) hC dX3_canClear_98 (by decide) ?_
      refine wm_sub [1, 2, 3, 4, 0] (L2 := [(0, vr l0), (1, vr l1), (2, vi l2), (3, vi l3), (4, vi (l4 + 1))]) rfl ?_
      exact kk56 _ _ hw
set_option maxRecDepth 20000 in
theorem W3_canClear_b56 {rc : RTcc} {d : Nat} {C : wX} {ad : Nat → Nat} {n : Nat} {J : mI} {R : mR} {Q : Int → mI → Prop} (hC : wOK C cX3_canClear 5 RX3) (hRm : wRm C (4 + (d + 1)) (100 + 40 * (d + 1)) 0 0) (hE : wEnd C (some .boolean) ad n (fun r I' J' R' => (J' = J ∧ R' = R) ∧ Q r I')) (hrc0 : ∀ {l0 l1 : Nat} {l2 l3 : Int} {I J : mI} {R : mR} {Q : Int → mI → Prop}, kK l0 = 3 → kK l1 = 21 → rc l0 l1 l2 l3 I R Q → wMet yX3_canClear cX3_canClear 5 (some .boolean) (4 + d) (100 + 40 * d) false ad n I J R [vr l0, vr l1, vi l2, vi l3] (fun r I' J' R' => (J' = J ∧ R' = R) ∧ Q r I')) {l0 : Nat} {l1 : Nat} {l2 : Int} {l3 : Int}   (hk0 : kK l0 = 3) (hk1 : kK l1 = 21)  : ∀ (f : Nat) (l4 : Int) (I : mI), P3_canClear_b56 rc l0 l1 l2 l3 R Q f l4 I → WM C ad n I J R 0 0 56 [(0, vr l0), (1, vr l1), (2, vi l2), (3, vi l3), (4, vi l4)] [] := by
  intro f
  induction f with
  | zero => intro l4 I hw; exact hw.elim
  | succ f ih => intro l4 I hw; exact W3_canClear_b56_body hC hRm hE hrc0 hk0 hk1 (fun a0 a1 hw => ih a0 a1 hw) hw
def P3_canClear (rc : RTcc) (l0 : Nat) (l1 : Nat) (l2 : Int) (l3 : Int) (I : mI) (R : mR) (Q : Int → mI → Prop) : Prop := (kK (R l0 0) = 21 ∧ (((0 : Int) ≤ (2 : Int) ∧ (2 : Int) < (kN (R l0 0) : Int)) ∧ (if (I (R l0 0) (2 : Int)) ≤ l3 then (Q 1 I) else (if l3 < (kN l1 : Int) then (if (bAnd (bShr l2 l3) 1) = 0 then (P3_clashesBelow l0 l1 l3 I R (fun r1 => (if r1 = 0 then (rg (l3 + 1) ∧ (rc l0 l1 l2 (l3 + 1) I R (fun r2 I1 => (if r2 = 0 then (Q 0 I1) else (Q 1 I1))))) else (Q 0 I)))) else (∃ f, P3_canClear_b56 rc l0 l1 l2 l3 R Q f 0 I)) else (Q 1 I)))))
set_option maxRecDepth 20000 in
theorem C3_canClear {ad : Nat → Nat} {n : Nat} {I J : mI} {R : mR} {Q : Int → mI → Prop} {rc : RTcc} {d : Nat}  (hrc0 : ∀ {l0 l1 : Nat} {l2 l3 : Int} {I J : mI} {R : mR} {Q : Int → mI → Prop}, kK l0 = 3 → kK l1 = 21 → rc l0 l1 l2 l3 I R Q → wMet yX3_canClear cX3_canClear 5 (some .boolean) (4 + d) (100 + 40 * d) false ad n I J R [vr l0, vr l1, vi l2, vi l3] (fun r I' J' R' => (J' = J ∧ R' = R) ∧ Q r I')) {l0 : Nat} {l1 : Nat} {l2 : Int} {l3 : Int} (hk0 : kK l0 = 3) (hk1 : kK l1 = 21) (hw : P3_canClear rc l0 l1 l2 l3 I R Q) : wMet yX3_canClear cX3_canClear 5 (some .boolean) (4 + (d + 1)) (100 + 40 * (d + 1)) false ad n I J R [vr l0, vr l1, vi l2, vi l3] (fun r I' J' R' => (J' = J ∧ R' = R) ∧ Q r I') := by
  refine wMet_of (by decide) (Nat.le_of_ble_eq_true rfl) (fun C hC hRm hE hS => ?_)
  refine (show WM C ad n I J R 0 0 0 [(0, vr l0), (1, vr l1), (2, vi l2), (3, vi l3)] [] from ?_)
  unfold P3_canClear at hw
  refine wm_iload_n hC 3 dX3_canClear_0 rfl ?_
  refine wm_aload_n hC 0 dX3_canClear_1 rfl (k_ne0 hk0 (by decide)) ?_
  refine x_getR2 hC 0 fl_X3_9 rfl hk0 dX3_canClear_2 hw (fun g1 hw => ?_)
  refine wm_iconst hC dX3_canClear_5 (k := ?_)
  refine x_iald hC g1 dX3_canClear_6 hw (fun hw => ?_)
  refine wm_icmp_ge (tgt := 16) hC dX3_canClear_7 (by decide) hw (fun hw => ?_) (fun hw => ?_)
  · refine wm_iconst hC dX3_canClear_16 (k := ?_)
    exact wm_zreturn hC hE (Or.inr rfl) dX3_canClear_17 ⟨⟨rfl, rfl⟩, hw⟩
  · refine wm_iload_n hC 3 dX3_canClear_10 rfl ?_
    refine wm_aload_n hC 1 dX3_canClear_11 rfl (k_ne0 hk1 (by decide)) ?_
    refine x_alen hC hk1 (by decide) dX3_canClear_12 ?_
    refine wm_icmp_lt (tgt := 18) hC dX3_canClear_13 (by decide) hw (fun hw => ?_) (fun hw => ?_)
    · refine wm_iload_n hC 2 dX3_canClear_18 rfl ?_
      refine wm_iload_n hC 3 dX3_canClear_19 rfl ?_
      refine wm_ishr hC dX3_canClear_20 ?_
      refine wm_iconst hC dX3_canClear_21 (k := ?_)
      refine wm_iand hC dX3_canClear_22 ?_
      refine wm_if_ne (tgt := 53) hC dX3_canClear_23 (by decide) hw (fun hw => ?_) (fun hw => ?_)
      · refine wm_aload_n hC 0 dX3_canClear_26 rfl (k_ne0 hk0 (by decide)) ?_
        refine wm_aload_n hC 1 dX3_canClear_27 rfl (k_ne0 hk1 (by decide)) ?_
        refine wm_iload_n hC 3 dX3_canClear_28 rfl ?_
        refine y_callV_i_n hC hRm noS ml_X3_66 hk0 (C3_clashesBelow hk0 hk1 hw) (by omega) (by omega) ⟨Nat.zero_le _, Nat.zero_le _⟩ rfl (st := []) rfl (Nat.le_of_ble_eq_true rfl) dX3_canClear_29 (fun r1 hw => ?_)
        refine wm_if_ne (tgt := 51) hC dX3_canClear_32 (by decide) hw (fun hw => ?_) (fun hw => ?_)
        · refine wm_aload_n hC 0 dX3_canClear_35 rfl (k_ne0 hk0 (by decide)) ?_
          refine wm_aload_n hC 1 dX3_canClear_36 rfl (k_ne0 hk1 (by decide)) ?_
          refine wm_iload_n hC 2 dX3_canClear_37 rfl ?_
          refine wm_iload_n hC 3 dX3_canClear_38 rfl ?_
          refine wm_iconst hC dX3_canClear_39 (k := ?_)
          refine x_iadd hC dX3_canClear_40 hw (fun hw => ?_)
          refine y_callS_z_I hC hRm noS ml_X3_82 (hrc0 hk0 hk1 hw) (by omega) (by omega) ⟨Nat.zero_le _, Nat.zero_le _⟩ rfl (st := []) rfl (Nat.le_of_ble_eq_true rfl) dX3_canClear_41 (fun r2 I1 hw => ?_)
          refine wm_if_eq (tgt := 51) hC dX3_canClear_44 (by decide) hw (fun hw => ?_) (fun hw => ?_)
          · refine wm_iconst hC dX3_canClear_51 (k := ?_)
            exact wm_zreturn hC hE (Or.inl rfl) dX3_canClear_52 ⟨⟨rfl, rfl⟩, hw⟩
          · refine wm_iconst hC dX3_canClear_47 (k := ?_)
            refine wm_goto (tgt := 52) hC dX3_canClear_48 (by decide) ?_
            exact wm_zreturn hC hE (Or.inr rfl) dX3_canClear_52 ⟨⟨rfl, rfl⟩, hw⟩
        · refine wm_iconst hC dX3_canClear_51 (k := ?_)
          exact wm_zreturn hC hE (Or.inl rfl) dX3_canClear_52 ⟨⟨rfl, rfl⟩, hw⟩
      · refine wm_iconst hC dX3_canClear_53 (k := ?_)
        refine wm_istore hC dX3_canClear_54 (by decide) (L2 := [(4, vi 0), (0, vr l0), (1, vr l1), (2, vi l2), (3, vi l3)]) rfl ?_
        obtain ⟨f, hw⟩ := hw
        refine wm_sub [1, 2, 3, 4, 0] (L2 := [(0, vr l0), (1, vr l1), (2, vi l2), (3, vi l3), (4, vi 0)]) rfl ?_
        exact W3_canClear_b56 hC hRm hE hrc0 hk0 hk1 f _ _ hw
    · refine wm_iconst hC dX3_canClear_16 (k := ?_)
      exact wm_zreturn hC hE (Or.inr rfl) dX3_canClear_17 ⟨⟨rfl, rfl⟩, hw⟩
def PGcc : Nat → RTcc
  | 0 => fun _ _ _ _ _ _ _ => False
  | d + 1 => fun l0 l1 l2 l3 I R Q => P3_canClear (PGcc d) l0 l1 l2 l3 I R Q
theorem CGcc {ad : Nat → Nat} {n : Nat} : ∀ (d : Nat), ∀ {l0 l1 : Nat} {l2 l3 : Int} {I J : mI} {R : mR} {Q : Int → mI → Prop}, kK l0 = 3 → kK l1 = 21 → PGcc d l0 l1 l2 l3 I R Q → wMet yX3_canClear cX3_canClear 5 (some .boolean) (4 + d) (100 + 40 * d) false ad n I J R [vr l0, vr l1, vi l2, vi l3] (fun r I' J' R' => (J' = J ∧ R' = R) ∧ Q r I') := by
  intro d
  induction d with
  | zero => exact fun _ _ hw => hw.elim
  | succ d ih => exact fun hk hk1 hw => C3_canClear ih hk hk1 hw
theorem CGcc_0 {ad : Nat → Nat} {n : Nat} {l0 l1 : Nat} {l2 l3 : Int} {I J : mI} {R : mR} {Q : Int → mI → Prop} (hk : kK l0 = 3) (hk1 : kK l1 = 21) (hw : PGcc 10 l0 l1 l2 l3 I R Q) : wMet yX3_canClear cX3_canClear 5 (some .boolean) 14 500 false ad n I J R [vr l0, vr l1, vi l2, vi l3] (fun r I' J' R' => (J' = J ∧ R' = R) ∧ Q r I') := CGcc 10 hk hk1 hw
def P3_fewestToClear_b58_body (l0 : Nat) (l1 : Nat) (l2 : Nat) (l3 : Int) (l4 : Int) (l5 : Int) (R : mR) (k49 : Int → mI → Prop) (Q : Int → mI → Prop) (k58 : Int → mI → Prop) (l6 : Int) (I : mI) : Prop := (if l4 < l6 then (rg (l5 + 1) ∧ (k49 (l5 + 1) I)) else (if (bAnd l6 (bXor l4 (-1))) = 0 then (PJ6_bitCount_0f7a4 l6 (fun r1 => (if r1 = l5 then (((0 : Int) ≤ 0 ∧ (0 : Int) ≤ 0 ∧ (0 : Int) ≤ (kN l2 : Int) ∧ (0 : Int) + (kN l2 : Int) ≤ (kN l1 : Int) ∧ (0 : Int) + (kN l2 : Int) ≤ (kN l2 : Int)) ∧ wLet (cpy I l1 0 l2 0 (kN l2 : Int)) (fun I1 => (PGcc 10 l0 l2 l6 0 I1 R (fun r2 I2 => (if r2 = 0 then (rg (l6 + 1) ∧ (k58 (l6 + 1) I2)) else (Q l6 I2)))))) else (rg (l6 + 1) ∧ (k58 (l6 + 1) I))))) else (rg (l6 + 1) ∧ (k58 (l6 + 1) I))))
def P3_fewestToClear_b58 (l0 : Nat) (l1 : Nat) (l2 : Nat) (l3 : Int) (l4 : Int) (l5 : Int) (R : mR) (k49 : Int → mI → Prop) (Q : Int → mI → Prop) : Nat → Int → mI → Prop
  | 0 => fun _ _ => False
  | f + 1 => fun l6 I => P3_fewestToClear_b58_body l0 l1 l2 l3 l4 l5 R k49 Q (P3_fewestToClear_b58 l0 l1 l2 l3 l4 l5 R k49 Q f) l6 I
set_option maxRecDepth 20000 in
theorem W3_fewestToClear_b58_body {C : wX} {ad : Nat → Nat} {n : Nat} {I J : mI} {R : mR} {Q : Int → mI → Prop} (hC : wOK C cX3_fewestToClear 7 RX3) (hRm : wRm C 15 524 0 0) (hE : wEnd C (some .int) ad n (fun r I' J' R' => (J' = J ∧ R' = R) ∧ Q r I')) {l0 : Nat} {l1 : Nat} {l2 : Nat} {l3 : Int} {l4 : Int} {l5 : Int} {l6 : Int}  {k49 : Int → mI → Prop} (hk0 : kK l0 = 3) (hk1 : kK l1 = 21) (hk2 : kK l2 = 21) (kk49 : ∀ (y5 : Int) (I' : mI), k49 y5 I' → WM C ad n I' J R 0 0 49 [(0, vr l0), (1, vr l1), (2, vr l2), (3, vi l3), (4, vi l4), (5, vi y5)] []) {k58 : Int → mI → Prop} (kk58 : ∀ (y6 : Int) (I' : mI), k58 y6 I' → WM C ad n I' J R 0 0 58 [(0, vr l0), (1, vr l1), (2, vr l2), (3, vi l3), (4, vi l4), (5, vi l5), (6, vi y6)] []) (hw : P3_fewestToClear_b58_body l0 l1 l2 l3 l4 l5 R k49 Q k58 l6 I) : WM C ad n I J R 0 0 58 [(0, vr l0), (1, vr l1), (2, vr l2), (3, vi l3), (4, vi l4), (5, vi l5), (6, vi l6)] [] := by
  unfold P3_fewestToClear_b58_body at hw
  refine wm_iload hC 6 dX3_fewestToClear_58 rfl ?_
  refine wm_iload hC 4 dX3_fewestToClear_60 rfl ?_
  refine wm_icmp_gt (tgt := 114) hC dX3_fewestToClear_62 (by decide) hw (fun hw => ?_) (fun hw => ?_)
  · refine x_iinc hC 5 dX3_fewestToClear_114 rfl (by decide) (L2 := [(5, vi (l5 + 1)), (0, vr l0), (1, vr l1), (2, vr l2), (3, vi l3), (4, vi l4), (6, vi l6)]) rfl hw (fun hw => ?_)
    refine wm_goto (tgt := 49) hC dX3_fewestToClear_117 (by decide) ?_
    refine wm_sub [1, 2, 3, 4, 5, 0] (L2 := [(0, vr l0), (1, vr l1), (2, vr l2), (3, vi l3), (4, vi l4), (5, vi (l5 + 1))]) rfl ?_
    exact kk49 _ _ hw
  · refine wm_iload hC 6 dX3_fewestToClear_65 rfl ?_
    refine wm_iload hC 4 dX3_fewestToClear_67 rfl ?_
    refine wm_iconst hC dX3_fewestToClear_69 (k := ?_)
    refine wm_ixor hC dX3_fewestToClear_70 ?_
    refine wm_iand hC dX3_fewestToClear_71 ?_
    refine wm_if_ne (tgt := 108) hC dX3_fewestToClear_72 (by decide) hw (fun hw => ?_) (fun hw => ?_)
    · refine wm_iload hC 6 dX3_fewestToClear_75 rfl ?_
      refine y_callS_i_n hC hRm noS ml_X3_70 (CJ6_bitCount_0f7a4  hw) (Nat.le_of_ble_eq_true rfl) (Nat.le_of_ble_eq_true rfl) ⟨Nat.zero_le _, Nat.zero_le _⟩ rfl (st := []) rfl (Nat.le_of_ble_eq_true rfl) dX3_fewestToClear_77 (fun r1 hw => ?_)
      refine wm_iload hC 5 dX3_fewestToClear_80 rfl ?_
      refine wm_icmp_ne (tgt := 108) hC dX3_fewestToClear_82 (by decide) hw (fun hw => ?_) (fun hw => ?_)
      · refine wm_aload_n hC 1 dX3_fewestToClear_85 rfl (k_ne0 hk1 (by decide)) ?_
        refine wm_iconst hC dX3_fewestToClear_86 (k := ?_)
        refine wm_aload_n hC 2 dX3_fewestToClear_87 rfl (k_ne0 hk2 (by decide)) ?_
        refine wm_iconst hC dX3_fewestToClear_88 (k := ?_)
        refine wm_aload_n hC 2 dX3_fewestToClear_89 rfl (k_ne0 hk2 (by decide)) ?_
        refine x_alen hC hk2 (by decide) dX3_fewestToClear_90 ?_
        refine x_copyi hC hRm (st := []) hk1 hk2 cw_X3_76 (Nat.le_of_ble_eq_true rfl) (by decide) dX3_fewestToClear_91 hw (fun I1 hw => ?_)
        refine wm_aload_n hC 0 dX3_fewestToClear_94 rfl (k_ne0 hk0 (by decide)) ?_
        refine wm_aload_n hC 2 dX3_fewestToClear_95 rfl (k_ne0 hk2 (by decide)) ?_
        refine wm_iload hC 6 dX3_fewestToClear_96 rfl ?_
        refine wm_iconst hC dX3_fewestToClear_98 (k := ?_)
        refine y_callS_z_I hC hRm noS ml_X3_82 (CGcc_0 hk0 hk2 hw) (Nat.le_of_ble_eq_true rfl) (Nat.le_of_ble_eq_true rfl) ⟨Nat.zero_le _, Nat.zero_le _⟩ rfl (st := []) rfl (Nat.le_of_ble_eq_true rfl) dX3_fewestToClear_99 (fun r2 I2 hw => ?_)
        refine wm_if_eq (tgt := 108) hC dX3_fewestToClear_102 (by decide) hw (fun hw => ?_) (fun hw => ?_)
        · refine x_iinc hC 6 dX3_fewestToClear_108 rfl (by decide) (L2 := [(6, vi (l6 + 1)), (0, vr l0), (1, vr l1), (2, vr l2), (3, vi l3), (4, vi l4), (5, vi l5)]) rfl hw (fun hw => ?_)
          refine wm_goto (tgt := 58) hC dX3_fewestToClear_111 (by decide) ?_
          refine wm_sub [1, 2, 3, 4, 5, 6, 0] (L2 := [(0, vr l0), (1, vr l1), (2, vr l2), (3, vi l3), (4, vi l4), (5, vi l5), (6, vi (l6 + 1))]) rfl ?_
          exact kk58 _ _ hw
        · refine wm_iload hC 6 dX3_fewestToClear_105 rfl ?_
          exact wm_ireturn hC hE dX3_fewestToClear_107 ⟨⟨rfl, rfl⟩, hw⟩
      · refine x_iinc hC 6 dX3_fewestToClear_108 rfl (by decide) (L2 := [(6, vi (l6 + 1)), (0, vr l0), (1, vr l1), (2, vr l2), (3, vi l3), (4, vi l4), (5, vi l5)]) rfl hw (fun hw => ?_)
        refine wm_goto (tgt := 58) hC dX3_fewestToClear_111 (by decide) ?_
        refine wm_sub [1, 2, 3, 4, 5, 6, 0] (L2 := [(0, vr l0), (1, vr l1), (2, vr l2), (3, vi l3), (4, vi l4), (5, vi l5), (6, vi (l6 + 1))]) rfl ?_
        exact kk58 _ _ hw
    · refine x_iinc hC 6 dX3_fewestToClear_108 rfl (by decide) (L2 := [(6, vi (l6 + 1)), (0, vr l0), (1, vr l1), (2, vr l2), (3, vi l3), (4, vi l4), (5, vi l5)]) rfl hw (fun hw => ?_)
      refine wm_goto (tgt := 58) hC dX3_fewestToClear_111 (by decide) ?_
      refine wm_sub [1, 2, 3, 4, 5, 6, 0] (L2 := [(0, vr l0), (1, vr l1), (2, vr l2), (3, vi l3), (4, vi l4), (5, vi l5), (6, vi (l6 + 1))]) rfl ?_
      exact kk58 _ _ hw
set_option maxRecDepth 20000 in
theorem W3_fewestToClear_b58 {C : wX} {ad : Nat → Nat} {n : Nat} {J : mI} {R : mR} {Q : Int → mI → Prop} (hC : wOK C cX3_fewestToClear 7 RX3) (hRm : wRm C 15 524 0 0) (hE : wEnd C (some .int) ad n (fun r I' J' R' => (J' = J ∧ R' = R) ∧ Q r I')) {l0 : Nat} {l1 : Nat} {l2 : Nat} {l3 : Int} {l4 : Int} {l5 : Int}  {k49 : Int → mI → Prop} (hk0 : kK l0 = 3) (hk1 : kK l1 = 21) (hk2 : kK l2 = 21) (kk49 : ∀ (y5 : Int) (I' : mI), k49 y5 I' → WM C ad n I' J R 0 0 49 [(0, vr l0), (1, vr l1), (2, vr l2), (3, vi l3), (4, vi l4), (5, vi y5)] []) : ∀ (f : Nat) (l6 : Int) (I : mI), P3_fewestToClear_b58 l0 l1 l2 l3 l4 l5 R k49 Q f l6 I → WM C ad n I J R 0 0 58 [(0, vr l0), (1, vr l1), (2, vr l2), (3, vi l3), (4, vi l4), (5, vi l5), (6, vi l6)] [] := by
  intro f
  induction f with
  | zero => intro l6 I hw; exact hw.elim
  | succ f ih => intro l6 I hw; exact W3_fewestToClear_b58_body hC hRm hE hk0 hk1 hk2 kk49 (fun a0 a1 hw => ih a0 a1 hw) hw
def P3_fewestToClear_b49_body (l0 : Nat) (l1 : Nat) (l2 : Nat) (l3 : Int) (l4 : Int) (R : mR) (Q : Int → mI → Prop) (k49 : Int → mI → Prop) (l5 : Int) (I : mI) : Prop := (if l3 < l5 then (Q (-1) I) else (∃ f, P3_fewestToClear_b58 l0 l1 l2 l3 l4 l5 R k49 Q f 0 I))
def P3_fewestToClear_b49 (l0 : Nat) (l1 : Nat) (l2 : Nat) (l3 : Int) (l4 : Int) (R : mR) (Q : Int → mI → Prop) : Nat → Int → mI → Prop
  | 0 => fun _ _ => False
  | f + 1 => fun l5 I => P3_fewestToClear_b49_body l0 l1 l2 l3 l4 R Q (P3_fewestToClear_b49 l0 l1 l2 l3 l4 R Q f) l5 I
set_option maxRecDepth 20000 in
theorem W3_fewestToClear_b49_body {C : wX} {ad : Nat → Nat} {n : Nat} {I J : mI} {R : mR} {Q : Int → mI → Prop} (hC : wOK C cX3_fewestToClear 7 RX3) (hRm : wRm C 15 524 0 0) (hE : wEnd C (some .int) ad n (fun r I' J' R' => (J' = J ∧ R' = R) ∧ Q r I')) {l0 : Nat} {l1 : Nat} {l2 : Nat} {l3 : Int} {l4 : Int} {l5 : Int}   (hk0 : kK l0 = 3) (hk1 : kK l1 = 21) (hk2 : kK l2 = 21)  {k49 : Int → mI → Prop} (kk49 : ∀ (y5 : Int) (I' : mI), k49 y5 I' → WM C ad n I' J R 0 0 49 [(0, vr l0), (1, vr l1), (2, vr l2), (3, vi l3), (4, vi l4), (5, vi y5)] []) (hw : P3_fewestToClear_b49_body l0 l1 l2 l3 l4 R Q k49 l5 I) : WM C ad n I J R 0 0 49 [(0, vr l0), (1, vr l1), (2, vr l2), (3, vi l3), (4, vi l4), (5, vi l5)] [] := by
  unfold P3_fewestToClear_b49_body at hw
  refine wm_iload hC 5 dX3_fewestToClear_49 rfl ?_
  refine wm_iload_n hC 3 dX3_fewestToClear_51 rfl ?_
  refine wm_icmp_gt (tgt := 120) hC dX3_fewestToClear_52 (by decide) hw (fun hw => ?_) (fun hw => ?_)
  · refine wm_iconst hC dX3_fewestToClear_120 (k := ?_)
    exact wm_ireturn hC hE dX3_fewestToClear_121 ⟨⟨rfl, rfl⟩, hw⟩
  · refine wm_iconst hC dX3_fewestToClear_55 (k := ?_)
    refine wm_istore hC dX3_fewestToClear_56 (by decide) (L2 := [(6, vi 0), (0, vr l0), (1, vr l1), (2, vr l2), (3, vi l3), (4, vi l4), (5, vi l5)]) rfl ?_
    obtain ⟨f, hw⟩ := hw
    refine wm_sub [1, 2, 3, 4, 5, 6, 0] (L2 := [(0, vr l0), (1, vr l1), (2, vr l2), (3, vi l3), (4, vi l4), (5, vi l5), (6, vi 0)]) rfl ?_
    exact W3_fewestToClear_b58 hC hRm hE hk0 hk1 hk2 kk49 f _ _ hw
set_option maxRecDepth 20000 in
theorem W3_fewestToClear_b49 {C : wX} {ad : Nat → Nat} {n : Nat} {J : mI} {R : mR} {Q : Int → mI → Prop} (hC : wOK C cX3_fewestToClear 7 RX3) (hRm : wRm C 15 524 0 0) (hE : wEnd C (some .int) ad n (fun r I' J' R' => (J' = J ∧ R' = R) ∧ Q r I')) {l0 : Nat} {l1 : Nat} {l2 : Nat} {l3 : Int} {l4 : Int}   (hk0 : kK l0 = 3) (hk1 : kK l1 = 21) (hk2 : kK l2 = 21)  : ∀ (f : Nat) (l5 : Int) (I : mI), P3_fewestToClear_b49 l0 l1 l2 l3 l4 R Q f l5 I → WM C ad n I J R 0 0 49 [(0, vr l0), (1, vr l1), (2, vr l2), (3, vi l3), (4, vi l4), (5, vi l5)] [] := by
  intro f
  induction f with
  | zero => intro l5 I hw; exact hw.elim
  | succ f ih => intro l5 I hw; exact W3_fewestToClear_b49_body hC hRm hE hk0 hk1 hk2 (fun a0 a1 hw => ih a0 a1 hw) hw
def P3_fewestToClear_b13_body (l0 : Nat) (l1 : Nat) (l2 : Nat) (l3 : Int) (I : mI) (R : mR) (Q : Int → mI → Prop) (k13 : Int → Int → Prop) (l4 : Int) (l5 : Int) : Prop := (if l3 ≤ l5 then (∃ f, P3_fewestToClear_b49 l0 l1 l2 l3 l4 R Q f 0 I) else (((0 : Int) ≤ l5 ∧ l5 < (kN l1 : Int)) ∧ (if (I l1 l5) = (-1) then (rg (l5 + 1) ∧ (k13 (bOr l4 0) (l5 + 1))) else (rg (l5 + 1) ∧ (k13 (bOr l4 (bShl 1 l5)) (l5 + 1))))))
def P3_fewestToClear_b13 (l0 : Nat) (l1 : Nat) (l2 : Nat) (l3 : Int) (I : mI) (R : mR) (Q : Int → mI → Prop) : Nat → Int → Int → Prop
  | 0 => fun _ _ => False
  | f + 1 => fun l4 l5 => P3_fewestToClear_b13_body l0 l1 l2 l3 I R Q (P3_fewestToClear_b13 l0 l1 l2 l3 I R Q f) l4 l5
set_option maxRecDepth 20000 in
theorem W3_fewestToClear_b13_body {C : wX} {ad : Nat → Nat} {n : Nat} {I J : mI} {R : mR} {Q : Int → mI → Prop} (hC : wOK C cX3_fewestToClear 7 RX3) (hRm : wRm C 15 524 0 0) (hE : wEnd C (some .int) ad n (fun r I' J' R' => (J' = J ∧ R' = R) ∧ Q r I')) {l0 : Nat} {l1 : Nat} {l2 : Nat} {l3 : Int} {l4 : Int} {l5 : Int}   (hk0 : kK l0 = 3) (hk1 : kK l1 = 21) (hk2 : kK l2 = 21)  {k13 : Int → Int → Prop} (kk13 : ∀ (y4 : Int) (y5 : Int), k13 y4 y5 → WM C ad n I J R 0 0 13 [(0, vr l0), (1, vr l1), (2, vr l2), (3, vi l3), (4, vi y4), (5, vi y5)] []) (hw : P3_fewestToClear_b13_body l0 l1 l2 l3 I R Q k13 l4 l5) : WM C ad n I J R 0 0 13 [(0, vr l0), (1, vr l1), (2, vr l2), (3, vi l3), (4, vi l4), (5, vi l5)] [] := by
  unfold P3_fewestToClear_b13_body at hw
  refine wm_iload hC 5 dX3_fewestToClear_13 rfl ?_
  refine wm_iload_n hC 3 dX3_fewestToClear_15 rfl ?_
  refine wm_icmp_ge (tgt := 46) hC dX3_fewestToClear_16 (by decide) hw (fun hw => ?_) (fun hw => ?_)
  · refine wm_iconst hC dX3_fewestToClear_46 (k := ?_)
    refine wm_istore hC dX3_fewestToClear_47 (by decide) (L2 := [(5, vi 0), (0, vr l0), (1, vr l1), (2, vr l2), (3, vi l3), (4, vi l4)]) rfl ?_
    obtain ⟨f, hw⟩ := hw
    refine wm_sub [1, 2, 3, 4, 5, 0] (L2 := [(0, vr l0), (1, vr l1), (2, vr l2), (3, vi l3), (4, vi l4), (5, vi 0)]) rfl ?_
    exact W3_fewestToClear_b49 hC hRm hE hk0 hk1 hk2 f _ _ hw
  · refine wm_iload hC 4 dX3_fewestToClear_19 rfl ?_
    refine wm_aload_n hC 1 dX3_fewestToClear_21 rfl (k_ne0 hk1 (by decide)) ?_
    refine wm_iload hC 5 dX3_fewestToClear_22 rfl ?_
    refine x_iald hC hk1 dX3_fewestToClear_24 hw (fun hw => ?_)
    refine wm_iconst hC dX3_fewestToClear_25 (k := ?_)
    refine wm_icmp_ne (tgt := 33) hC dX3_fewestToClear_26 (by decide) hw (fun hw => ?_) (fun hw => ?_)
    · refine wm_iconst hC dX3_fewestToClear_29 (k := ?_)
      refine wm_goto (tgt := 37) hC dX3_fewestToClear_30 (by decide) ?_
      refine wm_ior hC dX3_fewestToClear_37 ?_
      refine wm_istore hC dX3_fewestToClear_38 (by decide) (L2 := [(4, vi (bOr l4 0)), (0, vr l0), (1, vr l1), (2, vr l2), (3, vi l3), (5, vi l5)]) rfl ?_
      refine x_iinc hC 5 dX3_fewestToClear_40 rfl (by decide) (L2 := [(5, vi (l5 + 1)), (4, vi (bOr l4 0)), (0, vr l0), (1, vr l1), (2, vr l2), (3, vi l3)]) rfl hw (fun hw => ?_)
      refine wm_goto (tgt := 13) hC dX3_fewestToClear_43 (by decide) ?_
      refine wm_sub [2, 3, 4, 5, 1, 0] (L2 := [(0, vr l0), (1, vr l1), (2, vr l2), (3, vi l3), (4, vi (bOr l4 0)), (5, vi (l5 + 1))]) rfl ?_
      exact kk13 _ _ hw
    · refine wm_iconst hC dX3_fewestToClear_33 (k := ?_)
      refine wm_iload hC 5 dX3_fewestToClear_34 rfl ?_
      refine wm_ishl hC dX3_fewestToClear_36 ?_
      refine wm_ior hC dX3_fewestToClear_37 ?_
      refine wm_istore hC dX3_fewestToClear_38 (by decide) (L2 := [(4, vi (bOr l4 (bShl 1 l5))), (0, vr l0), (1, vr l1), (2, vr l2), (3, vi l3), (5, vi l5)]) rfl ?_
      refine x_iinc hC 5 dX3_fewestToClear_40 rfl (by decide) (L2 := [(5, vi (l5 + 1)), (4, vi (bOr l4 (bShl 1 l5))), (0, vr l0), (1, vr l1), (2, vr l2), (3, vi l3)]) rfl hw (fun hw => ?_)
      refine wm_goto (tgt := 13) hC dX3_fewestToClear_43 (by decide) ?_
      refine wm_sub [2, 3, 4, 5, 1, 0] (L2 := [(0, vr l0), (1, vr l1), (2, vr l2), (3, vi l3), (4, vi (bOr l4 (bShl 1 l5))), (5, vi (l5 + 1))]) rfl ?_
      exact kk13 _ _ hw
set_option maxRecDepth 20000 in
theorem W3_fewestToClear_b13 {C : wX} {ad : Nat → Nat} {n : Nat} {I J : mI} {R : mR} {Q : Int → mI → Prop} (hC : wOK C cX3_fewestToClear 7 RX3) (hRm : wRm C 15 524 0 0) (hE : wEnd C (some .int) ad n (fun r I' J' R' => (J' = J ∧ R' = R) ∧ Q r I')) {l0 : Nat} {l1 : Nat} {l2 : Nat} {l3 : Int}   (hk0 : kK l0 = 3) (hk1 : kK l1 = 21) (hk2 : kK l2 = 21)  : ∀ (f : Nat) (l4 : Int) (l5 : Int), P3_fewestToClear_b13 l0 l1 l2 l3 I R Q f l4 l5 → WM C ad n I J R 0 0 13 [(0, vr l0), (1, vr l1), (2, vr l2), (3, vi l3), (4, vi l4), (5, vi l5)] [] := by
  intro f
  induction f with
  | zero => intro l4 l5 hw; exact hw.elim
  | succ f ih => intro l4 l5 hw; exact W3_fewestToClear_b13_body hC hRm hE hk0 hk1 hk2 (fun a0 a1 hw => ih a0 a1 hw) hw
def P3_fewestToClear (l0 : Nat) (l1 : Nat) (l2 : Nat) (I : mI) (R : mR) (Q : Int → mI → Prop) : Prop := (kK (R l0 0) = 21 ∧ (((0 : Int) ≤ (2 : Int) ∧ (2 : Int) < (kN (R l0 0) : Int)) ∧ (wLet (I (R l0 0) (2 : Int)) (fun x1 => (∃ f, P3_fewestToClear_b13 l0 l1 l2 x1 I R Q f 0 0)))))
set_option maxRecDepth 20000 in
theorem C3_fewestToClear {ad : Nat → Nat} {n : Nat} {I J : mI} {R : mR} {Q : Int → mI → Prop}  {l0 : Nat} {l1 : Nat} {l2 : Nat} (hk0 : kK l0 = 3) (hk1 : kK l1 = 21) (hk2 : kK l2 = 21) (hw : P3_fewestToClear l0 l1 l2 I R Q) : wMet yX3_fewestToClear cX3_fewestToClear 7 (some .int) 15 524 false ad n I J R [vr l0, vr l1, vr l2] (fun r I' J' R' => (J' = J ∧ R' = R) ∧ Q r I') := by
  refine wMet_of (by decide) (Nat.le_of_ble_eq_true rfl) (fun C hC hRm hE hS => ?_)
  refine (show WM C ad n I J R 0 0 0 [(0, vr l0), (1, vr l1), (2, vr l2)] [] from ?_)
  unfold P3_fewestToClear at hw
  refine wm_aload_n hC 0 dX3_fewestToClear_0 rfl (k_ne0 hk0 (by decide)) ?_
  refine x_getR2 hC 0 fl_X3_9 rfl hk0 dX3_fewestToClear_1 hw (fun g1 hw => ?_)
  refine wm_iconst hC dX3_fewestToClear_4 (k := ?_)
  refine x_iald hC g1 dX3_fewestToClear_5 hw (fun hw => ?_)
  refine x_nameI hw (fun x1 hw => ?_)
  refine wm_istore_n hC dX3_fewestToClear_6 (by decide) (L2 := [(3, vi x1), (0, vr l0), (1, vr l1), (2, vr l2)]) rfl ?_
  refine wm_iconst hC dX3_fewestToClear_7 (k := ?_)
  refine wm_istore hC dX3_fewestToClear_8 (by decide) (L2 := [(4, vi 0), (3, vi x1), (0, vr l0), (1, vr l1), (2, vr l2)]) rfl ?_
  refine wm_iconst hC dX3_fewestToClear_10 (k := ?_)
  refine wm_istore hC dX3_fewestToClear_11 (by decide) (L2 := [(5, vi 0), (4, vi 0), (3, vi x1), (0, vr l0), (1, vr l1), (2, vr l2)]) rfl ?_
  obtain ⟨f, hw⟩ := hw
  refine wm_sub [3, 4, 5, 2, 1, 0] (L2 := [(0, vr l0), (1, vr l1), (2, vr l2), (3, vi x1), (4, vi 0), (5, vi 0)]) rfl ?_
  exact W3_fewestToClear_b13 hC hRm hE hk0 hk1 hk2 f _ _ hw
def P4_add (l0 : Nat) (l1 : Nat) (I : mI) (R : mR) (Q : mI → Prop) : Prop := (kK (R l0 0) = 24 ∧ (((0 : Int) ≤ (I l0 1) ∧ (I l0 1) < (kN (R l0 0) : Int)) ∧ kK (R (R l0 0) (I l0 1)) = 7 ∧ (P7_take (R (R l0 0) (I l0 1)) l1 I R (fun I1 => (rg ((I1 l0 1) + 1) ∧ (wLet (up I1 l0 1 (Int.tmod ((I1 l0 1) + 1) 20)) (fun I2 => (if (20 : Int) ≤ (I2 l0 2) then (wLet (up I2 l0 2 20) (fun I3 => (Q I3))) else (rg ((I2 l0 2) + 1) ∧ (wLet (up I2 l0 2 ((I2 l0 2) + 1)) (fun I4 => (Q I4))))))))))))
set_option maxRecDepth 20000 in
theorem C4_add {ad : Nat → Nat} {n : Nat} {I J : mI} {R : mR} {Q : mI → Prop}  {l0 : Nat} {l1 : Nat} (hk0 : kK l0 = 4) (hk1 : kK l1 = 7) (hw : P4_add l0 l1 I R Q) : wMet yX4_add cX4_add 2 none 2 81 false ad n I J R [vr l0, vr l1] (fun _ I' J' R' => (J' = J ∧ R' = R) ∧ Q I') := by
  refine wMet_of (by decide) (Nat.le_of_ble_eq_true rfl) (fun C hC hRm hE hS => ?_)
  refine (show WM C ad n I J R 0 0 0 [(0, vr l0), (1, vr l1)] [] from ?_)
  unfold P4_add at hw
  refine wm_aload_n hC 0 dX4_add_0 rfl (k_ne0 hk0 (by decide)) ?_
  refine x_getR2 hC 0 fl_X4_11 rfl hk0 dX4_add_1 hw (fun g1 hw => ?_)
  refine wm_aload_n hC 0 dX4_add_4 rfl (k_ne0 hk0 (by decide)) ?_
  refine x_getI hC 1 fl_X4_15 rfl hk0 dX4_add_5 ?_
  refine x_aald hC g1 dX4_add_8 hw (fun g2 hw => ?_)
  refine wm_aload_n hC 1 dX4_add_9 rfl (k_ne0 hk1 (by decide)) ?_
  refine y_callV_v_I hC hRm noS ml_X4_23 g2 (C7_take g2 hk1 hw) (Nat.le_of_ble_eq_true rfl) (Nat.le_of_ble_eq_true rfl) ⟨Nat.zero_le _, Nat.zero_le _⟩ rfl (st := []) rfl (Nat.le_of_ble_eq_true rfl) dX4_add_10 (fun I1 hw => ?_)
  refine wm_aload_n hC 0 dX4_add_13 rfl (k_ne0 hk0 (by decide)) ?_
  refine wm_aload_n hC 0 dX4_add_14 rfl (k_ne0 hk0 (by decide)) ?_
  refine x_getI hC 1 fl_X4_15 rfl hk0 dX4_add_15 ?_
  refine wm_iconst hC dX4_add_18 (k := ?_)
  refine x_iadd hC dX4_add_19 hw (fun hw => ?_)
  refine wm_bipush hC dX4_add_20 (k := ?_)
  refine x_iremP hC (by decide) dX4_add_22 ?_
  refine x_putI hC 1 fl_X4_15 rfl hk0 dX4_add_23 hw (fun I2 hw => ?_)
  refine wm_aload_n hC 0 dX4_add_26 rfl (k_ne0 hk0 (by decide)) ?_
  refine wm_aload_n hC 0 dX4_add_27 rfl (k_ne0 hk0 (by decide)) ?_
  refine x_getI hC 2 fl_X4_19 rfl hk0 dX4_add_28 ?_
  refine wm_bipush hC dX4_add_31 (k := ?_)
  refine wm_icmp_ge (tgt := 45) hC dX4_add_33 (by decide) hw (fun hw => ?_) (fun hw => ?_)
  · refine wm_bipush hC dX4_add_45 (k := ?_)
    refine x_putI hC 2 fl_X4_19 rfl hk0 dX4_add_47 hw (fun I3 hw => ?_)
    exact wm_return hC hE dX4_add_50 ⟨⟨rfl, rfl⟩, hw⟩
  · refine wm_aload_n hC 0 dX4_add_36 rfl (k_ne0 hk0 (by decide)) ?_
    refine x_getI hC 2 fl_X4_19 rfl hk0 dX4_add_37 ?_
    refine wm_iconst hC dX4_add_40 (k := ?_)
    refine x_iadd hC dX4_add_41 hw (fun hw => ?_)
    refine wm_goto (tgt := 47) hC dX4_add_42 (by decide) ?_
    refine x_putI hC 2 fl_X4_19 rfl hk0 dX4_add_47 hw (fun I4 hw => ?_)
    exact wm_return hC hE dX4_add_50 ⟨⟨rfl, rfl⟩, hw⟩
def P4_takeBack (l0 : Nat) (l1 : Nat) (I : mI) (R : mR) (Q : mI → Prop) : Prop := (if (I l0 2) ≤ 0 then (Q I) else (rg ((I l0 1) + 20) ∧ (rg (((I l0 1) + 20) - 1) ∧ (wLet (up I l0 1 (Int.tmod (((I l0 1) + 20) - 1) 20)) (fun I1 => (kK (R l0 0) = 24 ∧ (((0 : Int) ≤ (I1 l0 1) ∧ (I1 l0 1) < (kN (R l0 0) : Int)) ∧ kK (R (R l0 0) (I1 l0 1)) = 7 ∧ (P7_take l1 (R (R l0 0) (I1 l0 1)) I1 R (fun I2 => (rg ((I2 l0 2) - 1) ∧ (wLet (up I2 l0 2 ((I2 l0 2) - 1)) (fun I3 => (Q I3)))))))))))))
set_option maxRecDepth 20000 in
theorem C4_takeBack {ad : Nat → Nat} {n : Nat} {I J : mI} {R : mR} {Q : mI → Prop}  {l0 : Nat} {l1 : Nat} (hk0 : kK l0 = 4) (hk1 : kK l1 = 7) (hw : P4_takeBack l0 l1 I R Q) : wMet yX4_takeBack cX4_takeBack 2 none 2 81 false ad n I J R [vr l0, vr l1] (fun _ I' J' R' => (J' = J ∧ R' = R) ∧ Q I') := by
  refine wMet_of (by decide) (Nat.le_of_ble_eq_true rfl) (fun C hC hRm hE hS => ?_)
  refine (show WM C ad n I J R 0 0 0 [(0, vr l0), (1, vr l1)] [] from ?_)
  unfold P4_takeBack at hw
  refine wm_aload_n hC 0 dX4_takeBack_0 rfl (k_ne0 hk0 (by decide)) ?_
  refine x_getI hC 2 fl_X4_19 rfl hk0 dX4_takeBack_1 ?_
  refine wm_if_le (tgt := 46) hC dX4_takeBack_4 (by decide) hw (fun hw => ?_) (fun hw => ?_)
  · exact wm_return hC hE dX4_takeBack_46 ⟨⟨rfl, rfl⟩, hw⟩
  · refine wm_aload_n hC 0 dX4_takeBack_7 rfl (k_ne0 hk0 (by decide)) ?_
    refine wm_aload_n hC 0 dX4_takeBack_8 rfl (k_ne0 hk0 (by decide)) ?_
    refine x_getI hC 1 fl_X4_15 rfl hk0 dX4_takeBack_9 ?_
    refine wm_bipush hC dX4_takeBack_12 (k := ?_)
    refine x_iadd hC dX4_takeBack_14 hw (fun hw => ?_)
    refine wm_iconst hC dX4_takeBack_15 (k := ?_)
    refine x_isub hC dX4_takeBack_16 hw (fun hw => ?_)
    refine wm_bipush hC dX4_takeBack_17 (k := ?_)
    refine x_iremP hC (by decide) dX4_takeBack_19 ?_
    refine x_putI hC 1 fl_X4_15 rfl hk0 dX4_takeBack_20 hw (fun I1 hw => ?_)
    refine wm_aload_n hC 1 dX4_takeBack_23 rfl (k_ne0 hk1 (by decide)) ?_
    refine wm_aload_n hC 0 dX4_takeBack_24 rfl (k_ne0 hk0 (by decide)) ?_
    refine x_getR2 hC 0 fl_X4_11 rfl hk0 dX4_takeBack_25 hw (fun g1 hw => ?_)
    refine wm_aload_n hC 0 dX4_takeBack_28 rfl (k_ne0 hk0 (by decide)) ?_
    refine x_getI hC 1 fl_X4_15 rfl hk0 dX4_takeBack_29 ?_
    refine x_aald hC g1 dX4_takeBack_32 hw (fun g2 hw => ?_)
    refine y_callV_v_I hC hRm noS ml_X4_23 hk1 (C7_take hk1 g2 hw) (Nat.le_of_ble_eq_true rfl) (Nat.le_of_ble_eq_true rfl) ⟨Nat.zero_le _, Nat.zero_le _⟩ rfl (st := []) rfl (Nat.le_of_ble_eq_true rfl) dX4_takeBack_33 (fun I2 hw => ?_)
    refine wm_aload_n hC 0 dX4_takeBack_36 rfl (k_ne0 hk0 (by decide)) ?_
    refine wm_dup hC dX4_takeBack_37 (k := ?_)
    refine x_getI hC 2 fl_X4_19 rfl hk0 dX4_takeBack_38 ?_
    refine wm_iconst hC dX4_takeBack_41 (k := ?_)
    refine x_isub hC dX4_takeBack_42 hw (fun hw => ?_)
    refine x_putI hC 2 fl_X4_19 rfl hk0 dX4_takeBack_43 hw (fun I3 hw => ?_)
    exact wm_return hC hE dX4_takeBack_46 ⟨⟨rfl, rfl⟩, hw⟩
def P5_add (l0 : Nat) (l1 : Int) (I : mI) (R : mR) (Q : mI → Prop) : Prop := (kK (R l0 0) = 21 ∧ (if (kN (R l0 0) : Int) ≤ (I l0 1) then (Q I) else (kK (R l0 0) = 21 ∧ (((0 : Int) ≤ (I l0 1) ∧ (I l0 1) < (kN (R l0 0) : Int)) ∧ wLet (up I (R l0 0) (I l0 1) l1) (fun I1 => (rg ((I1 l0 1) + 1) ∧ (wLet (up I1 l0 1 ((I1 l0 1) + 1)) (fun I2 => (Q I2)))))))))
set_option maxRecDepth 20000 in
theorem C5_add {ad : Nat → Nat} {n : Nat} {I J : mI} {R : mR} {Q : mI → Prop}  {l0 : Nat} {l1 : Int} (hk0 : kK l0 = 5) (hw : P5_add l0 l1 I R Q) : wMet yX5_add cX5_add 2 none 1 12 false ad n I J R [vr l0, vi l1] (fun _ I' J' R' => (J' = J ∧ R' = R) ∧ Q I') := by
  refine wMet_of (by decide) (Nat.le_of_ble_eq_true rfl) (fun C hC hRm hE hS => ?_)
  refine (show WM C ad n I J R 0 0 0 [(0, vr l0), (1, vi l1)] [] from ?_)
  unfold P5_add at hw
  refine wm_aload_n hC 0 dX5_add_0 rfl (k_ne0 hk0 (by decide)) ?_
  refine x_getI hC 1 fl_X5_15 rfl hk0 dX5_add_1 ?_
  refine wm_aload_n hC 0 dX5_add_4 rfl (k_ne0 hk0 (by decide)) ?_
  refine x_getR2 hC 0 fl_X5_9 rfl hk0 dX5_add_5 hw (fun g1 hw => ?_)
  refine x_alen hC g1 (by decide) dX5_add_8 ?_
  refine wm_icmp_ge (tgt := 32) hC dX5_add_9 (by decide) hw (fun hw => ?_) (fun hw => ?_)
  · exact wm_return hC hE dX5_add_32 ⟨⟨rfl, rfl⟩, hw⟩
  · refine wm_aload_n hC 0 dX5_add_12 rfl (k_ne0 hk0 (by decide)) ?_
    refine x_getR2 hC 0 fl_X5_9 rfl hk0 dX5_add_13 hw (fun g2 hw => ?_)
    refine wm_aload_n hC 0 dX5_add_16 rfl (k_ne0 hk0 (by decide)) ?_
    refine x_getI hC 1 fl_X5_15 rfl hk0 dX5_add_17 ?_
    refine wm_iload_n hC 1 dX5_add_20 rfl ?_
    refine x_iast hC g2 dX5_add_21 hw (fun I1 hw => ?_)
    refine wm_aload_n hC 0 dX5_add_22 rfl (k_ne0 hk0 (by decide)) ?_
    refine wm_dup hC dX5_add_23 (k := ?_)
    refine x_getI hC 1 fl_X5_15 rfl hk0 dX5_add_24 ?_
    refine wm_iconst hC dX5_add_27 (k := ?_)
    refine x_iadd hC dX5_add_28 hw (fun hw => ?_)
    refine x_putI hC 1 fl_X5_15 rfl hk0 dX5_add_29 hw (fun I2 hw => ?_)
    exact wm_return hC hE dX5_add_32 ⟨⟨rfl, rfl⟩, hw⟩
def P5_write_b168_body (l0 : Nat) (I : mI) (R : mR) (Q : mI → Prop) (k168 : Int → Int → Prop) (l4 : Int) (l5 : Int) : Prop := (if (I l0 1) ≤ l5 then (P5_add l0 l4 I R (fun I10 => (Q I10))) else (rg (5 * l4) ∧ (kK (R l0 0) = 21 ∧ (((0 : Int) ≤ l5 ∧ l5 < (kN (R l0 0) : Int)) ∧ (rg ((5 * l4) + (I (R l0 0) l5)) ∧ (wLet (Int.tmod ((5 * l4) + (I (R l0 0) l5)) 251) (fun x2 => (rg (l5 + 1) ∧ (k168 x2 (l5 + 1))))))))))
def P5_write_b168 (l0 : Nat) (I : mI) (R : mR) (Q : mI → Prop) : Nat → Int → Int → Prop
  | 0 => fun _ _ => False
  | f + 1 => fun l4 l5 => P5_write_b168_body l0 I R Q (P5_write_b168 l0 I R Q f) l4 l5
set_option maxRecDepth 20000 in
theorem W5_write_b168_body {C : wX} {ad : Nat → Nat} {n : Nat} {I J : mI} {R : mR} {Q : mI → Prop} (hC : wOK C cX5_write 6 RX5) (hRm : wRm C 2 33 0 0) (hE : wEnd C none ad n (fun _ I' J' R' => (J' = J ∧ R' = R) ∧ Q I')) {l0 : Nat} {l4 : Int} {l5 : Int}   (hk0 : kK l0 = 5)  {k168 : Int → Int → Prop} (kk168 : ∀ (y4 : Int) (y5 : Int), k168 y4 y5 → WM C ad n I J R 0 0 168 [(0, vr l0), (4, vi y4), (5, vi y5)] []) (hw : P5_write_b168_body l0 I R Q k168 l4 l5) : WM C ad n I J R 0 0 168 [(0, vr l0), (4, vi l4), (5, vi l5)] [] := by
  unfold P5_write_b168_body at hw
  refine wm_iload hC 2 dX5_write_168 rfl ?_
  refine wm_aload_n hC 0 dX5_write_170 rfl (k_ne0 hk0 (by decide)) ?_
  refine x_getI hC 1 fl_X5_15 rfl hk0 dX5_write_171 ?_
  refine wm_icmp_ge (tgt := 201) hC dX5_write_174 (by decide) hw (fun hw => ?_) (fun hw => ?_)
  · refine wm_aload_n hC 0 dX5_write_201 rfl (k_ne0 hk0 (by decide)) ?_
    refine wm_iload hC 1 dX5_write_202 rfl ?_
    refine y_callV_v_I hC hRm noS ml_X5_24 hk0 (C5_add hk0 hw) (Nat.le_of_ble_eq_true rfl) (Nat.le_of_ble_eq_true rfl) ⟨Nat.zero_le _, Nat.zero_le _⟩ rfl (st := []) rfl (Nat.le_of_ble_eq_true rfl) dX5_write_204 (fun I10 hw => ?_)
    exact wm_return hC hE dX5_write_207 ⟨⟨rfl, rfl⟩, hw⟩
  · refine wm_iconst hC dX5_write_177 (k := ?_)
    refine wm_iload hC 1 dX5_write_178 rfl ?_
    refine x_imul hC dX5_write_180 hw (fun hw => ?_)
    refine wm_aload_n hC 0 dX5_write_181 rfl (k_ne0 hk0 (by decide)) ?_
    refine x_getR2 hC 0 fl_X5_9 rfl hk0 dX5_write_182 hw (fun g7 hw => ?_)
    refine wm_iload hC 2 dX5_write_185 rfl ?_
    refine x_iald hC g7 dX5_write_187 hw (fun hw => ?_)
    refine x_iadd hC dX5_write_188 hw (fun hw => ?_)
    refine wm_sipush hC dX5_write_189 (k := ?_)
    refine x_iremP hC (by decide) dX5_write_192 ?_
    refine x_nameI hw (fun x2 hw => ?_)
    refine wm_istore hC dX5_write_193 (by decide) (L2 := [(4, vi x2), (0, vr l0), (5, vi l5)]) rfl ?_
    refine x_iinc hC 2 dX5_write_195 rfl (by decide) (L2 := [(5, vi (l5 + 1)), (4, vi x2), (0, vr l0)]) rfl hw (fun hw => ?_)
    refine wm_goto (tgt := 168) hC dX5_write_198 (by decide) ?_
    refine wm_sub [2, 1, 0] (L2 := [(0, vr l0), (4, vi x2), (5, vi (l5 + 1))]) rfl ?_
    exact kk168 _ _ hw
set_option maxRecDepth 20000 in
theorem W5_write_b168 {C : wX} {ad : Nat → Nat} {n : Nat} {I J : mI} {R : mR} {Q : mI → Prop} (hC : wOK C cX5_write 6 RX5) (hRm : wRm C 2 33 0 0) (hE : wEnd C none ad n (fun _ I' J' R' => (J' = J ∧ R' = R) ∧ Q I')) {l0 : Nat}   (hk0 : kK l0 = 5)  : ∀ (f : Nat) (l4 : Int) (l5 : Int), P5_write_b168 l0 I R Q f l4 l5 → WM C ad n I J R 0 0 168 [(0, vr l0), (4, vi l4), (5, vi l5)] [] := by
  intro f
  induction f with
  | zero => intro l4 l5 hw; exact hw.elim
  | succ f ih => intro l4 l5 hw; exact W5_write_b168_body hC hRm hE hk0 (fun a0 a1 hw => ih a0 a1 hw) hw
def P5_write_b115_body (l0 : Nat) (l1 : Nat) (l2 : Nat) (R : mR) (Q : mI → Prop) (k115 : Int → mI → Prop) (l4 : Int) (I : mI) : Prop := (kK (R l1 0) = 21 ∧ (((0 : Int) ≤ (2 : Int) ∧ (2 : Int) < (kN (R l1 0) : Int)) ∧ (if (I (R l1 0) (2 : Int)) ≤ l4 then (∃ f, P5_write_b168 l0 I R Q f 229 0) else (kK (R l2 5) = 21 ∧ (((0 : Int) ≤ l4 ∧ l4 < (kN (R l2 5) : Int)) ∧ (if (I (R l2 5) l4) = (-1) then (P5_add l0 255 I R (fun I9 => (rg (l4 + 1) ∧ (k115 (l4 + 1) I9)))) else (kK (R l2 5) = 21 ∧ (((0 : Int) ≤ l4 ∧ l4 < (kN (R l2 5) : Int)) ∧ (P5_add l0 (I (R l2 5) l4) I R (fun I8 => (rg (l4 + 1) ∧ (k115 (l4 + 1) I8))))))))))))
def P5_write_b115 (l0 : Nat) (l1 : Nat) (l2 : Nat) (R : mR) (Q : mI → Prop) : Nat → Int → mI → Prop
  | 0 => fun _ _ => False
  | f + 1 => fun l4 I => P5_write_b115_body l0 l1 l2 R Q (P5_write_b115 l0 l1 l2 R Q f) l4 I
set_option maxRecDepth 20000 in
theorem W5_write_b115_body {C : wX} {ad : Nat → Nat} {n : Nat} {I J : mI} {R : mR} {Q : mI → Prop} (hC : wOK C cX5_write 6 RX5) (hRm : wRm C 2 33 0 0) (hE : wEnd C none ad n (fun _ I' J' R' => (J' = J ∧ R' = R) ∧ Q I')) {l0 : Nat} {l1 : Nat} {l2 : Nat} {l4 : Int}   (hk0 : kK l0 = 5) (hk1 : kK l1 = 3) (hk2 : kK l2 = 7)  {k115 : Int → mI → Prop} (kk115 : ∀ (y4 : Int) (I' : mI), k115 y4 I' → WM C ad n I' J R 0 0 115 [(0, vr l0), (1, vr l1), (2, vr l2), (4, vi y4)] []) (hw : P5_write_b115_body l0 l1 l2 R Q k115 l4 I) : WM C ad n I J R 0 0 115 [(0, vr l0), (1, vr l1), (2, vr l2), (4, vi l4)] [] := by
  unfold P5_write_b115_body at hw
  refine wm_iload hC 3 dX5_write_115 rfl ?_
  refine wm_aload_n hC 1 dX5_write_117 rfl (k_ne0 hk1 (by decide)) ?_
  refine x_getR2 hC 0 fl_X5_31 rfl hk1 dX5_write_118 hw (fun g4 hw => ?_)
  refine wm_iconst hC dX5_write_121 (k := ?_)
  refine x_iald hC g4 dX5_write_122 hw (fun hw => ?_)
  refine wm_icmp_ge (tgt := 160) hC dX5_write_123 (by decide) hw (fun hw => ?_) (fun hw => ?_)
  · refine wm_sipush hC dX5_write_160 (k := ?_)
    refine wm_istore hC dX5_write_163 (by decide) (L2 := [(4, vi 229), (0, vr l0), (1, vr l1), (2, vr l2)]) rfl ?_
    refine wm_iconst hC dX5_write_165 (k := ?_)
    refine wm_istore hC dX5_write_166 (by decide) (L2 := [(5, vi 0), (4, vi 229), (0, vr l0), (1, vr l1), (2, vr l2)]) rfl ?_
    obtain ⟨f, hw⟩ := hw
    refine wm_sub [2, 1, 0] (L2 := [(0, vr l0), (4, vi 229), (5, vi 0)]) rfl ?_
    exact W5_write_b168 hC hRm hE hk0 f _ _ hw
  · refine wm_aload_n hC 0 dX5_write_126 rfl (k_ne0 hk0 (by decide)) ?_
    refine wm_aload_n hC 2 dX5_write_127 rfl (k_ne0 hk2 (by decide)) ?_
    refine x_getR2 hC 5 fl_X5_42 rfl hk2 dX5_write_128 hw (fun g5 hw => ?_)
    refine wm_iload hC 3 dX5_write_131 rfl ?_
    refine x_iald hC g5 dX5_write_133 hw (fun hw => ?_)
    refine wm_iconst hC dX5_write_134 (k := ?_)
    refine wm_icmp_ne (tgt := 144) hC dX5_write_135 (by decide) hw (fun hw => ?_) (fun hw => ?_)
    · refine wm_sipush hC dX5_write_138 (k := ?_)
      refine wm_goto (tgt := 151) hC dX5_write_141 (by decide) ?_
      refine y_callV_v_I hC hRm noS ml_X5_24 hk0 (C5_add hk0 hw) (Nat.le_of_ble_eq_true rfl) (Nat.le_of_ble_eq_true rfl) ⟨Nat.zero_le _, Nat.zero_le _⟩ rfl (st := []) rfl (Nat.le_of_ble_eq_true rfl) dX5_write_151 (fun I9 hw => ?_)
      refine x_iinc hC 3 dX5_write_154 rfl (by decide) (L2 := [(4, vi (l4 + 1)), (0, vr l0), (1, vr l1), (2, vr l2)]) rfl hw (fun hw => ?_)
      refine wm_goto (tgt := 115) hC dX5_write_157 (by decide) ?_
      refine wm_sub [1, 2, 3, 0] (L2 := [(0, vr l0), (1, vr l1), (2, vr l2), (4, vi (l4 + 1))]) rfl ?_
      exact kk115 _ _ hw
    · refine wm_aload_n hC 2 dX5_write_144 rfl (k_ne0 hk2 (by decide)) ?_
      refine x_getR2 hC 5 fl_X5_42 rfl hk2 dX5_write_145 hw (fun g6 hw => ?_)
      refine wm_iload hC 3 dX5_write_148 rfl ?_
      refine x_iald hC g6 dX5_write_150 hw (fun hw => ?_)
      refine y_callV_v_I hC hRm noS ml_X5_24 hk0 (C5_add hk0 hw) (Nat.le_of_ble_eq_true rfl) (Nat.le_of_ble_eq_true rfl) ⟨Nat.zero_le _, Nat.zero_le _⟩ rfl (st := []) rfl (Nat.le_of_ble_eq_true rfl) dX5_write_151 (fun I8 hw => ?_)
      refine x_iinc hC 3 dX5_write_154 rfl (by decide) (L2 := [(4, vi (l4 + 1)), (0, vr l0), (1, vr l1), (2, vr l2)]) rfl hw (fun hw => ?_)
      refine wm_goto (tgt := 115) hC dX5_write_157 (by decide) ?_
      refine wm_sub [1, 2, 3, 0] (L2 := [(0, vr l0), (1, vr l1), (2, vr l2), (4, vi (l4 + 1))]) rfl ?_
      exact kk115 _ _ hw
set_option maxRecDepth 20000 in
theorem W5_write_b115 {C : wX} {ad : Nat → Nat} {n : Nat} {J : mI} {R : mR} {Q : mI → Prop} (hC : wOK C cX5_write 6 RX5) (hRm : wRm C 2 33 0 0) (hE : wEnd C none ad n (fun _ I' J' R' => (J' = J ∧ R' = R) ∧ Q I')) {l0 : Nat} {l1 : Nat} {l2 : Nat}   (hk0 : kK l0 = 5) (hk1 : kK l1 = 3) (hk2 : kK l2 = 7)  : ∀ (f : Nat) (l4 : Int) (I : mI), P5_write_b115 l0 l1 l2 R Q f l4 I → WM C ad n I J R 0 0 115 [(0, vr l0), (1, vr l1), (2, vr l2), (4, vi l4)] [] := by
  intro f
  induction f with
  | zero => intro l4 I hw; exact hw.elim
  | succ f ih => intro l4 I hw; exact W5_write_b115_body hC hRm hE hk0 hk1 hk2 (fun a0 a1 hw => ih a0 a1 hw) hw
def P5_write_b89_body (l0 : Nat) (l1 : Nat) (l2 : Nat) (l3 : Int) (R : mR) (Q : mI → Prop) (k89 : Int → mI → Prop) (l4 : Int) (I : mI) : Prop := (if l3 ≤ l4 then (∃ f, P5_write_b115 l0 l1 l2 R Q f 0 I) else (kK (R l2 4) = 21 ∧ (((0 : Int) ≤ l4 ∧ l4 < (kN (R l2 4) : Int)) ∧ (P5_add l0 (I (R l2 4) l4) I R (fun I7 => (rg (l4 + 1) ∧ (k89 (l4 + 1) I7)))))))
def P5_write_b89 (l0 : Nat) (l1 : Nat) (l2 : Nat) (l3 : Int) (R : mR) (Q : mI → Prop) : Nat → Int → mI → Prop
  | 0 => fun _ _ => False
  | f + 1 => fun l4 I => P5_write_b89_body l0 l1 l2 l3 R Q (P5_write_b89 l0 l1 l2 l3 R Q f) l4 I
set_option maxRecDepth 20000 in
theorem W5_write_b89_body {C : wX} {ad : Nat → Nat} {n : Nat} {I J : mI} {R : mR} {Q : mI → Prop} (hC : wOK C cX5_write 6 RX5) (hRm : wRm C 2 33 0 0) (hE : wEnd C none ad n (fun _ I' J' R' => (J' = J ∧ R' = R) ∧ Q I')) {l0 : Nat} {l1 : Nat} {l2 : Nat} {l3 : Int} {l4 : Int}   (hk0 : kK l0 = 5) (hk1 : kK l1 = 3) (hk2 : kK l2 = 7)  {k89 : Int → mI → Prop} (kk89 : ∀ (y4 : Int) (I' : mI), k89 y4 I' → WM C ad n I' J R 0 0 89 [(0, vr l0), (1, vr l1), (2, vr l2), (3, vi l3), (4, vi y4)] []) (hw : P5_write_b89_body l0 l1 l2 l3 R Q k89 l4 I) : WM C ad n I J R 0 0 89 [(0, vr l0), (1, vr l1), (2, vr l2), (3, vi l3), (4, vi l4)] [] := by
  unfold P5_write_b89_body at hw
  refine wm_iload hC 4 dX5_write_89 rfl ?_
  refine wm_iload_n hC 3 dX5_write_91 rfl ?_
  refine wm_icmp_ge (tgt := 112) hC dX5_write_92 (by decide) hw (fun hw => ?_) (fun hw => ?_)
  · refine wm_iconst hC dX5_write_112 (k := ?_)
    refine wm_istore hC dX5_write_113 (by decide) (L2 := [(4, vi 0), (0, vr l0), (1, vr l1), (2, vr l2), (3, vi l3)]) rfl ?_
    obtain ⟨f, hw⟩ := hw
    refine wm_sub [1, 2, 3, 0] (L2 := [(0, vr l0), (1, vr l1), (2, vr l2), (4, vi 0)]) rfl ?_
    exact W5_write_b115 hC hRm hE hk0 hk1 hk2 f _ _ hw
  · refine wm_aload_n hC 0 dX5_write_95 rfl (k_ne0 hk0 (by decide)) ?_
    refine wm_aload_n hC 2 dX5_write_96 rfl (k_ne0 hk2 (by decide)) ?_
    refine x_getR2 hC 4 fl_X5_39 rfl hk2 dX5_write_97 hw (fun g3 hw => ?_)
    refine wm_iload hC 4 dX5_write_100 rfl ?_
    refine x_iald hC g3 dX5_write_102 hw (fun hw => ?_)
    refine y_callV_v_I hC hRm noS ml_X5_24 hk0 (C5_add hk0 hw) (Nat.le_of_ble_eq_true rfl) (Nat.le_of_ble_eq_true rfl) ⟨Nat.zero_le _, Nat.zero_le _⟩ rfl (st := []) rfl (Nat.le_of_ble_eq_true rfl) dX5_write_103 (fun I7 hw => ?_)
    refine x_iinc hC 4 dX5_write_106 rfl (by decide) (L2 := [(4, vi (l4 + 1)), (0, vr l0), (1, vr l1), (2, vr l2), (3, vi l3)]) rfl hw (fun hw => ?_)
    refine wm_goto (tgt := 89) hC dX5_write_109 (by decide) ?_
    refine wm_sub [1, 2, 3, 4, 0] (L2 := [(0, vr l0), (1, vr l1), (2, vr l2), (3, vi l3), (4, vi (l4 + 1))]) rfl ?_
    exact kk89 _ _ hw
set_option maxRecDepth 20000 in
theorem W5_write_b89 {C : wX} {ad : Nat → Nat} {n : Nat} {J : mI} {R : mR} {Q : mI → Prop} (hC : wOK C cX5_write 6 RX5) (hRm : wRm C 2 33 0 0) (hE : wEnd C none ad n (fun _ I' J' R' => (J' = J ∧ R' = R) ∧ Q I')) {l0 : Nat} {l1 : Nat} {l2 : Nat} {l3 : Int}   (hk0 : kK l0 = 5) (hk1 : kK l1 = 3) (hk2 : kK l2 = 7)  : ∀ (f : Nat) (l4 : Int) (I : mI), P5_write_b89 l0 l1 l2 l3 R Q f l4 I → WM C ad n I J R 0 0 89 [(0, vr l0), (1, vr l1), (2, vr l2), (3, vi l3), (4, vi l4)] [] := by
  intro f
  induction f with
  | zero => intro l4 I hw; exact hw.elim
  | succ f ih => intro l4 I hw; exact W5_write_b89_body hC hRm hE hk0 hk1 hk2 (fun a0 a1 hw => ih a0 a1 hw) hw
def P5_write_b63_body (l0 : Nat) (l1 : Nat) (l2 : Nat) (l3 : Int) (R : mR) (Q : mI → Prop) (k63 : Int → mI → Prop) (l4 : Int) (I : mI) : Prop := (if l3 ≤ l4 then (∃ f, P5_write_b89 l0 l1 l2 l3 R Q f 0 I) else (kK (R l2 3) = 21 ∧ (((0 : Int) ≤ l4 ∧ l4 < (kN (R l2 3) : Int)) ∧ (P5_add l0 (I (R l2 3) l4) I R (fun I6 => (rg (l4 + 1) ∧ (k63 (l4 + 1) I6)))))))
def P5_write_b63 (l0 : Nat) (l1 : Nat) (l2 : Nat) (l3 : Int) (R : mR) (Q : mI → Prop) : Nat → Int → mI → Prop
  | 0 => fun _ _ => False
  | f + 1 => fun l4 I => P5_write_b63_body l0 l1 l2 l3 R Q (P5_write_b63 l0 l1 l2 l3 R Q f) l4 I
set_option maxRecDepth 20000 in
theorem W5_write_b63_body {C : wX} {ad : Nat → Nat} {n : Nat} {I J : mI} {R : mR} {Q : mI → Prop} (hC : wOK C cX5_write 6 RX5) (hRm : wRm C 2 33 0 0) (hE : wEnd C none ad n (fun _ I' J' R' => (J' = J ∧ R' = R) ∧ Q I')) {l0 : Nat} {l1 : Nat} {l2 : Nat} {l3 : Int} {l4 : Int}   (hk0 : kK l0 = 5) (hk1 : kK l1 = 3) (hk2 : kK l2 = 7)  {k63 : Int → mI → Prop} (kk63 : ∀ (y4 : Int) (I' : mI), k63 y4 I' → WM C ad n I' J R 0 0 63 [(0, vr l0), (1, vr l1), (2, vr l2), (3, vi l3), (4, vi y4)] []) (hw : P5_write_b63_body l0 l1 l2 l3 R Q k63 l4 I) : WM C ad n I J R 0 0 63 [(0, vr l0), (1, vr l1), (2, vr l2), (3, vi l3), (4, vi l4)] [] := by
  unfold P5_write_b63_body at hw
  refine wm_iload hC 4 dX5_write_63 rfl ?_
  refine wm_iload_n hC 3 dX5_write_65 rfl ?_
  refine wm_icmp_ge (tgt := 86) hC dX5_write_66 (by decide) hw (fun hw => ?_) (fun hw => ?_)
  · refine wm_iconst hC dX5_write_86 (k := ?_)
    refine wm_istore hC dX5_write_87 (by decide) (L2 := [(4, vi 0), (0, vr l0), (1, vr l1), (2, vr l2), (3, vi l3)]) rfl ?_
    obtain ⟨f, hw⟩ := hw
    refine wm_sub [1, 2, 3, 4, 0] (L2 := [(0, vr l0), (1, vr l1), (2, vr l2), (3, vi l3), (4, vi 0)]) rfl ?_
    exact W5_write_b89 hC hRm hE hk0 hk1 hk2 f _ _ hw
  · refine wm_aload_n hC 0 dX5_write_69 rfl (k_ne0 hk0 (by decide)) ?_
    refine wm_aload_n hC 2 dX5_write_70 rfl (k_ne0 hk2 (by decide)) ?_
    refine x_getR2 hC 3 fl_X5_36 rfl hk2 dX5_write_71 hw (fun g2 hw => ?_)
    refine wm_iload hC 4 dX5_write_74 rfl ?_
    refine x_iald hC g2 dX5_write_76 hw (fun hw => ?_)
    refine y_callV_v_I hC hRm noS ml_X5_24 hk0 (C5_add hk0 hw) (Nat.le_of_ble_eq_true rfl) (Nat.le_of_ble_eq_true rfl) ⟨Nat.zero_le _, Nat.zero_le _⟩ rfl (st := []) rfl (Nat.le_of_ble_eq_true rfl) dX5_write_77 (fun I6 hw => ?_)
    refine x_iinc hC 4 dX5_write_80 rfl (by decide) (L2 := [(4, vi (l4 + 1)), (0, vr l0), (1, vr l1), (2, vr l2), (3, vi l3)]) rfl hw (fun hw => ?_)
    refine wm_goto (tgt := 63) hC dX5_write_83 (by decide) ?_
    refine wm_sub [1, 2, 3, 4, 0] (L2 := [(0, vr l0), (1, vr l1), (2, vr l2), (3, vi l3), (4, vi (l4 + 1))]) rfl ?_
    exact kk63 _ _ hw
set_option maxRecDepth 20000 in
theorem W5_write_b63 {C : wX} {ad : Nat → Nat} {n : Nat} {J : mI} {R : mR} {Q : mI → Prop} (hC : wOK C cX5_write 6 RX5) (hRm : wRm C 2 33 0 0) (hE : wEnd C none ad n (fun _ I' J' R' => (J' = J ∧ R' = R) ∧ Q I')) {l0 : Nat} {l1 : Nat} {l2 : Nat} {l3 : Int}   (hk0 : kK l0 = 5) (hk1 : kK l1 = 3) (hk2 : kK l2 = 7)  : ∀ (f : Nat) (l4 : Int) (I : mI), P5_write_b63 l0 l1 l2 l3 R Q f l4 I → WM C ad n I J R 0 0 63 [(0, vr l0), (1, vr l1), (2, vr l2), (3, vi l3), (4, vi l4)] [] := by
  intro f
  induction f with
  | zero => intro l4 I hw; exact hw.elim
  | succ f ih => intro l4 I hw; exact W5_write_b63_body hC hRm hE hk0 hk1 hk2 (fun a0 a1 hw => ih a0 a1 hw) hw
def P5_write (l0 : Nat) (l1 : Nat) (l2 : Nat) (I : mI) (R : mR) (Q : mI → Prop) : Prop := (wLet (up I l0 1 0) (fun I1 => (P5_add l0 (Int.tdiv (I1 l2 0) 256) I1 R (fun I2 => (P5_add l0 (Int.tmod (I2 l2 0) 256) I2 R (fun I3 => (P5_add l0 (Int.tdiv (I3 l2 1) 256) I3 R (fun I4 => (P5_add l0 (Int.tmod (I4 l2 1) 256) I4 R (fun I5 => (kK (R l1 0) = 21 ∧ (((0 : Int) ≤ (0 : Int) ∧ (0 : Int) < (kN (R l1 0) : Int)) ∧ (wLet (I5 (R l1 0) (0 : Int)) (fun x1 => (∃ f, P5_write_b63 l0 l1 l2 x1 R Q f 0 I5)))))))))))))))
set_option maxRecDepth 20000 in
theorem C5_write {ad : Nat → Nat} {n : Nat} {I J : mI} {R : mR} {Q : mI → Prop}  {l0 : Nat} {l1 : Nat} {l2 : Nat} (hk0 : kK l0 = 5) (hk1 : kK l1 = 3) (hk2 : kK l2 = 7) (hw : P5_write l0 l1 l2 I R Q) : wMet yX5_write cX5_write 6 none 2 33 false ad n I J R [vr l0, vr l1, vr l2] (fun _ I' J' R' => (J' = J ∧ R' = R) ∧ Q I') := by
  refine wMet_of (by decide) (Nat.le_of_ble_eq_true rfl) (fun C hC hRm hE hS => ?_)
  refine (show WM C ad n I J R 0 0 0 [(0, vr l0), (1, vr l1), (2, vr l2)] [] from ?_)
  unfold P5_write at hw
  refine wm_aload_n hC 0 dX5_write_0 rfl (k_ne0 hk0 (by decide)) ?_
  refine wm_iconst hC dX5_write_1 (k := ?_)
  refine x_putI hC 1 fl_X5_15 rfl hk0 dX5_write_2 hw (fun I1 hw => ?_)
  refine wm_aload_n hC 0 dX5_write_5 rfl (k_ne0 hk0 (by decide)) ?_
  refine wm_aload_n hC 2 dX5_write_6 rfl (k_ne0 hk2 (by decide)) ?_
  refine x_getI hC 0 fl_X5_19 rfl hk2 dX5_write_7 ?_
  refine wm_sipush hC dX5_write_10 (k := ?_)
  refine x_idivP hC (by decide) dX5_write_13 ?_
  refine y_callV_v_I hC hRm noS ml_X5_24 hk0 (C5_add hk0 hw) (Nat.le_of_ble_eq_true rfl) (Nat.le_of_ble_eq_true rfl) ⟨Nat.zero_le _, Nat.zero_le _⟩ rfl (st := []) rfl (Nat.le_of_ble_eq_true rfl) dX5_write_14 (fun I2 hw => ?_)
  refine wm_aload_n hC 0 dX5_write_17 rfl (k_ne0 hk0 (by decide)) ?_
  refine wm_aload_n hC 2 dX5_write_18 rfl (k_ne0 hk2 (by decide)) ?_
  refine x_getI hC 0 fl_X5_19 rfl hk2 dX5_write_19 ?_
  refine wm_sipush hC dX5_write_22 (k := ?_)
  refine x_iremP hC (by decide) dX5_write_25 ?_
  refine y_callV_v_I hC hRm noS ml_X5_24 hk0 (C5_add hk0 hw) (Nat.le_of_ble_eq_true rfl) (Nat.le_of_ble_eq_true rfl) ⟨Nat.zero_le _, Nat.zero_le _⟩ rfl (st := []) rfl (Nat.le_of_ble_eq_true rfl) dX5_write_26 (fun I3 hw => ?_)
  refine wm_aload_n hC 0 dX5_write_29 rfl (k_ne0 hk0 (by decide)) ?_
  refine wm_aload_n hC 2 dX5_write_30 rfl (k_ne0 hk2 (by decide)) ?_
  refine x_getI hC 1 fl_X5_28 rfl hk2 dX5_write_31 ?_
  refine wm_sipush hC dX5_write_34 (k := ?_)
  refine x_idivP hC (by decide) dX5_write_37 ?_
  refine y_callV_v_I hC hRm noS ml_X5_24 hk0 (C5_add hk0 hw) (Nat.le_of_ble_eq_true rfl) (Nat.le_of_ble_eq_true rfl) ⟨Nat.zero_le _, Nat.zero_le _⟩ rfl (st := []) rfl (Nat.le_of_ble_eq_true rfl) dX5_write_38 (fun I4 hw => ?_)
  refine wm_aload_n hC 0 dX5_write_41 rfl (k_ne0 hk0 (by decide)) ?_
  refine wm_aload_n hC 2 dX5_write_42 rfl (k_ne0 hk2 (by decide)) ?_
  refine x_getI hC 1 fl_X5_28 rfl hk2 dX5_write_43 ?_
  refine wm_sipush hC dX5_write_46 (k := ?_)
  refine x_iremP hC (by decide) dX5_write_49 ?_
  refine y_callV_v_I hC hRm noS ml_X5_24 hk0 (C5_add hk0 hw) (Nat.le_of_ble_eq_true rfl) (Nat.le_of_ble_eq_true rfl) ⟨Nat.zero_le _, Nat.zero_le _⟩ rfl (st := []) rfl (Nat.le_of_ble_eq_true rfl) dX5_write_50 (fun I5 hw => ?_)
  refine wm_aload_n hC 1 dX5_write_53 rfl (k_ne0 hk1 (by decide)) ?_
  refine x_getR2 hC 0 fl_X5_31 rfl hk1 dX5_write_54 hw (fun g1 hw => ?_)
  refine wm_iconst hC dX5_write_57 (k := ?_)
  refine x_iald hC g1 dX5_write_58 hw (fun hw => ?_)
  refine x_nameI hw (fun x1 hw => ?_)
  refine wm_istore_n hC dX5_write_59 (by decide) (L2 := [(3, vi x1), (0, vr l0), (1, vr l1), (2, vr l2)]) rfl ?_
  refine wm_iconst hC dX5_write_60 (k := ?_)
  refine wm_istore hC dX5_write_61 (by decide) (L2 := [(4, vi 0), (3, vi x1), (0, vr l0), (1, vr l1), (2, vr l2)]) rfl ?_
  obtain ⟨f, hw⟩ := hw
  refine wm_sub [2, 3, 4, 1, 0] (L2 := [(0, vr l0), (1, vr l1), (2, vr l2), (3, vi x1), (4, vi 0)]) rfl ?_
  exact W5_write_b63 hC hRm hE hk0 hk1 hk2 f _ _ hw
def P5_byteAt (l0 : Nat) (l1 : Int) (I : mI) (R : mR) (Q : Int → Prop) : Prop := (if l1 < 0 then (Q (-1)) else (if (I l0 1) ≤ l1 then (Q (-1)) else (kK (R l0 0) = 21 ∧ (if (kN (R l0 0) : Int) ≤ l1 then (Q (-1)) else (kK (R l0 0) = 21 ∧ (((0 : Int) ≤ l1 ∧ l1 < (kN (R l0 0) : Int)) ∧ (Q (I (R l0 0) l1))))))))
set_option maxRecDepth 20000 in
theorem C5_byteAt {ad : Nat → Nat} {n : Nat} {I J : mI} {R : mR} {Q : Int → Prop}  {l0 : Nat} {l1 : Int} (hk0 : kK l0 = 5) (hw : P5_byteAt l0 l1 I R Q) : wMet yX5_byteAt cX5_byteAt 2 (some .int) 1 12 false ad n I J R [vr l0, vi l1] (fun r I' J' R' => (I' = I ∧ J' = J ∧ R' = R) ∧ Q r) := by
  refine wMet_of (by decide) (Nat.le_of_ble_eq_true rfl) (fun C hC hRm hE hS => ?_)
  refine (show WM C ad n I J R 0 0 0 [(0, vr l0), (1, vi l1)] [] from ?_)
  unfold P5_byteAt at hw
  refine wm_iload_n hC 1 dX5_byteAt_0 rfl ?_
  refine wm_if_lt (tgt := 30) hC dX5_byteAt_1 (by decide) hw (fun hw => ?_) (fun hw => ?_)
  · refine wm_iconst hC dX5_byteAt_30 (k := ?_)
    exact wm_ireturn hC hE dX5_byteAt_31 ⟨⟨rfl, rfl, rfl⟩, hw⟩
  · refine wm_iload_n hC 1 dX5_byteAt_4 rfl ?_
    refine wm_aload_n hC 0 dX5_byteAt_5 rfl (k_ne0 hk0 (by decide)) ?_
    refine x_getI hC 1 fl_X5_15 rfl hk0 dX5_byteAt_6 ?_
    refine wm_icmp_ge (tgt := 30) hC dX5_byteAt_9 (by decide) hw (fun hw => ?_) (fun hw => ?_)
    · refine wm_iconst hC dX5_byteAt_30 (k := ?_)
      exact wm_ireturn hC hE dX5_byteAt_31 ⟨⟨rfl, rfl, rfl⟩, hw⟩
    · refine wm_iload_n hC 1 dX5_byteAt_12 rfl ?_
      refine wm_aload_n hC 0 dX5_byteAt_13 rfl (k_ne0 hk0 (by decide)) ?_
      refine x_getR2 hC 0 fl_X5_9 rfl hk0 dX5_byteAt_14 hw (fun g1 hw => ?_)
      refine x_alen hC g1 (by decide) dX5_byteAt_17 ?_
      refine wm_icmp_ge (tgt := 30) hC dX5_byteAt_18 (by decide) hw (fun hw => ?_) (fun hw => ?_)
      · refine wm_iconst hC dX5_byteAt_30 (k := ?_)
        exact wm_ireturn hC hE dX5_byteAt_31 ⟨⟨rfl, rfl, rfl⟩, hw⟩
      · refine wm_aload_n hC 0 dX5_byteAt_21 rfl (k_ne0 hk0 (by decide)) ?_
        refine x_getR2 hC 0 fl_X5_9 rfl hk0 dX5_byteAt_22 hw (fun g2 hw => ?_)
        refine wm_iload_n hC 1 dX5_byteAt_25 rfl ?_
        refine x_iald hC g2 dX5_byteAt_26 hw (fun hw => ?_)
        refine wm_goto (tgt := 31) hC dX5_byteAt_27 (by decide) ?_
        exact wm_ireturn hC hE dX5_byteAt_31 ⟨⟨rfl, rfl, rfl⟩, hw⟩
def P5_isChecked_b6_body (l0 : Nat) (I : mI) (R : mR) (Q : Int → Prop) (k6 : Int → Int → Prop) (l1 : Int) (l2 : Int) : Prop := (rg ((I l0 1) - 1) ∧ (if ((I l0 1) - 1) ≤ l2 then (rg ((I l0 1) - 1) ∧ (P9_byteAt l0 ((I l0 1) - 1) I R (fun r1 => (if l1 = r1 then (Q 1) else (Q 0))))) else (rg (5 * l1) ∧ (P9_byteAt l0 l2 I R (fun r2 => (rg ((5 * l1) + r2) ∧ (wLet (Int.tmod ((5 * l1) + r2) 251) (fun x1 => (rg (l2 + 1) ∧ (k6 x1 (l2 + 1)))))))))))
def P5_isChecked_b6 (l0 : Nat) (I : mI) (R : mR) (Q : Int → Prop) : Nat → Int → Int → Prop
  | 0 => fun _ _ => False
  | f + 1 => fun l1 l2 => P5_isChecked_b6_body l0 I R Q (P5_isChecked_b6 l0 I R Q f) l1 l2
set_option maxRecDepth 20000 in
theorem W5_isChecked_b6_body {C : wX} {ad : Nat → Nat} {n : Nat} {I J : mI} {R : mR} {Q : Int → Prop} (hC : wOK C cX5_isChecked 3 RX5) (hRm : wRm C 2 33 0 0) (hE : wEnd C (some .boolean) ad n (fun r I' J' R' => (I' = I ∧ J' = J ∧ R' = R) ∧ Q r)) {l0 : Nat} {l1 : Int} {l2 : Int}   (hk0 : kK l0 = 9)  {k6 : Int → Int → Prop} (kk6 : ∀ (y1 : Int) (y2 : Int), k6 y1 y2 → WM C ad n I J R 0 0 6 [(0, vr l0), (1, vi y1), (2, vi y2)] []) (hw : P5_isChecked_b6_body l0 I R Q k6 l1 l2) : WM C ad n I J R 0 0 6 [(0, vr l0), (1, vi l1), (2, vi l2)] [] := by
  unfold P5_isChecked_b6_body at hw
  refine wm_iload_n hC 2 dX5_isChecked_6 rfl ?_
  refine wm_aload_n hC 0 dX5_isChecked_7 rfl (k_ne0 hk0 (by decide)) ?_
  refine x_getI hC 1 fl_X5_45 rfl hk0 dX5_isChecked_8 ?_
  refine wm_iconst hC dX5_isChecked_11 (k := ?_)
  refine x_isub hC dX5_isChecked_12 hw (fun hw => ?_)
  refine wm_icmp_ge (tgt := 36) hC dX5_isChecked_13 (by decide) hw (fun hw => ?_) (fun hw => ?_)
  · refine wm_iload_n hC 1 dX5_isChecked_36 rfl ?_
    refine wm_aload_n hC 0 dX5_isChecked_37 rfl (k_ne0 hk0 (by decide)) ?_
    refine wm_aload_n hC 0 dX5_isChecked_38 rfl (k_ne0 hk0 (by decide)) ?_
    refine x_getI hC 1 fl_X5_45 rfl hk0 dX5_isChecked_39 ?_
    refine wm_iconst hC dX5_isChecked_42 (k := ?_)
    refine x_isub hC dX5_isChecked_43 hw (fun hw => ?_)
    refine y_callV_i_n hC hRm noS ml_X5_56 hk0 (C9_byteAt hk0 hw) (Nat.le_of_ble_eq_true rfl) (Nat.le_of_ble_eq_true rfl) ⟨Nat.zero_le _, Nat.zero_le _⟩ rfl (st := [vi l1]) rfl (Nat.le_of_ble_eq_true rfl) dX5_isChecked_44 (fun r1 hw => ?_)
    refine wm_icmp_ne (tgt := 54) hC dX5_isChecked_47 (by decide) hw (fun hw => ?_) (fun hw => ?_)
    · refine wm_iconst hC dX5_isChecked_50 (k := ?_)
      refine wm_goto (tgt := 55) hC dX5_isChecked_51 (by decide) ?_
      exact wm_zreturn hC hE (Or.inr rfl) dX5_isChecked_55 ⟨⟨rfl, rfl, rfl⟩, hw⟩
    · refine wm_iconst hC dX5_isChecked_54 (k := ?_)
      exact wm_zreturn hC hE (Or.inl rfl) dX5_isChecked_55 ⟨⟨rfl, rfl, rfl⟩, hw⟩
  · refine wm_iconst hC dX5_isChecked_16 (k := ?_)
    refine wm_iload_n hC 1 dX5_isChecked_17 rfl ?_
    refine x_imul hC dX5_isChecked_18 hw (fun hw => ?_)
    refine wm_aload_n hC 0 dX5_isChecked_19 rfl (k_ne0 hk0 (by decide)) ?_
    refine wm_iload_n hC 2 dX5_isChecked_20 rfl ?_
    refine y_callV_i_n hC hRm noS ml_X5_56 hk0 (C9_byteAt hk0 hw) (Nat.le_of_ble_eq_true rfl) (Nat.le_of_ble_eq_true rfl) ⟨Nat.zero_le _, Nat.zero_le _⟩ rfl (st := [vi (5 * l1)]) rfl (Nat.le_of_ble_eq_true rfl) dX5_isChecked_21 (fun r2 hw => ?_)
    refine x_iadd hC dX5_isChecked_24 hw (fun hw => ?_)
    refine wm_sipush hC dX5_isChecked_25 (k := ?_)
    refine x_iremP hC (by decide) dX5_isChecked_28 ?_
    refine x_nameI hw (fun x1 hw => ?_)
    refine wm_istore_n hC dX5_isChecked_29 (by decide) (L2 := [(1, vi x1), (0, vr l0), (2, vi l2)]) rfl ?_
    refine x_iinc hC 2 dX5_isChecked_30 rfl (by decide) (L2 := [(2, vi (l2 + 1)), (1, vi x1), (0, vr l0)]) rfl hw (fun hw => ?_)
    refine wm_goto (tgt := 6) hC dX5_isChecked_33 (by decide) ?_
    refine wm_sub [2, 1, 0] (L2 := [(0, vr l0), (1, vi x1), (2, vi (l2 + 1))]) rfl ?_
    exact kk6 _ _ hw
set_option maxRecDepth 20000 in
theorem W5_isChecked_b6 {C : wX} {ad : Nat → Nat} {n : Nat} {I J : mI} {R : mR} {Q : Int → Prop} (hC : wOK C cX5_isChecked 3 RX5) (hRm : wRm C 2 33 0 0) (hE : wEnd C (some .boolean) ad n (fun r I' J' R' => (I' = I ∧ J' = J ∧ R' = R) ∧ Q r)) {l0 : Nat}   (hk0 : kK l0 = 9)  : ∀ (f : Nat) (l1 : Int) (l2 : Int), P5_isChecked_b6 l0 I R Q f l1 l2 → WM C ad n I J R 0 0 6 [(0, vr l0), (1, vi l1), (2, vi l2)] [] := by
  intro f
  induction f with
  | zero => intro l1 l2 hw; exact hw.elim
  | succ f ih => intro l1 l2 hw; exact W5_isChecked_b6_body hC hRm hE hk0 (fun a0 a1 hw => ih a0 a1 hw) hw
def P5_isChecked (l0 : Nat) (I : mI) (R : mR) (Q : Int → Prop) : Prop := (∃ f, P5_isChecked_b6 l0 I R Q f 229 0)
set_option maxRecDepth 20000 in
theorem C5_isChecked {ad : Nat → Nat} {n : Nat} {I J : mI} {R : mR} {Q : Int → Prop}  {l0 : Nat} (hk0 : kK l0 = 9) (hw : P5_isChecked l0 I R Q) : wMet yX5_isChecked cX5_isChecked 3 (some .boolean) 2 33 false ad n I J R [vr l0] (fun r I' J' R' => (I' = I ∧ J' = J ∧ R' = R) ∧ Q r) := by
  refine wMet_of (by decide) (Nat.le_of_ble_eq_true rfl) (fun C hC hRm hE hS => ?_)
  refine (show WM C ad n I J R 0 0 0 [(0, vr l0)] [] from ?_)
  unfold P5_isChecked at hw
  refine wm_sipush hC dX5_isChecked_0 (k := ?_)
  refine wm_istore_n hC dX5_isChecked_3 (by decide) (L2 := [(1, vi 229), (0, vr l0)]) rfl ?_
  refine wm_iconst hC dX5_isChecked_4 (k := ?_)
  refine wm_istore_n hC dX5_isChecked_5 (by decide) (L2 := [(2, vi 0), (1, vi 229), (0, vr l0)]) rfl ?_
  obtain ⟨f, hw⟩ := hw
  refine wm_sub [2, 1, 0] (L2 := [(0, vr l0), (1, vi 229), (2, vi 0)]) rfl ?_
  exact W5_isChecked_b6 hC hRm hE hk0 f _ _ hw
def P5_pairAt (l0 : Nat) (l1 : Int) (I : mI) (R : mR) (Q : Int → Prop) : Prop := (P9_byteAt l0 l1 I R (fun r1 => (rg (r1 * 256) ∧ (rg (l1 + 1) ∧ (P9_byteAt l0 (l1 + 1) I R (fun r2 => (rg ((r1 * 256) + r2) ∧ (Q ((r1 * 256) + r2)))))))))
set_option maxRecDepth 20000 in
theorem C5_pairAt {ad : Nat → Nat} {n : Nat} {I J : mI} {R : mR} {Q : Int → Prop}  {l0 : Nat} {l1 : Int} (hk0 : kK l0 = 9) (hw : P5_pairAt l0 l1 I R Q) : wMet yX5_pairAt cX5_pairAt 2 (some .int) 2 33 false ad n I J R [vr l0, vi l1] (fun r I' J' R' => (I' = I ∧ J' = J ∧ R' = R) ∧ Q r) := by
  refine wMet_of (by decide) (Nat.le_of_ble_eq_true rfl) (fun C hC hRm hE hS => ?_)
  refine (show WM C ad n I J R 0 0 0 [(0, vr l0), (1, vi l1)] [] from ?_)
  unfold P5_pairAt at hw
  refine wm_aload_n hC 0 dX5_pairAt_0 rfl (k_ne0 hk0 (by decide)) ?_
  refine wm_iload_n hC 1 dX5_pairAt_1 rfl ?_
  refine y_callV_i_n hC hRm noS ml_X5_56 hk0 (C9_byteAt hk0 hw) (Nat.le_of_ble_eq_true rfl) (Nat.le_of_ble_eq_true rfl) ⟨Nat.zero_le _, Nat.zero_le _⟩ rfl (st := []) rfl (Nat.le_of_ble_eq_true rfl) dX5_pairAt_2 (fun r1 hw => ?_)
  refine wm_sipush hC dX5_pairAt_5 (k := ?_)
  refine x_imul hC dX5_pairAt_8 hw (fun hw => ?_)
  refine wm_aload_n hC 0 dX5_pairAt_9 rfl (k_ne0 hk0 (by decide)) ?_
  refine wm_iload_n hC 1 dX5_pairAt_10 rfl ?_
  refine wm_iconst hC dX5_pairAt_11 (k := ?_)
  refine x_iadd hC dX5_pairAt_12 hw (fun hw => ?_)
  refine y_callV_i_n hC hRm noS ml_X5_56 hk0 (C9_byteAt hk0 hw) (Nat.le_of_ble_eq_true rfl) (Nat.le_of_ble_eq_true rfl) ⟨Nat.zero_le _, Nat.zero_le _⟩ rfl (st := [vi (r1 * 256)]) rfl (Nat.le_of_ble_eq_true rfl) dX5_pairAt_13 (fun r2 hw => ?_)
  refine x_iadd hC dX5_pairAt_16 hw (fun hw => ?_)
  exact wm_ireturn hC hE dX5_pairAt_17 ⟨⟨rfl, rfl, rfl⟩, hw⟩
def P5_fits_b126_body (l0 : Nat) (l1 : Nat) (l2 : Int) (l3 : Int) (l4 : Int) (I : mI) (R : mR) (Q : Int → Prop) (k126 : Int → Prop) (l5 : Int) : Prop := (if l3 ≤ l5 then (P3_everybody l1 I R (fun r7 => (if l4 = r7 then (Q 1) else (Q 0)))) else (rg (2 * l2) ∧ (rg (4 + (2 * l2)) ∧ (rg ((4 + (2 * l2)) + l5) ∧ (P9_byteAt l0 ((4 + (2 * l2)) + l5) I R (fun r8 => (if r8 = 255 then (rg (l5 + 1) ∧ (k126 (l5 + 1))) else (P3_isThere l1 1 r8 I R (fun r9 => (if r9 = 0 then (Q 0) else (rg (l5 + 1) ∧ (k126 (l5 + 1)))))))))))))
def P5_fits_b126 (l0 : Nat) (l1 : Nat) (l2 : Int) (l3 : Int) (l4 : Int) (I : mI) (R : mR) (Q : Int → Prop) : Nat → Int → Prop
  | 0 => fun _ => False
  | f + 1 => fun l5 => P5_fits_b126_body l0 l1 l2 l3 l4 I R Q (P5_fits_b126 l0 l1 l2 l3 l4 I R Q f) l5
set_option maxRecDepth 20000 in
theorem W5_fits_b126_body {C : wX} {ad : Nat → Nat} {n : Nat} {I J : mI} {R : mR} {Q : Int → Prop} (hC : wOK C cX5_fits 7 RX5) (hRm : wRm C 3 55 0 0) (hE : wEnd C (some .boolean) ad n (fun r I' J' R' => (I' = I ∧ J' = J ∧ R' = R) ∧ Q r)) {l0 : Nat} {l1 : Nat} {l2 : Int} {l3 : Int} {l4 : Int} {l5 : Int}   (hk0 : kK l0 = 9) (hk1 : kK l1 = 3)  {k126 : Int → Prop} (kk126 : ∀ (y5 : Int), k126 y5 → WM C ad n I J R 0 0 126 [(0, vr l0), (1, vr l1), (2, vi l2), (3, vi l3), (4, vi l4), (5, vi y5)] []) (hw : P5_fits_b126_body l0 l1 l2 l3 l4 I R Q k126 l5) : WM C ad n I J R 0 0 126 [(0, vr l0), (1, vr l1), (2, vi l2), (3, vi l3), (4, vi l4), (5, vi l5)] [] := by
  unfold P5_fits_b126_body at hw
  refine wm_iload hC 5 dX5_fits_126 rfl ?_
  refine wm_iload_n hC 3 dX5_fits_128 rfl ?_
  refine wm_icmp_ge (tgt := 172) hC dX5_fits_129 (by decide) hw (fun hw => ?_) (fun hw => ?_)
  · refine wm_iload hC 4 dX5_fits_172 rfl ?_
    refine wm_aload_n hC 1 dX5_fits_174 rfl (k_ne0 hk1 (by decide)) ?_
    refine y_callV_i_n hC hRm noS ml_X5_64 hk1 (C3_everybody hk1 hw) (Nat.le_of_ble_eq_true rfl) (Nat.le_of_ble_eq_true rfl) ⟨Nat.zero_le _, Nat.zero_le _⟩ rfl (st := [vi l4]) rfl (Nat.le_of_ble_eq_true rfl) dX5_fits_175 (fun r7 hw => ?_)
    refine wm_icmp_ne (tgt := 185) hC dX5_fits_178 (by decide) hw (fun hw => ?_) (fun hw => ?_)
    · refine wm_iconst hC dX5_fits_181 (k := ?_)
      refine wm_goto (tgt := 186) hC dX5_fits_182 (by decide) ?_
      exact wm_zreturn hC hE (Or.inr rfl) dX5_fits_186 ⟨⟨rfl, rfl, rfl⟩, hw⟩
    · refine wm_iconst hC dX5_fits_185 (k := ?_)
      exact wm_zreturn hC hE (Or.inl rfl) dX5_fits_186 ⟨⟨rfl, rfl, rfl⟩, hw⟩
  · refine wm_aload_n hC 0 dX5_fits_132 rfl (k_ne0 hk0 (by decide)) ?_
    refine wm_iconst hC dX5_fits_133 (k := ?_)
    refine wm_iconst hC dX5_fits_134 (k := ?_)
    refine wm_iload_n hC 2 dX5_fits_135 rfl ?_
    refine x_imul hC dX5_fits_136 hw (fun hw => ?_)
    refine x_iadd hC dX5_fits_137 hw (fun hw => ?_)
    refine wm_iload hC 5 dX5_fits_138 rfl ?_
    refine x_iadd hC dX5_fits_140 hw (fun hw => ?_)
    refine y_callV_i_n hC hRm noS ml_X5_56 hk0 (C9_byteAt hk0 hw) (Nat.le_of_ble_eq_true rfl) (Nat.le_of_ble_eq_true rfl) ⟨Nat.zero_le _, Nat.zero_le _⟩ rfl (st := []) rfl (Nat.le_of_ble_eq_true rfl) dX5_fits_141 (fun r8 hw => ?_)
    refine wm_istore hC dX5_fits_144 (by decide) (L2 := [(6, vi r8), (0, vr l0), (1, vr l1), (2, vi l2), (3, vi l3), (4, vi l4), (5, vi l5)]) rfl ?_
    refine wm_iload hC 0 dX5_fits_146 rfl ?_
    refine wm_sipush hC dX5_fits_148 (k := ?_)
    refine wm_icmp_eq (tgt := 166) hC dX5_fits_151 (by decide) hw (fun hw => ?_) (fun hw => ?_)
    · refine x_iinc hC 6 dX5_fits_166 rfl (by decide) (L2 := [(5, vi (l5 + 1)), (6, vi r8), (0, vr l0), (1, vr l1), (2, vi l2), (3, vi l3), (4, vi l4)]) rfl hw (fun hw => ?_)
      refine wm_goto (tgt := 126) hC dX5_fits_169 (by decide) ?_
      refine wm_sub [2, 3, 4, 5, 6, 0] (L2 := [(0, vr l0), (1, vr l1), (2, vi l2), (3, vi l3), (4, vi l4), (5, vi (l5 + 1))]) rfl ?_
      exact kk126 _ hw
    · refine wm_aload_n hC 2 dX5_fits_154 rfl (k_ne0 hk1 (by decide)) ?_
      refine wm_iconst hC dX5_fits_155 (k := ?_)
      refine wm_iload hC 0 dX5_fits_156 rfl ?_
      refine y_callV_z_n hC hRm noS ml_X5_60 hk1 (C3_isThere hk1 hw) (Nat.le_of_ble_eq_true rfl) (Nat.le_of_ble_eq_true rfl) ⟨Nat.zero_le _, Nat.zero_le _⟩ rfl (st := []) rfl (Nat.le_of_ble_eq_true rfl) dX5_fits_158 (fun r9 hw => ?_)
      refine wm_if_ne (tgt := 166) hC dX5_fits_161 (by decide) hw (fun hw => ?_) (fun hw => ?_)
      · refine wm_iconst hC dX5_fits_164 (k := ?_)
        exact wm_zreturn hC hE (Or.inl rfl) dX5_fits_165 ⟨⟨rfl, rfl, rfl⟩, hw⟩
      · refine x_iinc hC 6 dX5_fits_166 rfl (by decide) (L2 := [(5, vi (l5 + 1)), (6, vi r8), (0, vr l0), (1, vr l1), (2, vi l2), (3, vi l3), (4, vi l4)]) rfl hw (fun hw => ?_)
        refine wm_goto (tgt := 126) hC dX5_fits_169 (by decide) ?_
        refine wm_sub [2, 3, 4, 5, 6, 0] (L2 := [(0, vr l0), (1, vr l1), (2, vi l2), (3, vi l3), (4, vi l4), (5, vi (l5 + 1))]) rfl ?_
        exact kk126 _ hw
set_option maxRecDepth 20000 in
theorem W5_fits_b126 {C : wX} {ad : Nat → Nat} {n : Nat} {I J : mI} {R : mR} {Q : Int → Prop} (hC : wOK C cX5_fits 7 RX5) (hRm : wRm C 3 55 0 0) (hE : wEnd C (some .boolean) ad n (fun r I' J' R' => (I' = I ∧ J' = J ∧ R' = R) ∧ Q r)) {l0 : Nat} {l1 : Nat} {l2 : Int} {l3 : Int} {l4 : Int}   (hk0 : kK l0 = 9) (hk1 : kK l1 = 3)  : ∀ (f : Nat) (l5 : Int), P5_fits_b126 l0 l1 l2 l3 l4 I R Q f l5 → WM C ad n I J R 0 0 126 [(0, vr l0), (1, vr l1), (2, vi l2), (3, vi l3), (4, vi l4), (5, vi l5)] [] := by
  intro f
  induction f with
  | zero => intro l5 hw; exact hw.elim
  | succ f ih => intro l5 hw; exact W5_fits_b126_body hC hRm hE hk0 hk1 (fun a0 hw => ih a0 hw) hw
def P5_fits_b65_body (l0 : Nat) (l1 : Nat) (l2 : Int) (l3 : Int) (I : mI) (R : mR) (Q : Int → Prop) (k65 : Int → Int → Prop) (l4 : Int) (l5 : Int) : Prop := (if l2 ≤ l5 then (∃ f, P5_fits_b126 l0 l1 l2 l3 l4 I R Q f 0) else (rg (4 + l5) ∧ (P9_byteAt l0 (4 + l5) I R (fun r4 => (P3_isThere l1 0 r4 I R (fun r5 => (if r5 = 0 then (Q 0) else (rg (4 + l2) ∧ (rg ((4 + l2) + l5) ∧ (P9_byteAt l0 ((4 + l2) + l5) I R (fun r6 => (if r6 ≤ 9 then (rg (l5 + 1) ∧ (k65 (bOr l4 (bShl 1 r4)) (l5 + 1))) else (Q 0)))))))))))))
def P5_fits_b65 (l0 : Nat) (l1 : Nat) (l2 : Int) (l3 : Int) (I : mI) (R : mR) (Q : Int → Prop) : Nat → Int → Int → Prop
  | 0 => fun _ _ => False
  | f + 1 => fun l4 l5 => P5_fits_b65_body l0 l1 l2 l3 I R Q (P5_fits_b65 l0 l1 l2 l3 I R Q f) l4 l5
set_option maxRecDepth 20000 in
theorem W5_fits_b65_body {C : wX} {ad : Nat → Nat} {n : Nat} {I J : mI} {R : mR} {Q : Int → Prop} (hC : wOK C cX5_fits 7 RX5) (hRm : wRm C 3 55 0 0) (hE : wEnd C (some .boolean) ad n (fun r I' J' R' => (I' = I ∧ J' = J ∧ R' = R) ∧ Q r)) {l0 : Nat} {l1 : Nat} {l2 : Int} {l3 : Int} {l4 : Int} {l5 : Int}   (hk0 : kK l0 = 9) (hk1 : kK l1 = 3)  {k65 : Int → Int → Prop} (kk65 : ∀ (y4 : Int) (y5 : Int), k65 y4 y5 → WM C ad n I J R 0 0 65 [(0, vr l0), (1, vr l1), (2, vi l2), (3, vi l3), (4, vi y4), (5, vi y5)] []) (hw : P5_fits_b65_body l0 l1 l2 l3 I R Q k65 l4 l5) : WM C ad n I J R 0 0 65 [(0, vr l0), (1, vr l1), (2, vi l2), (3, vi l3), (4, vi l4), (5, vi l5)] [] := by
  unfold P5_fits_b65_body at hw
  refine wm_iload hC 5 dX5_fits_65 rfl ?_
  refine wm_iload_n hC 2 dX5_fits_67 rfl ?_
  refine wm_icmp_ge (tgt := 123) hC dX5_fits_68 (by decide) hw (fun hw => ?_) (fun hw => ?_)
  · refine wm_iconst hC dX5_fits_123 (k := ?_)
    refine wm_istore hC dX5_fits_124 (by decide) (L2 := [(5, vi 0), (0, vr l0), (1, vr l1), (2, vi l2), (3, vi l3), (4, vi l4)]) rfl ?_
    obtain ⟨f, hw⟩ := hw
    refine wm_sub [1, 2, 3, 4, 5, 0] (L2 := [(0, vr l0), (1, vr l1), (2, vi l2), (3, vi l3), (4, vi l4), (5, vi 0)]) rfl ?_
    exact W5_fits_b126 hC hRm hE hk0 hk1 f _ hw
  · refine wm_aload_n hC 0 dX5_fits_71 rfl (k_ne0 hk0 (by decide)) ?_
    refine wm_iconst hC dX5_fits_72 (k := ?_)
    refine wm_iload hC 5 dX5_fits_73 rfl ?_
    refine x_iadd hC dX5_fits_75 hw (fun hw => ?_)
    refine y_callV_i_n hC hRm noS ml_X5_56 hk0 (C9_byteAt hk0 hw) (Nat.le_of_ble_eq_true rfl) (Nat.le_of_ble_eq_true rfl) ⟨Nat.zero_le _, Nat.zero_le _⟩ rfl (st := []) rfl (Nat.le_of_ble_eq_true rfl) dX5_fits_76 (fun r4 hw => ?_)
    refine wm_istore hC dX5_fits_79 (by decide) (L2 := [(6, vi r4), (0, vr l0), (1, vr l1), (2, vi l2), (3, vi l3), (4, vi l4), (5, vi l5)]) rfl ?_
    refine wm_aload_n hC 2 dX5_fits_81 rfl (k_ne0 hk1 (by decide)) ?_
    refine wm_iconst hC dX5_fits_82 (k := ?_)
    refine wm_iload hC 0 dX5_fits_83 rfl ?_
    refine y_callV_z_n hC hRm noS ml_X5_60 hk1 (C3_isThere hk1 hw) (Nat.le_of_ble_eq_true rfl) (Nat.le_of_ble_eq_true rfl) ⟨Nat.zero_le _, Nat.zero_le _⟩ rfl (st := []) rfl (Nat.le_of_ble_eq_true rfl) dX5_fits_85 (fun r5 hw => ?_)
    refine wm_if_eq (tgt := 106) hC dX5_fits_88 (by decide) hw (fun hw => ?_) (fun hw => ?_)
    · refine wm_iconst hC dX5_fits_106 (k := ?_)
      exact wm_zreturn hC hE (Or.inl rfl) dX5_fits_107 ⟨⟨rfl, rfl, rfl⟩, hw⟩
    · refine wm_aload_n hC 1 dX5_fits_91 rfl (k_ne0 hk0 (by decide)) ?_
      refine wm_iconst hC dX5_fits_92 (k := ?_)
      refine wm_iload_n hC 3 dX5_fits_93 rfl ?_
      refine x_iadd hC dX5_fits_94 hw (fun hw => ?_)
      refine wm_iload hC 6 dX5_fits_95 rfl ?_
      refine x_iadd hC dX5_fits_97 hw (fun hw => ?_)
      refine y_callV_i_n hC hRm noS ml_X5_56 hk0 (C9_byteAt hk0 hw) (Nat.le_of_ble_eq_true rfl) (Nat.le_of_ble_eq_true rfl) ⟨Nat.zero_le _, Nat.zero_le _⟩ rfl (st := []) rfl (Nat.le_of_ble_eq_true rfl) dX5_fits_98 (fun r6 hw => ?_)
      refine wm_bipush hC dX5_fits_101 (k := ?_)
      refine wm_icmp_le (tgt := 108) hC dX5_fits_103 (by decide) hw (fun hw => ?_) (fun hw => ?_)
      · refine wm_iload hC 5 dX5_fits_108 rfl ?_
        refine wm_iconst hC dX5_fits_110 (k := ?_)
        refine wm_iload hC 0 dX5_fits_111 rfl ?_
        refine wm_ishl hC dX5_fits_113 ?_
        refine wm_ior hC dX5_fits_114 ?_
        refine wm_istore hC dX5_fits_115 (by decide) (L2 := [(4, vi (bOr l4 (bShl 1 r4))), (6, vi r4), (0, vr l0), (1, vr l1), (2, vi l2), (3, vi l3), (5, vi l5)]) rfl ?_
        refine x_iinc hC 6 dX5_fits_117 rfl (by decide) (L2 := [(5, vi (l5 + 1)), (4, vi (bOr l4 (bShl 1 r4))), (6, vi r4), (0, vr l0), (1, vr l1), (2, vi l2), (3, vi l3)]) rfl hw (fun hw => ?_)
        refine wm_goto (tgt := 65) hC dX5_fits_120 (by decide) ?_
        refine wm_sub [3, 4, 5, 6, 1, 0] (L2 := [(0, vr l0), (1, vr l1), (2, vi l2), (3, vi l3), (4, vi (bOr l4 (bShl 1 r4))), (5, vi (l5 + 1))]) rfl ?_
        exact kk65 _ _ hw
      · refine wm_iconst hC dX5_fits_106 (k := ?_)
        exact wm_zreturn hC hE (Or.inl rfl) dX5_fits_107 ⟨⟨rfl, rfl, rfl⟩, hw⟩
set_option maxRecDepth 20000 in
theorem W5_fits_b65 {C : wX} {ad : Nat → Nat} {n : Nat} {I J : mI} {R : mR} {Q : Int → Prop} (hC : wOK C cX5_fits 7 RX5) (hRm : wRm C 3 55 0 0) (hE : wEnd C (some .boolean) ad n (fun r I' J' R' => (I' = I ∧ J' = J ∧ R' = R) ∧ Q r)) {l0 : Nat} {l1 : Nat} {l2 : Int} {l3 : Int}   (hk0 : kK l0 = 9) (hk1 : kK l1 = 3)  : ∀ (f : Nat) (l4 : Int) (l5 : Int), P5_fits_b65 l0 l1 l2 l3 I R Q f l4 l5 → WM C ad n I J R 0 0 65 [(0, vr l0), (1, vr l1), (2, vi l2), (3, vi l3), (4, vi l4), (5, vi l5)] [] := by
  intro f
  induction f with
  | zero => intro l4 l5 hw; exact hw.elim
  | succ f ih => intro l4 l5 hw; exact W5_fits_b65_body hC hRm hE hk0 hk1 (fun a0 a1 hw => ih a0 a1 hw) hw
def P5_fits (l0 : Nat) (l1 : Nat) (I : mI) (R : mR) (Q : Int → Prop) : Prop := (kK (R l1 0) = 21 ∧ (((0 : Int) ≤ (0 : Int) ∧ (0 : Int) < (kN (R l1 0) : Int)) ∧ (wLet (I (R l1 0) (0 : Int)) (fun x1 => (kK (R l1 0) = 21 ∧ (((0 : Int) ≤ (2 : Int) ∧ (2 : Int) < (kN (R l1 0) : Int)) ∧ (wLet (I (R l1 0) (2 : Int)) (fun x2 => (rg (2 * x1) ∧ (rg (5 + (2 * x1)) ∧ (rg ((5 + (2 * x1)) + x2) ∧ (if (I l0 1) = ((5 + (2 * x1)) + x2) then (P5_isChecked l0 I R (fun r1 => (if r1 = 0 then (Q 0) else (P5_pairAt l0 0 I R (fun r2 => (if (999 : Int) < r2 then (Q 0) else (P5_pairAt l0 2 I R (fun r3 => (if r3 ≤ 9999 then (∃ f, P5_fits_b65 l0 l1 x1 x2 I R Q f 0 0) else (Q 0)))))))))) else (Q 0)))))))))))))
set_option maxRecDepth 20000 in
theorem C5_fits {ad : Nat → Nat} {n : Nat} {I J : mI} {R : mR} {Q : Int → Prop}  {l0 : Nat} {l1 : Nat} (hk0 : kK l0 = 9) (hk1 : kK l1 = 3) (hw : P5_fits l0 l1 I R Q) : wMet yX5_fits cX5_fits 7 (some .boolean) 3 55 false ad n I J R [vr l0, vr l1] (fun r I' J' R' => (I' = I ∧ J' = J ∧ R' = R) ∧ Q r) := by
  refine wMet_of (by decide) (Nat.le_of_ble_eq_true rfl) (fun C hC hRm hE hS => ?_)
  refine (show WM C ad n I J R 0 0 0 [(0, vr l0), (1, vr l1)] [] from ?_)
  unfold P5_fits at hw
  refine wm_aload_n hC 1 dX5_fits_0 rfl (k_ne0 hk1 (by decide)) ?_
  refine x_getR2 hC 0 fl_X5_31 rfl hk1 dX5_fits_1 hw (fun g1 hw => ?_)
  refine wm_iconst hC dX5_fits_4 (k := ?_)
  refine x_iald hC g1 dX5_fits_5 hw (fun hw => ?_)
  refine x_nameI hw (fun x1 hw => ?_)
  refine wm_istore_n hC dX5_fits_6 (by decide) (L2 := [(2, vi x1), (0, vr l0), (1, vr l1)]) rfl ?_
  refine wm_aload_n hC 2 dX5_fits_7 rfl (k_ne0 hk1 (by decide)) ?_
  refine x_getR2 hC 0 fl_X5_31 rfl hk1 dX5_fits_8 hw (fun g2 hw => ?_)
  refine wm_iconst hC dX5_fits_11 (k := ?_)
  refine x_iald hC g2 dX5_fits_12 hw (fun hw => ?_)
  refine x_nameI hw (fun x2 hw => ?_)
  refine wm_istore_n hC dX5_fits_13 (by decide) (L2 := [(3, vi x2), (2, vi x1), (0, vr l0), (1, vr l1)]) rfl ?_
  refine wm_aload_n hC 2 dX5_fits_14 rfl (k_ne0 hk0 (by decide)) ?_
  refine x_getI hC 1 fl_X5_45 rfl hk0 dX5_fits_15 ?_
  refine wm_iconst hC dX5_fits_18 (k := ?_)
  refine wm_iconst hC dX5_fits_19 (k := ?_)
  refine wm_iload_n hC 1 dX5_fits_20 rfl ?_
  refine x_imul hC dX5_fits_21 hw (fun hw => ?_)
  refine x_iadd hC dX5_fits_22 hw (fun hw => ?_)
  refine wm_iload_n hC 0 dX5_fits_23 rfl ?_
  refine x_iadd hC dX5_fits_24 hw (fun hw => ?_)
  refine wm_icmp_ne (tgt := 57) hC dX5_fits_25 (by decide) hw (fun hw => ?_) (fun hw => ?_)
  · refine wm_aload_n hC 2 dX5_fits_28 rfl (k_ne0 hk0 (by decide)) ?_
    refine y_callS_z_n hC hRm noS ml_X5_48 (C5_isChecked hk0 hw) (Nat.le_of_ble_eq_true rfl) (Nat.le_of_ble_eq_true rfl) ⟨Nat.zero_le _, Nat.zero_le _⟩ rfl (st := []) rfl (Nat.le_of_ble_eq_true rfl) dX5_fits_29 (fun r1 hw => ?_)
    refine wm_if_eq (tgt := 57) hC dX5_fits_32 (by decide) hw (fun hw => ?_) (fun hw => ?_)
    · refine wm_iconst hC dX5_fits_57 (k := ?_)
      exact wm_zreturn hC hE (Or.inl rfl) dX5_fits_58 ⟨⟨rfl, rfl, rfl⟩, hw⟩
    · refine wm_aload_n hC 2 dX5_fits_35 rfl (k_ne0 hk0 (by decide)) ?_
      refine wm_iconst hC dX5_fits_36 (k := ?_)
      refine y_callS_i_n hC hRm noS ml_X5_52 (C5_pairAt hk0 hw) (Nat.le_of_ble_eq_true rfl) (Nat.le_of_ble_eq_true rfl) ⟨Nat.zero_le _, Nat.zero_le _⟩ rfl (st := []) rfl (Nat.le_of_ble_eq_true rfl) dX5_fits_37 (fun r2 hw => ?_)
      refine wm_sipush hC dX5_fits_40 (k := ?_)
      refine wm_icmp_gt (tgt := 57) hC dX5_fits_43 (by decide) hw (fun hw => ?_) (fun hw => ?_)
      · refine wm_iconst hC dX5_fits_57 (k := ?_)
        exact wm_zreturn hC hE (Or.inl rfl) dX5_fits_58 ⟨⟨rfl, rfl, rfl⟩, hw⟩
      · refine wm_aload_n hC 2 dX5_fits_46 rfl (k_ne0 hk0 (by decide)) ?_
        refine wm_iconst hC dX5_fits_47 (k := ?_)
        refine y_callS_i_n hC hRm noS ml_X5_52 (C5_pairAt hk0 hw) (Nat.le_of_ble_eq_true rfl) (Nat.le_of_ble_eq_true rfl) ⟨Nat.zero_le _, Nat.zero_le _⟩ rfl (st := []) rfl (Nat.le_of_ble_eq_true rfl) dX5_fits_48 (fun r3 hw => ?_)
        refine wm_sipush hC dX5_fits_51 (k := ?_)
        refine wm_icmp_le (tgt := 59) hC dX5_fits_54 (by decide) hw (fun hw => ?_) (fun hw => ?_)
        · refine wm_iconst hC dX5_fits_59 (k := ?_)
          refine wm_istore hC dX5_fits_60 (by decide) (L2 := [(4, vi 0), (3, vi x2), (2, vi x1), (0, vr l0), (1, vr l1)]) rfl ?_
          refine wm_iconst hC dX5_fits_62 (k := ?_)
          refine wm_istore hC dX5_fits_63 (by decide) (L2 := [(5, vi 0), (4, vi 0), (3, vi x2), (2, vi x1), (0, vr l0), (1, vr l1)]) rfl ?_
          obtain ⟨f, hw⟩ := hw
          refine wm_sub [4, 5, 3, 2, 1, 0] (L2 := [(0, vr l0), (1, vr l1), (2, vi x1), (3, vi x2), (4, vi 0), (5, vi 0)]) rfl ?_
          exact W5_fits_b65 hC hRm hE hk0 hk1 f _ _ hw
        · refine wm_iconst hC dX5_fits_57 (k := ?_)
          exact wm_zreturn hC hE (Or.inl rfl) dX5_fits_58 ⟨⟨rfl, rfl, rfl⟩, hw⟩
  · refine wm_iconst hC dX5_fits_57 (k := ?_)
    exact wm_zreturn hC hE (Or.inl rfl) dX5_fits_58 ⟨⟨rfl, rfl, rfl⟩, hw⟩
def P5_show_b80_body (l0 : Nat) (l1 : Nat) (l2 : Nat) (l3 : Int) (R : mR) (Q : mI → Prop) (k80 : Int → mI → Prop) (l4 : Int) (I : mI) : Prop := (kK (R l1 0) = 21 ∧ (((0 : Int) ≤ (2 : Int) ∧ (2 : Int) < (kN (R l1 0) : Int)) ∧ (if (I (R l1 0) (2 : Int)) ≤ l4 then (Q I) else (rg (2 * l3) ∧ (rg (4 + (2 * l3)) ∧ (rg ((4 + (2 * l3)) + l4) ∧ (P9_byteAt l0 ((4 + (2 * l3)) + l4) I R (fun r5 => (kK (R l2 5) = 21 ∧ (if r5 = 255 then (((0 : Int) ≤ l4 ∧ l4 < (kN (R l2 5) : Int)) ∧ wLet (up I (R l2 5) l4 (-1)) (fun I7 => (rg (l4 + 1) ∧ (k80 (l4 + 1) I7)))) else (((0 : Int) ≤ l4 ∧ l4 < (kN (R l2 5) : Int)) ∧ wLet (up I (R l2 5) l4 r5) (fun I6 => (rg (l4 + 1) ∧ (k80 (l4 + 1) I6))))))))))))))
def P5_show_b80 (l0 : Nat) (l1 : Nat) (l2 : Nat) (l3 : Int) (R : mR) (Q : mI → Prop) : Nat → Int → mI → Prop
  | 0 => fun _ _ => False
  | f + 1 => fun l4 I => P5_show_b80_body l0 l1 l2 l3 R Q (P5_show_b80 l0 l1 l2 l3 R Q f) l4 I
set_option maxRecDepth 20000 in
theorem W5_show_b80_body {C : wX} {ad : Nat → Nat} {n : Nat} {I J : mI} {R : mR} {Q : mI → Prop} (hC : wOK C cX5_show 6 RX5) (hRm : wRm C 3 54 0 0) (hE : wEnd C none ad n (fun _ I' J' R' => (J' = J ∧ R' = R) ∧ Q I')) {l0 : Nat} {l1 : Nat} {l2 : Nat} {l3 : Int} {l4 : Int}   (hk0 : kK l0 = 9) (hk1 : kK l1 = 3) (hk2 : kK l2 = 7)  {k80 : Int → mI → Prop} (kk80 : ∀ (y4 : Int) (I' : mI), k80 y4 I' → WM C ad n I' J R 0 0 80 [(0, vr l0), (1, vr l1), (2, vr l2), (3, vi l3), (4, vi y4)] []) (hw : P5_show_b80_body l0 l1 l2 l3 R Q k80 l4 I) : WM C ad n I J R 0 0 80 [(0, vr l0), (1, vr l1), (2, vr l2), (3, vi l3), (4, vi l4)] [] := by
  unfold P5_show_b80_body at hw
  refine wm_iload hC 4 dX5_show_80 rfl ?_
  refine wm_aload_n hC 1 dX5_show_82 rfl (k_ne0 hk1 (by decide)) ?_
  refine x_getR2 hC 0 fl_X5_31 rfl hk1 dX5_show_83 hw (fun g4 hw => ?_)
  refine wm_iconst hC dX5_show_86 (k := ?_)
  refine x_iald hC g4 dX5_show_87 hw (fun hw => ?_)
  refine wm_icmp_ge (tgt := 132) hC dX5_show_88 (by decide) hw (fun hw => ?_) (fun hw => ?_)
  · exact wm_return hC hE dX5_show_132 ⟨⟨rfl, rfl⟩, hw⟩
  · refine wm_aload_n hC 0 dX5_show_91 rfl (k_ne0 hk0 (by decide)) ?_
    refine wm_iconst hC dX5_show_92 (k := ?_)
    refine wm_iconst hC dX5_show_93 (k := ?_)
    refine wm_iload_n hC 3 dX5_show_94 rfl ?_
    refine x_imul hC dX5_show_95 hw (fun hw => ?_)
    refine x_iadd hC dX5_show_96 hw (fun hw => ?_)
    refine wm_iload hC 4 dX5_show_97 rfl ?_
    refine x_iadd hC dX5_show_99 hw (fun hw => ?_)
    refine y_callV_i_n hC hRm noS ml_X5_56 hk0 (C9_byteAt hk0 hw) (Nat.le_of_ble_eq_true rfl) (Nat.le_of_ble_eq_true rfl) ⟨Nat.zero_le _, Nat.zero_le _⟩ rfl (st := []) rfl (Nat.le_of_ble_eq_true rfl) dX5_show_100 (fun r5 hw => ?_)
    refine wm_istore hC dX5_show_103 (by decide) (L2 := [(5, vi r5), (0, vr l0), (1, vr l1), (2, vr l2), (3, vi l3), (4, vi l4)]) rfl ?_
    refine wm_aload_n hC 3 dX5_show_105 rfl (k_ne0 hk2 (by decide)) ?_
    refine x_getR2 hC 5 fl_X5_42 rfl hk2 dX5_show_106 hw (fun g5 hw => ?_)
    refine wm_iload hC 5 dX5_show_109 rfl ?_
    refine wm_iload hC 0 dX5_show_111 rfl ?_
    refine wm_sipush hC dX5_show_113 (k := ?_)
    refine wm_icmp_ne (tgt := 123) hC dX5_show_116 (by decide) hw (fun hw => ?_) (fun hw => ?_)
    · refine wm_iconst hC dX5_show_119 (k := ?_)
      refine wm_goto (tgt := 125) hC dX5_show_120 (by decide) ?_
      refine x_iast hC g5 dX5_show_125 hw (fun I7 hw => ?_)
      refine x_iinc hC 5 dX5_show_126 rfl (by decide) (L2 := [(4, vi (l4 + 1)), (5, vi r5), (0, vr l0), (1, vr l1), (2, vr l2), (3, vi l3)]) rfl hw (fun hw => ?_)
      refine wm_goto (tgt := 80) hC dX5_show_129 (by decide) ?_
      refine wm_sub [2, 3, 4, 5, 0] (L2 := [(0, vr l0), (1, vr l1), (2, vr l2), (3, vi l3), (4, vi (l4 + 1))]) rfl ?_
      exact kk80 _ _ hw
    · refine wm_iload hC 0 dX5_show_123 rfl ?_
      refine x_iast hC g5 dX5_show_125 hw (fun I6 hw => ?_)
      refine x_iinc hC 5 dX5_show_126 rfl (by decide) (L2 := [(4, vi (l4 + 1)), (5, vi r5), (0, vr l0), (1, vr l1), (2, vr l2), (3, vi l3)]) rfl hw (fun hw => ?_)
      refine wm_goto (tgt := 80) hC dX5_show_129 (by decide) ?_
      refine wm_sub [2, 3, 4, 5, 0] (L2 := [(0, vr l0), (1, vr l1), (2, vr l2), (3, vi l3), (4, vi (l4 + 1))]) rfl ?_
      exact kk80 _ _ hw
set_option maxRecDepth 20000 in
theorem W5_show_b80 {C : wX} {ad : Nat → Nat} {n : Nat} {J : mI} {R : mR} {Q : mI → Prop} (hC : wOK C cX5_show 6 RX5) (hRm : wRm C 3 54 0 0) (hE : wEnd C none ad n (fun _ I' J' R' => (J' = J ∧ R' = R) ∧ Q I')) {l0 : Nat} {l1 : Nat} {l2 : Nat} {l3 : Int}   (hk0 : kK l0 = 9) (hk1 : kK l1 = 3) (hk2 : kK l2 = 7)  : ∀ (f : Nat) (l4 : Int) (I : mI), P5_show_b80 l0 l1 l2 l3 R Q f l4 I → WM C ad n I J R 0 0 80 [(0, vr l0), (1, vr l1), (2, vr l2), (3, vi l3), (4, vi l4)] [] := by
  intro f
  induction f with
  | zero => intro l4 I hw; exact hw.elim
  | succ f ih => intro l4 I hw; exact W5_show_b80_body hC hRm hE hk0 hk1 hk2 (fun a0 a1 hw => ih a0 a1 hw) hw
def P5_show_b33_body (l0 : Nat) (l1 : Nat) (l2 : Nat) (l3 : Int) (R : mR) (Q : mI → Prop) (k33 : Int → mI → Prop) (l4 : Int) (I : mI) : Prop := (if l3 ≤ l4 then (∃ f, P5_show_b80 l0 l1 l2 l3 R Q f 0 I) else (kK (R l2 3) = 21 ∧ (rg (4 + l4) ∧ (P9_byteAt l0 (4 + l4) I R (fun r3 => (((0 : Int) ≤ l4 ∧ l4 < (kN (R l2 3) : Int)) ∧ wLet (up I (R l2 3) l4 r3) (fun I4 => (kK (R l2 4) = 21 ∧ (rg (4 + l3) ∧ (rg ((4 + l3) + l4) ∧ (P9_byteAt l0 ((4 + l3) + l4) I4 R (fun r4 => (((0 : Int) ≤ l4 ∧ l4 < (kN (R l2 4) : Int)) ∧ wLet (up I4 (R l2 4) l4 r4) (fun I5 => (rg (l4 + 1) ∧ (k33 (l4 + 1) I5))))))))))))))))
def P5_show_b33 (l0 : Nat) (l1 : Nat) (l2 : Nat) (l3 : Int) (R : mR) (Q : mI → Prop) : Nat → Int → mI → Prop
  | 0 => fun _ _ => False
  | f + 1 => fun l4 I => P5_show_b33_body l0 l1 l2 l3 R Q (P5_show_b33 l0 l1 l2 l3 R Q f) l4 I
set_option maxRecDepth 20000 in
theorem W5_show_b33_body {C : wX} {ad : Nat → Nat} {n : Nat} {I J : mI} {R : mR} {Q : mI → Prop} (hC : wOK C cX5_show 6 RX5) (hRm : wRm C 3 54 0 0) (hE : wEnd C none ad n (fun _ I' J' R' => (J' = J ∧ R' = R) ∧ Q I')) {l0 : Nat} {l1 : Nat} {l2 : Nat} {l3 : Int} {l4 : Int}   (hk0 : kK l0 = 9) (hk1 : kK l1 = 3) (hk2 : kK l2 = 7)  {k33 : Int → mI → Prop} (kk33 : ∀ (y4 : Int) (I' : mI), k33 y4 I' → WM C ad n I' J R 0 0 33 [(0, vr l0), (1, vr l1), (2, vr l2), (3, vi l3), (4, vi y4)] []) (hw : P5_show_b33_body l0 l1 l2 l3 R Q k33 l4 I) : WM C ad n I J R 0 0 33 [(0, vr l0), (1, vr l1), (2, vr l2), (3, vi l3), (4, vi l4)] [] := by
  unfold P5_show_b33_body at hw
  refine wm_iload hC 4 dX5_show_33 rfl ?_
  refine wm_iload_n hC 3 dX5_show_35 rfl ?_
  refine wm_icmp_ge (tgt := 77) hC dX5_show_36 (by decide) hw (fun hw => ?_) (fun hw => ?_)
  · refine wm_iconst hC dX5_show_77 (k := ?_)
    refine wm_istore hC dX5_show_78 (by decide) (L2 := [(4, vi 0), (0, vr l0), (1, vr l1), (2, vr l2), (3, vi l3)]) rfl ?_
    obtain ⟨f, hw⟩ := hw
    refine wm_sub [1, 2, 3, 4, 0] (L2 := [(0, vr l0), (1, vr l1), (2, vr l2), (3, vi l3), (4, vi 0)]) rfl ?_
    exact W5_show_b80 hC hRm hE hk0 hk1 hk2 f _ _ hw
  · refine wm_aload_n hC 2 dX5_show_39 rfl (k_ne0 hk2 (by decide)) ?_
    refine x_getR2 hC 3 fl_X5_36 rfl hk2 dX5_show_40 hw (fun g2 hw => ?_)
    refine wm_iload hC 4 dX5_show_43 rfl ?_
    refine wm_aload_n hC 0 dX5_show_45 rfl (k_ne0 hk0 (by decide)) ?_
    refine wm_iconst hC dX5_show_46 (k := ?_)
    refine wm_iload hC 4 dX5_show_47 rfl ?_
    refine x_iadd hC dX5_show_49 hw (fun hw => ?_)
    refine y_callV_i_n hC hRm noS ml_X5_56 hk0 (C9_byteAt hk0 hw) (Nat.le_of_ble_eq_true rfl) (Nat.le_of_ble_eq_true rfl) ⟨Nat.zero_le _, Nat.zero_le _⟩ rfl (st := [vi l4, vr (R l2 3)]) rfl (Nat.le_of_ble_eq_true rfl) dX5_show_50 (fun r3 hw => ?_)
    refine x_iast hC g2 dX5_show_53 hw (fun I4 hw => ?_)
    refine wm_aload_n hC 2 dX5_show_54 rfl (k_ne0 hk2 (by decide)) ?_
    refine x_getR2 hC 4 fl_X5_39 rfl hk2 dX5_show_55 hw (fun g3 hw => ?_)
    refine wm_iload hC 4 dX5_show_58 rfl ?_
    refine wm_aload_n hC 0 dX5_show_60 rfl (k_ne0 hk0 (by decide)) ?_
    refine wm_iconst hC dX5_show_61 (k := ?_)
    refine wm_iload_n hC 3 dX5_show_62 rfl ?_
    refine x_iadd hC dX5_show_63 hw (fun hw => ?_)
    refine wm_iload hC 4 dX5_show_64 rfl ?_
    refine x_iadd hC dX5_show_66 hw (fun hw => ?_)
    refine y_callV_i_n hC hRm noS ml_X5_56 hk0 (C9_byteAt hk0 hw) (Nat.le_of_ble_eq_true rfl) (Nat.le_of_ble_eq_true rfl) ⟨Nat.zero_le _, Nat.zero_le _⟩ rfl (st := [vi l4, vr (R l2 4)]) rfl (Nat.le_of_ble_eq_true rfl) dX5_show_67 (fun r4 hw => ?_)
    refine x_iast hC g3 dX5_show_70 hw (fun I5 hw => ?_)
    refine x_iinc hC 4 dX5_show_71 rfl (by decide) (L2 := [(4, vi (l4 + 1)), (0, vr l0), (1, vr l1), (2, vr l2), (3, vi l3)]) rfl hw (fun hw => ?_)
    refine wm_goto (tgt := 33) hC dX5_show_74 (by decide) ?_
    refine wm_sub [1, 2, 3, 4, 0] (L2 := [(0, vr l0), (1, vr l1), (2, vr l2), (3, vi l3), (4, vi (l4 + 1))]) rfl ?_
    exact kk33 _ _ hw
set_option maxRecDepth 20000 in
theorem W5_show_b33 {C : wX} {ad : Nat → Nat} {n : Nat} {J : mI} {R : mR} {Q : mI → Prop} (hC : wOK C cX5_show 6 RX5) (hRm : wRm C 3 54 0 0) (hE : wEnd C none ad n (fun _ I' J' R' => (J' = J ∧ R' = R) ∧ Q I')) {l0 : Nat} {l1 : Nat} {l2 : Nat} {l3 : Int}   (hk0 : kK l0 = 9) (hk1 : kK l1 = 3) (hk2 : kK l2 = 7)  : ∀ (f : Nat) (l4 : Int) (I : mI), P5_show_b33 l0 l1 l2 l3 R Q f l4 I → WM C ad n I J R 0 0 33 [(0, vr l0), (1, vr l1), (2, vr l2), (3, vi l3), (4, vi l4)] [] := by
  intro f
  induction f with
  | zero => intro l4 I hw; exact hw.elim
  | succ f ih => intro l4 I hw; exact W5_show_b33_body hC hRm hE hk0 hk1 hk2 (fun a0 a1 hw => ih a0 a1 hw) hw
def P5_show (l0 : Nat) (l1 : Nat) (l2 : Nat) (I : mI) (R : mR) (Q : mI → Prop) : Prop := (kK (R l1 0) = 21 ∧ (((0 : Int) ≤ (0 : Int) ∧ (0 : Int) < (kN (R l1 0) : Int)) ∧ (wLet (I (R l1 0) (0 : Int)) (fun x1 => (P5_pairAt l0 0 I R (fun r1 => (wLet (up I l2 0 r1) (fun I1 => (P5_pairAt l0 2 I1 R (fun r2 => (wLet (up I1 l2 1 r2) (fun I2 => (wLet (up I2 l2 2 0) (fun I3 => (∃ f, P5_show_b33 l0 l1 l2 x1 R Q f 0 I3)))))))))))))))
set_option maxRecDepth 20000 in
theorem C5_show {ad : Nat → Nat} {n : Nat} {I J : mI} {R : mR} {Q : mI → Prop}  {l0 : Nat} {l1 : Nat} {l2 : Nat} (hk0 : kK l0 = 9) (hk1 : kK l1 = 3) (hk2 : kK l2 = 7) (hw : P5_show l0 l1 l2 I R Q) : wMet yX5_show cX5_show 6 none 3 54 false ad n I J R [vr l0, vr l1, vr l2] (fun _ I' J' R' => (J' = J ∧ R' = R) ∧ Q I') := by
  refine wMet_of (by decide) (Nat.le_of_ble_eq_true rfl) (fun C hC hRm hE hS => ?_)
  refine (show WM C ad n I J R 0 0 0 [(0, vr l0), (1, vr l1), (2, vr l2)] [] from ?_)
  unfold P5_show at hw
  refine wm_aload_n hC 1 dX5_show_0 rfl (k_ne0 hk1 (by decide)) ?_
  refine x_getR2 hC 0 fl_X5_31 rfl hk1 dX5_show_1 hw (fun g1 hw => ?_)
  refine wm_iconst hC dX5_show_4 (k := ?_)
  refine x_iald hC g1 dX5_show_5 hw (fun hw => ?_)
  refine x_nameI hw (fun x1 hw => ?_)
  refine wm_istore_n hC dX5_show_6 (by decide) (L2 := [(3, vi x1), (0, vr l0), (1, vr l1), (2, vr l2)]) rfl ?_
  refine wm_aload_n hC 3 dX5_show_7 rfl (k_ne0 hk2 (by decide)) ?_
  refine wm_aload_n hC 1 dX5_show_8 rfl (k_ne0 hk0 (by decide)) ?_
  refine wm_iconst hC dX5_show_9 (k := ?_)
  refine y_callS_i_n hC hRm noS ml_X5_52 (C5_pairAt hk0 hw) (Nat.le_of_ble_eq_true rfl) (Nat.le_of_ble_eq_true rfl) ⟨Nat.zero_le _, Nat.zero_le _⟩ rfl (st := [vr l2]) rfl (Nat.le_of_ble_eq_true rfl) dX5_show_10 (fun r1 hw => ?_)
  refine x_putI hC 0 fl_X5_19 rfl hk2 dX5_show_13 hw (fun I1 hw => ?_)
  refine wm_aload_n hC 3 dX5_show_16 rfl (k_ne0 hk2 (by decide)) ?_
  refine wm_aload_n hC 1 dX5_show_17 rfl (k_ne0 hk0 (by decide)) ?_
  refine wm_iconst hC dX5_show_18 (k := ?_)
  refine y_callS_i_n hC hRm noS ml_X5_52 (C5_pairAt hk0 hw) (Nat.le_of_ble_eq_true rfl) (Nat.le_of_ble_eq_true rfl) ⟨Nat.zero_le _, Nat.zero_le _⟩ rfl (st := [vr l2]) rfl (Nat.le_of_ble_eq_true rfl) dX5_show_19 (fun r2 hw => ?_)
  refine x_putI hC 1 fl_X5_28 rfl hk2 dX5_show_22 hw (fun I2 hw => ?_)
  refine wm_aload_n hC 3 dX5_show_25 rfl (k_ne0 hk2 (by decide)) ?_
  refine wm_iconst hC dX5_show_26 (k := ?_)
  refine x_putI hC 2 fl_X5_68 rfl hk2 dX5_show_27 hw (fun I3 hw => ?_)
  refine wm_iconst hC dX5_show_30 (k := ?_)
  refine wm_istore hC dX5_show_31 (by decide) (L2 := [(4, vi 0), (3, vi x1), (0, vr l0), (1, vr l1), (2, vr l2)]) rfl ?_
  obtain ⟨f, hw⟩ := hw
  refine wm_sub [2, 3, 4, 1, 0] (L2 := [(0, vr l0), (1, vr l1), (2, vr l2), (3, vi x1), (4, vi 0)]) rfl ?_
  exact W5_show_b33 hC hRm hE hk0 hk1 hk2 f _ _ hw
def PJ0_isLatin1_aae02 (l0 : Nat)  (Q : Int → Prop) : Prop := (if (1 : Int) = 0 then (Q 0) else (if (0 : Int) = 0 then (Q 1) else (Q 0)))
set_option maxRecDepth 20000 in
theorem CJ0_isLatin1_aae02 {ad : Nat → Nat} {n : Nat} {I J : mI} {R : mR} {Q : Int → Prop}  {l0 : Nat} (hk0 : sK l0) (hw : PJ0_isLatin1_aae02 l0 Q) : wMet yJ0_isLatin1_aae02 cJ0_isLatin1_aae02 1 (some .boolean) 1 12 true ad n I J R [vr l0] (fun r I' J' R' => (I' = I ∧ J' = J ∧ R' = R) ∧ Q r) := by
  refine wMet_of (by decide) (Nat.le_of_ble_eq_true rfl) (fun C hC hRm hE hS => ?_)
  have hStr := hS rfl
  refine (show WM C ad n I J R 0 0 0 [(0, vr l0)] [] from ?_)
  unfold PJ0_isLatin1_aae02 at hw
  refine wm_compact hC hStr sw_J0_38 dJ0_isLatin1_aae02_0 ?_
  refine wm_if_eq (tgt := 17) hC dJ0_isLatin1_aae02_3 (by decide) hw (fun hw => ?_) (fun hw => ?_)
  · refine wm_iconst hC dJ0_isLatin1_aae02_17 (k := ?_)
    exact wm_zreturn hC hE (Or.inl rfl) dJ0_isLatin1_aae02_18 ⟨⟨rfl, rfl, rfl⟩, hw⟩
  · refine wm_aload_n hC 0 dJ0_isLatin1_aae02_6 rfl (s_ne0 hk0) ?_
    refine wm_sgetC hC hStr hk0 sw_J0_15 dJ0_isLatin1_aae02_7 ?_
    refine wm_if_ne (tgt := 17) hC dJ0_isLatin1_aae02_10 (by decide) hw (fun hw => ?_) (fun hw => ?_)
    · refine wm_iconst hC dJ0_isLatin1_aae02_13 (k := ?_)
      refine wm_goto (tgt := 18) hC dJ0_isLatin1_aae02_14 (by decide) ?_
      exact wm_zreturn hC hE (Or.inr rfl) dJ0_isLatin1_aae02_18 ⟨⟨rfl, rfl, rfl⟩, hw⟩
    · refine wm_iconst hC dJ0_isLatin1_aae02_17 (k := ?_)
      exact wm_zreturn hC hE (Or.inl rfl) dJ0_isLatin1_aae02_18 ⟨⟨rfl, rfl, rfl⟩, hw⟩
def PJ0_coder_7d493 (l0 : Nat)  (Q : Int → Prop) : Prop := (if (1 : Int) = 0 then False else (Q 0))
set_option maxRecDepth 20000 in
theorem CJ0_coder_7d493 {ad : Nat → Nat} {n : Nat} {I J : mI} {R : mR} {Q : Int → Prop}  {l0 : Nat} (hk0 : sK l0) (hw : PJ0_coder_7d493 l0 Q) : wMet yJ0_coder_7d493 cJ0_coder_7d493 1 (some .byte) 1 12 true ad n I J R [vr l0] (fun r I' J' R' => (I' = I ∧ J' = J ∧ R' = R) ∧ Q r) := by
  refine wMet_of (by decide) (Nat.le_of_ble_eq_true rfl) (fun C hC hRm hE hS => ?_)
  have hStr := hS rfl
  refine (show WM C ad n I J R 0 0 0 [(0, vr l0)] [] from ?_)
  unfold PJ0_coder_7d493 at hw
  refine wm_compact hC hStr sw_J0_38 dJ0_coder_7d493_0 ?_
  refine wm_if_eq (tgt := 13) hC dJ0_coder_7d493_3 (by decide) hw (fun hw => ?_) (fun hw => ?_)
  · refine wm_iconst hC dJ0_coder_7d493_13 (k := ?_)
    exact hw.elim
  · refine wm_aload_n hC 0 dJ0_coder_7d493_6 rfl (s_ne0 hk0) ?_
    refine wm_sgetC hC hStr hk0 sw_J0_15 dJ0_coder_7d493_7 ?_
    refine wm_goto (tgt := 14) hC dJ0_coder_7d493_10 (by decide) ?_
    exact wm_breturn hC hE dJ0_coder_7d493_14 ⟨⟨rfl, rfl, rfl⟩, hw⟩
def PJ0_length_8abf5 (l0 : Nat)  (Q : Int → Prop) : Prop := (PJ0_coder_7d493 l0 (fun r1 => (Q (bShr (sN (l0 + 10) : Int) r1))))
set_option maxRecDepth 20000 in
theorem CJ0_length_8abf5 {ad : Nat → Nat} {n : Nat} {I J : mI} {R : mR} {Q : Int → Prop}  {l0 : Nat} (hk0 : sK l0) (hw : PJ0_length_8abf5 l0 Q) : wMet yJ0_length_8abf5 cJ0_length_8abf5 1 (some .int) 2 32 true ad n I J R [vr l0] (fun r I' J' R' => (I' = I ∧ J' = J ∧ R' = R) ∧ Q r) := by
  refine wMet_of (by decide) (Nat.le_of_ble_eq_true rfl) (fun C hC hRm hE hS => ?_)
  have hStr := hS rfl
  refine (show WM C ad n I J R 0 0 0 [(0, vr l0)] [] from ?_)
  unfold PJ0_length_8abf5 at hw
  refine wm_aload_n hC 0 dJ0_length_8abf5_0 rfl (s_ne0 hk0) ?_
  refine wm_sgetV hC hStr hk0 sw_J0_9 dJ0_length_8abf5_1 ?_
  refine wm_salen hC hStr (s_arr hk0) dJ0_length_8abf5_4 ?_
  refine wm_aload_n hC 0 dJ0_length_8abf5_5 rfl (s_ne0 hk0) ?_
  refine y_callT hC hRm hStr ml_J0_335 hk0 (CJ0_coder_7d493 hk0 hw) (by decide) (Nat.le_of_ble_eq_true rfl) (Nat.le_of_ble_eq_true rfl) ⟨Nat.zero_le _, Nat.zero_le _⟩ rfl (st := [vi (sN (l0 + 10) : Int)]) rfl (Nat.le_of_ble_eq_true rfl) dJ0_length_8abf5_6 (fun r1 hw => ?_)
  refine wm_ishr hC dJ0_length_8abf5_9 ?_
  exact wm_ireturn hC hE dJ0_length_8abf5_10 ⟨⟨rfl, rfl, rfl⟩, hw⟩
def PJ1_canEncode_9a6ad (l0 : Int)  (Q : Int → Prop) : Prop := (if l0 < 0 then (Q 0) else (if (255 : Int) < l0 then (Q 0) else (Q 1)))
set_option maxRecDepth 20000 in
theorem CJ1_canEncode_9a6ad {ad : Nat → Nat} {n : Nat} {I J : mI} {R : mR} {Q : Int → Prop}  {l0 : Int}  (hw : PJ1_canEncode_9a6ad l0 Q) : wMet yJ1_canEncode_9a6ad cJ1_canEncode_9a6ad 1 (some .boolean) 1 12 false ad n I J R [vi l0] (fun r I' J' R' => (I' = I ∧ J' = J ∧ R' = R) ∧ Q r) := by
  refine wMet_of (by decide) (Nat.le_of_ble_eq_true rfl) (fun C hC hRm hE hS => ?_)
  refine (show WM C ad n I J R 0 0 0 [(0, vi l0)] [] from ?_)
  unfold PJ1_canEncode_9a6ad at hw
  refine wm_iload_n hC 0 dJ1_canEncode_9a6ad_0 rfl ?_
  refine wm_if_lt (tgt := 15) hC dJ1_canEncode_9a6ad_1 (by decide) hw (fun hw => ?_) (fun hw => ?_)
  · refine wm_iconst hC dJ1_canEncode_9a6ad_15 (k := ?_)
    exact wm_zreturn hC hE (Or.inl rfl) dJ1_canEncode_9a6ad_16 ⟨⟨rfl, rfl, rfl⟩, hw⟩
  · refine wm_iload_n hC 0 dJ1_canEncode_9a6ad_4 rfl ?_
    refine wm_sipush hC dJ1_canEncode_9a6ad_5 (k := ?_)
    refine wm_icmp_gt (tgt := 15) hC dJ1_canEncode_9a6ad_8 (by decide) hw (fun hw => ?_) (fun hw => ?_)
    · refine wm_iconst hC dJ1_canEncode_9a6ad_15 (k := ?_)
      exact wm_zreturn hC hE (Or.inl rfl) dJ1_canEncode_9a6ad_16 ⟨⟨rfl, rfl, rfl⟩, hw⟩
    · refine wm_iconst hC dJ1_canEncode_9a6ad_11 (k := ?_)
      refine wm_goto (tgt := 16) hC dJ1_canEncode_9a6ad_12 (by decide) ?_
      exact wm_zreturn hC hE (Or.inr rfl) dJ1_canEncode_9a6ad_16 ⟨⟨rfl, rfl, rfl⟩, hw⟩
def PJ1_indexOfChar_4cfef_b7_body (l0 : Nat) (l3 : Int) (l4 : Int) (Q : Int → Prop) (k7 : Int → Prop) (l5 : Int) : Prop := (if l3 ≤ l5 then (Q (-1)) else (((0 : Int) ≤ l5 ∧ l5 < (sN l0 : Int)) ∧ (if (sB l0 l5) = l4 then (Q l5) else (rg (l5 + 1) ∧ (k7 (l5 + 1))))))
def PJ1_indexOfChar_4cfef_b7 (l0 : Nat) (l3 : Int) (l4 : Int) (Q : Int → Prop) : Nat → Int → Prop
  | 0 => fun _ => False
  | f + 1 => fun l5 => PJ1_indexOfChar_4cfef_b7_body l0 l3 l4 Q (PJ1_indexOfChar_4cfef_b7 l0 l3 l4 Q f) l5
set_option maxRecDepth 20000 in
theorem WJ1_indexOfChar_4cfef_b7_body {C : wX} {ad : Nat → Nat} {n : Nat} {I J : mI} {R : mR} {Q : Int → Prop} (hC : wOK C cJ1_indexOfChar_4cfef 6 RJ1) (hRm : wRm C 1 12 0 0) (hE : wEnd C (some .int) ad n (fun r I' J' R' => (I' = I ∧ J' = J ∧ R' = R) ∧ Q r)) (hStr : wStrC C ad) {l0 : Nat} {l3 : Int} {l4 : Int} {l5 : Int}   (hk0 : sA l0)  {k7 : Int → Prop} (kk7 : ∀ (y5 : Int), k7 y5 → WM C ad n I J R 0 0 7 [(0, vr l0), (3, vi l3), (4, vi l4), (5, vi y5)] []) (hw : PJ1_indexOfChar_4cfef_b7_body l0 l3 l4 Q k7 l5) : WM C ad n I J R 0 0 7 [(0, vr l0), (3, vi l3), (4, vi l4), (5, vi l5)] [] := by
  unfold PJ1_indexOfChar_4cfef_b7_body at hw
  refine wm_iload hC 3 dJ1_indexOfChar_4cfef_7 rfl ?_
  refine wm_iload_n hC 1 dJ1_indexOfChar_4cfef_9 rfl ?_
  refine wm_icmp_ge (tgt := 31) hC dJ1_indexOfChar_4cfef_10 (by decide) hw (fun hw => ?_) (fun hw => ?_)
  · refine wm_iconst hC dJ1_indexOfChar_4cfef_31 (k := ?_)
    exact wm_ireturn hC hE dJ1_indexOfChar_4cfef_32 ⟨⟨rfl, rfl, rfl⟩, hw⟩
  · refine wm_aload_n hC 0 dJ1_indexOfChar_4cfef_13 rfl (a_ne0 hk0) ?_
    refine wm_iload hC 3 dJ1_indexOfChar_4cfef_14 rfl ?_
    refine wm_sbald hC hStr hk0 dJ1_indexOfChar_4cfef_16 hw (fun hw => ?_)
    refine wm_iload hC 2 dJ1_indexOfChar_4cfef_17 rfl ?_
    refine wm_icmp_ne (tgt := 25) hC dJ1_indexOfChar_4cfef_19 (by decide) hw (fun hw => ?_) (fun hw => ?_)
    · refine wm_iload hC 3 dJ1_indexOfChar_4cfef_22 rfl ?_
      exact wm_ireturn hC hE dJ1_indexOfChar_4cfef_24 ⟨⟨rfl, rfl, rfl⟩, hw⟩
    · refine x_iinc hC 3 dJ1_indexOfChar_4cfef_25 rfl (by decide) (L2 := [(5, vi (l5 + 1)), (0, vr l0), (3, vi l3), (4, vi l4)]) rfl hw (fun hw => ?_)
      refine wm_goto (tgt := 7) hC dJ1_indexOfChar_4cfef_28 (by decide) ?_
      refine wm_sub [1, 2, 3, 0] (L2 := [(0, vr l0), (3, vi l3), (4, vi l4), (5, vi (l5 + 1))]) rfl ?_
      exact kk7 _ hw
set_option maxRecDepth 20000 in
theorem WJ1_indexOfChar_4cfef_b7 {C : wX} {ad : Nat → Nat} {n : Nat} {I J : mI} {R : mR} {Q : Int → Prop} (hC : wOK C cJ1_indexOfChar_4cfef 6 RJ1) (hRm : wRm C 1 12 0 0) (hE : wEnd C (some .int) ad n (fun r I' J' R' => (I' = I ∧ J' = J ∧ R' = R) ∧ Q r)) (hStr : wStrC C ad) {l0 : Nat} {l3 : Int} {l4 : Int}   (hk0 : sA l0)  : ∀ (f : Nat) (l5 : Int), PJ1_indexOfChar_4cfef_b7 l0 l3 l4 Q f l5 → WM C ad n I J R 0 0 7 [(0, vr l0), (3, vi l3), (4, vi l4), (5, vi l5)] [] := by
  intro f
  induction f with
  | zero => intro l5 hw; exact hw.elim
  | succ f ih => intro l5 hw; exact WJ1_indexOfChar_4cfef_b7_body hC hRm hE hStr hk0 (fun a0 hw => ih a0 hw) hw
def PJ1_indexOfChar_4cfef (l0 : Nat) (l1 : Int) (l2 : Int) (l3 : Int)  (Q : Int → Prop) : Prop := (∃ f, PJ1_indexOfChar_4cfef_b7 l0 l3 (nB l1) Q f l2)
set_option maxRecDepth 20000 in
theorem CJ1_indexOfChar_4cfef {ad : Nat → Nat} {n : Nat} {I J : mI} {R : mR} {Q : Int → Prop}  {l0 : Nat} {l1 : Int} {l2 : Int} {l3 : Int} (hk0 : sA l0) (hw : PJ1_indexOfChar_4cfef l0 l1 l2 l3 Q) : wMet yJ1_indexOfChar_4cfef cJ1_indexOfChar_4cfef 6 (some .int) 1 12 true ad n I J R [vr l0, vi l1, vi l2, vi l3] (fun r I' J' R' => (I' = I ∧ J' = J ∧ R' = R) ∧ Q r) := by
  refine wMet_of (by decide) (Nat.le_of_ble_eq_true rfl) (fun C hC hRm hE hS => ?_)
  have hStr := hS rfl
  refine (show WM C ad n I J R 0 0 0 [(0, vr l0), (1, vi l1), (2, vi l2), (3, vi l3)] [] from ?_)
  unfold PJ1_indexOfChar_4cfef at hw
  refine wm_iload_n hC 1 dJ1_indexOfChar_4cfef_0 rfl ?_
  refine wm_i2b hC dJ1_indexOfChar_4cfef_1 ?_
  refine wm_istore hC dJ1_indexOfChar_4cfef_2 (by decide) (L2 := [(4, vi (nB l1)), (0, vr l0), (1, vi l1), (2, vi l2), (3, vi l3)]) rfl ?_
  refine wm_iload_n hC 3 dJ1_indexOfChar_4cfef_4 rfl ?_
  refine wm_istore hC dJ1_indexOfChar_4cfef_5 (by decide) (L2 := [(5, vi l2), (4, vi (nB l1)), (0, vr l0), (1, vi l1), (2, vi l2), (3, vi l3)]) rfl ?_
  obtain ⟨f, hw⟩ := hw
  refine wm_sub [2, 5, 1, 0] (L2 := [(0, vr l0), (3, vi l3), (4, vi (nB l1)), (5, vi l2)]) rfl ?_
  exact WJ1_indexOfChar_4cfef_b7 hC hRm hE hStr hk0 f _ hw
def PJ9_max_7cf53 (l0 : Int) (l1 : Int)  (Q : Int → Prop) : Prop := (if l0 < l1 then (Q l1) else (Q l0))
set_option maxRecDepth 20000 in
theorem CJ9_max_7cf53 {ad : Nat → Nat} {n : Nat} {I J : mI} {R : mR} {Q : Int → Prop}  {l0 : Int} {l1 : Int}  (hw : PJ9_max_7cf53 l0 l1 Q) : wMet yJ9_max_7cf53 cJ9_max_7cf53 2 (some .int) 1 12 false ad n I J R [vi l0, vi l1] (fun r I' J' R' => (I' = I ∧ J' = J ∧ R' = R) ∧ Q r) := by
  refine wMet_of (by decide) (Nat.le_of_ble_eq_true rfl) (fun C hC hRm hE hS => ?_)
  refine (show WM C ad n I J R 0 0 0 [(0, vi l0), (1, vi l1)] [] from ?_)
  unfold PJ9_max_7cf53 at hw
  refine wm_iload_n hC 0 dJ9_max_7cf53_0 rfl ?_
  refine wm_iload_n hC 1 dJ9_max_7cf53_1 rfl ?_
  refine wm_icmp_lt (tgt := 9) hC dJ9_max_7cf53_2 (by decide) hw (fun hw => ?_) (fun hw => ?_)
  · refine wm_iload_n hC 1 dJ9_max_7cf53_9 rfl ?_
    exact wm_ireturn hC hE dJ9_max_7cf53_10 ⟨⟨rfl, rfl, rfl⟩, hw⟩
  · refine wm_iload_n hC 0 dJ9_max_7cf53_5 rfl ?_
    refine wm_goto (tgt := 10) hC dJ9_max_7cf53_6 (by decide) ?_
    exact wm_ireturn hC hE dJ9_max_7cf53_10 ⟨⟨rfl, rfl, rfl⟩, hw⟩
def PJ9_min_7cf53 (l0 : Int) (l1 : Int)  (Q : Int → Prop) : Prop := (if l1 < l0 then (Q l1) else (Q l0))
set_option maxRecDepth 20000 in
theorem CJ9_min_7cf53 {ad : Nat → Nat} {n : Nat} {I J : mI} {R : mR} {Q : Int → Prop}  {l0 : Int} {l1 : Int}  (hw : PJ9_min_7cf53 l0 l1 Q) : wMet yJ9_min_7cf53 cJ9_min_7cf53 2 (some .int) 1 12 false ad n I J R [vi l0, vi l1] (fun r I' J' R' => (I' = I ∧ J' = J ∧ R' = R) ∧ Q r) := by
  refine wMet_of (by decide) (Nat.le_of_ble_eq_true rfl) (fun C hC hRm hE hS => ?_)
  refine (show WM C ad n I J R 0 0 0 [(0, vi l0), (1, vi l1)] [] from ?_)
  unfold PJ9_min_7cf53 at hw
  refine wm_iload_n hC 0 dJ9_min_7cf53_0 rfl ?_
  refine wm_iload_n hC 1 dJ9_min_7cf53_1 rfl ?_
  refine wm_icmp_gt (tgt := 9) hC dJ9_min_7cf53_2 (by decide) hw (fun hw => ?_) (fun hw => ?_)
  · refine wm_iload_n hC 1 dJ9_min_7cf53_9 rfl ?_
    exact wm_ireturn hC hE dJ9_min_7cf53_10 ⟨⟨rfl, rfl, rfl⟩, hw⟩
  · refine wm_iload_n hC 0 dJ9_min_7cf53_5 rfl ?_
    refine wm_goto (tgt := 10) hC dJ9_min_7cf53_6 (by decide) ?_
    exact wm_ireturn hC hE dJ9_min_7cf53_10 ⟨⟨rfl, rfl, rfl⟩, hw⟩
def PJ1_indexOf_4cfef (l0 : Nat) (l1 : Int) (l2 : Int) (l3 : Int)  (Q : Int → Prop) : Prop := (PJ1_canEncode_9a6ad l1 (fun r1 => (if r1 = 0 then (Q (-1)) else (PJ9_max_7cf53 l2 0 (fun r2 => (PJ9_min_7cf53 l3 (sN l0 : Int) (fun r3 => (if r2 < r3 then (PJ1_indexOfChar_4cfef l0 l1 r2 r3 (fun r4 => (Q r4))) else (Q (-1))))))))))
set_option maxRecDepth 20000 in
theorem CJ1_indexOf_4cfef {ad : Nat → Nat} {n : Nat} {I J : mI} {R : mR} {Q : Int → Prop}  {l0 : Nat} {l1 : Int} {l2 : Int} {l3 : Int} (hk0 : sA l0) (hw : PJ1_indexOf_4cfef l0 l1 l2 l3 Q) : wMet yJ1_indexOf_4cfef cJ1_indexOf_4cfef 4 (some .int) 2 37 true ad n I J R [vr l0, vi l1, vi l2, vi l3] (fun r I' J' R' => (I' = I ∧ J' = J ∧ R' = R) ∧ Q r) := by
  refine wMet_of (by decide) (Nat.le_of_ble_eq_true rfl) (fun C hC hRm hE hS => ?_)
  have hStr := hS rfl
  refine (show WM C ad n I J R 0 0 0 [(0, vr l0), (1, vi l1), (2, vi l2), (3, vi l3)] [] from ?_)
  unfold PJ1_indexOf_4cfef at hw
  refine wm_iload_n hC 1 dJ1_indexOf_4cfef_0 rfl ?_
  refine y_callS_z_n hC hRm noS ml_J1_88 (CJ1_canEncode_9a6ad  hw) (Nat.le_of_ble_eq_true rfl) (Nat.le_of_ble_eq_true rfl) ⟨Nat.zero_le _, Nat.zero_le _⟩ rfl (st := []) rfl (Nat.le_of_ble_eq_true rfl) dJ1_indexOf_4cfef_1 (fun r1 hw => ?_)
  refine wm_if_ne (tgt := 9) hC dJ1_indexOf_4cfef_4 (by decide) hw (fun hw => ?_) (fun hw => ?_)
  · refine wm_iconst hC dJ1_indexOf_4cfef_7 (k := ?_)
    exact wm_ireturn hC hE dJ1_indexOf_4cfef_8 ⟨⟨rfl, rfl, rfl⟩, hw⟩
  · refine wm_iload_n hC 2 dJ1_indexOf_4cfef_9 rfl ?_
    refine wm_iconst hC dJ1_indexOf_4cfef_10 (k := ?_)
    refine y_callS_i_n hC hRm noS ml_J1_92 (CJ9_max_7cf53  hw) (Nat.le_of_ble_eq_true rfl) (Nat.le_of_ble_eq_true rfl) ⟨Nat.zero_le _, Nat.zero_le _⟩ rfl (st := []) rfl (Nat.le_of_ble_eq_true rfl) dJ1_indexOf_4cfef_11 (fun r2 hw => ?_)
    refine wm_istore_n hC dJ1_indexOf_4cfef_14 (by decide) (L2 := [(2, vi r2), (0, vr l0), (1, vi l1), (3, vi l3)]) rfl ?_
    refine wm_iload_n hC 3 dJ1_indexOf_4cfef_15 rfl ?_
    refine wm_aload_n hC 1 dJ1_indexOf_4cfef_16 rfl (a_ne0 hk0) ?_
    refine wm_salen hC hStr hk0 dJ1_indexOf_4cfef_17 ?_
    refine y_callS_i_n hC hRm noS ml_J1_38 (CJ9_min_7cf53  hw) (Nat.le_of_ble_eq_true rfl) (Nat.le_of_ble_eq_true rfl) ⟨Nat.zero_le _, Nat.zero_le _⟩ rfl (st := []) rfl (Nat.le_of_ble_eq_true rfl) dJ1_indexOf_4cfef_18 (fun r3 hw => ?_)
    refine wm_istore_n hC dJ1_indexOf_4cfef_21 (by decide) (L2 := [(3, vi r3), (2, vi r2), (0, vr l0), (1, vi l1)]) rfl ?_
    refine wm_iload_n hC 1 dJ1_indexOf_4cfef_22 rfl ?_
    refine wm_iload_n hC 0 dJ1_indexOf_4cfef_23 rfl ?_
    refine wm_icmp_lt (tgt := 29) hC dJ1_indexOf_4cfef_24 (by decide) hw (fun hw => ?_) (fun hw => ?_)
    · refine wm_aload_n hC 2 dJ1_indexOf_4cfef_29 rfl (a_ne0 hk0) ?_
      refine wm_iload_n hC 3 dJ1_indexOf_4cfef_30 rfl ?_
      refine wm_iload_n hC 1 dJ1_indexOf_4cfef_31 rfl ?_
      refine wm_iload_n hC 0 dJ1_indexOf_4cfef_32 rfl ?_
      refine y_callS_i_n hC hRm (fun _ => hStr) ml_J1_95 (CJ1_indexOfChar_4cfef hk0 hw) (Nat.le_of_ble_eq_true rfl) (Nat.le_of_ble_eq_true rfl) ⟨Nat.zero_le _, Nat.zero_le _⟩ rfl (st := []) rfl (Nat.le_of_ble_eq_true rfl) dJ1_indexOf_4cfef_33 (fun r4 hw => ?_)
      exact wm_ireturn hC hE dJ1_indexOf_4cfef_36 ⟨⟨rfl, rfl, rfl⟩, hw⟩
    · refine wm_iconst hC dJ1_indexOf_4cfef_27 (k := ?_)
      exact wm_ireturn hC hE dJ1_indexOf_4cfef_28 ⟨⟨rfl, rfl, rfl⟩, hw⟩
def PJ0_indexOf_7cf53 (l0 : Nat) (l1 : Int) (l2 : Int)  (Q : Int → Prop) : Prop := (PJ0_isLatin1_aae02 l0 (fun r1 => (if r1 = 0 then False else (PJ0_length_8abf5 l0 (fun r2 => (PJ1_indexOf_4cfef (l0 + 10) l1 l2 r2 (fun r3 => (Q r3))))))))
set_option maxRecDepth 20000 in
theorem CJ0_indexOf_7cf53 {ad : Nat → Nat} {n : Nat} {I J : mI} {R : mR} {Q : Int → Prop}  {l0 : Nat} {l1 : Int} {l2 : Int} (hk0 : sK l0) (hw : PJ0_indexOf_7cf53 l0 l1 l2 Q) : wMet yJ0_indexOf_7cf53 cJ0_indexOf_7cf53 3 (some .int) 3 60 true ad n I J R [vr l0, vi l1, vi l2] (fun r I' J' R' => (I' = I ∧ J' = J ∧ R' = R) ∧ Q r) := by
  refine wMet_of (by decide) (Nat.le_of_ble_eq_true rfl) (fun C hC hRm hE hS => ?_)
  have hStr := hS rfl
  refine (show WM C ad n I J R 0 0 0 [(0, vr l0), (1, vi l1), (2, vi l2)] [] from ?_)
  unfold PJ0_indexOf_7cf53 at hw
  refine wm_aload_n hC 0 dJ0_indexOf_7cf53_0 rfl (s_ne0 hk0) ?_
  refine y_callT hC hRm hStr ml_J0_492 hk0 (CJ0_isLatin1_aae02 hk0 hw) (by decide) (Nat.le_of_ble_eq_true rfl) (Nat.le_of_ble_eq_true rfl) ⟨Nat.zero_le _, Nat.zero_le _⟩ rfl (st := []) rfl (Nat.le_of_ble_eq_true rfl) dJ0_indexOf_7cf53_1 (fun r1 hw => ?_)
  refine wm_if_eq (tgt := 23) hC dJ0_indexOf_7cf53_4 (by decide) hw (fun hw => ?_) (fun hw => ?_)
  · exact hw.elim
  · refine wm_aload_n hC 0 dJ0_indexOf_7cf53_7 rfl (s_ne0 hk0) ?_
    refine wm_sgetV hC hStr hk0 sw_J0_9 dJ0_indexOf_7cf53_8 ?_
    refine wm_iload_n hC 1 dJ0_indexOf_7cf53_11 rfl ?_
    refine wm_iload_n hC 2 dJ0_indexOf_7cf53_12 rfl ?_
    refine wm_aload_n hC 0 dJ0_indexOf_7cf53_13 rfl (s_ne0 hk0) ?_
    refine y_callT hC hRm hStr ml_J0_505 hk0 (CJ0_length_8abf5 hk0 hw) (by decide) (Nat.le_of_ble_eq_true rfl) (Nat.le_of_ble_eq_true rfl) ⟨Nat.zero_le _, Nat.zero_le _⟩ rfl (st := [vi l2, vi l1, vr (l0 + 10)]) rfl (Nat.le_of_ble_eq_true rfl) dJ0_indexOf_7cf53_14 (fun r2 hw => ?_)
    refine y_callS_i_n hC hRm (fun _ => hStr) ml_J0_637 (CJ1_indexOf_4cfef (s_arr hk0) hw) (Nat.le_of_ble_eq_true rfl) (Nat.le_of_ble_eq_true rfl) ⟨Nat.zero_le _, Nat.zero_le _⟩ rfl (st := []) rfl (Nat.le_of_ble_eq_true rfl) dJ0_indexOf_7cf53_17 (fun r3 hw => ?_)
    refine wm_goto (tgt := 36) hC dJ0_indexOf_7cf53_20 (by decide) ?_
    exact wm_ireturn hC hE dJ0_indexOf_7cf53_36 ⟨⟨rfl, rfl, rfl⟩, hw⟩
def PJ0_indexOf_0f7a4 (l0 : Nat) (l1 : Int)  (Q : Int → Prop) : Prop := (PJ0_indexOf_7cf53 l0 l1 0 (fun r1 => (Q r1)))
set_option maxRecDepth 20000 in
theorem CJ0_indexOf_0f7a4 {ad : Nat → Nat} {n : Nat} {I J : mI} {R : mR} {Q : Int → Prop}  {l0 : Nat} {l1 : Int} (hk0 : sK l0) (hw : PJ0_indexOf_0f7a4 l0 l1 Q) : wMet yJ0_indexOf_0f7a4 cJ0_indexOf_0f7a4 2 (some .int) 4 82 true ad n I J R [vr l0, vi l1] (fun r I' J' R' => (I' = I ∧ J' = J ∧ R' = R) ∧ Q r) := by
  refine wMet_of (by decide) (Nat.le_of_ble_eq_true rfl) (fun C hC hRm hE hS => ?_)
  have hStr := hS rfl
  refine (show WM C ad n I J R 0 0 0 [(0, vr l0), (1, vi l1)] [] from ?_)
  unfold PJ0_indexOf_0f7a4 at hw
  refine wm_aload_n hC 0 dJ0_indexOf_0f7a4_0 rfl (s_ne0 hk0) ?_
  refine wm_iload_n hC 1 dJ0_indexOf_0f7a4_1 rfl ?_
  refine wm_iconst hC dJ0_indexOf_0f7a4_2 (k := ?_)
  refine y_callT hC hRm hStr ml_J0_633 hk0 (CJ0_indexOf_7cf53 hk0 hw) (by decide) (Nat.le_of_ble_eq_true rfl) (Nat.le_of_ble_eq_true rfl) ⟨Nat.zero_le _, Nat.zero_le _⟩ rfl (st := []) rfl (Nat.le_of_ble_eq_true rfl) dJ0_indexOf_0f7a4_3 (fun r1 hw => ?_)
  exact wm_ireturn hC hE dJ0_indexOf_0f7a4_6 ⟨⟨rfl, rfl, rfl⟩, hw⟩
def P10_add (l0 : Nat) (l1 : Int) (l2 : Int) (l3 : Int) (I : mI) (R : mR) (Q : Int → mI → Prop) : Prop := (kK (R l0 0) = 21 ∧ (if (kN (R l0 0) : Int) ≤ (I l0 3) then (Q l1 I) else (kK (R l0 0) = 21 ∧ (((0 : Int) ≤ (I l0 3) ∧ (I l0 3) < (kN (R l0 0) : Int)) ∧ wLet (up I (R l0 0) (I l0 3) l1) (fun I1 => (kK (R l0 1) = 21 ∧ (((0 : Int) ≤ (I1 l0 3) ∧ (I1 l0 3) < (kN (R l0 1) : Int)) ∧ wLet (up I1 (R l0 1) (I1 l0 3) l2) (fun I2 => (kK (R l0 2) = 21 ∧ (((0 : Int) ≤ (I2 l0 3) ∧ (I2 l0 3) < (kN (R l0 2) : Int)) ∧ wLet (up I2 (R l0 2) (I2 l0 3) l3) (fun I3 => (rg ((I3 l0 3) + 1) ∧ (wLet (up I3 l0 3 ((I3 l0 3) + 1)) (fun I4 => (Q l1 I4)))))))))))))))
set_option maxRecDepth 20000 in
theorem C10_add {ad : Nat → Nat} {n : Nat} {I J : mI} {R : mR} {Q : Int → mI → Prop}  {l0 : Nat} {l1 : Int} {l2 : Int} {l3 : Int} (hk0 : kK l0 = 10) (hw : P10_add l0 l1 l2 l3 I R Q) : wMet yX10_add cX10_add 4 (some .int) 1 12 false ad n I J R [vr l0, vi l1, vi l2, vi l3] (fun r I' J' R' => (J' = J ∧ R' = R) ∧ Q r I') := by
  refine wMet_of (by decide) (Nat.le_of_ble_eq_true rfl) (fun C hC hRm hE hS => ?_)
  refine (show WM C ad n I J R 0 0 0 [(0, vr l0), (1, vi l1), (2, vi l2), (3, vi l3)] [] from ?_)
  unfold P10_add at hw
  refine wm_aload_n hC 0 dX10_add_0 rfl (k_ne0 hk0 (by decide)) ?_
  refine x_getI hC 3 fl_X10_21 rfl hk0 dX10_add_1 ?_
  refine wm_aload_n hC 0 dX10_add_4 rfl (k_ne0 hk0 (by decide)) ?_
  refine x_getR2 hC 0 fl_X10_9 rfl hk0 dX10_add_5 hw (fun g1 hw => ?_)
  refine x_alen hC g1 (by decide) dX10_add_8 ?_
  refine wm_icmp_ge (tgt := 52) hC dX10_add_9 (by decide) hw (fun hw => ?_) (fun hw => ?_)
  · refine wm_iload_n hC 1 dX10_add_52 rfl ?_
    exact wm_ireturn hC hE dX10_add_53 ⟨⟨rfl, rfl⟩, hw⟩
  · refine wm_aload_n hC 0 dX10_add_12 rfl (k_ne0 hk0 (by decide)) ?_
    refine x_getR2 hC 0 fl_X10_9 rfl hk0 dX10_add_13 hw (fun g2 hw => ?_)
    refine wm_aload_n hC 0 dX10_add_16 rfl (k_ne0 hk0 (by decide)) ?_
    refine x_getI hC 3 fl_X10_21 rfl hk0 dX10_add_17 ?_
    refine wm_iload_n hC 1 dX10_add_20 rfl ?_
    refine x_iast hC g2 dX10_add_21 hw (fun I1 hw => ?_)
    refine wm_aload_n hC 0 dX10_add_22 rfl (k_ne0 hk0 (by decide)) ?_
    refine x_getR2 hC 1 fl_X10_15 rfl hk0 dX10_add_23 hw (fun g3 hw => ?_)
    refine wm_aload_n hC 0 dX10_add_26 rfl (k_ne0 hk0 (by decide)) ?_
    refine x_getI hC 3 fl_X10_21 rfl hk0 dX10_add_27 ?_
    refine wm_iload_n hC 2 dX10_add_30 rfl ?_
    refine x_iast hC g3 dX10_add_31 hw (fun I2 hw => ?_)
    refine wm_aload_n hC 0 dX10_add_32 rfl (k_ne0 hk0 (by decide)) ?_
    refine x_getR2 hC 2 fl_X10_18 rfl hk0 dX10_add_33 hw (fun g4 hw => ?_)
    refine wm_aload_n hC 0 dX10_add_36 rfl (k_ne0 hk0 (by decide)) ?_
    refine x_getI hC 3 fl_X10_21 rfl hk0 dX10_add_37 ?_
    refine wm_iload_n hC 3 dX10_add_40 rfl ?_
    refine x_iast hC g4 dX10_add_41 hw (fun I3 hw => ?_)
    refine wm_aload_n hC 0 dX10_add_42 rfl (k_ne0 hk0 (by decide)) ?_
    refine wm_dup hC dX10_add_43 (k := ?_)
    refine x_getI hC 3 fl_X10_21 rfl hk0 dX10_add_44 ?_
    refine wm_iconst hC dX10_add_47 (k := ?_)
    refine x_iadd hC dX10_add_48 hw (fun hw => ?_)
    refine x_putI hC 3 fl_X10_21 rfl hk0 dX10_add_49 hw (fun I4 hw => ?_)
    refine wm_iload_n hC 1 dX10_add_52 rfl ?_
    exact wm_ireturn hC hE dX10_add_53 ⟨⟨rfl, rfl⟩, hw⟩
def P10_isDigit (l0 : Int)  (Q : Int → Prop) : Prop := (if l0 < 48 then (Q 0) else (if (57 : Int) < l0 then (Q 0) else (Q 1)))
set_option maxRecDepth 20000 in
theorem C10_isDigit {ad : Nat → Nat} {n : Nat} {I J : mI} {R : mR} {Q : Int → Prop}  {l0 : Int}  (hw : P10_isDigit l0 Q) : wMet yX10_isDigit cX10_isDigit 1 (some .boolean) 1 12 false ad n I J R [vi l0] (fun r I' J' R' => (I' = I ∧ J' = J ∧ R' = R) ∧ Q r) := by
  refine wMet_of (by decide) (Nat.le_of_ble_eq_true rfl) (fun C hC hRm hE hS => ?_)
  refine (show WM C ad n I J R 0 0 0 [(0, vi l0)] [] from ?_)
  unfold P10_isDigit at hw
  refine wm_iload_n hC 0 dX10_isDigit_0 rfl ?_
  refine wm_bipush hC dX10_isDigit_1 (k := ?_)
  refine wm_icmp_lt (tgt := 16) hC dX10_isDigit_3 (by decide) hw (fun hw => ?_) (fun hw => ?_)
  · refine wm_iconst hC dX10_isDigit_16 (k := ?_)
    exact wm_zreturn hC hE (Or.inl rfl) dX10_isDigit_17 ⟨⟨rfl, rfl, rfl⟩, hw⟩
  · refine wm_iload_n hC 0 dX10_isDigit_6 rfl ?_
    refine wm_bipush hC dX10_isDigit_7 (k := ?_)
    refine wm_icmp_gt (tgt := 16) hC dX10_isDigit_9 (by decide) hw (fun hw => ?_) (fun hw => ?_)
    · refine wm_iconst hC dX10_isDigit_16 (k := ?_)
      exact wm_zreturn hC hE (Or.inl rfl) dX10_isDigit_17 ⟨⟨rfl, rfl, rfl⟩, hw⟩
    · refine wm_iconst hC dX10_isDigit_12 (k := ?_)
      refine wm_goto (tgt := 17) hC dX10_isDigit_13 (by decide) ?_
      exact wm_zreturn hC hE (Or.inr rfl) dX10_isDigit_17 ⟨⟨rfl, rfl, rfl⟩, hw⟩
def P10_cutNumber_b61 (l0 : Nat) (l1 : Nat) (l2 : Int) (l3 : Int) (I : mI) (R : mR) (Q : Int → mI → Prop) : Prop := (P9_byteAt l1 (I l0 4) I R (fun r4 => (P10_isDigit r4 (fun r5 => (if r5 = 0 then (P10_add l0 3 l3 l2 I R (fun r6 I2 => (Q r6 I2))) else (P10_add l0 5 l2 (I l0 4) I R (fun r7 I3 => (Q r7 I3))))))))
set_option maxRecDepth 20000 in
theorem W10_cutNumber_b61 {C : wX} {ad : Nat → Nat} {n : Nat} {I J : mI} {R : mR} {Q : Int → mI → Prop} (hC : wOK C cX10_cutNumber 4 RX10) (hRm : wRm C 2 35 0 0) (hE : wEnd C (some .int) ad n (fun r I' J' R' => (J' = J ∧ R' = R) ∧ Q r I')) {l0 : Nat} {l1 : Nat} {l2 : Int} {l3 : Int}   (hk0 : kK l0 = 10) (hk1 : kK l1 = 9)  (hw : P10_cutNumber_b61 l0 l1 l2 l3 I R Q) : WM C ad n I J R 0 0 61 [(0, vr l0), (1, vr l1), (2, vi l2), (3, vi l3)] [] := by
  unfold P10_cutNumber_b61 at hw
  refine wm_aload_n hC 1 dX10_cutNumber_61 rfl (k_ne0 hk1 (by decide)) ?_
  refine wm_aload_n hC 0 dX10_cutNumber_62 rfl (k_ne0 hk0 (by decide)) ?_
  refine x_getI hC 4 fl_X10_25 rfl hk0 dX10_cutNumber_63 ?_
  refine y_callV_i_n hC hRm noS ml_X10_36 hk1 (C9_byteAt hk1 hw) (Nat.le_of_ble_eq_true rfl) (Nat.le_of_ble_eq_true rfl) ⟨Nat.zero_le _, Nat.zero_le _⟩ rfl (st := []) rfl (Nat.le_of_ble_eq_true rfl) dX10_cutNumber_66 (fun r4 hw => ?_)
  refine y_callS_z_n hC hRm noS ml_X10_59 (C10_isDigit  hw) (Nat.le_of_ble_eq_true rfl) (Nat.le_of_ble_eq_true rfl) ⟨Nat.zero_le _, Nat.zero_le _⟩ rfl (st := []) rfl (Nat.le_of_ble_eq_true rfl) dX10_cutNumber_69 (fun r5 hw => ?_)
  refine wm_if_eq (tgt := 88) hC dX10_cutNumber_72 (by decide) hw (fun hw => ?_) (fun hw => ?_)
  · refine wm_aload_n hC 0 dX10_cutNumber_88 rfl (k_ne0 hk0 (by decide)) ?_
    refine wm_iconst hC dX10_cutNumber_89 (k := ?_)
    refine wm_iload_n hC 3 dX10_cutNumber_90 rfl ?_
    refine wm_iload_n hC 2 dX10_cutNumber_91 rfl ?_
    refine y_callV_i_I hC hRm noS ml_X10_48 hk0 (C10_add hk0 hw) (Nat.le_of_ble_eq_true rfl) (Nat.le_of_ble_eq_true rfl) ⟨Nat.zero_le _, Nat.zero_le _⟩ rfl (st := []) rfl (Nat.le_of_ble_eq_true rfl) dX10_cutNumber_92 (fun r6 I2 hw => ?_)
    exact wm_ireturn hC hE dX10_cutNumber_95 ⟨⟨rfl, rfl⟩, hw⟩
  · refine wm_aload_n hC 0 dX10_cutNumber_75 rfl (k_ne0 hk0 (by decide)) ?_
    refine wm_iconst hC dX10_cutNumber_76 (k := ?_)
    refine wm_iload_n hC 2 dX10_cutNumber_77 rfl ?_
    refine wm_aload_n hC 0 dX10_cutNumber_78 rfl (k_ne0 hk0 (by decide)) ?_
    refine x_getI hC 4 fl_X10_25 rfl hk0 dX10_cutNumber_79 ?_
    refine y_callV_i_I hC hRm noS ml_X10_48 hk0 (C10_add hk0 hw) (Nat.le_of_ble_eq_true rfl) (Nat.le_of_ble_eq_true rfl) ⟨Nat.zero_le _, Nat.zero_le _⟩ rfl (st := []) rfl (Nat.le_of_ble_eq_true rfl) dX10_cutNumber_82 (fun r7 I3 hw => ?_)
    refine wm_goto (tgt := 95) hC dX10_cutNumber_85 (by decide) ?_
    exact wm_ireturn hC hE dX10_cutNumber_95 ⟨⟨rfl, rfl⟩, hw⟩
def P10_cutNumber_b7_body (l0 : Nat) (l1 : Nat) (l2 : Int) (R : mR) (Q : Int → mI → Prop) (k7 : Int → mI → Prop) (l3 : Int) (I : mI) : Prop := (rg (l2 + 4) ∧ (if (l2 + 4) ≤ (I l0 4) then (P10_cutNumber_b61 l0 l1 l2 l3 I R Q) else (P9_byteAt l1 (I l0 4) I R (fun r1 => (P10_isDigit r1 (fun r2 => (if r2 = 0 then (P10_cutNumber_b61 l0 l1 l2 l3 I R Q) else (rg (l3 * 10) ∧ (P9_byteAt l1 (I l0 4) I R (fun r3 => (rg (r3 - 48) ∧ (rg ((l3 * 10) + (r3 - 48)) ∧ (wLet ((l3 * 10) + (r3 - 48)) (fun x1 => (rg ((I l0 4) + 1) ∧ (wLet (up I l0 4 ((I l0 4) + 1)) (fun I1 => (k7 x1 I1))))))))))))))))))
def P10_cutNumber_b7 (l0 : Nat) (l1 : Nat) (l2 : Int) (R : mR) (Q : Int → mI → Prop) : Nat → Int → mI → Prop
  | 0 => fun _ _ => False
  | f + 1 => fun l3 I => P10_cutNumber_b7_body l0 l1 l2 R Q (P10_cutNumber_b7 l0 l1 l2 R Q f) l3 I
set_option maxRecDepth 20000 in
theorem W10_cutNumber_b7_body {C : wX} {ad : Nat → Nat} {n : Nat} {I J : mI} {R : mR} {Q : Int → mI → Prop} (hC : wOK C cX10_cutNumber 4 RX10) (hRm : wRm C 2 35 0 0) (hE : wEnd C (some .int) ad n (fun r I' J' R' => (J' = J ∧ R' = R) ∧ Q r I')) {l0 : Nat} {l1 : Nat} {l2 : Int} {l3 : Int}   (hk0 : kK l0 = 10) (hk1 : kK l1 = 9)  {k7 : Int → mI → Prop} (kk7 : ∀ (y3 : Int) (I' : mI), k7 y3 I' → WM C ad n I' J R 0 0 7 [(0, vr l0), (1, vr l1), (2, vi l2), (3, vi y3)] []) (hw : P10_cutNumber_b7_body l0 l1 l2 R Q k7 l3 I) : WM C ad n I J R 0 0 7 [(0, vr l0), (1, vr l1), (2, vi l2), (3, vi l3)] [] := by
  unfold P10_cutNumber_b7_body at hw
  refine wm_aload_n hC 0 dX10_cutNumber_7 rfl (k_ne0 hk0 (by decide)) ?_
  refine x_getI hC 4 fl_X10_25 rfl hk0 dX10_cutNumber_8 ?_
  refine wm_iload_n hC 2 dX10_cutNumber_11 rfl ?_
  refine wm_iconst hC dX10_cutNumber_12 (k := ?_)
  refine x_iadd hC dX10_cutNumber_13 hw (fun hw => ?_)
  refine wm_icmp_ge (tgt := 61) hC dX10_cutNumber_14 (by decide) hw (fun hw => ?_) (fun hw => ?_)
  · exact W10_cutNumber_b61 hC hRm hE hk0 hk1 hw
  · refine wm_aload_n hC 1 dX10_cutNumber_17 rfl (k_ne0 hk1 (by decide)) ?_
    refine wm_aload_n hC 0 dX10_cutNumber_18 rfl (k_ne0 hk0 (by decide)) ?_
    refine x_getI hC 4 fl_X10_25 rfl hk0 dX10_cutNumber_19 ?_
    refine y_callV_i_n hC hRm noS ml_X10_36 hk1 (C9_byteAt hk1 hw) (Nat.le_of_ble_eq_true rfl) (Nat.le_of_ble_eq_true rfl) ⟨Nat.zero_le _, Nat.zero_le _⟩ rfl (st := []) rfl (Nat.le_of_ble_eq_true rfl) dX10_cutNumber_22 (fun r1 hw => ?_)
    refine y_callS_z_n hC hRm noS ml_X10_59 (C10_isDigit  hw) (Nat.le_of_ble_eq_true rfl) (Nat.le_of_ble_eq_true rfl) ⟨Nat.zero_le _, Nat.zero_le _⟩ rfl (st := []) rfl (Nat.le_of_ble_eq_true rfl) dX10_cutNumber_25 (fun r2 hw => ?_)
    refine wm_if_eq (tgt := 61) hC dX10_cutNumber_28 (by decide) hw (fun hw => ?_) (fun hw => ?_)
    · exact W10_cutNumber_b61 hC hRm hE hk0 hk1 hw
    · refine wm_iload_n hC 3 dX10_cutNumber_31 rfl ?_
      refine wm_bipush hC dX10_cutNumber_32 (k := ?_)
      refine x_imul hC dX10_cutNumber_34 hw (fun hw => ?_)
      refine wm_aload_n hC 1 dX10_cutNumber_35 rfl (k_ne0 hk1 (by decide)) ?_
      refine wm_aload_n hC 0 dX10_cutNumber_36 rfl (k_ne0 hk0 (by decide)) ?_
      refine x_getI hC 4 fl_X10_25 rfl hk0 dX10_cutNumber_37 ?_
      refine y_callV_i_n hC hRm noS ml_X10_36 hk1 (C9_byteAt hk1 hw) (Nat.le_of_ble_eq_true rfl) (Nat.le_of_ble_eq_true rfl) ⟨Nat.zero_le _, Nat.zero_le _⟩ rfl (st := [vi (l3 * 10)]) rfl (Nat.le_of_ble_eq_true rfl) dX10_cutNumber_40 (fun r3 hw => ?_)
      refine wm_bipush hC dX10_cutNumber_43 (k := ?_)
      refine x_isub hC dX10_cutNumber_45 hw (fun hw => ?_)
      refine x_iadd hC dX10_cutNumber_46 hw (fun hw => ?_)
      refine x_nameI hw (fun x1 hw => ?_)
      refine wm_istore_n hC dX10_cutNumber_47 (by decide) (L2 := [(3, vi x1), (0, vr l0), (1, vr l1), (2, vi l2)]) rfl ?_
      refine wm_aload_n hC 1 dX10_cutNumber_48 rfl (k_ne0 hk0 (by decide)) ?_
      refine wm_dup hC dX10_cutNumber_49 (k := ?_)
      refine x_getI hC 4 fl_X10_25 rfl hk0 dX10_cutNumber_50 ?_
      refine wm_iconst hC dX10_cutNumber_53 (k := ?_)
      refine x_iadd hC dX10_cutNumber_54 hw (fun hw => ?_)
      refine x_putI hC 4 fl_X10_25 rfl hk0 dX10_cutNumber_55 hw (fun I1 hw => ?_)
      refine wm_goto (tgt := 7) hC dX10_cutNumber_58 (by decide) ?_
      refine wm_sub [1, 2, 3, 0] (L2 := [(0, vr l0), (1, vr l1), (2, vi l2), (3, vi x1)]) rfl ?_
      exact kk7 _ _ hw
set_option maxRecDepth 20000 in
theorem W10_cutNumber_b7 {C : wX} {ad : Nat → Nat} {n : Nat} {J : mI} {R : mR} {Q : Int → mI → Prop} (hC : wOK C cX10_cutNumber 4 RX10) (hRm : wRm C 2 35 0 0) (hE : wEnd C (some .int) ad n (fun r I' J' R' => (J' = J ∧ R' = R) ∧ Q r I')) {l0 : Nat} {l1 : Nat} {l2 : Int}   (hk0 : kK l0 = 10) (hk1 : kK l1 = 9)  : ∀ (f : Nat) (l3 : Int) (I : mI), P10_cutNumber_b7 l0 l1 l2 R Q f l3 I → WM C ad n I J R 0 0 7 [(0, vr l0), (1, vr l1), (2, vi l2), (3, vi l3)] [] := by
  intro f
  induction f with
  | zero => intro l3 I hw; exact hw.elim
  | succ f ih => intro l3 I hw; exact W10_cutNumber_b7_body hC hRm hE hk0 hk1 (fun a0 a1 hw => ih a0 a1 hw) hw
def P10_cutNumber (l0 : Nat) (l1 : Nat) (I : mI) (R : mR) (Q : Int → mI → Prop) : Prop := (∃ f, P10_cutNumber_b7 l0 l1 (I l0 4) R Q f 0 I)
set_option maxRecDepth 20000 in
theorem C10_cutNumber {ad : Nat → Nat} {n : Nat} {I J : mI} {R : mR} {Q : Int → mI → Prop}  {l0 : Nat} {l1 : Nat} (hk0 : kK l0 = 10) (hk1 : kK l1 = 9) (hw : P10_cutNumber l0 l1 I R Q) : wMet yX10_cutNumber cX10_cutNumber 4 (some .int) 2 35 false ad n I J R [vr l0, vr l1] (fun r I' J' R' => (J' = J ∧ R' = R) ∧ Q r I') := by
  refine wMet_of (by decide) (Nat.le_of_ble_eq_true rfl) (fun C hC hRm hE hS => ?_)
  refine (show WM C ad n I J R 0 0 0 [(0, vr l0), (1, vr l1)] [] from ?_)
  unfold P10_cutNumber at hw
  refine wm_aload_n hC 0 dX10_cutNumber_0 rfl (k_ne0 hk0 (by decide)) ?_
  refine x_getI hC 4 fl_X10_25 rfl hk0 dX10_cutNumber_1 ?_
  refine wm_istore_n hC dX10_cutNumber_4 (by decide) (L2 := [(2, vi (I l0 4)), (0, vr l0), (1, vr l1)]) rfl ?_
  refine wm_iconst hC dX10_cutNumber_5 (k := ?_)
  refine wm_istore_n hC dX10_cutNumber_6 (by decide) (L2 := [(3, vi 0), (2, vi (I l0 4)), (0, vr l0), (1, vr l1)]) rfl ?_
  obtain ⟨f, hw⟩ := hw
  refine wm_sub [2, 3, 1, 0] (L2 := [(0, vr l0), (1, vr l1), (2, vi (I l0 4)), (3, vi 0)]) rfl ?_
  exact W10_cutNumber_b7 hC hRm hE hk0 hk1 f _ _ hw
