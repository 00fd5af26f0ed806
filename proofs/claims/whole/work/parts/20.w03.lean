def P3_letterOf_b72_body (l3 : Int) (I : mI) (R : mR) (Q : Int → Prop) (k72 : Int → Int → Prop) (l4 : Int) (l6 : Int) : Prop := (if l6 ≤ l3 then (Q (Int.tmod l4 27)) else (rg (l6 + (-1)) ∧ (k72 (Int.tdiv l4 27) (l6 + (-1)))))
def P3_letterOf_b72 (l3 : Int) (I : mI) (R : mR) (Q : Int → Prop) : Nat → Int → Int → Prop
  | 0 => fun _ _ => False
  | f + 1 => fun l4 l6 => P3_letterOf_b72_body l3 I R Q (P3_letterOf_b72 l3 I R Q f) l4 l6
set_option maxRecDepth 20000 in
theorem W3_letterOf_b72_body {C : wX} {ad : Nat → Nat} {n : Nat} {I J : mI} {R : mR} {Q : Int → Prop} (hC : wOK C cX3_letterOf 7 RX3) (hRm : wRm C 2 34 0 0) (hE : wEnd C (some .int) ad n (fun r I' J' R' => (I' = I ∧ J' = J ∧ R' = R) ∧ Q r)) {l3 : Int} {l4 : Int} {l6 : Int}     {k72 : Int → Int → Prop} (kk72 : ∀ (y4 : Int) (y6 : Int), k72 y4 y6 → WM C ad n I J R 0 0 72 [(3, vi l3), (4, vi y4), (6, vi y6)] []) (hw : P3_letterOf_b72_body l3 I R Q k72 l4 l6) : WM C ad n I J R 0 0 72 [(3, vi l3), (4, vi l4), (6, vi l6)] [] := by
  unfold P3_letterOf_b72_body at hw
  refine wm_iload hC 2 dX3_letterOf_72 rfl ?_
  refine wm_iload_n hC 0 dX3_letterOf_74 rfl ?_
  refine wm_icmp_le (tgt := 91) hC dX3_letterOf_75 (by decide) hw (fun hw => ?_) (fun hw => ?_)
  · refine wm_iload hC 1 dX3_letterOf_91 rfl ?_
    refine wm_bipush hC dX3_letterOf_93 (k := ?_)
    refine x_iremP hC (by decide) dX3_letterOf_95 ?_
    exact wm_ireturn hC hE dX3_letterOf_96 ⟨⟨rfl, rfl, rfl⟩, hw⟩
  · refine wm_iload hC 1 dX3_letterOf_78 rfl ?_
    refine wm_bipush hC dX3_letterOf_80 (k := ?_)
    refine x_idivP hC (by decide) dX3_letterOf_82 ?_
    refine wm_istore hC dX3_letterOf_83 (by decide) (L2 := [(4, vi (Int.tdiv l4 27)), (3, vi l3), (6, vi l6)]) rfl ?_
    refine x_iinc hC 2 dX3_letterOf_85 rfl (by decide) (L2 := [(6, vi (l6 + (-1))), (4, vi (Int.tdiv l4 27)), (3, vi l3)]) rfl hw (fun hw => ?_)
    refine wm_goto (tgt := 72) hC dX3_letterOf_88 (by decide) ?_
    refine wm_sub [2, 1, 0] (L2 := [(3, vi l3), (4, vi (Int.tdiv l4 27)), (6, vi (l6 + (-1)))]) rfl ?_
    exact kk72 _ _ hw
set_option maxRecDepth 20000 in
theorem W3_letterOf_b72 {C : wX} {ad : Nat → Nat} {n : Nat} {I J : mI} {R : mR} {Q : Int → Prop} (hC : wOK C cX3_letterOf 7 RX3) (hRm : wRm C 2 34 0 0) (hE : wEnd C (some .int) ad n (fun r I' J' R' => (I' = I ∧ J' = J ∧ R' = R) ∧ Q r)) {l3 : Int}     : ∀ (f : Nat) (l4 : Int) (l6 : Int), P3_letterOf_b72 l3 I R Q f l4 l6 → WM C ad n I J R 0 0 72 [(3, vi l3), (4, vi l4), (6, vi l6)] [] := by
  intro f
  induction f with
  | zero => intro l4 l6 hw; exact hw.elim
  | succ f ih => intro l4 l6 hw; exact W3_letterOf_b72_body hC hRm hE  (fun a0 a1 hw => ih a0 a1 hw) hw
def P3_letterOf_b58 (l3 : Int) (l4 : Int) (l5 : Int) (I : mI) (R : mR) (Q : Int → Prop) : Prop := (if l3 < l5 then (rg (l5 - 1) ∧ (∃ f, P3_letterOf_b72 l3 I R Q f l4 (l5 - 1))) else (Q 0))
set_option maxRecDepth 20000 in
theorem W3_letterOf_b58 {C : wX} {ad : Nat → Nat} {n : Nat} {I J : mI} {R : mR} {Q : Int → Prop} (hC : wOK C cX3_letterOf 7 RX3) (hRm : wRm C 2 34 0 0) (hE : wEnd C (some .int) ad n (fun r I' J' R' => (I' = I ∧ J' = J ∧ R' = R) ∧ Q r)) {l3 : Int} {l4 : Int} {l5 : Int}     (hw : P3_letterOf_b58 l3 l4 l5 I R Q) : WM C ad n I J R 0 0 58 [(3, vi l3), (4, vi l4), (5, vi l5)] [] := by
  unfold P3_letterOf_b58 at hw
  refine wm_iload_n hC 0 dX3_letterOf_58 rfl ?_
  refine wm_iload hC 2 dX3_letterOf_59 rfl ?_
  refine wm_icmp_lt (tgt := 66) hC dX3_letterOf_61 (by decide) hw (fun hw => ?_) (fun hw => ?_)
  · refine wm_iload hC 2 dX3_letterOf_66 rfl ?_
    refine wm_iconst hC dX3_letterOf_68 (k := ?_)
    refine x_isub hC dX3_letterOf_69 hw (fun hw => ?_)
    refine wm_istore hC dX3_letterOf_70 (by decide) (L2 := [(6, vi (l5 - 1)), (3, vi l3), (4, vi l4), (5, vi l5)]) rfl ?_
    obtain ⟨f, hw⟩ := hw
    refine wm_sub [1, 2, 0] (L2 := [(3, vi l3), (4, vi l4), (6, vi (l5 - 1))]) rfl ?_
    exact W3_letterOf_b72 hC hRm hE  f _ _ hw
  · refine wm_iconst hC dX3_letterOf_64 (k := ?_)
    exact wm_ireturn hC hE dX3_letterOf_65 ⟨⟨rfl, rfl, rfl⟩, hw⟩
def P3_letterOf_b33_body (l3 : Int) (l4 : Int) (I : mI) (R : mR) (Q : Int → Prop) (k33 : Int → Int → Prop) (l5 : Int) (l6 : Int) : Prop := (if l6 ≤ 0 then (P3_letterOf_b58 l3 l4 l5 I R Q) else (if (6 : Int) ≤ l5 then (P3_letterOf_b58 l3 l4 l5 I R Q) else (rg (l5 + 1) ∧ (k33 (l5 + 1) (Int.tdiv l6 27)))))
def P3_letterOf_b33 (l3 : Int) (l4 : Int) (I : mI) (R : mR) (Q : Int → Prop) : Nat → Int → Int → Prop
  | 0 => fun _ _ => False
  | f + 1 => fun l5 l6 => P3_letterOf_b33_body l3 l4 I R Q (P3_letterOf_b33 l3 l4 I R Q f) l5 l6
set_option maxRecDepth 20000 in
theorem W3_letterOf_b33_body {C : wX} {ad : Nat → Nat} {n : Nat} {I J : mI} {R : mR} {Q : Int → Prop} (hC : wOK C cX3_letterOf 7 RX3) (hRm : wRm C 2 34 0 0) (hE : wEnd C (some .int) ad n (fun r I' J' R' => (I' = I ∧ J' = J ∧ R' = R) ∧ Q r)) {l3 : Int} {l4 : Int} {l5 : Int} {l6 : Int}     {k33 : Int → Int → Prop} (kk33 : ∀ (y5 : Int) (y6 : Int), k33 y5 y6 → WM C ad n I J R 0 0 33 [(3, vi l3), (4, vi l4), (5, vi y5), (6, vi y6)] []) (hw : P3_letterOf_b33_body l3 l4 I R Q k33 l5 l6) : WM C ad n I J R 0 0 33 [(3, vi l3), (4, vi l4), (5, vi l5), (6, vi l6)] [] := by
  unfold P3_letterOf_b33_body at hw
  refine wm_iload hC 3 dX3_letterOf_33 rfl ?_
  refine wm_if_le (tgt := 58) hC dX3_letterOf_35 (by decide) hw (fun hw => ?_) (fun hw => ?_)
  · refine wm_sub [0, 1, 2] (L2 := [(3, vi l3), (4, vi l4), (5, vi l5)]) rfl ?_
    exact W3_letterOf_b58 hC hRm hE  hw
  · refine wm_iload hC 2 dX3_letterOf_38 rfl ?_
    refine wm_bipush hC dX3_letterOf_40 (k := ?_)
    refine wm_icmp_ge (tgt := 58) hC dX3_letterOf_42 (by decide) hw (fun hw => ?_) (fun hw => ?_)
    · refine wm_sub [0, 1, 2] (L2 := [(3, vi l3), (4, vi l4), (5, vi l5)]) rfl ?_
      exact W3_letterOf_b58 hC hRm hE  hw
    · refine x_iinc hC 2 dX3_letterOf_45 rfl (by decide) (L2 := [(5, vi (l5 + 1)), (3, vi l3), (4, vi l4), (6, vi l6)]) rfl hw (fun hw => ?_)
      refine wm_iload hC 3 dX3_letterOf_48 rfl ?_
      refine wm_bipush hC dX3_letterOf_50 (k := ?_)
      refine x_idivP hC (by decide) dX3_letterOf_52 ?_
      refine wm_istore hC dX3_letterOf_53 (by decide) (L2 := [(6, vi (Int.tdiv l6 27)), (5, vi (l5 + 1)), (3, vi l3), (4, vi l4)]) rfl ?_
      refine wm_goto (tgt := 33) hC dX3_letterOf_55 (by decide) ?_
      refine wm_sub [2, 3, 1, 0] (L2 := [(3, vi l3), (4, vi l4), (5, vi (l5 + 1)), (6, vi (Int.tdiv l6 27))]) rfl ?_
      exact kk33 _ _ hw
set_option maxRecDepth 20000 in
theorem W3_letterOf_b33 {C : wX} {ad : Nat → Nat} {n : Nat} {I J : mI} {R : mR} {Q : Int → Prop} (hC : wOK C cX3_letterOf 7 RX3) (hRm : wRm C 2 34 0 0) (hE : wEnd C (some .int) ad n (fun r I' J' R' => (I' = I ∧ J' = J ∧ R' = R) ∧ Q r)) {l3 : Int} {l4 : Int}     : ∀ (f : Nat) (l5 : Int) (l6 : Int), P3_letterOf_b33 l3 l4 I R Q f l5 l6 → WM C ad n I J R 0 0 33 [(3, vi l3), (4, vi l4), (5, vi l5), (6, vi l6)] [] := by
  intro f
  induction f with
  | zero => intro l5 l6 hw; exact hw.elim
  | succ f ih => intro l5 l6 hw; exact W3_letterOf_b33_body hC hRm hE  (fun a0 a1 hw => ih a0 a1 hw) hw
def P3_letterOf (l0 : Nat) (l1 : Int) (l2 : Int) (l3 : Int) (I : mI) (R : mR) (Q : Int → Prop) : Prop := (P3_isThere l0 l1 l2 I R (fun r1 => (if r1 = 0 then (∃ f, P3_letterOf_b33 l3 0 I R Q f 0 0) else (kK (R l0 1) = 21 ∧ (rg (l1 * 6) ∧ (rg ((l1 * 6) + l2) ∧ (((0 : Int) ≤ ((l1 * 6) + l2) ∧ ((l1 * 6) + l2) < (kN (R l0 1) : Int)) ∧ (wLet (I (R l0 1) ((l1 * 6) + l2)) (fun x1 => (∃ f, P3_letterOf_b33 l3 x1 I R Q f 0 x1))))))))))
set_option maxRecDepth 20000 in
theorem C3_letterOf {ad : Nat → Nat} {n : Nat} {I J : mI} {R : mR} {Q : Int → Prop} {l0 : Nat} {l1 : Int} {l2 : Int} {l3 : Int} (hk0 : kK l0 = 3) (hw : P3_letterOf l0 l1 l2 l3 I R Q) : wMet yX3_letterOf cX3_letterOf 7 (some .int) 2 34 ad n I J R [vr l0, vi l1, vi l2, vi l3] (fun r I' J' R' => (I' = I ∧ J' = J ∧ R' = R) ∧ Q r) := by
  refine wMet_of (by decide) (Nat.le_of_ble_eq_true rfl) (fun C hC hRm hE => ?_)
  refine (show WM C ad n I J R 0 0 0 [(0, vr l0), (1, vi l1), (2, vi l2), (3, vi l3)] [] from ?_)
  unfold P3_letterOf at hw
  refine wm_aload_n hC 0 dX3_letterOf_0 rfl (k_ne0 hk0 (by decide)) ?_
  refine wm_iload_n hC 1 dX3_letterOf_1 rfl ?_
  refine wm_iload_n hC 2 dX3_letterOf_2 rfl ?_
  refine y_callV_z_n hC hRm ml_X3_58 hk0 (C3_isThere hk0 hw) (Nat.le_of_ble_eq_true rfl) (Nat.le_of_ble_eq_true rfl) ⟨Nat.zero_le _, Nat.zero_le _⟩ rfl (st := []) rfl (Nat.le_of_ble_eq_true rfl) dX3_letterOf_3 (fun r1 hw => ?_)
  refine wm_if_eq (tgt := 23) hC dX3_letterOf_6 (by decide) hw (fun hw => ?_) (fun hw => ?_)
  · refine wm_iconst hC dX3_letterOf_23 (k := ?_)
    refine wm_istore hC dX3_letterOf_24 (by decide) (L2 := [(4, vi 0), (0, vr l0), (1, vi l1), (2, vi l2), (3, vi l3)]) rfl ?_
    refine wm_iconst hC dX3_letterOf_26 (k := ?_)
    refine wm_istore hC dX3_letterOf_27 (by decide) (L2 := [(5, vi 0), (4, vi 0), (0, vr l0), (1, vi l1), (2, vi l2), (3, vi l3)]) rfl ?_
    refine wm_iload hC 1 dX3_letterOf_29 rfl ?_
    refine wm_istore hC dX3_letterOf_31 (by decide) (L2 := [(6, vi 0), (5, vi 0), (4, vi 0), (0, vr l0), (1, vi l1), (2, vi l2), (3, vi l3)]) rfl ?_
    obtain ⟨f, hw⟩ := hw
    refine wm_sub [6, 2, 1, 0] (L2 := [(3, vi l3), (4, vi 0), (5, vi 0), (6, vi 0)]) rfl ?_
    exact W3_letterOf_b33 hC hRm hE  f _ _ hw
  · refine wm_aload_n hC 0 dX3_letterOf_9 rfl (k_ne0 hk0 (by decide)) ?_
    refine x_getR2 hC 1 fl_X3_15 rfl hk0 dX3_letterOf_10 hw (fun g1 hw => ?_)
    refine wm_iload_n hC 1 dX3_letterOf_13 rfl ?_
    refine wm_bipush hC dX3_letterOf_14 (k := ?_)
    refine x_imul hC dX3_letterOf_16 hw (fun hw => ?_)
    refine wm_iload_n hC 2 dX3_letterOf_17 rfl ?_
    refine x_iadd hC dX3_letterOf_18 hw (fun hw => ?_)
    refine x_iald hC g1 dX3_letterOf_19 hw (fun hw => ?_)
    refine wm_goto (tgt := 24) hC dX3_letterOf_20 (by decide) ?_
    refine x_nameI hw (fun x1 hw => ?_)
    refine wm_istore hC dX3_letterOf_24 (by decide) (L2 := [(4, vi x1), (0, vr l0), (1, vi l1), (2, vi l2), (3, vi l3)]) rfl ?_
    refine wm_iconst hC dX3_letterOf_26 (k := ?_)
    refine wm_istore hC dX3_letterOf_27 (by decide) (L2 := [(5, vi 0), (4, vi x1), (0, vr l0), (1, vi l1), (2, vi l2), (3, vi l3)]) rfl ?_
    refine wm_iload hC 1 dX3_letterOf_29 rfl ?_
    refine wm_istore hC dX3_letterOf_31 (by decide) (L2 := [(6, vi x1), (5, vi 0), (4, vi x1), (0, vr l0), (1, vi l1), (2, vi l2), (3, vi l3)]) rfl ?_
    obtain ⟨f, hw⟩ := hw
    refine wm_sub [6, 2, 1, 0] (L2 := [(3, vi l3), (4, vi x1), (5, vi 0), (6, vi x1)]) rfl ?_
    exact W3_letterOf_b33 hC hRm hE  f _ _ hw
def P3_clashesBelow_b5_body (l0 : Nat) (l1 : Nat) (l2 : Int) (I : mI) (R : mR) (Q : Int → Prop) (k5 : Int → Int → Prop) (l3 : Int) (l4 : Int) : Prop := (if l2 ≤ l4 then (Q l3) else (if (kN l1 : Int) ≤ l2 then (Q l3) else (kK (R l0 3) = 21 ∧ (((0 : Int) ≤ l2 ∧ l2 < (kN (R l0 3) : Int)) ∧ (if (bAnd (bShr (I (R l0 3) l2) l4) 1) = 1 then (((0 : Int) ≤ l2 ∧ l2 < (kN l1 : Int)) ∧ (if (I l1 l2) = (-1) then (rg (l4 + 1) ∧ (k5 l3 (l4 + 1))) else (((0 : Int) ≤ l2 ∧ l2 < (kN l1 : Int)) ∧ (((0 : Int) ≤ l4 ∧ l4 < (kN l1 : Int)) ∧ (if (I l1 l2) = (I l1 l4) then (rg (l3 + 1) ∧ (rg (l4 + 1) ∧ (k5 (l3 + 1) (l4 + 1)))) else (rg (l4 + 1) ∧ (k5 l3 (l4 + 1)))))))) else (rg (l4 + 1) ∧ (k5 l3 (l4 + 1))))))))
def P3_clashesBelow_b5 (l0 : Nat) (l1 : Nat) (l2 : Int) (I : mI) (R : mR) (Q : Int → Prop) : Nat → Int → Int → Prop
  | 0 => fun _ _ => False
  | f + 1 => fun l3 l4 => P3_clashesBelow_b5_body l0 l1 l2 I R Q (P3_clashesBelow_b5 l0 l1 l2 I R Q f) l3 l4
set_option maxRecDepth 20000 in
theorem W3_clashesBelow_b5_body {C : wX} {ad : Nat → Nat} {n : Nat} {I J : mI} {R : mR} {Q : Int → Prop} (hC : wOK C cX3_clashesBelow 5 RX3) (hRm : wRm C 1 12 0 0) (hE : wEnd C (some .int) ad n (fun r I' J' R' => (I' = I ∧ J' = J ∧ R' = R) ∧ Q r)) {l0 : Nat} {l1 : Nat} {l2 : Int} {l3 : Int} {l4 : Int}   (hk0 : kK l0 = 3) (hk1 : kK l1 = 21)  {k5 : Int → Int → Prop} (kk5 : ∀ (y3 : Int) (y4 : Int), k5 y3 y4 → WM C ad n I J R 0 0 5 [(0, vr l0), (1, vr l1), (2, vi l2), (3, vi y3), (4, vi y4)] []) (hw : P3_clashesBelow_b5_body l0 l1 l2 I R Q k5 l3 l4) : WM C ad n I J R 0 0 5 [(0, vr l0), (1, vr l1), (2, vi l2), (3, vi l3), (4, vi l4)] [] := by
  unfold P3_clashesBelow_b5_body at hw
  refine wm_iload hC 4 dX3_clashesBelow_5 rfl ?_
  refine wm_iload_n hC 2 dX3_clashesBelow_7 rfl ?_
  refine wm_icmp_ge (tgt := 58) hC dX3_clashesBelow_8 (by decide) hw (fun hw => ?_) (fun hw => ?_)
  · refine wm_iload_n hC 3 dX3_clashesBelow_58 rfl ?_
    exact wm_ireturn hC hE dX3_clashesBelow_59 ⟨⟨rfl, rfl, rfl⟩, hw⟩
  · refine wm_iload_n hC 2 dX3_clashesBelow_11 rfl ?_
    refine wm_aload_n hC 1 dX3_clashesBelow_12 rfl (k_ne0 hk1 (by decide)) ?_
    refine x_alen hC hk1 (by decide) dX3_clashesBelow_13 ?_
    refine wm_icmp_ge (tgt := 58) hC dX3_clashesBelow_14 (by decide) hw (fun hw => ?_) (fun hw => ?_)
    · refine wm_iload_n hC 3 dX3_clashesBelow_58 rfl ?_
      exact wm_ireturn hC hE dX3_clashesBelow_59 ⟨⟨rfl, rfl, rfl⟩, hw⟩
    · refine wm_aload_n hC 0 dX3_clashesBelow_17 rfl (k_ne0 hk0 (by decide)) ?_
      refine x_getR2 hC 3 fl_X3_21 rfl hk0 dX3_clashesBelow_18 hw (fun g1 hw => ?_)
      refine wm_iload_n hC 2 dX3_clashesBelow_21 rfl ?_
      refine x_iald hC g1 dX3_clashesBelow_22 hw (fun hw => ?_)
      refine wm_iload hC 4 dX3_clashesBelow_23 rfl ?_
      refine wm_ishr hC dX3_clashesBelow_25 ?_
      refine wm_iconst hC dX3_clashesBelow_26 (k := ?_)
      refine wm_iand hC dX3_clashesBelow_27 ?_
      refine wm_iconst hC dX3_clashesBelow_28 (k := ?_)
      refine wm_icmp_ne (tgt := 52) hC dX3_clashesBelow_29 (by decide) hw (fun hw => ?_) (fun hw => ?_)
      · refine wm_aload_n hC 1 dX3_clashesBelow_32 rfl (k_ne0 hk1 (by decide)) ?_
        refine wm_iload_n hC 2 dX3_clashesBelow_33 rfl ?_
        refine x_iald hC hk1 dX3_clashesBelow_34 hw (fun hw => ?_)
        refine wm_iconst hC dX3_clashesBelow_35 (k := ?_)
        refine wm_icmp_eq (tgt := 52) hC dX3_clashesBelow_36 (by decide) hw (fun hw => ?_) (fun hw => ?_)
        · refine x_iinc hC 4 dX3_clashesBelow_52 rfl (by decide) (L2 := [(4, vi (l4 + 1)), (0, vr l0), (1, vr l1), (2, vi l2), (3, vi l3)]) rfl hw (fun hw => ?_)
          refine wm_goto (tgt := 5) hC dX3_clashesBelow_55 (by decide) ?_
          refine wm_sub [1, 2, 3, 4, 0] (L2 := [(0, vr l0), (1, vr l1), (2, vi l2), (3, vi l3), (4, vi (l4 + 1))]) rfl ?_
          exact kk5 _ _ hw
        · refine wm_aload_n hC 1 dX3_clashesBelow_39 rfl (k_ne0 hk1 (by decide)) ?_
          refine wm_iload_n hC 2 dX3_clashesBelow_40 rfl ?_
          refine x_iald hC hk1 dX3_clashesBelow_41 hw (fun hw => ?_)
          refine wm_aload_n hC 1 dX3_clashesBelow_42 rfl (k_ne0 hk1 (by decide)) ?_
          refine wm_iload hC 4 dX3_clashesBelow_43 rfl ?_
          refine x_iald hC hk1 dX3_clashesBelow_45 hw (fun hw => ?_)
          refine wm_icmp_ne (tgt := 52) hC dX3_clashesBelow_46 (by decide) hw (fun hw => ?_) (fun hw => ?_)
          · refine x_iinc hC 3 dX3_clashesBelow_49 rfl (by decide) (L2 := [(3, vi (l3 + 1)), (0, vr l0), (1, vr l1), (2, vi l2), (4, vi l4)]) rfl hw (fun hw => ?_)
            refine x_iinc hC 4 dX3_clashesBelow_52 rfl (by decide) (L2 := [(4, vi (l4 + 1)), (3, vi (l3 + 1)), (0, vr l0), (1, vr l1), (2, vi l2)]) rfl hw (fun hw => ?_)
            refine wm_goto (tgt := 5) hC dX3_clashesBelow_55 (by decide) ?_
            refine wm_sub [2, 3, 4, 1, 0] (L2 := [(0, vr l0), (1, vr l1), (2, vi l2), (3, vi (l3 + 1)), (4, vi (l4 + 1))]) rfl ?_
            exact kk5 _ _ hw
          · refine x_iinc hC 4 dX3_clashesBelow_52 rfl (by decide) (L2 := [(4, vi (l4 + 1)), (0, vr l0), (1, vr l1), (2, vi l2), (3, vi l3)]) rfl hw (fun hw => ?_)
            refine wm_goto (tgt := 5) hC dX3_clashesBelow_55 (by decide) ?_
            refine wm_sub [1, 2, 3, 4, 0] (L2 := [(0, vr l0), (1, vr l1), (2, vi l2), (3, vi l3), (4, vi (l4 + 1))]) rfl ?_
            exact kk5 _ _ hw
      · refine x_iinc hC 4 dX3_clashesBelow_52 rfl (by decide) (L2 := [(4, vi (l4 + 1)), (0, vr l0), (1, vr l1), (2, vi l2), (3, vi l3)]) rfl hw (fun hw => ?_)
        refine wm_goto (tgt := 5) hC dX3_clashesBelow_55 (by decide) ?_
        refine wm_sub [1, 2, 3, 4, 0] (L2 := [(0, vr l0), (1, vr l1), (2, vi l2), (3, vi l3), (4, vi (l4 + 1))]) rfl ?_
        exact kk5 _ _ hw
set_option maxRecDepth 20000 in
theorem W3_clashesBelow_b5 {C : wX} {ad : Nat → Nat} {n : Nat} {I J : mI} {R : mR} {Q : Int → Prop} (hC : wOK C cX3_clashesBelow 5 RX3) (hRm : wRm C 1 12 0 0) (hE : wEnd C (some .int) ad n (fun r I' J' R' => (I' = I ∧ J' = J ∧ R' = R) ∧ Q r)) {l0 : Nat} {l1 : Nat} {l2 : Int}   (hk0 : kK l0 = 3) (hk1 : kK l1 = 21)  : ∀ (f : Nat) (l3 : Int) (l4 : Int), P3_clashesBelow_b5 l0 l1 l2 I R Q f l3 l4 → WM C ad n I J R 0 0 5 [(0, vr l0), (1, vr l1), (2, vi l2), (3, vi l3), (4, vi l4)] [] := by
  intro f
  induction f with
  | zero => intro l3 l4 hw; exact hw.elim
  | succ f ih => intro l3 l4 hw; exact W3_clashesBelow_b5_body hC hRm hE hk0 hk1 (fun a0 a1 hw => ih a0 a1 hw) hw
def P3_clashesBelow (l0 : Nat) (l1 : Nat) (l2 : Int) (I : mI) (R : mR) (Q : Int → Prop) : Prop := (∃ f, P3_clashesBelow_b5 l0 l1 l2 I R Q f 0 0)
set_option maxRecDepth 20000 in
theorem C3_clashesBelow {ad : Nat → Nat} {n : Nat} {I J : mI} {R : mR} {Q : Int → Prop} {l0 : Nat} {l1 : Nat} {l2 : Int} (hk0 : kK l0 = 3) (hk1 : kK l1 = 21) (hw : P3_clashesBelow l0 l1 l2 I R Q) : wMet yX3_clashesBelow cX3_clashesBelow 5 (some .int) 1 12 ad n I J R [vr l0, vr l1, vi l2] (fun r I' J' R' => (I' = I ∧ J' = J ∧ R' = R) ∧ Q r) := by
  refine wMet_of (by decide) (Nat.le_of_ble_eq_true rfl) (fun C hC hRm hE => ?_)
  refine (show WM C ad n I J R 0 0 0 [(0, vr l0), (1, vr l1), (2, vi l2)] [] from ?_)
  unfold P3_clashesBelow at hw
  refine wm_iconst hC dX3_clashesBelow_0 (k := ?_)
  refine wm_istore_n hC dX3_clashesBelow_1 (by decide) (L2 := [(3, vi 0), (0, vr l0), (1, vr l1), (2, vi l2)]) rfl ?_
  refine wm_iconst hC dX3_clashesBelow_2 (k := ?_)
  refine wm_istore hC dX3_clashesBelow_3 (by decide) (L2 := [(4, vi 0), (3, vi 0), (0, vr l0), (1, vr l1), (2, vi l2)]) rfl ?_
  obtain ⟨f, hw⟩ := hw
  refine wm_sub [2, 3, 4, 1, 0] (L2 := [(0, vr l0), (1, vr l1), (2, vi l2), (3, vi 0), (4, vi 0)]) rfl ?_
  exact W3_clashesBelow_b5 hC hRm hE hk0 hk1 f _ _ hw
def P3_clashes_b4_body (l0 : Nat) (l1 : Nat) (I : mI) (R : mR) (Q : Int → Prop) (k4 : Int → Int → Prop) (l2 : Int) (l3 : Int) : Prop := (kK (R l0 0) = 21 ∧ (((0 : Int) ≤ (2 : Int) ∧ (2 : Int) < (kN (R l0 0) : Int)) ∧ (if (I (R l0 0) (2 : Int)) ≤ l3 then (Q l2) else (P3_clashesBelow l0 l1 l3 I R (fun r1 => (rg (l2 + r1) ∧ (rg (l3 + 1) ∧ (k4 (l2 + r1) (l3 + 1)))))))))
def P3_clashes_b4 (l0 : Nat) (l1 : Nat) (I : mI) (R : mR) (Q : Int → Prop) : Nat → Int → Int → Prop
  | 0 => fun _ _ => False
  | f + 1 => fun l2 l3 => P3_clashes_b4_body l0 l1 I R Q (P3_clashes_b4 l0 l1 I R Q f) l2 l3
set_option maxRecDepth 20000 in
theorem W3_clashes_b4_body {C : wX} {ad : Nat → Nat} {n : Nat} {I J : mI} {R : mR} {Q : Int → Prop} (hC : wOK C cX3_clashes 4 RX3) (hRm : wRm C 2 36 0 0) (hE : wEnd C (some .int) ad n (fun r I' J' R' => (I' = I ∧ J' = J ∧ R' = R) ∧ Q r)) {l0 : Nat} {l1 : Nat} {l2 : Int} {l3 : Int}   (hk0 : kK l0 = 3) (hk1 : kK l1 = 21)  {k4 : Int → Int → Prop} (kk4 : ∀ (y2 : Int) (y3 : Int), k4 y2 y3 → WM C ad n I J R 0 0 4 [(0, vr l0), (1, vr l1), (2, vi y2), (3, vi y3)] []) (hw : P3_clashes_b4_body l0 l1 I R Q k4 l2 l3) : WM C ad n I J R 0 0 4 [(0, vr l0), (1, vr l1), (2, vi l2), (3, vi l3)] [] := by
  unfold P3_clashes_b4_body at hw
  refine wm_iload_n hC 3 dX3_clashes_4 rfl ?_
  refine wm_aload_n hC 0 dX3_clashes_5 rfl (k_ne0 hk0 (by decide)) ?_
  refine x_getR2 hC 0 fl_X3_9 rfl hk0 dX3_clashes_6 hw (fun g1 hw => ?_)
  refine wm_iconst hC dX3_clashes_9 (k := ?_)
  refine x_iald hC g1 dX3_clashes_10 hw (fun hw => ?_)
  refine wm_icmp_ge (tgt := 29) hC dX3_clashes_11 (by decide) hw (fun hw => ?_) (fun hw => ?_)
  · refine wm_iload_n hC 2 dX3_clashes_29 rfl ?_
    exact wm_ireturn hC hE dX3_clashes_30 ⟨⟨rfl, rfl, rfl⟩, hw⟩
  · refine wm_iload_n hC 2 dX3_clashes_14 rfl ?_
    refine wm_aload_n hC 0 dX3_clashes_15 rfl (k_ne0 hk0 (by decide)) ?_
    refine wm_aload_n hC 1 dX3_clashes_16 rfl (k_ne0 hk1 (by decide)) ?_
    refine wm_iload_n hC 3 dX3_clashes_17 rfl ?_
    refine y_callV_i_n hC hRm ml_X3_66 hk0 (C3_clashesBelow hk0 hk1 hw) (Nat.le_of_ble_eq_true rfl) (Nat.le_of_ble_eq_true rfl) ⟨Nat.zero_le _, Nat.zero_le _⟩ rfl (st := [vi l2]) rfl (Nat.le_of_ble_eq_true rfl) dX3_clashes_18 (fun r1 hw => ?_)
    refine x_iadd hC dX3_clashes_21 hw (fun hw => ?_)
    refine wm_istore_n hC dX3_clashes_22 (by decide) (L2 := [(2, vi (l2 + r1)), (0, vr l0), (1, vr l1), (3, vi l3)]) rfl ?_
    refine x_iinc hC 3 dX3_clashes_23 rfl (by decide) (L2 := [(3, vi (l3 + 1)), (2, vi (l2 + r1)), (0, vr l0), (1, vr l1)]) rfl hw (fun hw => ?_)
    refine wm_goto (tgt := 4) hC dX3_clashes_26 (by decide) ?_
    refine wm_sub [2, 3, 1, 0] (L2 := [(0, vr l0), (1, vr l1), (2, vi (l2 + r1)), (3, vi (l3 + 1))]) rfl ?_
    exact kk4 _ _ hw
set_option maxRecDepth 20000 in
theorem W3_clashes_b4 {C : wX} {ad : Nat → Nat} {n : Nat} {I J : mI} {R : mR} {Q : Int → Prop} (hC : wOK C cX3_clashes 4 RX3) (hRm : wRm C 2 36 0 0) (hE : wEnd C (some .int) ad n (fun r I' J' R' => (I' = I ∧ J' = J ∧ R' = R) ∧ Q r)) {l0 : Nat} {l1 : Nat}   (hk0 : kK l0 = 3) (hk1 : kK l1 = 21)  : ∀ (f : Nat) (l2 : Int) (l3 : Int), P3_clashes_b4 l0 l1 I R Q f l2 l3 → WM C ad n I J R 0 0 4 [(0, vr l0), (1, vr l1), (2, vi l2), (3, vi l3)] [] := by
  intro f
  induction f with
  | zero => intro l2 l3 hw; exact hw.elim
  | succ f ih => intro l2 l3 hw; exact W3_clashes_b4_body hC hRm hE hk0 hk1 (fun a0 a1 hw => ih a0 a1 hw) hw
def P3_clashes (l0 : Nat) (l1 : Nat) (I : mI) (R : mR) (Q : Int → Prop) : Prop := (∃ f, P3_clashes_b4 l0 l1 I R Q f 0 0)
set_option maxRecDepth 20000 in
theorem C3_clashes {ad : Nat → Nat} {n : Nat} {I J : mI} {R : mR} {Q : Int → Prop} {l0 : Nat} {l1 : Nat} (hk0 : kK l0 = 3) (hk1 : kK l1 = 21) (hw : P3_clashes l0 l1 I R Q) : wMet yX3_clashes cX3_clashes 4 (some .int) 2 36 ad n I J R [vr l0, vr l1] (fun r I' J' R' => (I' = I ∧ J' = J ∧ R' = R) ∧ Q r) := by
  refine wMet_of (by decide) (Nat.le_of_ble_eq_true rfl) (fun C hC hRm hE => ?_)
  refine (show WM C ad n I J R 0 0 0 [(0, vr l0), (1, vr l1)] [] from ?_)
  unfold P3_clashes at hw
  refine wm_iconst hC dX3_clashes_0 (k := ?_)
  refine wm_istore_n hC dX3_clashes_1 (by decide) (L2 := [(2, vi 0), (0, vr l0), (1, vr l1)]) rfl ?_
  refine wm_iconst hC dX3_clashes_2 (k := ?_)
  refine wm_istore_n hC dX3_clashes_3 (by decide) (L2 := [(3, vi 0), (2, vi 0), (0, vr l0), (1, vr l1)]) rfl ?_
  obtain ⟨f, hw⟩ := hw
  refine wm_sub [2, 3, 1, 0] (L2 := [(0, vr l0), (1, vr l1), (2, vi 0), (3, vi 0)]) rfl ?_
  exact W3_clashes_b4 hC hRm hE hk0 hk1 f _ _ hw
def P4_add (l0 : Nat) (l1 : Nat) (I : mI) (R : mR) (Q : mI → Prop) : Prop := (kK (R l0 0) = 24 ∧ (((0 : Int) ≤ (I l0 1) ∧ (I l0 1) < (kN (R l0 0) : Int)) ∧ kK (R (R l0 0) (I l0 1)) = 7 ∧ (P7_take (R (R l0 0) (I l0 1)) l1 I R (fun I1 => (rg ((I1 l0 1) + 1) ∧ (wLet (up I1 l0 1 (Int.tmod ((I1 l0 1) + 1) 20)) (fun I2 => (if (20 : Int) ≤ (I2 l0 2) then (wLet (up I2 l0 2 20) (fun I3 => (Q I3))) else (rg ((I2 l0 2) + 1) ∧ (wLet (up I2 l0 2 ((I2 l0 2) + 1)) (fun I4 => (Q I4))))))))))))
set_option maxRecDepth 20000 in
theorem C4_add {ad : Nat → Nat} {n : Nat} {I J : mI} {R : mR} {Q : mI → Prop} {l0 : Nat} {l1 : Nat} (hk0 : kK l0 = 4) (hk1 : kK l1 = 7) (hw : P4_add l0 l1 I R Q) : wMet yX4_add cX4_add 2 none 2 81 ad n I J R [vr l0, vr l1] (fun _ I' J' R' => (J' = J ∧ R' = R) ∧ Q I') := by
  refine wMet_of (by decide) (Nat.le_of_ble_eq_true rfl) (fun C hC hRm hE => ?_)
  refine (show WM C ad n I J R 0 0 0 [(0, vr l0), (1, vr l1)] [] from ?_)
  unfold P4_add at hw
  refine wm_aload_n hC 0 dX4_add_0 rfl (k_ne0 hk0 (by decide)) ?_
  refine x_getR2 hC 0 fl_X4_11 rfl hk0 dX4_add_1 hw (fun g1 hw => ?_)
  refine wm_aload_n hC 0 dX4_add_4 rfl (k_ne0 hk0 (by decide)) ?_
  refine x_getI hC 1 fl_X4_15 rfl hk0 dX4_add_5 ?_
  refine x_aald hC g1 dX4_add_8 hw (fun g2 hw => ?_)
  refine wm_aload_n hC 1 dX4_add_9 rfl (k_ne0 hk1 (by decide)) ?_
  refine y_callV_v_I hC hRm ml_X4_23 g2 (C7_take g2 hk1 hw) (Nat.le_of_ble_eq_true rfl) (Nat.le_of_ble_eq_true rfl) ⟨Nat.zero_le _, Nat.zero_le _⟩ rfl (st := []) rfl (Nat.le_of_ble_eq_true rfl) dX4_add_10 (fun I1 hw => ?_)
  refine wm_aload_n hC 0 dX4_add_13 rfl (k_ne0 hk0 (by decide)) ?_
  refine wm_aload_n hC 0 dX4_add_14 rfl (k_ne0 hk0 (by decide)) ?_
  refine x_getI hC 1 fl_X4_15 rfl hk0 dX4_add_15 ?_
  refine wm_iconst hC dX4_add_18 (k := ?_)
  refine x_iadd hC dX4_add_19 hw (fun hw => ?_)
  refine wm_bipush hC dX4_add_20 (k := ?_)
  refine x_iremP hC (by decide) dX4_add_22 ?_
  refine x_putI hC 1 fl_X4_15 rfl hk0 dX4_add_23 hw (fun I2 hw => ?_)
  refine wm_aload_n hC 0 dX4_add_26 rfl (k_ne0 hk0 (by decide)) ?_
  refine wm_aload_n hC 0 dX4_add_27 rfl (k_ne0 hk0 (by decide)) ?_
  refine x_getI hC 2 fl_X4_19 rfl hk0 dX4_add_28 ?_
  refine wm_bipush hC dX4_add_31 (k := ?_)
  refine wm_icmp_ge (tgt := 45) hC dX4_add_33 (by decide) hw (fun hw => ?_) (fun hw => ?_)
  · refine wm_bipush hC dX4_add_45 (k := ?_)
    refine x_putI hC 2 fl_X4_19 rfl hk0 dX4_add_47 hw (fun I3 hw => ?_)
    exact wm_return hC hE dX4_add_50 ⟨⟨rfl, rfl⟩, hw⟩
  · refine wm_aload_n hC 0 dX4_add_36 rfl (k_ne0 hk0 (by decide)) ?_
    refine x_getI hC 2 fl_X4_19 rfl hk0 dX4_add_37 ?_
    refine wm_iconst hC dX4_add_40 (k := ?_)
    refine x_iadd hC dX4_add_41 hw (fun hw => ?_)
    refine wm_goto (tgt := 47) hC dX4_add_42 (by decide) ?_
    refine x_putI hC 2 fl_X4_19 rfl hk0 dX4_add_47 hw (fun I4 hw => ?_)
    exact wm_return hC hE dX4_add_50 ⟨⟨rfl, rfl⟩, hw⟩
def P4_takeBack (l0 : Nat) (l1 : Nat) (I : mI) (R : mR) (Q : mI → Prop) : Prop := (if (I l0 2) ≤ 0 then (Q I) else (rg ((I l0 1) + 20) ∧ (rg (((I l0 1) + 20) - 1) ∧ (wLet (up I l0 1 (Int.tmod (((I l0 1) + 20) - 1) 20)) (fun I1 => (kK (R l0 0) = 24 ∧ (((0 : Int) ≤ (I1 l0 1) ∧ (I1 l0 1) < (kN (R l0 0) : Int)) ∧ kK (R (R l0 0) (I1 l0 1)) = 7 ∧ (P7_take l1 (R (R l0 0) (I1 l0 1)) I1 R (fun I2 => (rg ((I2 l0 2) - 1) ∧ (wLet (up I2 l0 2 ((I2 l0 2) - 1)) (fun I3 => (Q I3)))))))))))))
set_option maxRecDepth 20000 in
theorem C4_takeBack {ad : Nat → Nat} {n : Nat} {I J : mI} {R : mR} {Q : mI → Prop} {l0 : Nat} {l1 : Nat} (hk0 : kK l0 = 4) (hk1 : kK l1 = 7) (hw : P4_takeBack l0 l1 I R Q) : wMet yX4_takeBack cX4_takeBack 2 none 2 81 ad n I J R [vr l0, vr l1] (fun _ I' J' R' => (J' = J ∧ R' = R) ∧ Q I') := by
  refine wMet_of (by decide) (Nat.le_of_ble_eq_true rfl) (fun C hC hRm hE => ?_)
  refine (show WM C ad n I J R 0 0 0 [(0, vr l0), (1, vr l1)] [] from ?_)
  unfold P4_takeBack at hw
  refine wm_aload_n hC 0 dX4_takeBack_0 rfl (k_ne0 hk0 (by decide)) ?_
  refine x_getI hC 2 fl_X4_19 rfl hk0 dX4_takeBack_1 ?_
  refine wm_if_le (tgt := 46) hC dX4_takeBack_4 (by decide) hw (fun hw => ?_) (fun hw => ?_)
  · exact wm_return hC hE dX4_takeBack_46 ⟨⟨rfl, rfl⟩, hw⟩
  · refine wm_aload_n hC 0 dX4_takeBack_7 rfl (k_ne0 hk0 (by decide)) ?_
    refine wm_aload_n hC 0 dX4_takeBack_8 rfl (k_ne0 hk0 (by decide)) ?_
    refine x_getI hC 1 fl_X4_15 rfl hk0 dX4_takeBack_9 ?_
    refine wm_bipush hC dX4_takeBack_12 (k := ?_)
    refine x_iadd hC dX4_takeBack_14 hw (fun hw => ?_)
    refine wm_iconst hC dX4_takeBack_15 (k := ?_)
    refine x_isub hC dX4_takeBack_16 hw (fun hw => ?_)
    refine wm_bipush hC dX4_takeBack_17 (k := ?_)
    refine x_iremP hC (by decide) dX4_takeBack_19 ?_
    refine x_putI hC 1 fl_X4_15 rfl hk0 dX4_takeBack_20 hw (fun I1 hw => ?_)
    refine wm_aload_n hC 1 dX4_takeBack_23 rfl (k_ne0 hk1 (by decide)) ?_
    refine wm_aload_n hC 0 dX4_takeBack_24 rfl (k_ne0 hk0 (by decide)) ?_
    refine x_getR2 hC 0 fl_X4_11 rfl hk0 dX4_takeBack_25 hw (fun g1 hw => ?_)
    refine wm_aload_n hC 0 dX4_takeBack_28 rfl (k_ne0 hk0 (by decide)) ?_
    refine x_getI hC 1 fl_X4_15 rfl hk0 dX4_takeBack_29 ?_
    refine x_aald hC g1 dX4_takeBack_32 hw (fun g2 hw => ?_)
    refine y_callV_v_I hC hRm ml_X4_23 hk1 (C7_take hk1 g2 hw) (Nat.le_of_ble_eq_true rfl) (Nat.le_of_ble_eq_true rfl) ⟨Nat.zero_le _, Nat.zero_le _⟩ rfl (st := []) rfl (Nat.le_of_ble_eq_true rfl) dX4_takeBack_33 (fun I2 hw => ?_)
    refine wm_aload_n hC 0 dX4_takeBack_36 rfl (k_ne0 hk0 (by decide)) ?_
    refine wm_dup hC dX4_takeBack_37 (k := ?_)
    refine x_getI hC 2 fl_X4_19 rfl hk0 dX4_takeBack_38 ?_
    refine wm_iconst hC dX4_takeBack_41 (k := ?_)
    refine x_isub hC dX4_takeBack_42 hw (fun hw => ?_)
    refine x_putI hC 2 fl_X4_19 rfl hk0 dX4_takeBack_43 hw (fun I3 hw => ?_)
    exact wm_return hC hE dX4_takeBack_46 ⟨⟨rfl, rfl⟩, hw⟩
def P5_add (l0 : Nat) (l1 : Int) (I : mI) (R : mR) (Q : mI → Prop) : Prop := (kK (R l0 0) = 21 ∧ (if (kN (R l0 0) : Int) ≤ (I l0 1) then (Q I) else (kK (R l0 0) = 21 ∧ (((0 : Int) ≤ (I l0 1) ∧ (I l0 1) < (kN (R l0 0) : Int)) ∧ wLet (up I (R l0 0) (I l0 1) l1) (fun I1 => (rg ((I1 l0 1) + 1) ∧ (wLet (up I1 l0 1 ((I1 l0 1) + 1)) (fun I2 => (Q I2)))))))))
set_option maxRecDepth 20000 in
theorem C5_add {ad : Nat → Nat} {n : Nat} {I J : mI} {R : mR} {Q : mI → Prop} {l0 : Nat} {l1 : Int} (hk0 : kK l0 = 5) (hw : P5_add l0 l1 I R Q) : wMet yX5_add cX5_add 2 none 1 12 ad n I J R [vr l0, vi l1] (fun _ I' J' R' => (J' = J ∧ R' = R) ∧ Q I') := by
  refine wMet_of (by decide) (Nat.le_of_ble_eq_true rfl) (fun C hC hRm hE => ?_)
  refine (show WM C ad n I J R 0 0 0 [(0, vr l0), (1, vi l1)] [] from ?_)
  unfold P5_add at hw
  refine wm_aload_n hC 0 dX5_add_0 rfl (k_ne0 hk0 (by decide)) ?_
  refine x_getI hC 1 fl_X5_15 rfl hk0 dX5_add_1 ?_
  refine wm_aload_n hC 0 dX5_add_4 rfl (k_ne0 hk0 (by decide)) ?_
  refine x_getR2 hC 0 fl_X5_9 rfl hk0 dX5_add_5 hw (fun g1 hw => ?_)
  refine x_alen hC g1 (by decide) dX5_add_8 ?_
  refine wm_icmp_ge (tgt := 32) hC dX5_add_9 (by decide) hw (fun hw => ?_) (fun hw => ?_)
  · exact wm_return hC hE dX5_add_32 ⟨⟨rfl, rfl⟩, hw⟩
  · refine wm_aload_n hC 0 dX5_add_12 rfl (k_ne0 hk0 (by decide)) ?_
    refine x_getR2 hC 0 fl_X5_9 rfl hk0 dX5_add_13 hw (fun g2 hw => ?_)
    refine wm_aload_n hC 0 dX5_add_16 rfl (k_ne0 hk0 (by decide)) ?_
    refine x_getI hC 1 fl_X5_15 rfl hk0 dX5_add_17 ?_
    refine wm_iload_n hC 1 dX5_add_20 rfl ?_
    refine x_iast hC g2 dX5_add_21 hw (fun I1 hw => ?_)
    refine wm_aload_n hC 0 dX5_add_22 rfl (k_ne0 hk0 (by decide)) ?_
    refine wm_dup hC dX5_add_23 (k := ?_)
    refine x_getI hC 1 fl_X5_15 rfl hk0 dX5_add_24 ?_
    refine wm_iconst hC dX5_add_27 (k := ?_)
    refine x_iadd hC dX5_add_28 hw (fun hw => ?_)
    refine x_putI hC 1 fl_X5_15 rfl hk0 dX5_add_29 hw (fun I2 hw => ?_)
    exact wm_return hC hE dX5_add_32 ⟨⟨rfl, rfl⟩, hw⟩
def P5_write_b168_body (l0 : Nat) (I : mI) (R : mR) (Q : mI → Prop) (k168 : Int → Int → Prop) (l4 : Int) (l5 : Int) : Prop := (if (I l0 1) ≤ l5 then (P5_add l0 l4 I R (fun I10 => (Q I10))) else (rg (5 * l4) ∧ (kK (R l0 0) = 21 ∧ (((0 : Int) ≤ l5 ∧ l5 < (kN (R l0 0) : Int)) ∧ (rg ((5 * l4) + (I (R l0 0) l5)) ∧ (wLet (Int.tmod ((5 * l4) + (I (R l0 0) l5)) 251) (fun x2 => (rg (l5 + 1) ∧ (k168 x2 (l5 + 1))))))))))
def P5_write_b168 (l0 : Nat) (I : mI) (R : mR) (Q : mI → Prop) : Nat → Int → Int → Prop
  | 0 => fun _ _ => False
  | f + 1 => fun l4 l5 => P5_write_b168_body l0 I R Q (P5_write_b168 l0 I R Q f) l4 l5
set_option maxRecDepth 20000 in
theorem W5_write_b168_body {C : wX} {ad : Nat → Nat} {n : Nat} {I J : mI} {R : mR} {Q : mI → Prop} (hC : wOK C cX5_write 6 RX5) (hRm : wRm C 2 33 0 0) (hE : wEnd C none ad n (fun _ I' J' R' => (J' = J ∧ R' = R) ∧ Q I')) {l0 : Nat} {l4 : Int} {l5 : Int}   (hk0 : kK l0 = 5)  {k168 : Int → Int → Prop} (kk168 : ∀ (y4 : Int) (y5 : Int), k168 y4 y5 → WM C ad n I J R 0 0 168 [(0, vr l0), (4, vi y4), (5, vi y5)] []) (hw : P5_write_b168_body l0 I R Q k168 l4 l5) : WM C ad n I J R 0 0 168 [(0, vr l0), (4, vi l4), (5, vi l5)] [] := by
  unfold P5_write_b168_body at hw
  refine wm_iload hC 2 dX5_write_168 rfl ?_
  refine wm_aload_n hC 0 dX5_write_170 rfl (k_ne0 hk0 (by decide)) ?_
  refine x_getI hC 1 fl_X5_15 rfl hk0 dX5_write_171 ?_
  refine wm_icmp_ge (tgt := 201) hC dX5_write_174 (by decide) hw (fun hw => ?_) (fun hw => ?_)
  · refine wm_aload_n hC 0 dX5_write_201 rfl (k_ne0 hk0 (by decide)) ?_
    refine wm_iload hC 1 dX5_write_202 rfl ?_
    refine y_callV_v_I hC hRm ml_X5_24 hk0 (C5_add hk0 hw) (Nat.le_of_ble_eq_true rfl) (Nat.le_of_ble_eq_true rfl) ⟨Nat.zero_le _, Nat.zero_le _⟩ rfl (st := []) rfl (Nat.le_of_ble_eq_true rfl) dX5_write_204 (fun I10 hw => ?_)
    exact wm_return hC hE dX5_write_207 ⟨⟨rfl, rfl⟩, hw⟩
  · refine wm_iconst hC dX5_write_177 (k := ?_)
    refine wm_iload hC 1 dX5_write_178 rfl ?_
    refine x_imul hC dX5_write_180 hw (fun hw => ?_)
    refine wm_aload_n hC 0 dX5_write_181 rfl (k_ne0 hk0 (by decide)) ?_
    refine x_getR2 hC 0 fl_X5_9 rfl hk0 dX5_write_182 hw (fun g7 hw => ?_)
    refine wm_iload hC 2 dX5_write_185 rfl ?_
    refine x_iald hC g7 dX5_write_187 hw (fun hw => ?_)
    refine x_iadd hC dX5_write_188 hw (fun hw => ?_)
    refine wm_sipush hC dX5_write_189 (k := ?_)
    refine x_iremP hC (by decide) dX5_write_192 ?_
    refine x_nameI hw (fun x2 hw => ?_)
    refine wm_istore hC dX5_write_193 (by decide) (L2 := [(4, vi x2), (0, vr l0), (5, vi l5)]) rfl ?_
    refine x_iinc hC 2 dX5_write_195 rfl (by decide) (L2 := [(5, vi (l5 + 1)), (4, vi x2), (0, vr l0)]) rfl hw (fun hw => ?_)
    refine wm_goto (tgt := 168) hC dX5_write_198 (by decide) ?_
    refine wm_sub [2, 1, 0] (L2 := [(0, vr l0), (4, vi x2), (5, vi (l5 + 1))]) rfl ?_
    exact kk168 _ _ hw
set_option maxRecDepth 20000 in
theorem W5_write_b168 {C : wX} {ad : Nat → Nat} {n : Nat} {I J : mI} {R : mR} {Q : mI → Prop} (hC : wOK C cX5_write 6 RX5) (hRm : wRm C 2 33 0 0) (hE : wEnd C none ad n (fun _ I' J' R' => (J' = J ∧ R' = R) ∧ Q I')) {l0 : Nat}   (hk0 : kK l0 = 5)  : ∀ (f : Nat) (l4 : Int) (l5 : Int), P5_write_b168 l0 I R Q f l4 l5 → WM C ad n I J R 0 0 168 [(0, vr l0), (4, vi l4), (5, vi l5)] [] := by
  intro f
  induction f with
  | zero => intro l4 l5 hw; exact hw.elim
  | succ f ih => intro l4 l5 hw; exact W5_write_b168_body hC hRm hE hk0 (fun a0 a1 hw => ih a0 a1 hw) hw
def P5_write_b115_body (l0 : Nat) (l1 : Nat) (l2 : Nat) (R : mR) (Q : mI → Prop) (k115 : Int → mI → Prop) (l4 : Int) (I : mI) : Prop := (kK (R l1 0) = 21 ∧ (((0 : Int) ≤ (2 : Int) ∧ (2 : Int) < (kN (R l1 0) : Int)) ∧ (if (I (R l1 0) (2 : Int)) ≤ l4 then (∃ f, P5_write_b168 l0 I R Q f 229 0) else (kK (R l2 5) = 21 ∧ (((0 : Int) ≤ l4 ∧ l4 < (kN (R l2 5) : Int)) ∧ (if (I (R l2 5) l4) = (-1) then (P5_add l0 255 I R (fun I9 => (rg (l4 + 1) ∧ (k115 (l4 + 1) I9)))) else (kK (R l2 5) = 21 ∧ (((0 : Int) ≤ l4 ∧ l4 < (kN (R l2 5) : Int)) ∧ (P5_add l0 (I (R l2 5) l4) I R (fun I8 => (rg (l4 + 1) ∧ (k115 (l4 + 1) I8))))))))))))
def P5_write_b115 (l0 : Nat) (l1 : Nat) (l2 : Nat) (R : mR) (Q : mI → Prop) : Nat → Int → mI → Prop
  | 0 => fun _ _ => False
  | f + 1 => fun l4 I => P5_write_b115_body l0 l1 l2 R Q (P5_write_b115 l0 l1 l2 R Q f) l4 I
set_option maxRecDepth 20000 in
theorem W5_write_b115_body {C : wX} {ad : Nat → Nat} {n : Nat} {I J : mI} {R : mR} {Q : mI → Prop} (hC : wOK C cX5_write 6 RX5) (hRm : wRm C 2 33 0 0) (hE : wEnd C none ad n (fun _ I' J' R' => (J' = J ∧ R' = R) ∧ Q I')) {l0 : Nat} {l1 : Nat} {l2 : Nat} {l4 : Int}   (hk0 : kK l0 = 5) (hk1 : kK l1 = 3) (hk2 : kK l2 = 7)  {k115 : Int → mI → Prop} (kk115 : ∀ (y4 : Int) (I' : mI), k115 y4 I' → WM C ad n I' J R 0 0 115 [(0, vr l0), (1, vr l1), (2, vr l2), (4, vi y4)] []) (hw : P5_write_b115_body l0 l1 l2 R Q k115 l4 I) : WM C ad n I J R 0 0 115 [(0, vr l0), (1, vr l1), (2, vr l2), (4, vi l4)] [] := by
  unfold P5_write_b115_body at hw
  refine wm_iload hC 3 dX5_write_115 rfl ?_
  refine wm_aload_n hC 1 dX5_write_117 rfl (k_ne0 hk1 (by decide)) ?_
  refine x_getR2 hC 0 fl_X5_31 rfl hk1 dX5_write_118 hw (fun g4 hw => ?_)
  refine wm_iconst hC dX5_write_121 (k := ?_)
  refine x_iald hC g4 dX5_write_122 hw (fun hw => ?_)
  refine wm_icmp_ge (tgt := 160) hC dX5_write_123 (by decide) hw (fun hw => ?_) (fun hw => ?_)
  · refine wm_sipush hC dX5_write_160 (k := ?_)
    refine wm_istore hC dX5_write_163 (by decide) (L2 := [(4, vi 229), (0, vr l0), (1, vr l1), (2, vr l2)]) rfl ?_
    refine wm_iconst hC dX5_write_165 (k := ?_)
    refine wm_istore hC dX5_write_166 (by decide) (L2 := [(5, vi 0), (4, vi 229), (0, vr l0), (1, vr l1), (2, vr l2)]) rfl ?_
    obtain ⟨f, hw⟩ := hw
    refine wm_sub [2, 1, 0] (L2 := [(0, vr l0), (4, vi 229), (5, vi 0)]) rfl ?_
    exact W5_write_b168 hC hRm hE hk0 f _ _ hw
  · refine wm_aload_n hC 0 dX5_write_126 rfl (k_ne0 hk0 (by decide)) ?_
    refine wm_aload_n hC 2 dX5_write_127 rfl (k_ne0 hk2 (by decide)) ?_
    refine x_getR2 hC 5 fl_X5_42 rfl hk2 dX5_write_128 hw (fun g5 hw => ?_)
    refine wm_iload hC 3 dX5_write_131 rfl ?_
    refine x_iald hC g5 dX5_write_133 hw (fun hw => ?_)
    refine wm_iconst hC dX5_write_134 (k := ?_)
    refine wm_icmp_ne (tgt := 144) hC dX5_write_135 (by decide) hw (fun hw => ?_) (fun hw => ?_)
    · refine wm_sipush hC dX5_write_138 (k := ?_)
      refine wm_goto (tgt := 151) hC dX5_write_141 (by decide) ?_
      refine y_callV_v_I hC hRm ml_X5_24 hk0 (C5_add hk0 hw) (Nat.le_of_ble_eq_true rfl) (Nat.le_of_ble_eq_true rfl) ⟨Nat.zero_le _, Nat.zero_le _⟩ rfl (st := []) rfl (Nat.le_of_ble_eq_true rfl) dX5_write_151 (fun I9 hw => ?_)
      refine x_iinc hC 3 dX5_write_154 rfl (by decide) (L2 := [(4, vi (l4 + 1)), (0, vr l0), (1, vr l1), (2, vr l2)]) rfl hw (fun hw => ?_)
      refine wm_goto (tgt := 115) hC dX5_write_157 (by decide) ?_
      refine wm_sub [1, 2, 3, 0] (L2 := [(0, vr l0), (1, vr l1), (2, vr l2), (4, vi (l4 + 1))]) rfl ?_
      exact kk115 _ _ hw
    · refine wm_aload_n hC 2 dX5_write_144 rfl (k_ne0 hk2 (by decide)) ?_
      refine x_getR2 hC 5 fl_X5_42 rfl hk2 dX5_write_145 hw (fun g6 hw => ?_)
      refine wm_iload hC 3 dX5_write_148 rfl ?_
      refine x_iald hC g6 dX5_write_150 hw (fun hw => ?_)
      refine y_callV_v_I hC hRm ml_X5_24 hk0 (C5_add hk0 hw) (Nat.le_of_ble_eq_true rfl) (Nat.le_of_ble_eq_true rfl) ⟨Nat.zero_le _, Nat.zero_le _⟩ rfl (st := []) rfl (Nat.le_of_ble_eq_true rfl) dX5_write_151 (fun I8 hw => ?_)
      refine x_iinc hC 3 dX5_write_154 rfl (by decide) (L2 := [(4, vi (l4 + 1)), (0, vr l0), (1, vr l1), (2, vr l2)]) rfl hw (fun hw => ?_)
      refine wm_goto (tgt := 115) hC dX5_write_157 (by decide) ?_
      refine wm_sub [1, 2, 3, 0] (L2 := [(0, vr l0), (1, vr l1), (2, vr l2), (4, vi (l4 + 1))]) rfl ?_
      exact kk115 _ _ hw
set_option maxRecDepth 20000 in
theorem W5_write_b115 {C : wX} {ad : Nat → Nat} {n : Nat} {J : mI} {R : mR} {Q : mI → Prop} (hC : wOK C cX5_write 6 RX5) (hRm : wRm C 2 33 0 0) (hE : wEnd C none ad n (fun _ I' J' R' => (J' = J ∧ R' = R) ∧ Q I')) {l0 : Nat} {l1 : Nat} {l2 : Nat}   (hk0 : kK l0 = 5) (hk1 : kK l1 = 3) (hk2 : kK l2 = 7)  : ∀ (f : Nat) (l4 : Int) (I : mI), P5_write_b115 l0 l1 l2 R Q f l4 I → WM C ad n I J R 0 0 115 [(0, vr l0), (1, vr l1), (2, vr l2), (4, vi l4)] [] := by
  intro f
  induction f with
  | zero => intro l4 I hw; exact hw.elim
  | succ f ih => intro l4 I hw; exact W5_write_b115_body hC hRm hE hk0 hk1 hk2 (fun a0 a1 hw => ih a0 a1 hw) hw
def P5_write_b89_body (l0 : Nat) (l1 : Nat) (l2 : Nat) (l3 : Int) (R : mR) (Q : mI → Prop) (k89 : Int → mI → Prop) (l4 : Int) (I : mI) : Prop := (if l3 ≤ l4 then (∃ f, P5_write_b115 l0 l1 l2 R Q f 0 I) else (kK (R l2 4) = 21 ∧ (((0 : Int) ≤ l4 ∧ l4 < (kN (R l2 4) : Int)) ∧ (P5_add l0 (I (R l2 4) l4) I R (fun I7 => (rg (l4 + 1) ∧ (k89 (l4 + 1) I7)))))))
def P5_write_b89 (l0 : Nat) (l1 : Nat) (l2 : Nat) (l3 : Int) (R : mR) (Q : mI → Prop) : Nat → Int → mI → Prop
  | 0 => fun _ _ => False
  | f + 1 => fun l4 I => P5_write_b89_body l0 l1 l2 l3 R Q (P5_write_b89 l0 l1 l2 l3 R Q f) l4 I
set_option maxRecDepth 20000 in
theorem W5_write_b89_body {C : wX} {ad : Nat → Nat} {n : Nat} {I J : mI} {R : mR} {Q : mI → Prop} (hC : wOK C cX5_write 6 RX5) (hRm : wRm C 2 33 0 0) (hE : wEnd C none ad n (fun _ I' J' R' => (J' = J ∧ R' = R) ∧ Q I')) {l0 : Nat} {l1 : Nat} {l2 : Nat} {l3 : Int} {l4 : Int}   (hk0 : kK l0 = 5) (hk1 : kK l1 = 3) (hk2 : kK l2 = 7)  {k89 : Int → mI → Prop} (kk89 : ∀ (y4 : Int) (I' : mI), k89 y4 I' → WM C ad n I' J R 0 0 89 [(0, vr l0), (1, vr l1), (2, vr l2), (3, vi l3), (4, vi y4)] []) (hw : P5_write_b89_body l0 l1 l2 l3 R Q k89 l4 I) : WM C ad n I J R 0 0 89 [(0, vr l0), (1, vr l1), (2, vr l2), (3, vi l3), (4, vi l4)] [] := by
  unfold P5_write_b89_body at hw
  refine wm_iload hC 4 dX5_write_89 rfl ?_
  refine wm_iload_n hC 3 dX5_write_91 rfl ?_
  refine wm_icmp_ge (tgt := 112) hC dX5_write_92 (by decide) hw (fun hw => ?_) (fun hw => ?_)
  · refine wm_iconst hC dX5_write_112 (k := ?_)
    refine wm_istore hC dX5_write_113 (by decide) (L2 := [(4, vi 0), (0, vr l0), (1, vr l1), (2, vr l2), (3, vi l3)]) rfl ?_
    obtain ⟨f, hw⟩ := hw
    refine wm_sub [1, 2, 3, 0] (L2 := [(0, vr l0), (1, vr l1), (2, vr l2), (4, vi 0)]) rfl ?_
    exact W5_write_b115 hC hRm hE hk0 hk1 hk2 f _ _ hw
  · refine wm_aload_n hC 0 dX5_write_95 rfl (k_ne0 hk0 (by decide)) ?_
    refine wm_aload_n hC 2 dX5_write_96 rfl (k_ne0 hk2 (by decide)) ?_
    refine x_getR2 hC 4 fl_X5_39 rfl hk2 dX5_write_97 hw (fun g3 hw => ?_)
    refine wm_iload hC 4 dX5_write_100 rfl ?_
    refine x_iald hC g3 dX5_write_102 hw (fun hw => ?_)
    refine y_callV_v_I hC hRm ml_X5_24 hk0 (C5_add hk0 hw) (Nat.le_of_ble_eq_true rfl) (Nat.le_of_ble_eq_true rfl) ⟨Nat.zero_le _, Nat.zero_le _⟩ rfl (st := []) rfl (Nat.le_of_ble_eq_true rfl) dX5_write_103 (fun I7 hw => ?_)
    refine x_iinc hC 4 dX5_write_106 rfl (by decide) (L2 := [(4, vi (l4 + 1)), (0, vr l0), (1, vr l1), (2, vr l2), (3, vi l3)]) rfl hw (fun hw => ?_)
    refine wm_goto (tgt := 89) hC dX5_write_109 (by decide) ?_
    refine wm_sub [1, 2, 3, 4, 0] (L2 := [(0, vr l0), (1, vr l1), (2, vr l2), (3, vi l3), (4, vi (l4 + 1))]) rfl ?_
    exact kk89 _ _ hw
set_option maxRecDepth 20000 in
theorem W5_write_b89 {C : wX} {ad : Nat → Nat} {n : Nat} {J : mI} {R : mR} {Q : mI → Prop} (hC : wOK C cX5_write 6 RX5) (hRm : wRm C 2 33 0 0) (hE : wEnd C none ad n (fun _ I' J' R' => (J' = J ∧ R' = R) ∧ Q I')) {l0 : Nat} {l1 : Nat} {l2 : Nat} {l3 : Int}   (hk0 : kK l0 = 5) (hk1 : kK l1 = 3) (hk2 : kK l2 = 7)  : ∀ (f : Nat) (l4 : Int) (I : mI), P5_write_b89 l0 l1 l2 l3 R Q f l4 I → WM C ad n I J R 0 0 89 [(0, vr l0), (1, vr l1), (2, vr l2), (3, vi l3), (4, vi l4)] [] := by
  intro f
  induction f with
  | zero => intro l4 I hw; exact hw.elim
  | succ f ih => intro l4 I hw; exact W5_write_b89_body hC hRm hE hk0 hk1 hk2 (fun a0 a1 hw => ih a0 a1 hw) hw
def P5_write_b63_body (l0 : Nat) (l1 : Nat) (l2 : Nat) (l3 : Int) (R : mR) (Q : mI → Prop) (k63 : Int → mI → Prop) (l4 : Int) (I : mI) : Prop := (if l3 ≤ l4 then (∃ f, P5_write_b89 l0 l1 l2 l3 R Q f 0 I) else (kK (R l2 3) = 21 ∧ (((0 : Int) ≤ l4 ∧ l4 < (kN (R l2 3) : Int)) ∧ (P5_add l0 (I (R l2 3) l4) I R (fun I6 => (rg (l4 + 1) ∧ (k63 (l4 + 1) I6)))))))
def P5_write_b63 (l0 : Nat) (l1 : Nat) (l2 : Nat) (l3 : Int) (R : mR) (Q : mI → Prop) : Nat → Int → mI → Prop
  | 0 => fun _ _ => False
  | f + 1 => fun l4 I => P5_write_b63_body l0 l1 l2 l3 R Q (P5_write_b63 l0 l1 l2 l3 R Q f) l4 I
set_option maxRecDepth 20000 in
theorem W5_write_b63_body {C : wX} {ad : Nat → Nat} {n : Nat} {I J : mI} {R : mR} {Q : mI → Prop} (hC : wOK C cX5_write 6 RX5) (hRm : wRm C 2 33 0 0) (hE : wEnd C none ad n (fun _ I' J' R' => (J' = J ∧ R' = R) ∧ Q I')) {l0 : Nat} {l1 : Nat} {l2 : Nat} {l3 : Int} {l4 : Int}   (hk0 : kK l0 = 5) (hk1 : kK l1 = 3) (hk2 : kK l2 = 7)  {k63 : Int → mI → Prop} (kk63 : ∀ (y4 : Int) (I' : mI), k63 y4 I' → WM C ad n I' J R 0 0 63 [(0, vr l0), (1, vr l1), (2, vr l2), (3, vi l3), (4, vi y4)] []) (hw : P5_write_b63_body l0 l1 l2 l3 R Q k63 l4 I) : WM C ad n I J R 0 0 63 [(0, vr l0), (1, vr l1), (2, vr l2), (3, vi l3), (4, vi l4)] [] := by
  unfold P5_write_b63_body at hw
  refine wm_iload hC 4 dX5_write_63 rfl ?_
  refine wm_iload_n hC 3 dX5_write_65 rfl ?_
  refine wm_icmp_ge (tgt := 86) hC dX5_write_66 (by decide) hw (fun hw => ?_) (fun hw => ?_)
  · refine wm_iconst hC dX5_write_86 (k := ?_)
    refine wm_istore hC dX5_write_87 (by decide) (L2 := [(4, vi 0), (0, vr l0), (1, vr l1), (2, vr l2), (3, vi l3)]) rfl ?_
    obtain ⟨f, hw⟩ := hw
    refine wm_sub [1, 2, 3, 4, 0] (L2 := [(0, vr l0), (1, vr l1), (2, vr l2), (3, vi l3), (4, vi 0)]) rfl ?_
    exact W5_write_b89 hC hRm hE hk0 hk1 hk2 f _ _ hw
  · refine wm_aload_n hC 0 dX5_write_69 rfl (k_ne0 hk0 (by decide)) ?_
    refine wm_aload_n hC 2 dX5_write_70 rfl (k_ne0 hk2 (by decide)) ?_
    refine x_getR2 hC 3 fl_X5_36 rfl hk2 dX5_write_71 hw (fun g2 hw => ?_)
    refine wm_iload hC 4 dX5_write_74 rfl ?_
    refine x_iald hC g2 dX5_write_76 hw (fun hw => ?_)
    refine y_callV_v_I hC hRm ml_X5_24 hk0 (C5_add hk0 hw) (Nat.le_of_ble_eq_true rfl) (Nat.le_of_ble_eq_true rfl) ⟨Nat.zero_le _, Nat.zero_le _⟩ rfl (st := []) rfl (Nat.le_of_ble_eq_true rfl) dX5_write_77 (fun I6 hw => ?_)
    refine x_iinc hC 4 dX5_write_80 rfl (by decide) (L2 := [(4, vi (l4 + 1)), (0, vr l0), (1, vr l1), (2, vr l2), (3, vi l3)]) rfl hw (fun hw => ?_)
    refine wm_goto (tgt := 63) hC dX5_write_83 (by decide) ?_
    refine wm_sub [1, 2, 3, 4, 0] (L2 := [(0, vr l0), (1, vr l1), (2, vr l2), (3, vi l3), (4, vi (l4 + 1))]) rfl ?_
    exact kk63 _ _ hw
set_option maxRecDepth 20000 in
theorem W5_write_b63 {C : wX} {ad : Nat → Nat} {n : Nat} {J : mI} {R : mR} {Q : mI → Prop} (hC : wOK C cX5_write 6 RX5) (hRm : wRm C 2 33 0 0) (hE : wEnd C none ad n (fun _ I' J' R' => (J' = J ∧ R' = R) ∧ Q I')) {l0 : Nat} {l1 : Nat} {l2 : Nat} {l3 : Int}   (hk0 : kK l0 = 5) (hk1 : kK l1 = 3) (hk2 : kK l2 = 7)  : ∀ (f : Nat) (l4 : Int) (I : mI), P5_write_b63 l0 l1 l2 l3 R Q f l4 I → WM C ad n I J R 0 0 63 [(0, vr l0), (1, vr l1), (2, vr l2), (3, vi l3), (4, vi l4)] [] := by
  intro f
  induction f with
  | zero => intro l4 I hw; exact hw.elim
  | succ f ih => intro l4 I hw; exact W5_write_b63_body hC hRm hE hk0 hk1 hk2 (fun a0 a1 hw => ih a0 a1 hw) hw
def P5_write (l0 : Nat) (l1 : Nat) (l2 : Nat) (I : mI) (R : mR) (Q : mI → Prop) : Prop := (wLet (up I l0 1 0) (fun I1 => (P5_add l0 (Int.tdiv (I1 l2 0) 256) I1 R (fun I2 => (P5_add l0 (Int.tmod (I2 l2 0) 256) I2 R (fun I3 => (P5_add l0 (Int.tdiv (I3 l2 1) 256) I3 R (fun I4 => (P5_add l0 (Int.tmod (I4 l2 1) 256) I4 R (fun I5 => (kK (R l1 0) = 21 ∧ (((0 : Int) ≤ (0 : Int) ∧ (0 : Int) < (kN (R l1 0) : Int)) ∧ (wLet (I5 (R l1 0) (0 : Int)) (fun x1 => (∃ f, P5_write_b63 l0 l1 l2 x1 R Q f 0 I5)))))))))))))))
set_option maxRecDepth 20000 in
theorem C5_write {ad : Nat → Nat} {n : Nat} {I J : mI} {R : mR} {Q : mI → Prop} {l0 : Nat} {l1 : Nat} {l2 : Nat} (hk0 : kK l0 = 5) (hk1 : kK l1 = 3) (hk2 : kK l2 = 7) (hw : P5_write l0 l1 l2 I R Q) : wMet yX5_write cX5_write 6 none 2 33 ad n I J R [vr l0, vr l1, vr l2] (fun _ I' J' R' => (J' = J ∧ R' = R) ∧ Q I') := by
  refine wMet_of (by decide) (Nat.le_of_ble_eq_true rfl) (fun C hC hRm hE => ?_)
  refine (show WM C ad n I J R 0 0 0 [(0, vr l0), (1, vr l1), (2, vr l2)] [] from ?_)
  unfold P5_write at hw
  refine wm_aload_n hC 0 dX5_write_0 rfl (k_ne0 hk0 (by decide)) ?_
  refine wm_iconst hC dX5_write_1 (k := ?_)
  refine x_putI hC 1 fl_X5_15 rfl hk0 dX5_write_2 hw (fun I1 hw => ?_)
  refine wm_aload_n hC 0 dX5_write_5 rfl (k_ne0 hk0 (by decide)) ?_
  refine wm_aload_n hC 2 dX5_write_6 rfl (k_ne0 hk2 (by decide)) ?_
  refine x_getI hC 0 fl_X5_19 rfl hk2 dX5_write_7 ?_
  refine wm_sipush hC dX5_write_10 (k := ?_)
  refine x_idivP hC (by decide) dX5_write_13 ?_
  refine y_callV_v_I hC hRm ml_X5_24 hk0 (C5_add hk0 hw) (Nat.le_of_ble_eq_true rfl) (Nat.le_of_ble_eq_true rfl) ⟨Nat.zero_le _, Nat.zero_le _⟩ rfl (st := []) rfl (Nat.le_of_ble_eq_true rfl) dX5_write_14 (fun I2 hw => ?_)
  refine wm_aload_n hC 0 dX5_write_17 rfl (k_ne0 hk0 (by decide)) ?_
  refine wm_aload_n hC 2 dX5_write_18 rfl (k_ne0 hk2 (by decide)) ?_
  refine x_getI hC 0 fl_X5_19 rfl hk2 dX5_write_19 ?_
  refine wm_sipush hC dX5_write_22 (k := ?_)
  refine x_iremP hC (by decide) dX5_write_25 ?_
  refine y_callV_v_I hC hRm ml_X5_24 hk0 (C5_add hk0 hw) (Nat.le_of_ble_eq_true rfl) (Nat.le_of_ble_eq_true rfl) ⟨Nat.zero_le _, Nat.zero_le _⟩ rfl (st := []) rfl (Nat.le_of_ble_eq_true rfl) dX5_write_26 (fun I3 hw => ?_)
  refine wm_aload_n hC 0 dX5_write_29 rfl (k_ne0 hk0 (by decide)) ?_
  refine wm_aload_n hC 2 dX5_write_30 rfl (k_ne0 hk2 (by decide)) ?_
  refine x_getI hC 1 fl_X5_28 rfl hk2 dX5_write_31 ?_
  refine wm_sipush hC dX5_write_34 (k := ?_)
  refine x_idivP hC (by decide) dX5_write_37 ?_
  refine y_callV_v_I hC hRm ml_X5_24 hk0 (C5_add hk0 hw) (Nat.le_of_ble_eq_true rfl) (Nat.le_of_ble_eq_true rfl) ⟨Nat.zero_le _, Nat.zero_le _⟩ rfl (st := []) rfl (Nat.le_of_ble_eq_true rfl) dX5_write_38 (fun I4 hw => ?_)
  refine wm_aload_n hC 0 dX5_write_41 rfl (k_ne0 hk0 (by decide)) ?_
  refine wm_aload_n hC 2 dX5_write_42 rfl (k_ne0 hk2 (by decide)) ?_
  refine x_getI hC 1 fl_X5_28 rfl hk2 dX5_write_43 ?_
  refine wm_sipush hC dX5_write_46 (k := ?_)
  refine x_iremP hC (by decide) dX5_write_49 ?_
  refine y_callV_v_I hC hRm ml_X5_24 hk0 (C5_add hk0 hw) (Nat.le_of_ble_eq_true rfl) (Nat.le_of_ble_eq_true rfl) ⟨Nat.zero_le _, Nat.zero_le _⟩ rfl (st := []) rfl (Nat.le_of_ble_eq_true rfl) dX5_write_50 (fun I5 hw => ?_)
  refine wm_aload_n hC 1 dX5_write_53 rfl (k_ne0 hk1 (by decide)) ?_
  refine x_getR2 hC 0 fl_X5_31 rfl hk1 dX5_write_54 hw (fun g1 hw => ?_)
  refine wm_iconst hC dX5_write_57 (k := ?_)
  refine x_iald hC g1 dX5_write_58 hw (fun hw => ?_)
  refine x_nameI hw (fun x1 hw => ?_)
  refine wm_istore_n hC dX5_write_59 (by decide) (L2 := [(3, vi x1), (0, vr l0), (1, vr l1), (2, vr l2)]) rfl ?_
  refine wm_iconst hC dX5_write_60 (k := ?_)
  refine wm_istore hC dX5_write_61 (by decide) (L2 := [(4, vi 0), (3, vi x1), (0, vr l0), (1, vr l1), (2, vr l2)]) rfl ?_
  obtain ⟨f, hw⟩ := hw
  refine wm_sub [2, 3, 4, 1, 0] (L2 := [(0, vr l0), (1, vr l1), (2, vr l2), (3, vi x1), (4, vi 0)]) rfl ?_
  exact W5_write_b63 hC hRm hE hk0 hk1 hk2 f _ _ hw
def P5_byteAt (l0 : Nat) (l1 : Int) (I : mI) (R : mR) (Q : Int → Prop) : Prop := (if l1 < 0 then (Q (-1)) else (if (I l0 1) ≤ l1 then (Q (-1)) else (kK (R l0 0) = 21 ∧ (if (kN (R l0 0) : Int) ≤ l1 then (Q (-1)) else (kK (R l0 0) = 21 ∧ (((0 : Int) ≤ l1 ∧ l1 < (kN (R l0 0) : Int)) ∧ (Q (I (R l0 0) l1))))))))
set_option maxRecDepth 20000 in
theorem C5_byteAt {ad : Nat → Nat} {n : Nat} {I J : mI} {R : mR} {Q : Int → Prop} {l0 : Nat} {l1 : Int} (hk0 : kK l0 = 5) (hw : P5_byteAt l0 l1 I R Q) : wMet yX5_byteAt cX5_byteAt 2 (some .int) 1 12 ad n I J R [vr l0, vi l1] (fun r I' J' R' => (I' = I ∧ J' = J ∧ R' = R) ∧ Q r) := by
  refine wMet_of (by decide) (Nat.le_of_ble_eq_true rfl) (fun C hC hRm hE => ?_)
  refine (show WM C ad n I J R 0 0 0 [(0, vr l0), (1, vi l1)] [] from ?_)
  unfold P5_byteAt at hw
  refine wm_iload_n hC 1 dX5_byteAt_0 rfl ?_
  refine wm_if_lt (tgt := 30) hC dX5_byteAt_1 (by decide) hw (fun hw => ?_) (fun hw => ?_)
  · refine wm_iconst hC dX5_byteAt_30 (k := ?_)
    exact wm_ireturn hC hE dX5_byteAt_31 ⟨⟨rfl, rfl, rfl⟩, hw⟩
  · refine wm_iload_n hC 1 dX5_byteAt_4 rfl ?_
    refine wm_aload_n hC 0 dX5_byteAt_5 rfl (k_ne0 hk0 (by decide)) ?_
    refine x_getI hC 1 fl_X5_15 rfl hk0 dX5_byteAt_6 ?_
    refine wm_icmp_ge (tgt := 30) hC dX5_byteAt_9 (by decide) hw (fun hw => ?_) (fun hw => ?_)
    · refine wm_iconst hC dX5_byteAt_30 (k := ?_)
      exact wm_ireturn hC hE dX5_byteAt_31 ⟨⟨rfl, rfl, rfl⟩, hw⟩
    · refine wm_iload_n hC 1 dX5_byteAt_12 rfl ?_
      refine wm_aload_n hC 0 dX5_byteAt_13 rfl (k_ne0 hk0 (by decide)) ?_
      refine x_getR2 hC 0 fl_X5_9 rfl hk0 dX5_byteAt_14 hw (fun g1 hw => ?_)
      refine x_alen hC g1 (by decide) dX5_byteAt_17 ?_
      refine wm_icmp_ge (tgt := 30) hC dX5_byteAt_18 (by decide) hw (fun hw => ?_) (fun hw => ?_)
      · refine wm_iconst hC dX5_byteAt_30 (k := ?_)
        exact wm_ireturn hC hE dX5_byteAt_31 ⟨⟨rfl, rfl, rfl⟩, hw⟩
      · refine wm_aload_n hC 0 dX5_byteAt_21 rfl (k_ne0 hk0 (by decide)) ?_
        refine x_getR2 hC 0 fl_X5_9 rfl hk0 dX5_byteAt_22 hw (fun g2 hw => ?_)
        refine wm_iload_n hC 1 dX5_byteAt_25 rfl ?_
        refine x_iald hC g2 dX5_byteAt_26 hw (fun hw => ?_)
        refine wm_goto (tgt := 31) hC dX5_byteAt_27 (by decide) ?_
        exact wm_ireturn hC hE dX5_byteAt_31 ⟨⟨rfl, rfl, rfl⟩, hw⟩
def P5_isChecked_b6_body (l0 : Nat) (I : mI) (R : mR) (Q : Int → Prop) (k6 : Int → Int → Prop) (l1 : Int) (l2 : Int) : Prop := (rg ((I l0 1) - 1) ∧ (if ((I l0 1) - 1) ≤ l2 then (rg ((I l0 1) - 1) ∧ (P9_byteAt l0 ((I l0 1) - 1) I R (fun r1 => (if l1 = r1 then (Q 1) else (Q 0))))) else (rg (5 * l1) ∧ (P9_byteAt l0 l2 I R (fun r2 => (rg ((5 * l1) + r2) ∧ (wLet (Int.tmod ((5 * l1) + r2) 251) (fun x1 => (rg (l2 + 1) ∧ (k6 x1 (l2 + 1)))))))))))
def P5_isChecked_b6 (l0 : Nat) (I : mI) (R : mR) (Q : Int → Prop) : Nat → Int → Int → Prop
  | 0 => fun _ _ => False
  | f + 1 => fun l1 l2 => P5_isChecked_b6_body l0 I R Q (P5_isChecked_b6 l0 I R Q f) l1 l2
set_option maxRecDepth 20000 in
theorem W5_isChecked_b6_body {C : wX} {ad : Nat → Nat} {n : Nat} {I J : mI} {R : mR} {Q : Int → Prop} (hC : wOK C cX5_isChecked 3 RX5) (hRm : wRm C 2 33 0 0) (hE : wEnd C (some .boolean) ad n (fun r I' J' R' => (I' = I ∧ J' = J ∧ R' = R) ∧ Q r)) {l0 : Nat} {l1 : Int} {l2 : Int}   (hk0 : kK l0 = 9)  {k6 : Int → Int → Prop} (kk6 : ∀ (y1 : Int) (y2 : Int), k6 y1 y2 → WM C ad n I J R 0 0 6 [(0, vr l0), (1, vi y1), (2, vi y2)] []) (hw : P5_isChecked_b6_body l0 I R Q k6 l1 l2) : WM C ad n I J R 0 0 6 [(0, vr l0), (1, vi l1), (2, vi l2)] [] := by
  unfold P5_isChecked_b6_body at hw
  refine wm_iload_n hC 2 dX5_isChecked_6 rfl ?_
  refine wm_aload_n hC 0 dX5_isChecked_7 rfl (k_ne0 hk0 (by decide)) ?_
  refine x_getI hC 1 fl_X5_45 rfl hk0 dX5_isChecked_8 ?_
  refine wm_iconst hC dX5_isChecked_11 (k := ?_)
  refine x_isub hC dX5_isChecked_12 hw (fun hw => ?_)
  refine wm_icmp_ge (tgt := 36) hC dX5_isChecked_13 (by decide) hw (fun hw => ?_) (fun hw => ?_)
  · refine wm_iload_n hC 1 dX5_isChecked_36 rfl ?_
    refine wm_aload_n hC 0 dX5_isChecked_37 rfl (k_ne0 hk0 (by decide)) ?_
    refine wm_aload_n hC 0 dX5_isChecked_38 rfl (k_ne0 hk0 (by decide)) ?_
    refine x_getI hC 1 fl_X5_45 rfl hk0 dX5_isChecked_39 ?_
    refine wm_iconst hC dX5_isChecked_42 (k := ?_)
    refine x_isub hC dX5_isChecked_43 hw (fun hw => ?_)
    refine y_callV_i_n hC hRm ml_X5_56 hk0 (C9_byteAt hk0 hw) (Nat.le_of_ble_eq_true rfl) (Nat.le_of_ble_eq_true rfl) ⟨Nat.zero_le _, Nat.zero_le _⟩ rfl (st := [vi l1]) rfl (Nat.le_of_ble_eq_true rfl) dX5_isChecked_44 (fun r1 hw => ?_)
    refine wm_icmp_ne (tgt := 54) hC dX5_isChecked_47 (by decide) hw (fun hw => ?_) (fun hw => ?_)
    · refine wm_iconst hC dX5_isChecked_50 (k := ?_)
      refine wm_goto (tgt := 55) hC dX5_isChecked_51 (by decide) ?_
      exact wm_zreturn hC hE (Or.inr rfl) dX5_isChecked_55 ⟨⟨rfl, rfl, rfl⟩, hw⟩
    · refine wm_iconst hC dX5_isChecked_54 (k := ?_)
      exact wm_zreturn hC hE (Or.inl rfl) dX5_isChecked_55 ⟨⟨rfl, rfl, rfl⟩, hw⟩
  · refine wm_iconst hC dX5_isChecked_16 (k := ?_)
    refine wm_iload_n hC 1 dX5_isChecked_17 rfl ?_
    refine x_imul hC dX5_isChecked_18 hw (fun hw => ?_)
    refine wm_aload_n hC 0 dX5_isChecked_19 rfl (k_ne0 hk0 (by decide)) ?_
    refine wm_iload_n hC 2 dX5_isChecked_20 rfl ?_
    refine y_callV_i_n hC hRm ml_X5_56 hk0 (C9_byteAt hk0 hw) (Nat.le_of_ble_eq_true rfl) (Nat.le_of_ble_eq_true rfl) ⟨Nat.zero_le _, Nat.zero_le _⟩ rfl (st := [vi (5 * l1)]) rfl (Nat.le_of_ble_eq_true rfl) dX5_isChecked_21 (fun r2 hw => ?_)
    refine x_iadd hC dX5_isChecked_24 hw (fun hw => ?_)
    refine wm_sipush hC dX5_isChecked_25 (k := ?_)
    refine x_iremP hC (by decide) dX5_isChecked_28 ?_
    refine x_nameI hw (fun x1 hw => ?_)
    refine wm_istore_n hC dX5_isChecked_29 (by decide) (L2 := [(1, vi x1), (0, vr l0), (2, vi l2)]) rfl ?_
    refine x_iinc hC 2 dX5_isChecked_30 rfl (by decide) (L2 := [(2, vi (l2 + 1)), (1, vi x1), (0, vr l0)]) rfl hw (fun hw => ?_)
    refine wm_goto (tgt := 6) hC dX5_isChecked_33 (by decide) ?_
    refine wm_sub [2, 1, 0] (L2 := [(0, vr l0), (1, vi x1), (2, vi (l2 + 1))]) rfl ?_
    exact kk6 _ _ hw
set_option maxRecDepth 20000 in
theorem W5_isChecked_b6 {C : wX} {ad : Nat → Nat} {n : Nat} {I J : mI} {R : mR} {Q : Int → Prop} (hC : wOK C cX5_isChecked 3 RX5) (hRm : wRm C 2 33 0 0) (hE : wEnd C (some .boolean) ad n (fun r I' J' R' => (I' = I ∧ J' = J ∧ R' = R) ∧ Q r)) {l0 : Nat}   (hk0 : kK l0 = 9)  : ∀ (f : Nat) (l1 : Int) (l2 : Int), P5_isChecked_b6 l0 I R Q f l1 l2 → WM C ad n I J R 0 0 6 [(0, vr l0), (1, vi l1), (2, vi l2)] [] := by
  intro f
  induction f with
  | zero => intro l1 l2 hw; exact hw.elim
  | succ f ih => intro l1 l2 hw; exact W5_isChecked_b6_body hC hRm hE hk0 (fun a0 a1 hw => ih a0 a1 hw) hw
def P5_isChecked (l0 : Nat) (I : mI) (R : mR) (Q : Int → Prop) : Prop := (∃ f, P5_isChecked_b6 l0 I R Q f 229 0)
set_option maxRecDepth 20000 in
theorem C5_isChecked {ad : Nat → Nat} {n : Nat} {I J : mI} {R : mR} {Q : Int → Prop} {l0 : Nat} (hk0 : kK l0 = 9) (hw : P5_isChecked l0 I R Q) : wMet yX5_isChecked cX5_isChecked 3 (some .boolean) 2 33 ad n I J R [vr l0] (fun r I' J' R' => (I' = I ∧ J' = J ∧ R' = R) ∧ Q r) := by
  refine wMet_of (by decide) (Nat.le_of_ble_eq_true rfl) (fun C hC hRm hE => ?_)
  refine (show WM C ad n I J R 0 0 0 [(0, vr l0)] [] from ?_)
  unfold P5_isChecked at hw
  refine wm_sipush hC dX5_isChecked_0 (k := ?_)
  refine wm_istore_n hC dX5_isChecked_3 (by decide) (L2 := [(1, vi 229), (0, vr l0)]) rfl ?_
  refine wm_iconst hC dX5_isChecked_4 (k := ?_)
  refine wm_istore_n hC dX5_isChecked_5 (by decide) (L2 := [(2, vi 0), (1, vi 229), (0, vr l0)]) rfl ?_
  obtain ⟨f, hw⟩ := hw
  refine wm_sub [2, 1, 0] (L2 := [(0, vr l0), (1, vi 229), (2, vi 0)]) rfl ?_
  exact W5_isChecked_b6 hC hRm hE hk0 f _ _ hw
def P5_pairAt (l0 : Nat) (l1 : Int) (I : mI) (R : mR) (Q : Int → Prop) : Prop := (P9_byteAt l0 l1 I R (fun r1 => (rg (r1 * 256) ∧ (rg (l1 + 1) ∧ (P9_byteAt l0 (l1 + 1) I R (fun r2 => (rg ((r1 * 256) + r2) ∧ (Q ((r1 * 256) + r2)))))))))
set_option maxRecDepth 20000 in
theorem C5_pairAt {ad : Nat → Nat} {n : Nat} {I J : mI} {R : mR} {Q : Int → Prop} {l0 : Nat} {l1 : Int} (hk0 : kK l0 = 9) (hw : P5_pairAt l0 l1 I R Q) : wMet yX5_pairAt cX5_pairAt 2 (some .int) 2 33 ad n I J R [vr l0, vi l1] (fun r I' J' R' => (I' = I ∧ J' = J ∧ R' = R) ∧ Q r) := by
  refine wMet_of (by decide) (Nat.le_of_ble_eq_true rfl) (fun C hC hRm hE => ?_)
  refine (show WM C ad n I J R 0 0 0 [(0, vr l0), (1, vi l1)] [] from ?_)
  unfold P5_pairAt at hw
  refine wm_aload_n hC 0 dX5_pairAt_0 rfl (k_ne0 hk0 (by decide)) ?_
  refine wm_iload_n hC 1 dX5_pairAt_1 rfl ?_
  refine y_callV_i_n hC hRm ml_X5_56 hk0 (C9_byteAt hk0 hw) (Nat.le_of_ble_eq_true rfl) (Nat.le_of_ble_eq_true rfl) ⟨Nat.zero_le _, Nat.zero_le _⟩ rfl (st := []) rfl (Nat.le_of_ble_eq_true rfl) dX5_pairAt_2 (fun r1 hw => ?_)
  refine wm_sipush hC dX5_pairAt_5 (k := ?_)
  refine x_imul hC dX5_pairAt_8 hw (fun hw => ?_)
  refine wm_aload_n hC 0 dX5_pairAt_9 rfl (k_ne0 hk0 (by decide)) ?_
  refine wm_iload_n hC 1 dX5_pairAt_10 rfl ?_
  refine wm_iconst hC dX5_pairAt_11 (k := ?_)
  refine x_iadd hC dX5_pairAt_12 hw (fun hw => ?_)
  refine y_callV_i_n hC hRm ml_X5_56 hk0 (C9_byteAt hk0 hw) (Nat.le_of_ble_eq_true rfl) (Nat.le_of_ble_eq_true rfl) ⟨Nat.zero_le _, Nat.zero_le _⟩ rfl (st := [vi (r1 * 256)]) rfl (Nat.le_of_ble_eq_true rfl) dX5_pairAt_13 (fun r2 hw => ?_)
  refine x_iadd hC dX5_pairAt_16 hw (fun hw => ?_)
  exact wm_ireturn hC hE dX5_pairAt_17 ⟨⟨rfl, rfl, rfl⟩, hw⟩
def P5_fits_b126_body (l0 : Nat) (l1 : Nat) (l2 : Int) (l3 : Int) (l4 : Int) (I : mI) (R : mR) (Q : Int → Prop) (k126 : Int → Prop) (l5 : Int) : Prop := (if l3 ≤ l5 then (P3_everybody l1 I R (fun r7 => (if l4 = r7 then (Q 1) else (Q 0)))) else (rg (2 * l2) ∧ (rg (4 + (2 * l2)) ∧ (rg ((4 + (2 * l2)) + l5) ∧ (P9_byteAt l0 ((4 + (2 * l2)) + l5) I R (fun r8 => (if r8 = 255 then (rg (l5 + 1) ∧ (k126 (l5 + 1))) else (P3_isThere l1 1 r8 I R (fun r9 => (if r9 = 0 then (Q 0) else (rg (l5 + 1) ∧ (k126 (l5 + 1)))))))))))))
def P5_fits_b126 (l0 : Nat) (l1 : Nat) (l2 : Int) (l3 : Int) (l4 : Int) (I : mI) (R : mR) (Q : Int → Prop) : Nat → Int → Prop
  | 0 => fun _ => False
  | f + 1 => fun l5 => P5_fits_b126_body l0 l1 l2 l3 l4 I R Q (P5_fits_b126 l0 l1 l2 l3 l4 I R Q f) l5
set_option maxRecDepth 20000 in
theorem W5_fits_b126_body {C : wX} {ad : Nat → Nat} {n : Nat} {I J : mI} {R : mR} {Q : Int → Prop} (hC : wOK C cX5_fits 7 RX5) (hRm : wRm C 3 55 0 0) (hE : wEnd C (some .boolean) ad n (fun r I' J' R' => (I' = I ∧ J' = J ∧ R' = R) ∧ Q r)) {l0 : Nat} {l1 : Nat} {l2 : Int} {l3 : Int} {l4 : Int} {l5 : Int}   (hk0 : kK l0 = 9) (hk1 : kK l1 = 3)  {k126 : Int → Prop} (kk126 : ∀ (y5 : Int), k126 y5 → WM C ad n I J R 0 0 126 [(0, vr l0), (1, vr l1), (2, vi l2), (3, vi l3), (4, vi l4), (5, vi y5)] []) (hw : P5_fits_b126_body l0 l1 l2 l3 l4 I R Q k126 l5) : WM C ad n I J R 0 0 126 [(0, vr l0), (1, vr l1), (2, vi l2), (3, vi l3), (4, vi l4), (5, vi l5)] [] := by
  unfold P5_fits_b126_body at hw
  refine wm_iload hC 5 dX5_fits_126 rfl ?_
  refine wm_iload_n hC 3 dX5_fits_128 rfl ?_
  refine wm_icmp_ge (tgt := 172) hC dX5_fits_129 (by decide) hw (fun hw => ?_) (fun hw => ?_)
  · refine wm_iload hC 4 dX5_fits_172 rfl ?_
    refine wm_aload_n hC 1 dX5_fits_174 rfl (k_ne0 hk1 (by decide)) ?_
    refine y_callV_i_n hC hRm ml_X5_64 hk1 (C3_everybody hk1 hw) (Nat.le_of_ble_eq_true rfl) (Nat.le_of_ble_eq_true rfl) ⟨Nat.zero_le _, Nat.zero_le _⟩ rfl (st := [vi l4]) rfl (Nat.le_of_ble_eq_true rfl) dX5_fits_175 (fun r7 hw => ?_)
    refine wm_icmp_ne (tgt := 185) hC dX5_fits_178 (by decide) hw (fun hw => ?_) (fun hw => ?_)
    · refine wm_iconst hC dX5_fits_181 (k := ?_)
      refine wm_goto (tgt := 186) hC dX5_fits_182 (by decide) ?_
      exact wm_zreturn hC hE (Or.inr rfl) dX5_fits_186 ⟨⟨rfl, rfl, rfl⟩, hw⟩
    · refine wm_iconst hC dX5_fits_185 (k := ?_)
      exact wm_zreturn hC hE (Or.inl rfl) dX5_fits_186 ⟨⟨rfl, rfl, rfl⟩, hw⟩
  · refine wm_aload_n hC 0 dX5_fits_132 rfl (k_ne0 hk0 (by decide)) ?_
    refine wm_iconst hC dX5_fits_133 (k := ?_)
    refine wm_iconst hC dX5_fits_134 (k := ?_)
    refine wm_iload_n hC 2 dX5_fits_135 rfl ?_
    refine x_imul hC dX5_fits_136 hw (fun hw => ?_)
    refine x_iadd hC dX5_fits_137 hw (fun hw => ?_)
    refine wm_iload hC 5 dX5_fits_138 rfl ?_
    refine x_iadd hC dX5_fits_140 hw (fun hw => ?_)
    refine y_callV_i_n hC hRm ml_X5_56 hk0 (C9_byteAt hk0 hw) (Nat.le_of_ble_eq_true rfl) (Nat.le_of_ble_eq_true rfl) ⟨Nat.zero_le _, Nat.zero_le _⟩ rfl (st := []) rfl (Nat.le_of_ble_eq_true rfl) dX5_fits_141 (fun r8 hw => ?_)
    refine wm_istore hC dX5_fits_144 (by decide) (L2 := [(6, vi r8), (0, vr l0), (1, vr l1), (2, vi l2), (3, vi l3), (4, vi l4), (5, vi l5)]) rfl ?_
    refine wm_iload hC 0 dX5_fits_146 rfl ?_
    refine wm_sipush hC dX5_fits_148 (k := ?_)
    refine wm_icmp_eq (tgt := 166) hC dX5_fits_151 (by decide) hw (fun hw => ?_) (fun hw => ?_)
    · refine x_iinc hC 6 dX5_fits_166 rfl (by decide) (L2 := [(5, vi (l5 + 1)), (6, vi r8), (0, vr l0), (1, vr l1), (2, vi l2), (3, vi l3), (4, vi l4)]) rfl hw (fun hw => ?_)
      refine wm_goto (tgt := 126) hC dX5_fits_169 (by decide) ?_
      refine wm_sub [2, 3, 4, 5, 6, 0] (L2 := [(0, vr l0), (1, vr l1), (2, vi l2), (3, vi l3), (4, vi l4), (5, vi (l5 + 1))]) rfl ?_
      exact kk126 _ hw
    · refine wm_aload_n hC 2 dX5_fits_154 rfl (k_ne0 hk1 (by decide)) ?_
      refine wm_iconst hC dX5_fits_155 (k := ?_)
      refine wm_iload hC 0 dX5_fits_156 rfl ?_
      refine y_callV_z_n hC hRm ml_X5_60 hk1 (C3_isThere hk1 hw) (Nat.le_of_ble_eq_true rfl) (Nat.le_of_ble_eq_true rfl) ⟨Nat.zero_le _, Nat.zero_le _⟩ rfl (st := []) rfl (Nat.le_of_ble_eq_true rfl) dX5_fits_158 (fun r9 hw => ?_)
      refine wm_if_ne (tgt := 166) hC dX5_fits_161 (by decide) hw (fun hw => ?_) (fun hw => ?_)
      · refine wm_iconst hC dX5_fits_164 (k := ?_)
        exact wm_zreturn hC hE (Or.inl rfl) dX5_fits_165 ⟨⟨rfl, rfl, rfl⟩, hw⟩
      · refine x_iinc hC 6 dX5_fits_166 rfl (by decide) (L2 := [(5, vi (l5 + 1)), (6, vi r8), (0, vr l0), (1, vr l1), (2, vi l2), (3, vi l3), (4, vi l4)]) rfl hw (fun hw => ?_)
        refine wm_goto (tgt := 126) hC dX5_fits_169 (by decide) ?_
        refine wm_sub [2, 3, 4, 5, 6, 0] (L2 := [(0, vr l0), (1, vr l1), (2, vi l2), (3, vi l3), (4, vi l4), (5, vi (l5 + 1))]) rfl ?_
        exact kk126 _ hw
set_option maxRecDepth 20000 in
theorem W5_fits_b126 {C : wX} {ad : Nat → Nat} {n : Nat} {I J : mI} {R : mR} {Q : Int → Prop} (hC : wOK C cX5_fits 7 RX5) (hRm : wRm C 3 55 0 0) (hE : wEnd C (some .boolean) ad n (fun r I' J' R' => (I' = I ∧ J' = J ∧ R' = R) ∧ Q r)) {l0 : Nat} {l1 : Nat} {l2 : Int} {l3 : Int} {l4 : Int}   (hk0 : kK l0 = 9) (hk1 : kK l1 = 3)  : ∀ (f : Nat) (l5 : Int), P5_fits_b126 l0 l1 l2 l3 l4 I R Q f l5 → WM C ad n I J R 0 0 126 [(0, vr l0), (1, vr l1), (2, vi l2), (3, vi l3), (4, vi l4), (5, vi l5)] [] := by
  intro f
  induction f with
  | zero => intro l5 hw; exact hw.elim
  | succ f ih => intro l5 hw; exact W5_fits_b126_body hC hRm hE hk0 hk1 (fun a0 hw => ih a0 hw) hw
def P5_fits_b65_body (l0 : Nat) (l1 : Nat) (l2 : Int) (l3 : Int) (I : mI) (R : mR) (Q : Int → Prop) (k65 : Int → Int → Prop) (l4 : Int) (l5 : Int) : Prop := (if l2 ≤ l5 then (∃ f, P5_fits_b126 l0 l1 l2 l3 l4 I R Q f 0) else (rg (4 + l5) ∧ (P9_byteAt l0 (4 + l5) I R (fun r4 => (P3_isThere l1 0 r4 I R (fun r5 => (if r5 = 0 then (Q 0) else (rg (4 + l2) ∧ (rg ((4 + l2) + l5) ∧ (P9_byteAt l0 ((4 + l2) + l5) I R (fun r6 => (if r6 ≤ 9 then (rg (l5 + 1) ∧ (k65 (bOr l4 (bShl 1 r4)) (l5 + 1))) else (Q 0)))))))))))))
def P5_fits_b65 (l0 : Nat) (l1 : Nat) (l2 : Int) (l3 : Int) (I : mI) (R : mR) (Q : Int → Prop) : Nat → Int → Int → Prop
  | 0 => fun _ _ => False
  | f + 1 => fun l4 l5 => P5_fits_b65_body l0 l1 l2 l3 I R Q (P5_fits_b65 l0 l1 l2 l3 I R Q f) l4 l5
set_option maxRecDepth 20000 in
theorem W5_fits_b65_body {C : wX} {ad : Nat → Nat} {n : Nat} {I J : mI} {R : mR} {Q : Int → Prop} (hC : wOK C cX5_fits 7 RX5) (hRm : wRm C 3 55 0 0) (hE : wEnd C (some .boolean) ad n (fun r I' J' R' => (I' = I ∧ J' = J ∧ R' = R) ∧ Q r)) {l0 : Nat} {l1 : Nat} {l2 : Int} {l3 : Int} {l4 : Int} {l5 : Int}   (hk0 : kK l0 = 9) (hk1 : kK l1 = 3)  {k65 : Int → Int → Prop} (kk65 : ∀ (y4 : Int) (y5 : Int), k65 y4 y5 → WM C ad n I J R 0 0 65 [(0, vr l0), (1, vr l1), (2, vi l2), (3, vi l3), (4, vi y4), (5, vi y5)] []) (hw : P5_fits_b65_body l0 l1 l2 l3 I R Q k65 l4 l5) : WM C ad n I J R 0 0 65 [(0, vr l0), (1, vr l1), (2, vi l2), (3, vi l3), (4, vi l4), (5, vi l5)] [] := by
  unfold P5_fits_b65_body at hw
  refine wm_iload hC 5 dX5_fits_65 rfl ?_
  refine wm_iload_n hC 2 dX5_fits_67 rfl ?_
  refine wm_icmp_ge (tgt := 123) hC dX5_fits_68 (by decide) hw (fun hw => ?_) (fun hw => ?_)
  · refine wm_iconst hC dX5_fits_123 (k := ?_)
    refine wm_istore hC dX5_fits_124 (by decide) (L2 := [(5, vi 0), (0, vr l0), (1, vr l1), (2, vi l2), (3, vi l3), (4, vi l4)]) rfl ?_
    obtain ⟨f, hw⟩ := hw
    refine wm_sub [1, 2, 3, 4, 5, 0] (L2 := [(0, vr l0), (1, vr l1), (2, vi l2), (3, vi l3), (4, vi l4), (5, vi 0)]) rfl ?_
    exact W5_fits_b126 hC hRm hE hk0 hk1 f _ hw
  · refine wm_aload_n hC 0 dX5_fits_71 rfl (k_ne0 hk0 (by decide)) ?_
    refine wm_iconst hC dX5_fits_72 (k := ?_)
    refine wm_iload hC 5 dX5_fits_73 rfl ?_
    refine x_iadd hC dX5_fits_75 hw (fun hw => ?_)
    refine y_callV_i_n hC hRm ml_X5_56 hk0 (C9_byteAt hk0 hw) (Nat.le_of_ble_eq_true rfl) (Nat.le_of_ble_eq_true rfl) ⟨Nat.zero_le _, Nat.zero_le _⟩ rfl (st := []) rfl (Nat.le_of_ble_eq_true rfl) dX5_fits_76 (fun r4 hw => ?_)
    refine wm_istore hC dX5_fits_79 (by decide) (L2 := [(6, vi r4), (0, vr l0), (1, vr l1), (2, vi l2), (3, vi l3), (4, vi l4), (5, vi l5)]) rfl ?_
    refine wm_aload_n hC 2 dX5_fits_81 rfl (k_ne0 hk1 (by decide)) ?_
    refine wm_iconst hC dX5_fits_82 (k := ?_)
    refine wm_iload hC 0 dX5_fits_83 rfl ?_
    refine y_callV_z_n hC hRm ml_X5_60 hk1 (C3_isThere hk1 hw) (Nat.le_of_ble_eq_true rfl) (Nat.le_of_ble_eq_true rfl) ⟨Nat.zero_le _, Nat.zero_le _⟩ rfl (st := []) rfl (Nat.le_of_ble_eq_true rfl) dX5_fits_85 (fun r5 hw => ?_)
    refine wm_if_eq (tgt := 106) hC dX5_fits_88 (by decide) hw (fun hw => ?_) (fun hw => ?_)
    · refine wm_iconst hC dX5_fits_106 (k := ?_)
      exact wm_zreturn hC hE (Or.inl rfl) dX5_fits_107 ⟨⟨rfl, rfl, rfl⟩, hw⟩
    · refine wm_aload_n hC 1 dX5_fits_91 rfl (k_ne0 hk0 (by decide)) ?_
      refine wm_iconst hC dX5_fits_92 (k := ?_)
      refine wm_iload_n hC 3 dX5_fits_93 rfl ?_
      refine x_iadd hC dX5_fits_94 hw (fun hw => ?_)
      refine wm_iload hC 6 dX5_fits_95 rfl ?_
      refine x_iadd hC dX5_fits_97 hw (fun hw => ?_)
      refine y_callV_i_n hC hRm ml_X5_56 hk0 (C9_byteAt hk0 hw) (Nat.le_of_ble_eq_true rfl) (Nat.le_of_ble_eq_true rfl) ⟨Nat.zero_le _, Nat.zero_le _⟩ rfl (st := []) rfl (Nat.le_of_ble_eq_true rfl) dX5_fits_98 (fun r6 hw => ?_)
      refine wm_bipush hC dX5_fits_101 (k := ?_)
      refine wm_icmp_le (tgt := 108) hC dX5_fits_103 (by decide) hw (fun hw => ?_) (fun hw => ?_)
      · refine wm_iload hC 5 dX5_fits_108 rfl ?_
        refine wm_iconst hC dX5_fits_110 (k := ?_)
        refine wm_iload hC 0 dX5_fits_111 rfl ?_
        refine wm_ishl hC dX5_fits_113 ?_
        refine wm_ior hC dX5_fits_114 ?_
        refine wm_istore hC dX5_fits_115 (by decide) (L2 := [(4, vi (bOr l4 (bShl 1 r4))), (6, vi r4), (0, vr l0), (1, vr l1), (2, vi l2), (3, vi l3), (5, vi l5)]) rfl ?_
        refine x_iinc hC 6 dX5_fits_117 rfl (by decide) (L2 := [(5, vi (l5 + 1)), (4, vi (bOr l4 (bShl 1 r4))), (6, vi r4), (0, vr l0), (1, vr l1), (2, vi l2), (3, vi l3)]) rfl hw (fun hw => ?_)
        refine wm_goto (tgt := 65) hC dX5_fits_120 (by decide) ?_
        refine wm_sub [3, 4, 5, 6, 1, 0] (L2 := [(0, vr l0), (1, vr l1), (2, vi l2), (3, vi l3), (4, vi (bOr l4 (bShl 1 r4))), (5, vi (l5 + 1))]) rfl ?_
        exact kk65 _ _ hw
      · refine wm_iconst hC dX5_fits_106 (k := ?_)
        exact wm_zreturn hC hE (Or.inl rfl) dX5_fits_107 ⟨⟨rfl, rfl, rfl⟩, hw⟩
set_option maxRecDepth 20000 in
theorem W5_fits_b65 {C : wX} {ad : Nat → Nat} {n : Nat} {I J : mI} {R : mR} {Q : Int → Prop} (hC : wOK C cX5_fits 7 RX5) (hRm : wRm C 3 55 0 0) (hE : wEnd C (some .boolean) ad n (fun r I' J' R' => (I' = I ∧ J' = J ∧ R' = R) ∧ Q r)) {l0 : Nat} {l1 : Nat} {l2 : Int} {l3 : Int}   (hk0 : kK l0 = 9) (hk1 : kK l1 = 3)  : ∀ (f : Nat) (l4 : Int) (l5 : Int), P5_fits_b65 l0 l1 l2 l3 I R Q f l4 l5 → WM C ad n I J R 0 0 65 [(0, vr l0), (1, vr l1), (2, vi l2), (3, vi l3), (4, vi l4), (5, vi l5)] [] := by
  intro f
  induction f with
  | zero => intro l4 l5 hw; exact hw.elim
  | succ f ih => intro l4 l5 hw; exact W5_fits_b65_body hC hRm hE hk0 hk1 (fun a0 a1 hw => ih a0 a1 hw) hw
def P5_fits (l0 : Nat) (l1 : Nat) (I : mI) (R : mR) (Q : Int → Prop) : Prop := (kK (R l1 0) = 21 ∧ (((0 : Int) ≤ (0 : Int) ∧ (0 : Int) < (kN (R l1 0) : Int)) ∧ (wLet (I (R l1 0) (0 : Int)) (fun x1 => (kK (R l1 0) = 21 ∧ (((0 : Int) ≤ (2 : Int) ∧ (2 : Int) < (kN (R l1 0) : Int)) ∧ (wLet (I (R l1 0) (2 : Int)) (fun x2 => (rg (2 * x1) ∧ (rg (5 + (2 * x1)) ∧ (rg ((5 + (2 * x1)) + x2) ∧ (if (I l0 1) = ((5 + (2 * x1)) + x2) then (P5_isChecked l0 I R (fun r1 => (if r1 = 0 then (Q 0) else (P5_pairAt l0 0 I R (fun r2 => (if (999 : Int) < r2 then (Q 0) else (P5_pairAt l0 2 I R (fun r3 => (if r3 ≤ 9999 then (∃ f, P5_fits_b65 l0 l1 x1 x2 I R Q f 0 0) else (Q 0)))))))))) else (Q 0)))))))))))))
set_option maxRecDepth 20000 in
theorem C5_fits {ad : Nat → Nat} {n : Nat} {I J : mI} {R : mR} {Q : Int → Prop} {l0 : Nat} {l1 : Nat} (hk0 : kK l0 = 9) (hk1 : kK l1 = 3) (hw : P5_fits l0 l1 I R Q) : wMet yX5_fits cX5_fits 7 (some .boolean) 3 55 ad n I J R [vr l0, vr l1] (fun r I' J' R' => (I' = I ∧ J' = J ∧ R' = R) ∧ Q r) := by
  refine wMet_of (by decide) (Nat.le_of_ble_eq_true rfl) (fun C hC hRm hE => ?_)
  refine (show WM C ad n I J R 0 0 0 [(0, vr l0), (1, vr l1)] [] from ?_)
  unfold P5_fits at hw
  refine wm_aload_n hC 1 dX5_fits_0 rfl (k_ne0 hk1 (by decide)) ?_
  refine x_getR2 hC 0 fl_X5_31 rfl hk1 dX5_fits_1 hw (fun g1 hw => ?_)
  refine wm_iconst hC dX5_fits_4 (k := ?_)
  refine x_iald hC g1 dX5_fits_5 hw (fun hw => ?_)
  refine x_nameI hw (fun x1 hw => ?_)
  refine wm_istore_n hC dX5_fits_6 (by decide) (L2 := [(2, vi x1), (0, vr l0), (1, vr l1)]) rfl ?_
  refine wm_aload_n hC 2 dX5_fits_7 rfl (k_ne0 hk1 (by decide)) ?_
  refine x_getR2 hC 0 fl_X5_31 rfl hk1 dX5_fits_8 hw (fun g2 hw => ?_)
  refine wm_iconst hC dX5_fits_11 (k := ?_)
  refine x_iald hC g2 dX5_fits_12 hw (fun hw => ?_)
  refine x_nameI hw (fun x2 hw => ?_)
  refine wm_istore_n hC dX5_fits_13 (by decide) (L2 := [(3, vi x2), (2, vi x1), (0, vr l0), (1, vr l1)]) rfl ?_
  refine wm_aload_n hC 2 dX5_fits_14 rfl (k_ne0 hk0 (by decide)) ?_
  refine x_getI hC 1 fl_X5_45 rfl hk0 dX5_fits_15 ?_
  refine wm_iconst hC dX5_fits_18 (k := ?_)
  refine wm_iconst hC dX5_fits_19 (k := ?_)
  refine wm_iload_n hC 1 dX5_fits_20 rfl ?_
  refine x_imul hC dX5_fits_21 hw (fun hw => ?_)
  refine x_iadd hC dX5_fits_22 hw (fun hw => ?_)
  refine wm_iload_n hC 0 dX5_fits_23 rfl ?_
  refine x_iadd hC dX5_fits_24 hw (fun hw => ?_)
  refine wm_icmp_ne (tgt := 57) hC dX5_fits_25 (by decide) hw (fun hw => ?_) (fun hw => ?_)
  · refine wm_aload_n hC 2 dX5_fits_28 rfl (k_ne0 hk0 (by decide)) ?_
    refine y_callS_z_n hC hRm ml_X5_48 (C5_isChecked hk0 hw) (Nat.le_of_ble_eq_true rfl) (Nat.le_of_ble_eq_true rfl) ⟨Nat.zero_le _, Nat.zero_le _⟩ rfl (st := []) rfl (Nat.le_of_ble_eq_true rfl) dX5_fits_29 (fun r1 hw => ?_)
    refine wm_if_eq (tgt := 57) hC dX5_fits_32 (by decide) hw (fun hw => ?_) (fun hw => ?_)
    · refine wm_iconst hC dX5_fits_57 (k := ?_)
      exact wm_zreturn hC hE (Or.inl rfl) dX5_fits_58 ⟨⟨rfl, rfl, rfl⟩, hw⟩
    · refine wm_aload_n hC 2 dX5_fits_35 rfl (k_ne0 hk0 (by decide)) ?_
      refine wm_iconst hC dX5_fits_36 (k := ?_)
      refine y_callS_i_n hC hRm ml_X5_52 (C5_pairAt hk0 hw) (Nat.le_of_ble_eq_true rfl) (Nat.le_of_ble_eq_true rfl) ⟨Nat.zero_le _, Nat.zero_le _⟩ rfl (st := []) rfl (Nat.le_of_ble_eq_true rfl) dX5_fits_37 (fun r2 hw => ?_)
      refine wm_sipush hC dX5_fits_40 (k := ?_)
      refine wm_icmp_gt (tgt := 57) hC dX5_fits_43 (by decide) hw (fun hw => ?_) (fun hw => ?_)
      · refine wm_iconst hC dX5_fits_57 (k := ?_)
        exact wm_zreturn hC hE (Or.inl rfl) dX5_fits_58 ⟨⟨rfl, rfl, rfl⟩, hw⟩
      · refine wm_aload_n hC 2 dX5_fits_46 rfl (k_ne0 hk0 (by decide)) ?_
        refine wm_iconst hC dX5_fits_47 (k := ?_)
        refine y_callS_i_n hC hRm ml_X5_52 (C5_pairAt hk0 hw) (Nat.le_of_ble_eq_true rfl) (Nat.le_of_ble_eq_true rfl) ⟨Nat.zero_le _, Nat.zero_le _⟩ rfl (st := []) rfl (Nat.le_of_ble_eq_true rfl) dX5_fits_48 (fun r3 hw => ?_)
        refine wm_sipush hC dX5_fits_51 (k := ?_)
        refine wm_icmp_le (tgt := 59) hC dX5_fits_54 (by decide) hw (fun hw => ?_) (fun hw => ?_)
        · refine wm_iconst hC dX5_fits_59 (k := ?_)
          refine wm_istore hC dX5_fits_60 (by decide) (L2 := [(4, vi 0), (3, vi x2), (2, vi x1), (0, vr l0), (1, vr l1)]) rfl ?_
          refine wm_iconst hC dX5_fits_62 (k := ?_)
          refine wm_istore hC dX5_fits_63 (by decide) (L2 := [(5, vi 0), (4, vi 0), (3, vi x2), (2, vi x1), (0, vr l0), (1, vr l1)]) rfl ?_
          obtain ⟨f, hw⟩ := hw
          refine wm_sub [4, 5, 3, 2, 1, 0] (L2 := [(0, vr l0), (1, vr l1), (2, vi x1), (3, vi x2), (4, vi 0), (5, vi 0)]) rfl ?_
          exact W5_fits_b65 hC hRm hE hk0 hk1 f _ _ hw
        · refine wm_iconst hC dX5_fits_57 (k := ?_)
          exact wm_zreturn hC hE (Or.inl rfl) dX5_fits_58 ⟨⟨rfl, rfl, rfl⟩, hw⟩
  · refine wm_iconst hC dX5_fits_57 (k := ?_)
    exact wm_zreturn hC hE (Or.inl rfl) dX5_fits_58 ⟨⟨rfl, rfl, rfl⟩, hw⟩
def P5_show_b80_body (l0 : Nat) (l1 : Nat) (l2 : Nat) (l3 : Int) (R : mR) (Q : mI → Prop) (k80 : Int → mI → Prop) (l4 : Int) (I : mI) : Prop := (kK (R l1 0) = 21 ∧ (((0 : Int) ≤ (2 : Int) ∧ (2 : Int) < (kN (R l1 0) : Int)) ∧ (if (I (R l1 0) (2 : Int)) ≤ l4 then (Q I) else (rg (2 * l3) ∧ (rg (4 + (2 * l3)) ∧ (rg ((4 + (2 * l3)) + l4) ∧ (P9_byteAt l0 ((4 + (2 * l3)) + l4) I R (fun r5 => (kK (R l2 5) = 21 ∧ (if r5 = 255 then (((0 : Int) ≤ l4 ∧ l4 < (kN (R l2 5) : Int)) ∧ wLet (up I (R l2 5) l4 (-1)) (fun I7 => (rg (l4 + 1) ∧ (k80 (l4 + 1) I7)))) else (((0 : Int) ≤ l4 ∧ l4 < (kN (R l2 5) : Int)) ∧ wLet (up I (R l2 5) l4 r5) (fun I6 => (rg (l4 + 1) ∧ (k80 (l4 + 1) I6))))))))))))))
def P5_show_b80 (l0 : Nat) (l1 : Nat) (l2 : Nat) (l3 : Int) (R : mR) (Q : mI → Prop) : Nat → Int → mI → Prop
  | 0 => fun _ _ => False
  | f + 1 => fun l4 I => P5_show_b80_body l0 l1 l2 l3 R Q (P5_show_b80 l0 l1 l2 l3 R Q f) l4 I
set_option maxRecDepth 20000 in
theorem W5_show_b80_body {C : wX} {ad : Nat → Nat} {n : Nat} {I J : mI} {R : mR} {Q : mI → Prop} (hC : wOK C cX5_show 6 RX5) (hRm : wRm C 3 54 0 0) (hE : wEnd C none ad n (fun _ I' J' R' => (J' = J ∧ R' = R) ∧ Q I')) {l0 : Nat} {l1 : Nat} {l2 : Nat} {l3 : Int} {l4 : Int}   (hk0 : kK l0 = 9) (hk1 : kK l1 = 3) (hk2 : kK l2 = 7)  {k80 : Int → mI → Prop} (kk80 : ∀ (y4 : Int) (I' : mI), k80 y4 I' → WM C ad n I' J R 0 0 80 [(0, vr l0), (1, vr l1), (2, vr l2), (3, vi l3), (4, vi y4)] []) (hw : P5_show_b80_body l0 l1 l2 l3 R Q k80 l4 I) : WM C ad n I J R 0 0 80 [(0, vr l0), (1, vr l1), (2, vr l2), (3, vi l3), (4, vi l4)] [] := by
  unfold P5_show_b80_body at hw
  refine wm_iload hC 4 dX5_show_80 rfl ?_
  refine wm_aload_n hC 1 dX5_show_82 rfl (k_ne0 hk1 (by decide)) ?_
  refine x_getR2 hC 0 fl_X5_31 rfl hk1 dX5_show_83 hw (fun g4 hw => ?_)
  refine wm_iconst hC dX5_show_86 (k := ?_)
  refine x_iald hC g4 dX5_show_87 hw (fun hw => ?_)
  refine wm_icmp_ge (tgt := 132) hC dX5_show_88 (by decide) hw (fun hw => ?_) (fun hw => ?_)
  · exact wm_return hC hE dX5_show_132 ⟨⟨rfl, rfl⟩, hw⟩
  · refine wm_aload_n hC 0 dX5_show_91 rfl (k_ne0 hk0 (by decide)) ?_
    refine wm_iconst hC dX5_show_92 (k := ?_)
    refine wm_iconst hC dX5_show_93 (k := ?_)
    refine wm_iload_n hC 3 dX5_show_94 rfl ?_
    refine x_imul hC dX5_show_95 hw (fun hw => ?_)
    refine x_iadd hC dX5_show_96 hw (fun hw => ?_)
    refine wm_iload hC 4 dX5_show_97 rfl ?_
    refine x_iadd hC dX5_show_99 hw (fun hw => ?_)
    refine y_callV_i_n hC hRm ml_X5_56 hk0 (C9_byteAt hk0 hw) (Nat.le_of_ble_eq_true rfl) (Nat.le_of_ble_eq_true rfl) ⟨Nat.zero_le _, Nat.zero_le _⟩ rfl (st := []) rfl (Nat.le_of_ble_eq_true rfl) dX5_show_100 (fun r5 hw => ?_)
    refine wm_istore hC dX5_show_103 (by decide) (L2 := [(5, vi r5), (0, vr l0), (1, vr l1), (2, vr l2), (3, vi l3), (4, vi l4)]) rfl ?_
    refine wm_aload_n hC 3 dX5_show_105 rfl (k_ne0 hk2 (by decide)) ?_
    refine x_getR2 hC 5 fl_X5_42 rfl hk2 dX5_show_106 hw (fun g5 hw => ?_)
    refine wm_iload hC 5 dX5_show_109 rfl ?_
    refine wm_iload hC 0 dX5_show_111 rfl ?_
    refine wm_sipush hC dX5_show_113 (k := ?_)
    refine wm_icmp_ne (tgt := 123) hC dX5_show_116 (by decide) hw (fun hw => ?_) (fun hw => ?_)
    · refine wm_iconst hC dX5_show_119 (k := ?_)
      refine wm_goto (tgt := 125) hC dX5_show_120 (by decide) ?_
      refine x_iast hC g5 dX5_show_125 hw (fun I7 hw => ?_)
      refine x_iinc hC 5 dX5_show_126 rfl (by decide) (L2 := [(4, vi (l4 + 1)), (5, vi r5), (0, vr l0), (1, vr l1), (2, vr l2), (3, vi l3)]) rfl hw (fun hw => ?_)
      refine wm_goto (tgt := 80) hC dX5_show_129 (by decide) ?_
      refine wm_sub [2, 3, 4, 5, 0] (L2 := [(0, vr l0), (1, vr l1), (2, vr l2), (3, vi l3), (4, vi (l4 + 1))]) rfl ?_
      exact kk80 _ _ hw
    · refine wm_iload hC 0 dX5_show_123 rfl ?_
      refine x_iast hC g5 dX5_show_125 hw (fun I6 hw => ?_)
      refine x_iinc hC 5 dX5_show_126 rfl (by decide) (L2 := [(4, vi (l4 + 1)), (5, vi r5), (0, vr l0), (1, vr l1), (2, vr l2), (3, vi l3)]) rfl hw (fun hw => ?_)
      refine wm_goto (tgt := 80) hC dX5_show_129 (by decide) ?_
      refine wm_sub [2, 3, 4, 5, 0] (L2 := [(0, vr l0), (1, vr l1), (2, vr l2), (3, vi l3), (4, vi (l4 + 1))]) rfl ?_
      exact kk80 _ _ hw
set_option maxRecDepth 20000 in
theorem W5_show_b80 {C : wX} {ad : Nat → Nat} {n : Nat} {J : mI} {R : mR} {Q : mI → Prop} (hC : wOK C cX5_show 6 RX5) (hRm : wRm C 3 54 0 0) (hE : wEnd C none ad n (fun _ I' J' R' => (J' = J ∧ R' = R) ∧ Q I')) {l0 : Nat} {l1 : Nat} {l2 : Nat} {l3 : Int}   (hk0 : kK l0 = 9) (hk1 : kK l1 = 3) (hk2 : kK l2 = 7)  : ∀ (f : Nat) (l4 : Int) (I : mI), P5_show_b80 l0 l1 l2 l3 R Q f l4 I → WM C ad n I J R 0 0 80 [(0, vr l0), (1, vr l1), (2, vr l2), (3, vi l3), (4, vi l4)] [] := by
  intro f
  induction f with
  | zero => intro l4 I hw; exact hw.elim
  | succ f ih => intro l4 I hw; exact W5_show_b80_body hC hRm hE hk0 hk1 hk2 (fun a0 a1 hw => ih a0 a1 hw) hw
def P5_show_b33_body (l0 : Nat) (l1 : Nat) (l2 : Nat) (l3 : Int) (R : mR) (Q : mI → Prop) (k33 : Int → mI → Prop) (l4 : Int) (I : mI) : Prop := (if l3 ≤ l4 then (∃ f, P5_show_b80 l0 l1 l2 l3 R Q f 0 I) else (kK (R l2 3) = 21 ∧ (rg (4 + l4) ∧ (P9_byteAt l0 (4 + l4) I R (fun r3 => (((0 : Int) ≤ l4 ∧ l4 < (kN (R l2 3) : Int)) ∧ wLet (up I (R l2 3) l4 r3) (fun I4 => (kK (R l2 4) = 21 ∧ (rg (4 + l3) ∧ (rg ((4 + l3) + l4) ∧ (P9_byteAt l0 ((4 + l3) + l4) I4 R (fun r4 => (((0 : Int) ≤ l4 ∧ l4 < (kN (R l2 4) : Int)) ∧ wLet (up I4 (R l2 4) l4 r4) (fun I5 => (rg (l4 + 1) ∧ (k33 (l4 + 1) I5))))))))))))))))
def P5_show_b33 (l0 : Nat) (l1 : Nat) (l2 : Nat) (l3 : Int) (R : mR) (Q : mI → Prop) : Nat → Int → mI → Prop
  | 0 => fun _ _ => False
  | f + 1 => fun l4 I => P5_show_b33_body l0 l1 l2 l3 R Q (P5_show_b33 l0 l1 l2 l3 R Q f) l4 I
set_option maxRecDepth 20000 in
theorem W5_show_b33_body {C : wX} {ad : Nat → Nat} {n : Nat} {I J : mI} {R : mR} {Q : mI → Prop} (hC : wOK C cX5_show 6 RX5) (hRm : wRm C 3 54 0 0) (hE : wEnd C none ad n (fun _ I' J' R' => (J' = J ∧ R' = R) ∧ Q I')) {l0 : Nat} {l1 : Nat} {l2 : Nat} {l3 : Int} {l4 : Int}   (hk0 : kK l0 = 9) (hk1 : kK l1 = 3) (hk2 : kK l2 = 7)  {k33 : Int → mI → Prop} (kk33 : ∀ (y4 : Int) (I' : mI), k33 y4 I' → WM C ad n I' J R 0 0 33 [(0, vr l0), (1, vr l1), (2, vr l2), (3, vi l3), (4, vi y4)] []) (hw : P5_show_b33_body l0 l1 l2 l3 R Q k33 l4 I) : WM C ad n I J R 0 0 33 [(0, vr l0), (1, vr l1), (2, vr l2), (3, vi l3), (4, vi l4)] [] := by
  unfold P5_show_b33_body at hw
  refine wm_iload hC 4 dX5_show_33 rfl ?_
  refine wm_iload_n hC 3 dX5_show_35 rfl ?_
  refine wm_icmp_ge (tgt := 77) hC dX5_show_36 (by decide) hw (fun hw => ?_) (fun hw => ?_)
  · refine wm_iconst hC dX5_show_77 (k := ?_)
    refine wm_istore hC dX5_show_78 (by decide) (L2 := [(4, vi 0), (0, vr l0), (1, vr l1), (2, vr l2), (3, vi l3)]) rfl ?_
    obtain ⟨f, hw⟩ := hw
    refine wm_sub [1, 2, 3, 4, 0] (L2 := [(0, vr l0), (1, vr l1), (2, vr l2), (3, vi l3), (4, vi 0)]) rfl ?_
    exact W5_show_b80 hC hRm hE hk0 hk1 hk2 f _ _ hw
  · refine wm_aload_n hC 2 dX5_show_39 rfl (k_ne0 hk2 (by decide)) ?_
    refine x_getR2 hC 3 fl_X5_36 rfl hk2 dX5_show_40 hw (fun g2 hw => ?_)
    refine wm_iload hC 4 dX5_show_43 rfl ?_
    refine wm_aload_n hC 0 dX5_show_45 rfl (k_ne0 hk0 (by decide)) ?_
    refine wm_iconst hC dX5_show_46 (k := ?_)
    refine wm_iload hC 4 dX5_show_47 rfl ?_
    refine x_iadd hC dX5_show_49 hw (fun hw => ?_)
    refine y_callV_i_n hC hRm ml_X5_56 hk0 (C9_byteAt hk0 hw) (Nat.le_of_ble_eq_true rfl) (Nat.le_of_ble_eq_true rfl) ⟨Nat.zero_le _, Nat.zero_le _⟩ rfl (st := [vi l4, vr (R l2 3)]) rfl (Nat.le_of_ble_eq_true rfl) dX5_show_50 (fun r3 hw => ?_)
    refine x_iast hC g2 dX5_show_53 hw (fun I4 hw => ?_)
    refine wm_aload_n hC 2 dX5_show_54 rfl (k_ne0 hk2 (by decide)) ?_
    refine x_getR2 hC 4 fl_X5_39 rfl hk2 dX5_show_55 hw (fun g3 hw => ?_)
    refine wm_iload hC 4 dX5_show_58 rfl ?_
    refine wm_aload_n hC 0 dX5_show_60 rfl (k_ne0 hk0 (by decide)) ?_
    refine wm_iconst hC dX5_show_61 (k := ?_)
    refine wm_iload_n hC 3 dX5_show_62 rfl ?_
    refine x_iadd hC dX5_show_63 hw (fun hw => ?_)
    refine wm_iload hC 4 dX5_show_64 rfl ?_
    refine x_iadd hC dX5_show_66 hw (fun hw => ?_)
    refine y_callV_i_n hC hRm ml_X5_56 hk0 (C9_byteAt hk0 hw) (Nat.le_of_ble_eq_true rfl) (Nat.le_of_ble_eq_true rfl) ⟨Nat.zero_le _, Nat.zero_le _⟩ rfl (st := [vi l4, vr (R l2 4)]) rfl (Nat.le_of_ble_eq_true rfl) dX5_show_67 (fun r4 hw => ?_)
    refine x_iast hC g3 dX5_show_70 hw (fun I5 hw => ?_)
    refine x_iinc hC 4 dX5_show_71 rfl (by decide) (L2 := [(4, vi (l4 + 1)), (0, vr l0), (1, vr l1), (2, vr l2), (3, vi l3)]) rfl hw (fun hw => ?_)
    refine wm_goto (tgt := 33) hC dX5_show_74 (by decide) ?_
    refine wm_sub [1, 2, 3, 4, 0] (L2 := [(0, vr l0), (1, vr l1), (2, vr l2), (3, vi l3), (4, vi (l4 + 1))]) rfl ?_
    exact kk33 _ _ hw
set_option maxRecDepth 20000 in
theorem W5_show_b33 {C : wX} {ad : Nat → Nat} {n : Nat} {J : mI} {R : mR} {Q : mI → Prop} (hC : wOK C cX5_show 6 RX5) (hRm : wRm C 3 54 0 0) (hE : wEnd C none ad n (fun _ I' J' R' => (J' = J ∧ R' = R) ∧ Q I')) {l0 : Nat} {l1 : Nat} {l2 : Nat} {l3 : Int}   (hk0 : kK l0 = 9) (hk1 : kK l1 = 3) (hk2 : kK l2 = 7)  : ∀ (f : Nat) (l4 : Int) (I : mI), P5_show_b33 l0 l1 l2 l3 R Q f l4 I → WM C ad n I J R 0 0 33 [(0, vr l0), (1, vr l1), (2, vr l2), (3, vi l3), (4, vi l4)] [] := by
  intro f
  induction f with
  | zero => intro l4 I hw; exact hw.elim
  | succ f ih => intro l4 I hw; exact W5_show_b33_body hC hRm hE hk0 hk1 hk2 (fun a0 a1 hw => ih a0 a1 hw) hw
def P5_show (l0 : Nat) (l1 : Nat) (l2 : Nat) (I : mI) (R : mR) (Q : mI → Prop) : Prop := (kK (R l1 0) = 21 ∧ (((0 : Int) ≤ (0 : Int) ∧ (0 : Int) < (kN (R l1 0) : Int)) ∧ (wLet (I (R l1 0) (0 : Int)) (fun x1 => (P5_pairAt l0 0 I R (fun r1 => (wLet (up I l2 0 r1) (fun I1 => (P5_pairAt l0 2 I1 R (fun r2 => (wLet (up I1 l2 1 r2) (fun I2 => (wLet (up I2 l2 2 0) (fun I3 => (∃ f, P5_show_b33 l0 l1 l2 x1 R Q f 0 I3)))))))))))))))
set_option maxRecDepth 20000 in
theorem C5_show {ad : Nat → Nat} {n : Nat} {I J : mI} {R : mR} {Q : mI → Prop} {l0 : Nat} {l1 : Nat} {l2 : Nat} (hk0 : kK l0 = 9) (hk1 : kK l1 = 3) (hk2 : kK l2 = 7) (hw : P5_show l0 l1 l2 I R Q) : wMet yX5_show cX5_show 6 none 3 54 ad n I J R [vr l0, vr l1, vr l2] (fun _ I' J' R' => (J' = J ∧ R' = R) ∧ Q I') := by
  refine wMet_of (by decide) (Nat.le_of_ble_eq_true rfl) (fun C hC hRm hE => ?_)
  refine (show WM C ad n I J R 0 0 0 [(0, vr l0), (1, vr l1), (2, vr l2)] [] from ?_)
  unfold P5_show at hw
  refine wm_aload_n hC 1 dX5_show_0 rfl (k_ne0 hk1 (by decide)) ?_
  refine x_getR2 hC 0 fl_X5_31 rfl hk1 dX5_show_1 hw (fun g1 hw => ?_)
  refine wm_iconst hC dX5_show_4 (k := ?_)
  refine x_iald hC g1 dX5_show_5 hw (fun hw => ?_)
  refine x_nameI hw (fun x1 hw => ?_)
  refine wm_istore_n hC dX5_show_6 (by decide) (L2 := [(3, vi x1), (0, vr l0), (1, vr l1), (2, vr l2)]) rfl ?_
  refine wm_aload_n hC 3 dX5_show_7 rfl (k_ne0 hk2 (by decide)) ?_
  refine wm_aload_n hC 1 dX5_show_8 rfl (k_ne0 hk0 (by decide)) ?_
  refine wm_iconst hC dX5_show_9 (k := ?_)
  refine y_callS_i_n hC hRm ml_X5_52 (C5_pairAt hk0 hw) (Nat.le_of_ble_eq_true rfl) (Nat.le_of_ble_eq_true rfl) ⟨Nat.zero_le _, Nat.zero_le _⟩ rfl (st := [vr l2]) rfl (Nat.le_of_ble_eq_true rfl) dX5_show_10 (fun r1 hw => ?_)
  refine x_putI hC 0 fl_X5_19 rfl hk2 dX5_show_13 hw (fun I1 hw => ?_)
  refine wm_aload_n hC 3 dX5_show_16 rfl (k_ne0 hk2 (by decide)) ?_
  refine wm_aload_n hC 1 dX5_show_17 rfl (k_ne0 hk0 (by decide)) ?_
  refine wm_iconst hC dX5_show_18 (k := ?_)
  refine y_callS_i_n hC hRm ml_X5_52 (C5_pairAt hk0 hw) (Nat.le_of_ble_eq_true rfl) (Nat.le_of_ble_eq_true rfl) ⟨Nat.zero_le _, Nat.zero_le _⟩ rfl (st := [vr l2]) rfl (Nat.le_of_ble_eq_true rfl) dX5_show_19 (fun r2 hw => ?_)
  refine x_putI hC 1 fl_X5_28 rfl hk2 dX5_show_22 hw (fun I2 hw => ?_)
  refine wm_aload_n hC 3 dX5_show_25 rfl (k_ne0 hk2 (by decide)) ?_
  refine wm_iconst hC dX5_show_26 (k := ?_)
  refine x_putI hC 2 fl_X5_68 rfl hk2 dX5_show_27 hw (fun I3 hw => ?_)
  refine wm_iconst hC dX5_show_30 (k := ?_)
  refine wm_istore hC dX5_show_31 (by decide) (L2 := [(4, vi 0), (3, vi x1), (0, vr l0), (1, vr l1), (2, vr l2)]) rfl ?_
  obtain ⟨f, hw⟩ := hw
  refine wm_sub [2, 3, 4, 1, 0] (L2 := [(0, vr l0), (1, vr l1), (2, vr l2), (3, vi x1), (4, vi 0)]) rfl ?_
  exact W5_show_b33 hC hRm hE hk0 hk1 hk2 f _ _ hw
def P10_beginHere (l0 : Nat) (I : mI) (R : mR) (Q : Int → Prop) : Prop := (if (I l0 5) < 0 then (Q 0) else (if (I l0 3) ≤ (I l0 5) then (Q 0) else (kK (R l0 0) = 21 ∧ (if (I l0 5) < (kN (R l0 0) : Int) then (kK (R l0 0) = 21 ∧ (((0 : Int) ≤ (I l0 5) ∧ (I l0 5) < (kN (R l0 0) : Int)) ∧ (if (I (R l0 0) (I l0 5)) = 5 then (kK (R l0 1) = 21 ∧ (((0 : Int) ≤ (I l0 5) ∧ (I l0 5) < (kN (R l0 1) : Int)) ∧ (Q (I (R l0 1) (I l0 5))))) else (kK (R l0 2) = 21 ∧ (((0 : Int) ≤ (I l0 5) ∧ (I l0 5) < (kN (R l0 2) : Int)) ∧ (Q (I (R l0 2) (I l0 5)))))))) else (Q 0)))))
set_option maxRecDepth 20000 in
theorem C10_beginHere {ad : Nat → Nat} {n : Nat} {I J : mI} {R : mR} {Q : Int → Prop} {l0 : Nat} (hk0 : kK l0 = 10) (hw : P10_beginHere l0 I R Q) : wMet yX10_beginHere cX10_beginHere 1 (some .int) 1 12 ad n I J R [vr l0] (fun r I' J' R' => (I' = I ∧ J' = J ∧ R' = R) ∧ Q r) := by
  refine wMet_of (by decide) (Nat.le_of_ble_eq_true rfl) (fun C hC hRm hE => ?_)
  refine (show WM C ad n I J R 0 0 0 [(0, vr l0)] [] from ?_)
  unfold P10_beginHere at hw
  refine wm_aload_n hC 0 dX10_beginHere_0 rfl (k_ne0 hk0 (by decide)) ?_
  refine x_getI hC 5 fl_X10_28 rfl hk0 dX10_beginHere_1 ?_
  refine wm_if_lt (tgt := 30) hC dX10_beginHere_4 (by decide) hw (fun hw => ?_) (fun hw => ?_)
  · refine wm_iconst hC dX10_beginHere_30 (k := ?_)
    exact wm_ireturn hC hE dX10_beginHere_31 ⟨⟨rfl, rfl, rfl⟩, hw⟩
  · refine wm_aload_n hC 0 dX10_beginHere_7 rfl (k_ne0 hk0 (by decide)) ?_
    refine x_getI hC 5 fl_X10_28 rfl hk0 dX10_beginHere_8 ?_
    refine wm_aload_n hC 0 dX10_beginHere_11 rfl (k_ne0 hk0 (by decide)) ?_
    refine x_getI hC 3 fl_X10_21 rfl hk0 dX10_beginHere_12 ?_
    refine wm_icmp_ge (tgt := 30) hC dX10_beginHere_15 (by decide) hw (fun hw => ?_) (fun hw => ?_)
    · refine wm_iconst hC dX10_beginHere_30 (k := ?_)
      exact wm_ireturn hC hE dX10_beginHere_31 ⟨⟨rfl, rfl, rfl⟩, hw⟩
    · refine wm_aload_n hC 0 dX10_beginHere_18 rfl (k_ne0 hk0 (by decide)) ?_
      refine x_getI hC 5 fl_X10_28 rfl hk0 dX10_beginHere_19 ?_
      refine wm_aload_n hC 0 dX10_beginHere_22 rfl (k_ne0 hk0 (by decide)) ?_
      refine x_getR2 hC 0 fl_X10_9 rfl hk0 dX10_beginHere_23 hw (fun g1 hw => ?_)
      refine x_alen hC g1 (by decide) dX10_beginHere_26 ?_
      refine wm_icmp_lt (tgt := 32) hC dX10_beginHere_27 (by decide) hw (fun hw => ?_) (fun hw => ?_)
      · refine wm_aload_n hC 0 dX10_beginHere_32 rfl (k_ne0 hk0 (by decide)) ?_
        refine x_getR2 hC 0 fl_X10_9 rfl hk0 dX10_beginHere_33 hw (fun g2 hw => ?_)
        refine wm_aload_n hC 0 dX10_beginHere_36 rfl (k_ne0 hk0 (by decide)) ?_
        refine x_getI hC 5 fl_X10_28 rfl hk0 dX10_beginHere_37 ?_
        refine x_iald hC g2 dX10_beginHere_40 hw (fun hw => ?_)
        refine wm_iconst hC dX10_beginHere_41 (k := ?_)
        refine wm_icmp_ne (tgt := 57) hC dX10_beginHere_42 (by decide) hw (fun hw => ?_) (fun hw => ?_)
        · refine wm_aload_n hC 0 dX10_beginHere_45 rfl (k_ne0 hk0 (by decide)) ?_
          refine x_getR2 hC 1 fl_X10_15 rfl hk0 dX10_beginHere_46 hw (fun g4 hw => ?_)
          refine wm_aload_n hC 0 dX10_beginHere_49 rfl (k_ne0 hk0 (by decide)) ?_
          refine x_getI hC 5 fl_X10_28 rfl hk0 dX10_beginHere_50 ?_
          refine x_iald hC g4 dX10_beginHere_53 hw (fun hw => ?_)
          refine wm_goto (tgt := 66) hC dX10_beginHere_54 (by decide) ?_
          exact wm_ireturn hC hE dX10_beginHere_66 ⟨⟨rfl, rfl, rfl⟩, hw⟩
        · refine wm_aload_n hC 0 dX10_beginHere_57 rfl (k_ne0 hk0 (by decide)) ?_
          refine x_getR2 hC 2 fl_X10_18 rfl hk0 dX10_beginHere_58 hw (fun g3 hw => ?_)
          refine wm_aload_n hC 0 dX10_beginHere_61 rfl (k_ne0 hk0 (by decide)) ?_
          refine x_getI hC 5 fl_X10_28 rfl hk0 dX10_beginHere_62 ?_
          refine x_iald hC g3 dX10_beginHere_65 hw (fun hw => ?_)
          exact wm_ireturn hC hE dX10_beginHere_66 ⟨⟨rfl, rfl, rfl⟩, hw⟩
      · refine wm_iconst hC dX10_beginHere_30 (k := ?_)
        exact wm_ireturn hC hE dX10_beginHere_31 ⟨⟨rfl, rfl, rfl⟩, hw⟩
def P10_placeHere (l0 : Nat) (I : mI) (R : mR) (Q : Int → Prop) : Prop := (if (I l0 5) < 0 then (Q 0) else (if (I l0 3) ≤ (I l0 5) then (Q 0) else (kK (R l0 2) = 21 ∧ (if (kN (R l0 2) : Int) ≤ (I l0 5) then (Q 0) else (kK (R l0 2) = 21 ∧ (((0 : Int) ≤ (I l0 5) ∧ (I l0 5) < (kN (R l0 2) : Int)) ∧ (Q (I (R l0 2) (I l0 5)))))))))
set_option maxRecDepth 20000 in
theorem C10_placeHere {ad : Nat → Nat} {n : Nat} {I J : mI} {R : mR} {Q : Int → Prop} {l0 : Nat} (hk0 : kK l0 = 10) (hw : P10_placeHere l0 I R Q) : wMet yX10_placeHere cX10_placeHere 1 (some .int) 1 12 ad n I J R [vr l0] (fun r I' J' R' => (I' = I ∧ J' = J ∧ R' = R) ∧ Q r) := by
  refine wMet_of (by decide) (Nat.le_of_ble_eq_true rfl) (fun C hC hRm hE => ?_)
  refine (show WM C ad n I J R 0 0 0 [(0, vr l0)] [] from ?_)
  unfold P10_placeHere at hw
  refine wm_aload_n hC 0 dX10_placeHere_0 rfl (k_ne0 hk0 (by decide)) ?_
  refine x_getI hC 5 fl_X10_28 rfl hk0 dX10_placeHere_1 ?_
  refine wm_if_lt (tgt := 42) hC dX10_placeHere_4 (by decide) hw (fun hw => ?_) (fun hw => ?_)
  · refine wm_iconst hC dX10_placeHere_42 (k := ?_)
    exact wm_ireturn hC hE dX10_placeHere_43 ⟨⟨rfl, rfl, rfl⟩, hw⟩
  · refine wm_aload_n hC 0 dX10_placeHere_7 rfl (k_ne0 hk0 (by decide)) ?_
    refine x_getI hC 5 fl_X10_28 rfl hk0 dX10_placeHere_8 ?_
    refine wm_aload_n hC 0 dX10_placeHere_11 rfl (k_ne0 hk0 (by decide)) ?_
    refine x_getI hC 3 fl_X10_21 rfl hk0 dX10_placeHere_12 ?_
    refine wm_icmp_ge (tgt := 42) hC dX10_placeHere_15 (by decide) hw (fun hw => ?_) (fun hw => ?_)
    · refine wm_iconst hC dX10_placeHere_42 (k := ?_)
      exact wm_ireturn hC hE dX10_placeHere_43 ⟨⟨rfl, rfl, rfl⟩, hw⟩
    · refine wm_aload_n hC 0 dX10_placeHere_18 rfl (k_ne0 hk0 (by decide)) ?_
      refine x_getI hC 5 fl_X10_28 rfl hk0 dX10_placeHere_19 ?_
      refine wm_aload_n hC 0 dX10_placeHere_22 rfl (k_ne0 hk0 (by decide)) ?_
      refine x_getR2 hC 2 fl_X10_18 rfl hk0 dX10_placeHere_23 hw (fun g1 hw => ?_)
      refine x_alen hC g1 (by decide) dX10_placeHere_26 ?_
      refine wm_icmp_ge (tgt := 42) hC dX10_placeHere_27 (by decide) hw (fun hw => ?_) (fun hw => ?_)
      · refine wm_iconst hC dX10_placeHere_42 (k := ?_)
        exact wm_ireturn hC hE dX10_placeHere_43 ⟨⟨rfl, rfl, rfl⟩, hw⟩
      · refine wm_aload_n hC 0 dX10_placeHere_30 rfl (k_ne0 hk0 (by decide)) ?_
        refine x_getR2 hC 2 fl_X10_18 rfl hk0 dX10_placeHere_31 hw (fun g2 hw => ?_)
        refine wm_aload_n hC 0 dX10_placeHere_34 rfl (k_ne0 hk0 (by decide)) ?_
        refine x_getI hC 5 fl_X10_28 rfl hk0 dX10_placeHere_35 ?_
        refine x_iald hC g2 dX10_placeHere_38 hw (fun hw => ?_)
        refine wm_goto (tgt := 43) hC dX10_placeHere_39 (by decide) ?_
        exact wm_ireturn hC hE dX10_placeHere_43 ⟨⟨rfl, rfl, rfl⟩, hw⟩
def P10_stop (l0 : Nat) (I : mI) (Q : mI → Prop) : Prop := (wLet (up I l0 5 (I l0 3)) (fun I1 => (Q I1)))
set_option maxRecDepth 20000 in
theorem C10_stop {ad : Nat → Nat} {n : Nat} {I J : mI} {R : mR} {Q : mI → Prop} {l0 : Nat} (hk0 : kK l0 = 10) (hw : P10_stop l0 I Q) : wMet yX10_stop cX10_stop 1 none 1 12 ad n I J R [vr l0] (fun _ I' J' R' => (J' = J ∧ R' = R) ∧ Q I') := by
  refine wMet_of (by decide) (Nat.le_of_ble_eq_true rfl) (fun C hC hRm hE => ?_)
  refine (show WM C ad n I J R 0 0 0 [(0, vr l0)] [] from ?_)
  unfold P10_stop at hw
  refine wm_aload_n hC 0 dX10_stop_0 rfl (k_ne0 hk0 (by decide)) ?_
  refine wm_aload_n hC 0 dX10_stop_1 rfl (k_ne0 hk0 (by decide)) ?_
  refine x_getI hC 3 fl_X10_21 rfl hk0 dX10_stop_2 ?_
  refine x_putI hC 5 fl_X10_28 rfl hk0 dX10_stop_5 hw (fun I1 hw => ?_)
  exact wm_return hC hE dX10_stop_8 ⟨⟨rfl, rfl⟩, hw⟩
def P6_fail (l0 : Nat) (l1 : Int) (I : mI) (R : mR) (Q : mI → Prop) : Prop := (if (I l0 6) = 0 then (wLet (up I l0 6 l1) (fun I2 => (if l1 = 6 then (kK (R l0 1) = 10 ∧ (P10_beginHere (R l0 1) I2 R (fun r2 => (wLet (up I2 l0 7 r2) (fun I5 => (kK (R l0 1) = 10 ∧ (P10_stop (R l0 1) I5 (fun I6 => (Q I6))))))))) else (kK (R l0 1) = 10 ∧ (P10_placeHere (R l0 1) I2 R (fun r1 => (wLet (up I2 l0 7 r1) (fun I3 => (kK (R l0 1) = 10 ∧ (P10_stop (R l0 1) I3 (fun I4 => (Q I4)))))))))))) else (kK (R l0 1) = 10 ∧ (P10_stop (R l0 1) I (fun I1 => (Q I1)))))
set_option maxRecDepth 20000 in
theorem C6_fail {ad : Nat → Nat} {n : Nat} {I J : mI} {R : mR} {Q : mI → Prop} {l0 : Nat} {l1 : Int} (hk0 : kK l0 = 6) (hw : P6_fail l0 l1 I R Q) : wMet yX6_fail cX6_fail 2 none 2 32 ad n I J R [vr l0, vi l1] (fun _ I' J' R' => (J' = J ∧ R' = R) ∧ Q I') := by
  refine wMet_of (by decide) (Nat.le_of_ble_eq_true rfl) (fun C hC hRm hE => ?_)
  refine (show WM C ad n I J R 0 0 0 [(0, vr l0), (1, vi l1)] [] from ?_)
  unfold P6_fail at hw
  refine wm_aload_n hC 0 dX6_fail_0 rfl (k_ne0 hk0 (by decide)) ?_
  refine x_getI hC 6 fl_X6_28 rfl hk0 dX6_fail_1 ?_
  refine wm_if_ne (tgt := 39) hC dX6_fail_4 (by decide) hw (fun hw => ?_) (fun hw => ?_)
  · refine wm_aload_n hC 0 dX6_fail_7 rfl (k_ne0 hk0 (by decide)) ?_
    refine wm_iload_n hC 1 dX6_fail_8 rfl ?_
    refine x_putI hC 6 fl_X6_28 rfl hk0 dX6_fail_9 hw (fun I2 hw => ?_)
    refine wm_aload_n hC 0 dX6_fail_12 rfl (k_ne0 hk0 (by decide)) ?_
    refine wm_iload_n hC 1 dX6_fail_13 rfl ?_
    refine wm_bipush hC dX6_fail_14 (k := ?_)
    refine wm_icmp_ne (tgt := 29) hC dX6_fail_16 (by decide) hw (fun hw => ?_) (fun hw => ?_)
    · refine wm_aload_n hC 0 dX6_fail_19 rfl (k_ne0 hk0 (by decide)) ?_
      refine x_getR2 hC 1 fl_X6_12 rfl hk0 dX6_fail_20 hw (fun g4 hw => ?_)
      refine y_callV_i_n hC hRm ml_X6_58 g4 (C10_beginHere g4 hw) (Nat.le_of_ble_eq_true rfl) (Nat.le_of_ble_eq_true rfl) ⟨Nat.zero_le _, Nat.zero_le _⟩ rfl (st := [vr l0]) rfl (Nat.le_of_ble_eq_true rfl) dX6_fail_23 (fun r2 hw => ?_)
      refine wm_goto (tgt := 36) hC dX6_fail_26 (by decide) ?_
      refine x_putI hC 7 fl_X6_31 rfl hk0 dX6_fail_36 hw (fun I5 hw => ?_)
      refine wm_aload_n hC 0 dX6_fail_39 rfl (k_ne0 hk0 (by decide)) ?_
      refine x_getR2 hC 1 fl_X6_12 rfl hk0 dX6_fail_40 hw (fun g5 hw => ?_)
      refine y_callV_v_I hC hRm ml_X6_64 g5 (C10_stop g5 hw) (Nat.le_of_ble_eq_true rfl) (Nat.le_of_ble_eq_true rfl) ⟨Nat.zero_le _, Nat.zero_le _⟩ rfl (st := []) rfl (Nat.le_of_ble_eq_true rfl) dX6_fail_43 (fun I6 hw => ?_)
      exact wm_return hC hE dX6_fail_46 ⟨⟨rfl, rfl⟩, hw⟩
    · refine wm_aload_n hC 0 dX6_fail_29 rfl (k_ne0 hk0 (by decide)) ?_
      refine x_getR2 hC 1 fl_X6_12 rfl hk0 dX6_fail_30 hw (fun g2 hw => ?_)
      refine y_callV_i_n hC hRm ml_X6_61 g2 (C10_placeHere g2 hw) (Nat.le_of_ble_eq_true rfl) (Nat.le_of_ble_eq_true rfl) ⟨Nat.zero_le _, Nat.zero_le _⟩ rfl (st := [vr l0]) rfl (Nat.le_of_ble_eq_true rfl) dX6_fail_33 (fun r1 hw => ?_)
      refine x_putI hC 7 fl_X6_31 rfl hk0 dX6_fail_36 hw (fun I3 hw => ?_)
      refine wm_aload_n hC 0 dX6_fail_39 rfl (k_ne0 hk0 (by decide)) ?_
      refine x_getR2 hC 1 fl_X6_12 rfl hk0 dX6_fail_40 hw (fun g3 hw => ?_)
      refine y_callV_v_I hC hRm ml_X6_64 g3 (C10_stop g3 hw) (Nat.le_of_ble_eq_true rfl) (Nat.le_of_ble_eq_true rfl) ⟨Nat.zero_le _, Nat.zero_le _⟩ rfl (st := []) rfl (Nat.le_of_ble_eq_true rfl) dX6_fail_43 (fun I4 hw => ?_)
      exact wm_return hC hE dX6_fail_46 ⟨⟨rfl, rfl⟩, hw⟩
  · refine wm_aload_n hC 0 dX6_fail_39 rfl (k_ne0 hk0 (by decide)) ?_
    refine x_getR2 hC 1 fl_X6_12 rfl hk0 dX6_fail_40 hw (fun g1 hw => ?_)
    refine y_callV_v_I hC hRm ml_X6_64 g1 (C10_stop g1 hw) (Nat.le_of_ble_eq_true rfl) (Nat.le_of_ble_eq_true rfl) ⟨Nat.zero_le _, Nat.zero_le _⟩ rfl (st := []) rfl (Nat.le_of_ble_eq_true rfl) dX6_fail_43 (fun I1 hw => ?_)
    exact wm_return hC hE dX6_fail_46 ⟨⟨rfl, rfl⟩, hw⟩
def P10_sortHere (l0 : Nat) (I : mI) (R : mR) (Q : Int → Prop) : Prop := (if (I l0 5) < 0 then (Q 5) else (if (I l0 3) ≤ (I l0 5) then (Q 5) else (kK (R l0 0) = 21 ∧ (if (kN (R l0 0) : Int) ≤ (I l0 5) then (Q 5) else (kK (R l0 0) = 21 ∧ (((0 : Int) ≤ (I l0 5) ∧ (I l0 5) < (kN (R l0 0) : Int)) ∧ (Q (I (R l0 0) (I l0 5)))))))))
set_option maxRecDepth 20000 in
theorem C10_sortHere {ad : Nat → Nat} {n : Nat} {I J : mI} {R : mR} {Q : Int → Prop} {l0 : Nat} (hk0 : kK l0 = 10) (hw : P10_sortHere l0 I R Q) : wMet yX10_sortHere cX10_sortHere 1 (some .int) 1 12 ad n I J R [vr l0] (fun r I' J' R' => (I' = I ∧ J' = J ∧ R' = R) ∧ Q r) := by
  refine wMet_of (by decide) (Nat.le_of_ble_eq_true rfl) (fun C hC hRm hE => ?_)
  refine (show WM C ad n I J R 0 0 0 [(0, vr l0)] [] from ?_)
  unfold P10_sortHere at hw
  refine wm_aload_n hC 0 dX10_sortHere_0 rfl (k_ne0 hk0 (by decide)) ?_
  refine x_getI hC 5 fl_X10_28 rfl hk0 dX10_sortHere_1 ?_
  refine wm_if_lt (tgt := 42) hC dX10_sortHere_4 (by decide) hw (fun hw => ?_) (fun hw => ?_)
  · refine wm_iconst hC dX10_sortHere_42 (k := ?_)
    exact wm_ireturn hC hE dX10_sortHere_43 ⟨⟨rfl, rfl, rfl⟩, hw⟩
  · refine wm_aload_n hC 0 dX10_sortHere_7 rfl (k_ne0 hk0 (by decide)) ?_
    refine x_getI hC 5 fl_X10_28 rfl hk0 dX10_sortHere_8 ?_
    refine wm_aload_n hC 0 dX10_sortHere_11 rfl (k_ne0 hk0 (by decide)) ?_
    refine x_getI hC 3 fl_X10_21 rfl hk0 dX10_sortHere_12 ?_
    refine wm_icmp_ge (tgt := 42) hC dX10_sortHere_15 (by decide) hw (fun hw => ?_) (fun hw => ?_)
    · refine wm_iconst hC dX10_sortHere_42 (k := ?_)
      exact wm_ireturn hC hE dX10_sortHere_43 ⟨⟨rfl, rfl, rfl⟩, hw⟩
    · refine wm_aload_n hC 0 dX10_sortHere_18 rfl (k_ne0 hk0 (by decide)) ?_
      refine x_getI hC 5 fl_X10_28 rfl hk0 dX10_sortHere_19 ?_
      refine wm_aload_n hC 0 dX10_sortHere_22 rfl (k_ne0 hk0 (by decide)) ?_
      refine x_getR2 hC 0 fl_X10_9 rfl hk0 dX10_sortHere_23 hw (fun g1 hw => ?_)
      refine x_alen hC g1 (by decide) dX10_sortHere_26 ?_
      refine wm_icmp_ge (tgt := 42) hC dX10_sortHere_27 (by decide) hw (fun hw => ?_) (fun hw => ?_)
      · refine wm_iconst hC dX10_sortHere_42 (k := ?_)
        exact wm_ireturn hC hE dX10_sortHere_43 ⟨⟨rfl, rfl, rfl⟩, hw⟩
      · refine wm_aload_n hC 0 dX10_sortHere_30 rfl (k_ne0 hk0 (by decide)) ?_
        refine x_getR2 hC 0 fl_X10_9 rfl hk0 dX10_sortHere_31 hw (fun g2 hw => ?_)
        refine wm_aload_n hC 0 dX10_sortHere_34 rfl (k_ne0 hk0 (by decide)) ?_
        refine x_getI hC 5 fl_X10_28 rfl hk0 dX10_sortHere_35 ?_
        refine x_iald hC g2 dX10_sortHere_38 hw (fun hw => ?_)
        refine wm_goto (tgt := 43) hC dX10_sortHere_39 (by decide) ?_
        exact wm_ireturn hC hE dX10_sortHere_43 ⟨⟨rfl, rfl, rfl⟩, hw⟩
def P10_valueHere (l0 : Nat) (I : mI) (R : mR) (Q : Int → Prop) : Prop := (if (I l0 5) < 0 then (Q 0) else (if (I l0 3) ≤ (I l0 5) then (Q 0) else (kK (R l0 1) = 21 ∧ (if (kN (R l0 1) : Int) ≤ (I l0 5) then (Q 0) else (kK (R l0 1) = 21 ∧ (((0 : Int) ≤ (I l0 5) ∧ (I l0 5) < (kN (R l0 1) : Int)) ∧ (Q (I (R l0 1) (I l0 5)))))))))
set_option maxRecDepth 20000 in
theorem C10_valueHere {ad : Nat → Nat} {n : Nat} {I J : mI} {R : mR} {Q : Int → Prop} {l0 : Nat} (hk0 : kK l0 = 10) (hw : P10_valueHere l0 I R Q) : wMet yX10_valueHere cX10_valueHere 1 (some .int) 1 12 ad n I J R [vr l0] (fun r I' J' R' => (I' = I ∧ J' = J ∧ R' = R) ∧ Q r) := by
  refine wMet_of (by decide) (Nat.le_of_ble_eq_true rfl) (fun C hC hRm hE => ?_)
  refine (show WM C ad n I J R 0 0 0 [(0, vr l0)] [] from ?_)
  unfold P10_valueHere at hw
  refine wm_aload_n hC 0 dX10_valueHere_0 rfl (k_ne0 hk0 (by decide)) ?_
  refine x_getI hC 5 fl_X10_28 rfl hk0 dX10_valueHere_1 ?_
  refine wm_if_lt (tgt := 42) hC dX10_valueHere_4 (by decide) hw (fun hw => ?_) (fun hw => ?_)
  · refine wm_iconst hC dX10_valueHere_42 (k := ?_)
    exact wm_ireturn hC hE dX10_valueHere_43 ⟨⟨rfl, rfl, rfl⟩, hw⟩
  · refine wm_aload_n hC 0 dX10_valueHere_7 rfl (k_ne0 hk0 (by decide)) ?_
    refine x_getI hC 5 fl_X10_28 rfl hk0 dX10_valueHere_8 ?_
    refine wm_aload_n hC 0 dX10_valueHere_11 rfl (k_ne0 hk0 (by decide)) ?_
    refine x_getI hC 3 fl_X10_21 rfl hk0 dX10_valueHere_12 ?_
    refine wm_icmp_ge (tgt := 42) hC dX10_valueHere_15 (by decide) hw (fun hw => ?_) (fun hw => ?_)
    · refine wm_iconst hC dX10_valueHere_42 (k := ?_)
      exact wm_ireturn hC hE dX10_valueHere_43 ⟨⟨rfl, rfl, rfl⟩, hw⟩
    · refine wm_aload_n hC 0 dX10_valueHere_18 rfl (k_ne0 hk0 (by decide)) ?_
      refine x_getI hC 5 fl_X10_28 rfl hk0 dX10_valueHere_19 ?_
      refine wm_aload_n hC 0 dX10_valueHere_22 rfl (k_ne0 hk0 (by decide)) ?_
      refine x_getR2 hC 1 fl_X10_15 rfl hk0 dX10_valueHere_23 hw (fun g1 hw => ?_)
      refine x_alen hC g1 (by decide) dX10_valueHere_26 ?_
      refine wm_icmp_ge (tgt := 42) hC dX10_valueHere_27 (by decide) hw (fun hw => ?_) (fun hw => ?_)
      · refine wm_iconst hC dX10_valueHere_42 (k := ?_)
        exact wm_ireturn hC hE dX10_valueHere_43 ⟨⟨rfl, rfl, rfl⟩, hw⟩
      · refine wm_aload_n hC 0 dX10_valueHere_30 rfl (k_ne0 hk0 (by decide)) ?_
        refine x_getR2 hC 1 fl_X10_15 rfl hk0 dX10_valueHere_31 hw (fun g2 hw => ?_)
        refine wm_aload_n hC 0 dX10_valueHere_34 rfl (k_ne0 hk0 (by decide)) ?_
        refine x_getI hC 5 fl_X10_28 rfl hk0 dX10_valueHere_35 ?_
        refine x_iald hC g2 dX10_valueHere_38 hw (fun hw => ?_)
        refine wm_goto (tgt := 43) hC dX10_valueHere_39 (by decide) ?_
        exact wm_ireturn hC hE dX10_valueHere_43 ⟨⟨rfl, rfl, rfl⟩, hw⟩
def P6_ownHere (l0 : Nat) (I : mI) (R : mR) (Q : Int → Prop) : Prop := (kK (R l0 1) = 10 ∧ (P10_sortHere (R l0 1) I R (fun r1 => (if r1 = 1 then (kK (R l0 1) = 10 ∧ (P10_valueHere (R l0 1) I R (fun r2 => (Q r2)))) else (Q (-1))))))
set_option maxRecDepth 20000 in
theorem C6_ownHere {ad : Nat → Nat} {n : Nat} {I J : mI} {R : mR} {Q : Int → Prop} {l0 : Nat} (hk0 : kK l0 = 6) (hw : P6_ownHere l0 I R Q) : wMet yX6_ownHere cX6_ownHere 1 (some .int) 2 32 ad n I J R [vr l0] (fun r I' J' R' => (I' = I ∧ J' = J ∧ R' = R) ∧ Q r) := by
  refine wMet_of (by decide) (Nat.le_of_ble_eq_true rfl) (fun C hC hRm hE => ?_)
  refine (show WM C ad n I J R 0 0 0 [(0, vr l0)] [] from ?_)
  unfold P6_ownHere at hw
  refine wm_aload_n hC 0 dX6_ownHere_0 rfl (k_ne0 hk0 (by decide)) ?_
  refine x_getR2 hC 1 fl_X6_12 rfl hk0 dX6_ownHere_1 hw (fun g1 hw => ?_)
  refine y_callV_i_n hC hRm ml_X6_51 g1 (C10_sortHere g1 hw) (Nat.le_of_ble_eq_true rfl) (Nat.le_of_ble_eq_true rfl) ⟨Nat.zero_le _, Nat.zero_le _⟩ rfl (st := []) rfl (Nat.le_of_ble_eq_true rfl) dX6_ownHere_4 (fun r1 hw => ?_)
  refine wm_iconst hC dX6_ownHere_7 (k := ?_)
  refine wm_icmp_ne (tgt := 21) hC dX6_ownHere_8 (by decide) hw (fun hw => ?_) (fun hw => ?_)
  · refine wm_aload_n hC 0 dX6_ownHere_11 rfl (k_ne0 hk0 (by decide)) ?_
    refine x_getR2 hC 1 fl_X6_12 rfl hk0 dX6_ownHere_12 hw (fun g2 hw => ?_)
    refine y_callV_i_n hC hRm ml_X6_78 g2 (C10_valueHere g2 hw) (Nat.le_of_ble_eq_true rfl) (Nat.le_of_ble_eq_true rfl) ⟨Nat.zero_le _, Nat.zero_le _⟩ rfl (st := []) rfl (Nat.le_of_ble_eq_true rfl) dX6_ownHere_15 (fun r2 hw => ?_)
    refine wm_goto (tgt := 22) hC dX6_ownHere_18 (by decide) ?_
    exact wm_ireturn hC hE dX6_ownHere_22 ⟨⟨rfl, rfl, rfl⟩, hw⟩
  · refine wm_iconst hC dX6_ownHere_21 (k := ?_)
    exact wm_ireturn hC hE dX6_ownHere_22 ⟨⟨rfl, rfl, rfl⟩, hw⟩
def P10_isHere (l0 : Nat) (l1 : Int) (l2 : Int) (I : mI) (R : mR) (Q : Int → Prop) : Prop := (if (I l0 5) < 0 then (Q 0) else (if (I l0 3) ≤ (I l0 5) then (Q 0) else (kK (R l0 0) = 21 ∧ (if (kN (R l0 0) : Int) ≤ (I l0 5) then (Q 0) else (kK (R l0 0) = 21 ∧ (((0 : Int) ≤ (I l0 5) ∧ (I l0 5) < (kN (R l0 0) : Int)) ∧ (if (I (R l0 0) (I l0 5)) = l1 then (kK (R l0 1) = 21 ∧ (((0 : Int) ≤ (I l0 5) ∧ (I l0 5) < (kN (R l0 1) : Int)) ∧ (if (I (R l0 1) (I l0 5)) = l2 then (Q 1) else (Q 0)))) else (Q 0))))))))
set_option maxRecDepth 20000 in
theorem C10_isHere {ad : Nat → Nat} {n : Nat} {I J : mI} {R : mR} {Q : Int → Prop} {l0 : Nat} {l1 : Int} {l2 : Int} (hk0 : kK l0 = 10) (hw : P10_isHere l0 l1 l2 I R Q) : wMet yX10_isHere cX10_isHere 3 (some .boolean) 1 12 ad n I J R [vr l0, vi l1, vi l2] (fun r I' J' R' => (I' = I ∧ J' = J ∧ R' = R) ∧ Q r) := by
  refine wMet_of (by decide) (Nat.le_of_ble_eq_true rfl) (fun C hC hRm hE => ?_)
  refine (show WM C ad n I J R 0 0 0 [(0, vr l0), (1, vi l1), (2, vi l2)] [] from ?_)
  unfold P10_isHere at hw
  refine wm_aload_n hC 0 dX10_isHere_0 rfl (k_ne0 hk0 (by decide)) ?_
  refine x_getI hC 5 fl_X10_28 rfl hk0 dX10_isHere_1 ?_
  refine wm_if_lt (tgt := 60) hC dX10_isHere_4 (by decide) hw (fun hw => ?_) (fun hw => ?_)
  · refine wm_iconst hC dX10_isHere_60 (k := ?_)
    exact wm_zreturn hC hE (Or.inl rfl) dX10_isHere_61 ⟨⟨rfl, rfl, rfl⟩, hw⟩
  · refine wm_aload_n hC 0 dX10_isHere_7 rfl (k_ne0 hk0 (by decide)) ?_
    refine x_getI hC 5 fl_X10_28 rfl hk0 dX10_isHere_8 ?_
    refine wm_aload_n hC 0 dX10_isHere_11 rfl (k_ne0 hk0 (by decide)) ?_
    refine x_getI hC 3 fl_X10_21 rfl hk0 dX10_isHere_12 ?_
    refine wm_icmp_ge (tgt := 60) hC dX10_isHere_15 (by decide) hw (fun hw => ?_) (fun hw => ?_)
    · refine wm_iconst hC dX10_isHere_60 (k := ?_)
      exact wm_zreturn hC hE (Or.inl rfl) dX10_isHere_61 ⟨⟨rfl, rfl, rfl⟩, hw⟩
    · refine wm_aload_n hC 0 dX10_isHere_18 rfl (k_ne0 hk0 (by decide)) ?_
      refine x_getI hC 5 fl_X10_28 rfl hk0 dX10_isHere_19 ?_
      refine wm_aload_n hC 0 dX10_isHere_22 rfl (k_ne0 hk0 (by decide)) ?_
      refine x_getR2 hC 0 fl_X10_9 rfl hk0 dX10_isHere_23 hw (fun g1 hw => ?_)
      refine x_alen hC g1 (by decide) dX10_isHere_26 ?_
      refine wm_icmp_ge (tgt := 60) hC dX10_isHere_27 (by decide) hw (fun hw => ?_) (fun hw => ?_)
      · refine wm_iconst hC dX10_isHere_60 (k := ?_)
        exact wm_zreturn hC hE (Or.inl rfl) dX10_isHere_61 ⟨⟨rfl, rfl, rfl⟩, hw⟩
      · refine wm_aload_n hC 0 dX10_isHere_30 rfl (k_ne0 hk0 (by decide)) ?_
        refine x_getR2 hC 0 fl_X10_9 rfl hk0 dX10_isHere_31 hw (fun g2 hw => ?_)
        refine wm_aload_n hC 0 dX10_isHere_34 rfl (k_ne0 hk0 (by decide)) ?_
        refine x_getI hC 5 fl_X10_28 rfl hk0 dX10_isHere_35 ?_
        refine x_iald hC g2 dX10_isHere_38 hw (fun hw => ?_)
        refine wm_iload_n hC 1 dX10_isHere_39 rfl ?_
        refine wm_icmp_ne (tgt := 60) hC dX10_isHere_40 (by decide) hw (fun hw => ?_) (fun hw => ?_)
        · refine wm_aload_n hC 0 dX10_isHere_43 rfl (k_ne0 hk0 (by decide)) ?_
          refine x_getR2 hC 1 fl_X10_15 rfl hk0 dX10_isHere_44 hw (fun g3 hw => ?_)
          refine wm_aload_n hC 0 dX10_isHere_47 rfl (k_ne0 hk0 (by decide)) ?_
          refine x_getI hC 5 fl_X10_28 rfl hk0 dX10_isHere_48 ?_
          refine x_iald hC g3 dX10_isHere_51 hw (fun hw => ?_)
          refine wm_iload_n hC 2 dX10_isHere_52 rfl ?_
          refine wm_icmp_ne (tgt := 60) hC dX10_isHere_53 (by decide) hw (fun hw => ?_) (fun hw => ?_)
          · refine wm_iconst hC dX10_isHere_56 (k := ?_)
            refine wm_goto (tgt := 61) hC dX10_isHere_57 (by decide) ?_
            exact wm_zreturn hC hE (Or.inr rfl) dX10_isHere_61 ⟨⟨rfl, rfl, rfl⟩, hw⟩
          · refine wm_iconst hC dX10_isHere_60 (k := ?_)
            exact wm_zreturn hC hE (Or.inl rfl) dX10_isHere_61 ⟨⟨rfl, rfl, rfl⟩, hw⟩
        · refine wm_iconst hC dX10_isHere_60 (k := ?_)
          exact wm_zreturn hC hE (Or.inl rfl) dX10_isHere_61 ⟨⟨rfl, rfl, rfl⟩, hw⟩
def P6_isSign (l0 : Nat) (l1 : Int) (I : mI) (R : mR) (Q : Int → Prop) : Prop := (kK (R l0 1) = 10 ∧ (P10_isHere (R l0 1) 4 l1 I R (fun r1 => ((r1 = 0 ∨ r1 = 1) ∧ (Q r1)))))
set_option maxRecDepth 20000 in
theorem C6_isSign {ad : Nat → Nat} {n : Nat} {I J : mI} {R : mR} {Q : Int → Prop} {l0 : Nat} {l1 : Int} (hk0 : kK l0 = 6) (hw : P6_isSign l0 l1 I R Q) : wMet yX6_isSign cX6_isSign 2 (some .boolean) 2 34 ad n I J R [vr l0, vi l1] (fun r I' J' R' => (I' = I ∧ J' = J ∧ R' = R) ∧ Q r) := by
  refine wMet_of (by decide) (Nat.le_of_ble_eq_true rfl) (fun C hC hRm hE => ?_)
  refine (show WM C ad n I J R 0 0 0 [(0, vr l0), (1, vi l1)] [] from ?_)
  unfold P6_isSign at hw
  refine wm_aload_n hC 0 dX6_isSign_0 rfl (k_ne0 hk0 (by decide)) ?_
  refine x_getR2 hC 1 fl_X6_12 rfl hk0 dX6_isSign_1 hw (fun g1 hw => ?_)
  refine wm_iconst hC dX6_isSign_4 (k := ?_)
  refine wm_iload_n hC 1 dX6_isSign_5 rfl ?_
  refine y_callV_z_n hC hRm ml_X6_81 g1 (C10_isHere g1 hw) (Nat.le_of_ble_eq_true rfl) (Nat.le_of_ble_eq_true rfl) ⟨Nat.zero_le _, Nat.zero_le _⟩ rfl (st := []) rfl (Nat.le_of_ble_eq_true rfl) dX6_isSign_6 (fun r1 hw => ?_)
  obtain ⟨z01, hw⟩ := hw
  exact wm_zreturn hC hE z01 dX6_isSign_9 ⟨⟨rfl, rfl, rfl⟩, hw⟩
def P6_isOwn (l0 : Nat) (l1 : Int) (I : mI) (R : mR) (Q : Int → Prop) : Prop := (kK (R l0 1) = 10 ∧ (P10_isHere (R l0 1) 1 l1 I R (fun r1 => ((r1 = 0 ∨ r1 = 1) ∧ (Q r1)))))
set_option maxRecDepth 20000 in
theorem C6_isOwn {ad : Nat → Nat} {n : Nat} {I J : mI} {R : mR} {Q : Int → Prop} {l0 : Nat} {l1 : Int} (hk0 : kK l0 = 6) (hw : P6_isOwn l0 l1 I R Q) : wMet yX6_isOwn cX6_isOwn 2 (some .boolean) 2 34 ad n I J R [vr l0, vi l1] (fun r I' J' R' => (I' = I ∧ J' = J ∧ R' = R) ∧ Q r) := by
  refine wMet_of (by decide) (Nat.le_of_ble_eq_true rfl) (fun C hC hRm hE => ?_)
  refine (show WM C ad n I J R 0 0 0 [(0, vr l0), (1, vi l1)] [] from ?_)
  unfold P6_isOwn at hw
  refine wm_aload_n hC 0 dX6_isOwn_0 rfl (k_ne0 hk0 (by decide)) ?_
  refine x_getR2 hC 1 fl_X6_12 rfl hk0 dX6_isOwn_1 hw (fun g1 hw => ?_)
  refine wm_iconst hC dX6_isOwn_4 (k := ?_)
  refine wm_iload_n hC 1 dX6_isOwn_5 rfl ?_
  refine y_callV_z_n hC hRm ml_X6_81 g1 (C10_isHere g1 hw) (Nat.le_of_ble_eq_true rfl) (Nat.le_of_ble_eq_true rfl) ⟨Nat.zero_le _, Nat.zero_le _⟩ rfl (st := []) rfl (Nat.le_of_ble_eq_true rfl) dX6_isOwn_6 (fun r1 hw => ?_)
  obtain ⟨z01, hw⟩ := hw
  exact wm_zreturn hC hE z01 dX6_isOwn_9 ⟨⟨rfl, rfl, rfl⟩, hw⟩
def P10_step (l0 : Nat) (I : mI) (Q : mI → Prop) : Prop := (if (I l0 3) ≤ (I l0 5) then (wLet (up I l0 5 (I l0 3)) (fun I1 => (Q I1))) else (rg ((I l0 5) + 1) ∧ (wLet (up I l0 5 ((I l0 5) + 1)) (fun I2 => (Q I2)))))
set_option maxRecDepth 20000 in
theorem C10_step {ad : Nat → Nat} {n : Nat} {I J : mI} {R : mR} {Q : mI → Prop} {l0 : Nat} (hk0 : kK l0 = 10) (hw : P10_step l0 I Q) : wMet yX10_step cX10_step 1 none 1 12 ad n I J R [vr l0] (fun _ I' J' R' => (J' = J ∧ R' = R) ∧ Q I') := by
  refine wMet_of (by decide) (Nat.le_of_ble_eq_true rfl) (fun C hC hRm hE => ?_)
  refine (show WM C ad n I J R 0 0 0 [(0, vr l0)] [] from ?_)
  unfold P10_step at hw
  refine wm_aload_n hC 0 dX10_step_0 rfl (k_ne0 hk0 (by decide)) ?_
  refine wm_aload_n hC 0 dX10_step_1 rfl (k_ne0 hk0 (by decide)) ?_
  refine x_getI hC 5 fl_X10_28 rfl hk0 dX10_step_2 ?_
  refine wm_aload_n hC 0 dX10_step_5 rfl (k_ne0 hk0 (by decide)) ?_
  refine x_getI hC 3 fl_X10_21 rfl hk0 dX10_step_6 ?_
  refine wm_icmp_ge (tgt := 21) hC dX10_step_9 (by decide) hw (fun hw => ?_) (fun hw => ?_)
  · refine wm_aload_n hC 0 dX10_step_21 rfl (k_ne0 hk0 (by decide)) ?_
    refine x_getI hC 3 fl_X10_21 rfl hk0 dX10_step_22 ?_
    refine x_putI hC 5 fl_X10_28 rfl hk0 dX10_step_25 hw (fun I1 hw => ?_)
    exact wm_return hC hE dX10_step_28 ⟨⟨rfl, rfl⟩, hw⟩
  · refine wm_aload_n hC 0 dX10_step_12 rfl (k_ne0 hk0 (by decide)) ?_
    refine x_getI hC 5 fl_X10_28 rfl hk0 dX10_step_13 ?_
    refine wm_iconst hC dX10_step_16 (k := ?_)
    refine x_iadd hC dX10_step_17 hw (fun hw => ?_)
    refine wm_goto (tgt := 25) hC dX10_step_18 (by decide) ?_
    refine x_putI hC 5 fl_X10_28 rfl hk0 dX10_step_25 hw (fun I2 hw => ?_)
    exact wm_return hC hE dX10_step_28 ⟨⟨rfl, rfl⟩, hw⟩
def P6_expect (l0 : Nat) (l1 : Int) (I : mI) (R : mR) (Q : mI → Prop) : Prop := (P6_isSign l0 l1 I R (fun r1 => (if r1 = 0 then (P6_fail l0 1 I R (fun I1 => (Q I1))) else (kK (R l0 1) = 10 ∧ (P10_step (R l0 1) I (fun I2 => (Q I2)))))))
set_option maxRecDepth 20000 in
theorem C6_expect {ad : Nat → Nat} {n : Nat} {I J : mI} {R : mR} {Q : mI → Prop} {l0 : Nat} {l1 : Int} (hk0 : kK l0 = 6) (hw : P6_expect l0 l1 I R Q) : wMet yX6_expect cX6_expect 2 none 3 55 ad n I J R [vr l0, vi l1] (fun _ I' J' R' => (J' = J ∧ R' = R) ∧ Q I') := by
  refine wMet_of (by decide) (Nat.le_of_ble_eq_true rfl) (fun C hC hRm hE => ?_)
  refine (show WM C ad n I J R 0 0 0 [(0, vr l0), (1, vi l1)] [] from ?_)
  unfold P6_expect at hw
  refine wm_aload_n hC 0 dX6_expect_0 rfl (k_ne0 hk0 (by decide)) ?_
  refine wm_iload_n hC 1 dX6_expect_1 rfl ?_
  refine y_callV_z_n hC hRm ml_X6_85 hk0 (C6_isSign hk0 hw) (Nat.le_of_ble_eq_true rfl) (Nat.le_of_ble_eq_true rfl) ⟨Nat.zero_le _, Nat.zero_le _⟩ rfl (st := []) rfl (Nat.le_of_ble_eq_true rfl) dX6_expect_2 (fun r1 hw => ?_)
  refine wm_if_eq (tgt := 18) hC dX6_expect_5 (by decide) hw (fun hw => ?_) (fun hw => ?_)
  · refine wm_aload_n hC 0 dX6_expect_18 rfl (k_ne0 hk0 (by decide)) ?_
    refine wm_iconst hC dX6_expect_19 (k := ?_)
    refine y_callV_v_I hC hRm ml_X6_92 hk0 (C6_fail hk0 hw) (Nat.le_of_ble_eq_true rfl) (Nat.le_of_ble_eq_true rfl) ⟨Nat.zero_le _, Nat.zero_le _⟩ rfl (st := []) rfl (Nat.le_of_ble_eq_true rfl) dX6_expect_20 (fun I1 hw => ?_)
    exact wm_return hC hE dX6_expect_23 ⟨⟨rfl, rfl⟩, hw⟩
  · refine wm_aload_n hC 0 dX6_expect_8 rfl (k_ne0 hk0 (by decide)) ?_
    refine x_getR2 hC 1 fl_X6_12 rfl hk0 dX6_expect_9 hw (fun g1 hw => ?_)
    refine y_callV_v_I hC hRm ml_X6_89 g1 (C10_step g1 hw) (Nat.le_of_ble_eq_true rfl) (Nat.le_of_ble_eq_true rfl) ⟨Nat.zero_le _, Nat.zero_le _⟩ rfl (st := []) rfl (Nat.le_of_ble_eq_true rfl) dX6_expect_12 (fun I2 hw => ?_)
    refine wm_goto (tgt := 23) hC dX6_expect_15 (by decide) ?_
    exact wm_return hC hE dX6_expect_23 ⟨⟨rfl, rfl⟩, hw⟩
def P6_isFull (l0 : Nat) (l1 : Int) (I : mI) (R : mR) (Q : Int → Prop) : Prop := (if (2 : Int) < l1 then (if l1 < 8 then (Q 0) else (kK (R l0 2) = 3 ∧ (rg (l1 - 8) ∧ (P3_hasCode (R l0 2) (l1 - 8) I R (fun r1 => (if r1 = 0 then (Q 0) else (Q 1))))))) else (kK (R l0 2) = 3 ∧ (kK (R (R l0 2) 0) = 21 ∧ (((0 : Int) ≤ l1 ∧ l1 < (kN (R (R l0 2) 0) : Int)) ∧ (if (I (R (R l0 2) 0) l1) < 6 then (Q 0) else (Q 1))))))
set_option maxRecDepth 20000 in
theorem C6_isFull {ad : Nat → Nat} {n : Nat} {I J : mI} {R : mR} {Q : Int → Prop} {l0 : Nat} {l1 : Int} (hk0 : kK l0 = 6) (hw : P6_isFull l0 l1 I R Q) : wMet yX6_isFull cX6_isFull 2 (some .boolean) 2 33 ad n I J R [vr l0, vi l1] (fun r I' J' R' => (I' = I ∧ J' = J ∧ R' = R) ∧ Q r) := by
  refine wMet_of (by decide) (Nat.le_of_ble_eq_true rfl) (fun C hC hRm hE => ?_)
  refine (show WM C ad n I J R 0 0 0 [(0, vr l0), (1, vi l1)] [] from ?_)
  unfold P6_isFull at hw
  refine wm_iload_n hC 1 dX6_isFull_0 rfl ?_
  refine wm_iconst hC dX6_isFull_1 (k := ?_)
  refine wm_icmp_gt (tgt := 25) hC dX6_isFull_2 (by decide) hw (fun hw => ?_) (fun hw => ?_)
  · refine wm_iload_n hC 1 dX6_isFull_25 rfl ?_
    refine wm_bipush hC dX6_isFull_26 (k := ?_)
    refine wm_icmp_lt (tgt := 49) hC dX6_isFull_28 (by decide) hw (fun hw => ?_) (fun hw => ?_)
    · refine wm_iconst hC dX6_isFull_49 (k := ?_)
      exact wm_zreturn hC hE (Or.inl rfl) dX6_isFull_50 ⟨⟨rfl, rfl, rfl⟩, hw⟩
    · refine wm_aload_n hC 0 dX6_isFull_31 rfl (k_ne0 hk0 (by decide)) ?_
      refine x_getR2 hC 2 fl_X6_38 rfl hk0 dX6_isFull_32 hw (fun g1 hw => ?_)
      refine wm_iload_n hC 1 dX6_isFull_35 rfl ?_
      refine wm_bipush hC dX6_isFull_36 (k := ?_)
      refine x_isub hC dX6_isFull_38 hw (fun hw => ?_)
      refine y_callV_z_n hC hRm ml_X6_136 g1 (C3_hasCode g1 hw) (Nat.le_of_ble_eq_true rfl) (Nat.le_of_ble_eq_true rfl) ⟨Nat.zero_le _, Nat.zero_le _⟩ rfl (st := []) rfl (Nat.le_of_ble_eq_true rfl) dX6_isFull_39 (fun r1 hw => ?_)
      refine wm_if_eq (tgt := 49) hC dX6_isFull_42 (by decide) hw (fun hw => ?_) (fun hw => ?_)
      · refine wm_iconst hC dX6_isFull_49 (k := ?_)
        exact wm_zreturn hC hE (Or.inl rfl) dX6_isFull_50 ⟨⟨rfl, rfl, rfl⟩, hw⟩
      · refine wm_iconst hC dX6_isFull_45 (k := ?_)
        refine wm_goto (tgt := 50) hC dX6_isFull_46 (by decide) ?_
        exact wm_zreturn hC hE (Or.inr rfl) dX6_isFull_50 ⟨⟨rfl, rfl, rfl⟩, hw⟩
  · refine wm_aload_n hC 0 dX6_isFull_5 rfl (k_ne0 hk0 (by decide)) ?_
    refine x_getR2 hC 2 fl_X6_38 rfl hk0 dX6_isFull_6 hw (fun g2 hw => ?_)
    refine x_getR2 hC 0 fl_X6_132 rfl g2 dX6_isFull_9 hw (fun g3 hw => ?_)
    refine wm_iload_n hC 1 dX6_isFull_12 rfl ?_
    refine x_iald hC g3 dX6_isFull_13 hw (fun hw => ?_)
    refine wm_bipush hC dX6_isFull_14 (k := ?_)
    refine wm_icmp_lt (tgt := 23) hC dX6_isFull_16 (by decide) hw (fun hw => ?_) (fun hw => ?_)
    · refine wm_iconst hC dX6_isFull_23 (k := ?_)
      exact wm_zreturn hC hE (Or.inl rfl) dX6_isFull_24 ⟨⟨rfl, rfl, rfl⟩, hw⟩
    · refine wm_iconst hC dX6_isFull_19 (k := ?_)
      refine wm_goto (tgt := 24) hC dX6_isFull_20 (by decide) ?_
      exact wm_zreturn hC hE (Or.inr rfl) dX6_isFull_24 ⟨⟨rfl, rfl, rfl⟩, hw⟩
def P6_isName (l0 : Nat) (I : mI) (R : mR) (Q : Int → mI → Prop) : Prop := (kK (R l0 1) = 10 ∧ (P10_sortHere (R l0 1) I R (fun r1 => (if r1 = 2 then (Q 1 I) else (P6_fail l0 1 I R (fun I1 => (Q 0 I1)))))))
set_option maxRecDepth 20000 in
theorem C6_isName {ad : Nat → Nat} {n : Nat} {I J : mI} {R : mR} {Q : Int → mI → Prop} {l0 : Nat} (hk0 : kK l0 = 6) (hw : P6_isName l0 I R Q) : wMet yX6_isName cX6_isName 1 (some .boolean) 3 53 ad n I J R [vr l0] (fun r I' J' R' => (J' = J ∧ R' = R) ∧ Q r I') := by
  refine wMet_of (by decide) (Nat.le_of_ble_eq_true rfl) (fun C hC hRm hE => ?_)
  refine (show WM C ad n I J R 0 0 0 [(0, vr l0)] [] from ?_)
  unfold P6_isName at hw
  refine wm_aload_n hC 0 dX6_isName_0 rfl (k_ne0 hk0 (by decide)) ?_
  refine x_getR2 hC 1 fl_X6_12 rfl hk0 dX6_isName_1 hw (fun g1 hw => ?_)
  refine y_callV_i_n hC hRm ml_X6_51 g1 (C10_sortHere g1 hw) (Nat.le_of_ble_eq_true rfl) (Nat.le_of_ble_eq_true rfl) ⟨Nat.zero_le _, Nat.zero_le _⟩ rfl (st := []) rfl (Nat.le_of_ble_eq_true rfl) dX6_isName_4 (fun r1 hw => ?_)
  refine wm_iconst hC dX6_isName_7 (k := ?_)
  refine wm_icmp_ne (tgt := 13) hC dX6_isName_8 (by decide) hw (fun hw => ?_) (fun hw => ?_)
  · refine wm_iconst hC dX6_isName_11 (k := ?_)
    exact wm_zreturn hC hE (Or.inr rfl) dX6_isName_12 ⟨⟨rfl, rfl⟩, hw⟩
  · refine wm_aload_n hC 0 dX6_isName_13 rfl (k_ne0 hk0 (by decide)) ?_
    refine wm_iconst hC dX6_isName_14 (k := ?_)
    refine y_callV_v_I hC hRm ml_X6_92 hk0 (C6_fail hk0 hw) (Nat.le_of_ble_eq_true rfl) (Nat.le_of_ble_eq_true rfl) ⟨Nat.zero_le _, Nat.zero_le _⟩ rfl (st := []) rfl (Nat.le_of_ble_eq_true rfl) dX6_isName_15 (fun I1 hw => ?_)
    refine wm_iconst hC dX6_isName_18 (k := ?_)
    exact wm_zreturn hC hE (Or.inl rfl) dX6_isName_19 ⟨⟨rfl, rfl⟩, hw⟩
def P6_isTaken (l0 : Nat) (l1 : Int) (I : mI) (R : mR) (Q : Int → Prop) : Prop := (kK (R l0 2) = 3 ∧ (P3_find (R l0 2) 0 l1 I R (fun r1 => (if r1 = (-1) then (kK (R l0 2) = 3 ∧ (P3_find (R l0 2) 1 l1 I R (fun r2 => (if r2 = (-1) then (kK (R l0 2) = 3 ∧ (P3_find (R l0 2) 2 l1 I R (fun r3 => (if r3 = (-1) then (Q 0) else (Q 1))))) else (Q 1))))) else (Q 1)))))
set_option maxRecDepth 20000 in
theorem C6_isTaken {ad : Nat → Nat} {n : Nat} {I J : mI} {R : mR} {Q : Int → Prop} {l0 : Nat} {l1 : Int} (hk0 : kK l0 = 6) (hw : P6_isTaken l0 l1 I R Q) : wMet yX6_isTaken cX6_isTaken 2 (some .boolean) 2 35 ad n I J R [vr l0, vi l1] (fun r I' J' R' => (I' = I ∧ J' = J ∧ R' = R) ∧ Q r) := by
  refine wMet_of (by decide) (Nat.le_of_ble_eq_true rfl) (fun C hC hRm hE => ?_)
  refine (show WM C ad n I J R 0 0 0 [(0, vr l0), (1, vi l1)] [] from ?_)
  unfold P6_isTaken at hw
  refine wm_aload_n hC 0 dX6_isTaken_0 rfl (k_ne0 hk0 (by decide)) ?_
  refine x_getR2 hC 2 fl_X6_38 rfl hk0 dX6_isTaken_1 hw (fun g1 hw => ?_)
  refine wm_iconst hC dX6_isTaken_4 (k := ?_)
  refine wm_iload_n hC 1 dX6_isTaken_5 rfl ?_
  refine y_callV_i_n hC hRm ml_X6_174 g1 (C3_find g1 hw) (Nat.le_of_ble_eq_true rfl) (Nat.le_of_ble_eq_true rfl) ⟨Nat.zero_le _, Nat.zero_le _⟩ rfl (st := []) rfl (Nat.le_of_ble_eq_true rfl) dX6_isTaken_6 (fun r1 hw => ?_)
  refine wm_iconst hC dX6_isTaken_9 (k := ?_)
  refine wm_icmp_ne (tgt := 39) hC dX6_isTaken_10 (by decide) hw (fun hw => ?_) (fun hw => ?_)
  · refine wm_aload_n hC 0 dX6_isTaken_13 rfl (k_ne0 hk0 (by decide)) ?_
    refine x_getR2 hC 2 fl_X6_38 rfl hk0 dX6_isTaken_14 hw (fun g2 hw => ?_)
    refine wm_iconst hC dX6_isTaken_17 (k := ?_)
    refine wm_iload_n hC 1 dX6_isTaken_18 rfl ?_
    refine y_callV_i_n hC hRm ml_X6_174 g2 (C3_find g2 hw) (Nat.le_of_ble_eq_true rfl) (Nat.le_of_ble_eq_true rfl) ⟨Nat.zero_le _, Nat.zero_le _⟩ rfl (st := []) rfl (Nat.le_of_ble_eq_true rfl) dX6_isTaken_19 (fun r2 hw => ?_)
    refine wm_iconst hC dX6_isTaken_22 (k := ?_)
    refine wm_icmp_ne (tgt := 39) hC dX6_isTaken_23 (by decide) hw (fun hw => ?_) (fun hw => ?_)
    · refine wm_aload_n hC 0 dX6_isTaken_26 rfl (k_ne0 hk0 (by decide)) ?_
      refine x_getR2 hC 2 fl_X6_38 rfl hk0 dX6_isTaken_27 hw (fun g3 hw => ?_)
      refine wm_iconst hC dX6_isTaken_30 (k := ?_)
      refine wm_iload_n hC 1 dX6_isTaken_31 rfl ?_
      refine y_callV_i_n hC hRm ml_X6_174 g3 (C3_find g3 hw) (Nat.le_of_ble_eq_true rfl) (Nat.le_of_ble_eq_true rfl) ⟨Nat.zero_le _, Nat.zero_le _⟩ rfl (st := []) rfl (Nat.le_of_ble_eq_true rfl) dX6_isTaken_32 (fun r3 hw => ?_)
      refine wm_iconst hC dX6_isTaken_35 (k := ?_)
      refine wm_icmp_eq (tgt := 43) hC dX6_isTaken_36 (by decide) hw (fun hw => ?_) (fun hw => ?_)
      · refine wm_iconst hC dX6_isTaken_43 (k := ?_)
        exact wm_zreturn hC hE (Or.inl rfl) dX6_isTaken_44 ⟨⟨rfl, rfl, rfl⟩, hw⟩
      · refine wm_iconst hC dX6_isTaken_39 (k := ?_)
        refine wm_goto (tgt := 44) hC dX6_isTaken_40 (by decide) ?_
        exact wm_zreturn hC hE (Or.inr rfl) dX6_isTaken_44 ⟨⟨rfl, rfl, rfl⟩, hw⟩
    · refine wm_iconst hC dX6_isTaken_39 (k := ?_)
      refine wm_goto (tgt := 44) hC dX6_isTaken_40 (by decide) ?_
      exact wm_zreturn hC hE (Or.inr rfl) dX6_isTaken_44 ⟨⟨rfl, rfl, rfl⟩, hw⟩
  · refine wm_iconst hC dX6_isTaken_39 (k := ?_)
    refine wm_goto (tgt := 44) hC dX6_isTaken_40 (by decide) ?_
    exact wm_zreturn hC hE (Or.inr rfl) dX6_isTaken_44 ⟨⟨rfl, rfl, rfl⟩, hw⟩
def P6_takeUpTo (l0 : Nat) (l1 : Int) (I : mI) (R : mR) (Q : Int → mI → Prop) : Prop := (kK (R l0 1) = 10 ∧ (P10_valueHere (R l0 1) I R (fun r1 => (kK (R l0 1) = 10 ∧ (P10_sortHere (R l0 1) I R (fun r2 => (if r2 = 3 then (if r1 ≤ l1 then (kK (R l0 1) = 10 ∧ (P10_step (R l0 1) I (fun I1 => (Q r1 I1)))) else (P6_fail l0 4 I R (fun I2 => (Q 0 I2)))) else (P6_fail l0 1 I R (fun I3 => (Q 0 I3))))))))))
set_option maxRecDepth 20000 in
theorem C6_takeUpTo {ad : Nat → Nat} {n : Nat} {I J : mI} {R : mR} {Q : Int → mI → Prop} {l0 : Nat} {l1 : Int} (hk0 : kK l0 = 6) (hw : P6_takeUpTo l0 l1 I R Q) : wMet yX6_takeUpTo cX6_takeUpTo 3 (some .int) 3 53 ad n I J R [vr l0, vi l1] (fun r I' J' R' => (J' = J ∧ R' = R) ∧ Q r I') := by
  refine wMet_of (by decide) (Nat.le_of_ble_eq_true rfl) (fun C hC hRm hE => ?_)
  refine (show WM C ad n I J R 0 0 0 [(0, vr l0), (1, vi l1)] [] from ?_)
  unfold P6_takeUpTo at hw
  refine wm_aload_n hC 0 dX6_takeUpTo_0 rfl (k_ne0 hk0 (by decide)) ?_
  refine x_getR2 hC 1 fl_X6_12 rfl hk0 dX6_takeUpTo_1 hw (fun g1 hw => ?_)
  refine y_callV_i_n hC hRm ml_X6_78 g1 (C10_valueHere g1 hw) (Nat.le_of_ble_eq_true rfl) (Nat.le_of_ble_eq_true rfl) ⟨Nat.zero_le _, Nat.zero_le _⟩ rfl (st := []) rfl (Nat.le_of_ble_eq_true rfl) dX6_takeUpTo_4 (fun r1 hw => ?_)
  refine wm_istore_n hC dX6_takeUpTo_7 (by decide) (L2 := [(2, vi r1), (0, vr l0), (1, vi l1)]) rfl ?_
  refine wm_aload_n hC 1 dX6_takeUpTo_8 rfl (k_ne0 hk0 (by decide)) ?_
  refine x_getR2 hC 1 fl_X6_12 rfl hk0 dX6_takeUpTo_9 hw (fun g2 hw => ?_)
  refine y_callV_i_n hC hRm ml_X6_51 g2 (C10_sortHere g2 hw) (Nat.le_of_ble_eq_true rfl) (Nat.le_of_ble_eq_true rfl) ⟨Nat.zero_le _, Nat.zero_le _⟩ rfl (st := []) rfl (Nat.le_of_ble_eq_true rfl) dX6_takeUpTo_12 (fun r2 hw => ?_)
  refine wm_iconst hC dX6_takeUpTo_15 (k := ?_)
  refine wm_icmp_eq (tgt := 26) hC dX6_takeUpTo_16 (by decide) hw (fun hw => ?_) (fun hw => ?_)
  · refine wm_iload_n hC 0 dX6_takeUpTo_26 rfl ?_
    refine wm_iload_n hC 2 dX6_takeUpTo_27 rfl ?_
    refine wm_icmp_le (tgt := 38) hC dX6_takeUpTo_28 (by decide) hw (fun hw => ?_) (fun hw => ?_)
    · refine wm_aload_n hC 1 dX6_takeUpTo_38 rfl (k_ne0 hk0 (by decide)) ?_
      refine x_getR2 hC 1 fl_X6_12 rfl hk0 dX6_takeUpTo_39 hw (fun g3 hw => ?_)
      refine y_callV_v_I hC hRm ml_X6_89 g3 (C10_step g3 hw) (Nat.le_of_ble_eq_true rfl) (Nat.le_of_ble_eq_true rfl) ⟨Nat.zero_le _, Nat.zero_le _⟩ rfl (st := []) rfl (Nat.le_of_ble_eq_true rfl) dX6_takeUpTo_42 (fun I1 hw => ?_)
      refine wm_iload_n hC 0 dX6_takeUpTo_45 rfl ?_
      exact wm_ireturn hC hE dX6_takeUpTo_46 ⟨⟨rfl, rfl⟩, hw⟩
    · refine wm_aload_n hC 1 dX6_takeUpTo_31 rfl (k_ne0 hk0 (by decide)) ?_
      refine wm_iconst hC dX6_takeUpTo_32 (k := ?_)
      refine y_callV_v_I hC hRm ml_X6_92 hk0 (C6_fail hk0 hw) (Nat.le_of_ble_eq_true rfl) (Nat.le_of_ble_eq_true rfl) ⟨Nat.zero_le _, Nat.zero_le _⟩ rfl (st := []) rfl (Nat.le_of_ble_eq_true rfl) dX6_takeUpTo_33 (fun I2 hw => ?_)
      refine wm_iconst hC dX6_takeUpTo_36 (k := ?_)
      exact wm_ireturn hC hE dX6_takeUpTo_37 ⟨⟨rfl, rfl⟩, hw⟩
  · refine wm_aload_n hC 1 dX6_takeUpTo_19 rfl (k_ne0 hk0 (by decide)) ?_
    refine wm_iconst hC dX6_takeUpTo_20 (k := ?_)
    refine y_callV_v_I hC hRm ml_X6_92 hk0 (C6_fail hk0 hw) (Nat.le_of_ble_eq_true rfl) (Nat.le_of_ble_eq_true rfl) ⟨Nat.zero_le _, Nat.zero_le _⟩ rfl (st := []) rfl (Nat.le_of_ble_eq_true rfl) dX6_takeUpTo_21 (fun I3 hw => ?_)
    refine wm_iconst hC dX6_takeUpTo_24 (k := ?_)
    exact wm_ireturn hC hE dX6_takeUpTo_25 ⟨⟨rfl, rfl⟩, hw⟩
def P6_takeTrait (l0 : Nat) (l1 : Int) (l2 : Int) (I : mI) (R : mR) (Q : Int → mI → Prop) : Prop := (P6_isOwn l0 l1 I R (fun r1 => (if r1 = 0 then (P6_fail l0 1 I R (fun I3 => (Q 0 I3))) else (kK (R l0 1) = 10 ∧ (P10_step (R l0 1) I (fun I1 => (P6_takeUpTo l0 l2 I1 R (fun r2 I2 => (Q r2 I2)))))))))
set_option maxRecDepth 20000 in
theorem C6_takeTrait {ad : Nat → Nat} {n : Nat} {I J : mI} {R : mR} {Q : Int → mI → Prop} {l0 : Nat} {l1 : Int} {l2 : Int} (hk0 : kK l0 = 6) (hw : P6_takeTrait l0 l1 l2 I R Q) : wMet yX6_takeTrait cX6_takeTrait 3 (some .int) 4 75 ad n I J R [vr l0, vi l1, vi l2] (fun r I' J' R' => (J' = J ∧ R' = R) ∧ Q r I') := by
  refine wMet_of (by decide) (Nat.le_of_ble_eq_true rfl) (fun C hC hRm hE => ?_)
  refine (show WM C ad n I J R 0 0 0 [(0, vr l0), (1, vi l1), (2, vi l2)] [] from ?_)
  unfold P6_takeTrait at hw
  refine wm_aload_n hC 0 dX6_takeTrait_0 rfl (k_ne0 hk0 (by decide)) ?_
  refine wm_iload_n hC 1 dX6_takeTrait_1 rfl ?_
  refine y_callV_z_n hC hRm ml_X6_156 hk0 (C6_isOwn hk0 hw) (Nat.le_of_ble_eq_true rfl) (Nat.le_of_ble_eq_true rfl) ⟨Nat.zero_le _, Nat.zero_le _⟩ rfl (st := []) rfl (Nat.le_of_ble_eq_true rfl) dX6_takeTrait_2 (fun r1 hw => ?_)
  refine wm_if_ne (tgt := 15) hC dX6_takeTrait_5 (by decide) hw (fun hw => ?_) (fun hw => ?_)
  · refine wm_aload_n hC 0 dX6_takeTrait_8 rfl (k_ne0 hk0 (by decide)) ?_
    refine wm_iconst hC dX6_takeTrait_9 (k := ?_)
    refine y_callV_v_I hC hRm ml_X6_92 hk0 (C6_fail hk0 hw) (Nat.le_of_ble_eq_true rfl) (Nat.le_of_ble_eq_true rfl) ⟨Nat.zero_le _, Nat.zero_le _⟩ rfl (st := []) rfl (Nat.le_of_ble_eq_true rfl) dX6_takeTrait_10 (fun I3 hw => ?_)
    refine wm_iconst hC dX6_takeTrait_13 (k := ?_)
    exact wm_ireturn hC hE dX6_takeTrait_14 ⟨⟨rfl, rfl⟩, hw⟩
  · refine wm_aload_n hC 0 dX6_takeTrait_15 rfl (k_ne0 hk0 (by decide)) ?_
    refine x_getR2 hC 1 fl_X6_12 rfl hk0 dX6_takeTrait_16 hw (fun g1 hw => ?_)
    refine y_callV_v_I hC hRm ml_X6_89 g1 (C10_step g1 hw) (Nat.le_of_ble_eq_true rfl) (Nat.le_of_ble_eq_true rfl) ⟨Nat.zero_le _, Nat.zero_le _⟩ rfl (st := []) rfl (Nat.le_of_ble_eq_true rfl) dX6_takeTrait_19 (fun I1 hw => ?_)
    refine wm_aload_n hC 0 dX6_takeTrait_22 rfl (k_ne0 hk0 (by decide)) ?_
    refine wm_iload_n hC 2 dX6_takeTrait_23 rfl ?_
    refine y_callV_i_I hC hRm ml_X6_115 hk0 (C6_takeUpTo hk0 hw) (Nat.le_of_ble_eq_true rfl) (Nat.le_of_ble_eq_true rfl) ⟨Nat.zero_le _, Nat.zero_le _⟩ rfl (st := []) rfl (Nat.le_of_ble_eq_true rfl) dX6_takeTrait_24 (fun r2 I2 hw => ?_)
    exact wm_ireturn hC hE dX6_takeTrait_27 ⟨⟨rfl, rfl⟩, hw⟩
def P6_readOne_b128 (l0 : Nat) (l1 : Int) (I : mI) (R : mR) (Q : mI → Prop) : Prop := (kK (R l0 2) = 3 ∧ (kK (R (R l0 2) 0) = 21 ∧ (((0 : Int) ≤ l1 ∧ l1 < (kN (R (R l0 2) 0) : Int)) ∧ (rg ((I (R (R l0 2) 0) l1) + 1) ∧ (((0 : Int) ≤ l1 ∧ l1 < (kN (R (R l0 2) 0) : Int)) ∧ wLet (up I (R (R l0 2) 0) l1 ((I (R (R l0 2) 0) l1) + 1)) (fun I9 => (Q I9)))))))
set_option maxRecDepth 20000 in
theorem W6_readOne_b128 {C : wX} {ad : Nat → Nat} {n : Nat} {I J : mI} {R : mR} {Q : mI → Prop} (hC : wOK C cX6_readOne 4 RX6) (hRm : wRm C 5 97 0 0) (hE : wEnd C none ad n (fun _ I' J' R' => (J' = J ∧ R' = R) ∧ Q I')) {l0 : Nat} {l1 : Int}   (hk0 : kK l0 = 6)  (hw : P6_readOne_b128 l0 l1 I R Q) : WM C ad n I J R 0 0 128 [(0, vr l0), (1, vi l1)] [] := by
  unfold P6_readOne_b128 at hw
  refine wm_aload_n hC 0 dX6_readOne_128 rfl (k_ne0 hk0 (by decide)) ?_
  refine x_getR2 hC 2 fl_X6_38 rfl hk0 dX6_readOne_129 hw (fun g12 hw => ?_)
  refine x_getR2 hC 0 fl_X6_132 rfl g12 dX6_readOne_132 hw (fun g13 hw => ?_)
  refine wm_iload_n hC 1 dX6_readOne_135 rfl ?_
  refine wm_dup2_11 hC dX6_readOne_136 (k := ?_)
  refine x_iald hC g13 dX6_readOne_137 hw (fun hw => ?_)
  refine wm_iconst hC dX6_readOne_138 (k := ?_)
  refine x_iadd hC dX6_readOne_139 hw (fun hw => ?_)
  refine x_iast hC g13 dX6_readOne_140 hw (fun I9 hw => ?_)
  exact wm_return hC hE dX6_readOne_141 ⟨⟨rfl, rfl⟩, hw⟩
def P6_readOne_b68_body (l0 : Nat) (l1 : Int) (l2 : Int) (R : mR) (Q : mI → Prop) (k68 : Int → mI → Prop) (l3 : Int) (I : mI) : Prop := (if (3 : Int) ≤ l3 then (if l1 = 1 then (kK (R l0 2) = 3 ∧ (kK (R (R l0 2) 2) = 21 ∧ (rg (l2 * 4) ∧ (rg ((l2 * 4) + 3) ∧ (P6_takeTrait l0 14 99 I R (fun r5 I5 => (((0 : Int) ≤ ((l2 * 4) + 3) ∧ ((l2 * 4) + 3) < (kN (R (R l0 2) 2) : Int)) ∧ wLet (up I5 (R (R l0 2) 2) ((l2 * 4) + 3) r5) (fun I6 => (P6_readOne_b128 l0 l1 I6 R Q))))))))) else (P6_readOne_b128 l0 l1 I R Q)) else (kK (R l0 2) = 3 ∧ (kK (R (R l0 2) 2) = 21 ∧ (rg (l2 * 4) ∧ (rg ((l2 * 4) + l3) ∧ (rg (11 + l3) ∧ (P6_takeTrait l0 (11 + l3) 9 I R (fun r6 I7 => (((0 : Int) ≤ ((l2 * 4) + l3) ∧ ((l2 * 4) + l3) < (kN (R (R l0 2) 2) : Int)) ∧ wLet (up I7 (R (R l0 2) 2) ((l2 * 4) + l3) r6) (fun I8 => (rg (l3 + 1) ∧ (k68 (l3 + 1) I8))))))))))))
def P6_readOne_b68 (l0 : Nat) (l1 : Int) (l2 : Int) (R : mR) (Q : mI → Prop) : Nat → Int → mI → Prop
  | 0 => fun _ _ => False
  | f + 1 => fun l3 I => P6_readOne_b68_body l0 l1 l2 R Q (P6_readOne_b68 l0 l1 l2 R Q f) l3 I
set_option maxRecDepth 20000 in
theorem W6_readOne_b68_body {C : wX} {ad : Nat → Nat} {n : Nat} {I J : mI} {R : mR} {Q : mI → Prop} (hC : wOK C cX6_readOne 4 RX6) (hRm : wRm C 5 97 0 0) (hE : wEnd C none ad n (fun _ I' J' R' => (J' = J ∧ R' = R) ∧ Q I')) {l0 : Nat} {l1 : Int} {l2 : Int} {l3 : Int}   (hk0 : kK l0 = 6)  {k68 : Int → mI → Prop} (kk68 : ∀ (y3 : Int) (I' : mI), k68 y3 I' → WM C ad n I' J R 0 0 68 [(0, vr l0), (1, vi l1), (2, vi l2), (3, vi y3)] []) (hw : P6_readOne_b68_body l0 l1 l2 R Q k68 l3 I) : WM C ad n I J R 0 0 68 [(0, vr l0), (1, vi l1), (2, vi l2), (3, vi l3)] [] := by
  unfold P6_readOne_b68_body at hw
  refine wm_iload_n hC 3 dX6_readOne_68 rfl ?_
  refine wm_iconst hC dX6_readOne_69 (k := ?_)
  refine wm_icmp_ge (tgt := 102) hC dX6_readOne_70 (by decide) hw (fun hw => ?_) (fun hw => ?_)
  · refine wm_iload_n hC 1 dX6_readOne_102 rfl ?_
    refine wm_iconst hC dX6_readOne_103 (k := ?_)
    refine wm_icmp_ne (tgt := 128) hC dX6_readOne_104 (by decide) hw (fun hw => ?_) (fun hw => ?_)
    · refine wm_aload_n hC 0 dX6_readOne_107 rfl (k_ne0 hk0 (by decide)) ?_
      refine x_getR2 hC 2 fl_X6_38 rfl hk0 dX6_readOne_108 hw (fun g8 hw => ?_)
      refine x_getR2 hC 2 fl_X6_149 rfl g8 dX6_readOne_111 hw (fun g9 hw => ?_)
      refine wm_iload_n hC 2 dX6_readOne_114 rfl ?_
      refine wm_iconst hC dX6_readOne_115 (k := ?_)
      refine x_imul hC dX6_readOne_116 hw (fun hw => ?_)
      refine wm_iconst hC dX6_readOne_117 (k := ?_)
      refine x_iadd hC dX6_readOne_118 hw (fun hw => ?_)
      refine wm_aload_n hC 0 dX6_readOne_119 rfl (k_ne0 hk0 (by decide)) ?_
      refine wm_bipush hC dX6_readOne_120 (k := ?_)
      refine wm_bipush hC dX6_readOne_122 (k := ?_)
      refine y_callV_i_I hC hRm ml_X6_152 hk0 (C6_takeTrait hk0 hw) (Nat.le_of_ble_eq_true rfl) (Nat.le_of_ble_eq_true rfl) ⟨Nat.zero_le _, Nat.zero_le _⟩ rfl (st := [vi ((l2 * 4) + 3), vr (R (R l0 2) 2)]) rfl (Nat.le_of_ble_eq_true rfl) dX6_readOne_124 (fun r5 I5 hw => ?_)
      refine x_iast hC g9 dX6_readOne_127 hw (fun I6 hw => ?_)
      refine wm_sub [0, 1] (L2 := [(0, vr l0), (1, vi l1)]) rfl ?_
      exact W6_readOne_b128 hC hRm hE hk0 hw
    · refine wm_sub [0, 1] (L2 := [(0, vr l0), (1, vi l1)]) rfl ?_
      exact W6_readOne_b128 hC hRm hE hk0 hw
  · refine wm_aload_n hC 0 dX6_readOne_73 rfl (k_ne0 hk0 (by decide)) ?_
    refine x_getR2 hC 2 fl_X6_38 rfl hk0 dX6_readOne_74 hw (fun g10 hw => ?_)
    refine x_getR2 hC 2 fl_X6_149 rfl g10 dX6_readOne_77 hw (fun g11 hw => ?_)
    refine wm_iload_n hC 2 dX6_readOne_80 rfl ?_
    refine wm_iconst hC dX6_readOne_81 (k := ?_)
    refine x_imul hC dX6_readOne_82 hw (fun hw => ?_)
    refine wm_iload_n hC 3 dX6_readOne_83 rfl ?_
    refine x_iadd hC dX6_readOne_84 hw (fun hw => ?_)
    refine wm_aload_n hC 0 dX6_readOne_85 rfl (k_ne0 hk0 (by decide)) ?_
    refine wm_bipush hC dX6_readOne_86 (k := ?_)
    refine wm_iload_n hC 3 dX6_readOne_88 rfl ?_
    refine x_iadd hC dX6_readOne_89 hw (fun hw => ?_)
    refine wm_bipush hC dX6_readOne_90 (k := ?_)
    refine y_callV_i_I hC hRm ml_X6_152 hk0 (C6_takeTrait hk0 hw) (Nat.le_of_ble_eq_true rfl) (Nat.le_of_ble_eq_true rfl) ⟨Nat.zero_le _, Nat.zero_le _⟩ rfl (st := [vi ((l2 * 4) + l3), vr (R (R l0 2) 2)]) rfl (Nat.le_of_ble_eq_true rfl) dX6_readOne_92 (fun r6 I7 hw => ?_)
    refine x_iast hC g11 dX6_readOne_95 hw (fun I8 hw => ?_)
    refine x_iinc hC 3 dX6_readOne_96 rfl (by decide) (L2 := [(3, vi (l3 + 1)), (0, vr l0), (1, vi l1), (2, vi l2)]) rfl hw (fun hw => ?_)
    refine wm_goto (tgt := 68) hC dX6_readOne_99 (by decide) ?_
    refine wm_sub [1, 2, 3, 0] (L2 := [(0, vr l0), (1, vi l1), (2, vi l2), (3, vi (l3 + 1))]) rfl ?_
    exact kk68 _ _ hw
set_option maxRecDepth 20000 in
theorem W6_readOne_b68 {C : wX} {ad : Nat → Nat} {n : Nat} {J : mI} {R : mR} {Q : mI → Prop} (hC : wOK C cX6_readOne 4 RX6) (hRm : wRm C 5 97 0 0) (hE : wEnd C none ad n (fun _ I' J' R' => (J' = J ∧ R' = R) ∧ Q I')) {l0 : Nat} {l1 : Int} {l2 : Int}   (hk0 : kK l0 = 6)  : ∀ (f : Nat) (l3 : Int) (I : mI), P6_readOne_b68 l0 l1 l2 R Q f l3 I → WM C ad n I J R 0 0 68 [(0, vr l0), (1, vi l1), (2, vi l2), (3, vi l3)] [] := by
  intro f
  induction f with
  | zero => intro l3 I hw; exact hw.elim
  | succ f ih => intro l3 I hw; exact W6_readOne_b68_body hC hRm hE hk0 (fun a0 a1 hw => ih a0 a1 hw) hw
def P6_readOne (l0 : Nat) (l1 : Int) (I : mI) (R : mR) (Q : mI → Prop) : Prop := (P6_isName l0 I R (fun r1 I1 => (if r1 = 0 then (Q I1) else (kK (R l0 1) = 10 ∧ (P10_valueHere (R l0 1) I1 R (fun r2 => (P6_isTaken l0 r2 I1 R (fun r3 => (if r3 = 0 then (rg (l1 * 6) ∧ (kK (R l0 2) = 3 ∧ (kK (R (R l0 2) 0) = 21 ∧ (((0 : Int) ≤ l1 ∧ l1 < (kN (R (R l0 2) 0) : Int)) ∧ (rg ((l1 * 6) + (I1 (R (R l0 2) 0) l1)) ∧ (wLet ((l1 * 6) + (I1 (R (R l0 2) 0) l1)) (fun x1 => (kK (R l0 2) = 3 ∧ (kK (R (R l0 2) 1) = 21 ∧ (kK (R l0 1) = 10 ∧ (P10_valueHere (R l0 1) I1 R (fun r4 => (((0 : Int) ≤ x1 ∧ x1 < (kN (R (R l0 2) 1) : Int)) ∧ wLet (up I1 (R (R l0 2) 1) x1 r4) (fun I2 => (kK (R l0 1) = 10 ∧ (P10_step (R l0 1) I2 (fun I3 => (∃ f, P6_readOne_b68 l0 l1 x1 R Q f 0 I3)))))))))))))))))) else (P6_fail l0 2 I1 R (fun I4 => (Q I4))))))))))))
set_option maxRecDepth 20000 in
theorem C6_readOne {ad : Nat → Nat} {n : Nat} {I J : mI} {R : mR} {Q : mI → Prop} {l0 : Nat} {l1 : Int} (hk0 : kK l0 = 6) (hw : P6_readOne l0 l1 I R Q) : wMet yX6_readOne cX6_readOne 4 none 5 97 ad n I J R [vr l0, vi l1] (fun _ I' J' R' => (J' = J ∧ R' = R) ∧ Q I') := by
  refine wMet_of (by decide) (Nat.le_of_ble_eq_true rfl) (fun C hC hRm hE => ?_)
  refine (show WM C ad n I J R 0 0 0 [(0, vr l0), (1, vi l1)] [] from ?_)
  unfold P6_readOne at hw
  refine wm_aload_n hC 0 dX6_readOne_0 rfl (k_ne0 hk0 (by decide)) ?_
  refine y_callV_z_I hC hRm ml_X6_139 hk0 (C6_isName hk0 hw) (Nat.le_of_ble_eq_true rfl) (Nat.le_of_ble_eq_true rfl) ⟨Nat.zero_le _, Nat.zero_le _⟩ rfl (st := []) rfl (Nat.le_of_ble_eq_true rfl) dX6_readOne_1 (fun r1 I1 hw => ?_)
  refine wm_if_ne (tgt := 8) hC dX6_readOne_4 (by decide) hw (fun hw => ?_) (fun hw => ?_)
  · exact wm_return hC hE dX6_readOne_7 ⟨⟨rfl, rfl⟩, hw⟩
  · refine wm_aload_n hC 0 dX6_readOne_8 rfl (k_ne0 hk0 (by decide)) ?_
    refine wm_aload_n hC 0 dX6_readOne_9 rfl (k_ne0 hk0 (by decide)) ?_
    refine x_getR2 hC 1 fl_X6_12 rfl hk0 dX6_readOne_10 hw (fun g1 hw => ?_)
    refine y_callV_i_n hC hRm ml_X6_78 g1 (C10_valueHere g1 hw) (Nat.le_of_ble_eq_true rfl) (Nat.le_of_ble_eq_true rfl) ⟨Nat.zero_le _, Nat.zero_le _⟩ rfl (st := [vr l0]) rfl (Nat.le_of_ble_eq_true rfl) dX6_readOne_13 (fun r2 hw => ?_)
    refine y_callV_z_n hC hRm ml_X6_143 hk0 (C6_isTaken hk0 hw) (Nat.le_of_ble_eq_true rfl) (Nat.le_of_ble_eq_true rfl) ⟨Nat.zero_le _, Nat.zero_le _⟩ rfl (st := []) rfl (Nat.le_of_ble_eq_true rfl) dX6_readOne_16 (fun r3 hw => ?_)
    refine wm_if_eq (tgt := 28) hC dX6_readOne_19 (by decide) hw (fun hw => ?_) (fun hw => ?_)
    · refine wm_iload_n hC 1 dX6_readOne_28 rfl ?_
      refine wm_bipush hC dX6_readOne_29 (k := ?_)
      refine x_imul hC dX6_readOne_31 hw (fun hw => ?_)
      refine wm_aload_n hC 0 dX6_readOne_32 rfl (k_ne0 hk0 (by decide)) ?_
      refine x_getR2 hC 2 fl_X6_38 rfl hk0 dX6_readOne_33 hw (fun g2 hw => ?_)
      refine x_getR2 hC 0 fl_X6_132 rfl g2 dX6_readOne_36 hw (fun g3 hw => ?_)
      refine wm_iload_n hC 1 dX6_readOne_39 rfl ?_
      refine x_iald hC g3 dX6_readOne_40 hw (fun hw => ?_)
      refine x_iadd hC dX6_readOne_41 hw (fun hw => ?_)
      refine x_nameI hw (fun x1 hw => ?_)
      refine wm_istore_n hC dX6_readOne_42 (by decide) (L2 := [(2, vi x1), (0, vr l0), (1, vi l1)]) rfl ?_
      refine wm_aload_n hC 1 dX6_readOne_43 rfl (k_ne0 hk0 (by decide)) ?_
      refine x_getR2 hC 2 fl_X6_38 rfl hk0 dX6_readOne_44 hw (fun g4 hw => ?_)
      refine x_getR2 hC 1 fl_X6_146 rfl g4 dX6_readOne_47 hw (fun g5 hw => ?_)
      refine wm_iload_n hC 0 dX6_readOne_50 rfl ?_
      refine wm_aload_n hC 1 dX6_readOne_51 rfl (k_ne0 hk0 (by decide)) ?_
      refine x_getR2 hC 1 fl_X6_12 rfl hk0 dX6_readOne_52 hw (fun g6 hw => ?_)
      refine y_callV_i_n hC hRm ml_X6_78 g6 (C10_valueHere g6 hw) (Nat.le_of_ble_eq_true rfl) (Nat.le_of_ble_eq_true rfl) ⟨Nat.zero_le _, Nat.zero_le _⟩ rfl (st := [vi x1, vr (R (R l0 2) 1)]) rfl (Nat.le_of_ble_eq_true rfl) dX6_readOne_55 (fun r4 hw => ?_)
      refine x_iast hC g5 dX6_readOne_58 hw (fun I2 hw => ?_)
      refine wm_aload_n hC 1 dX6_readOne_59 rfl (k_ne0 hk0 (by decide)) ?_
      refine x_getR2 hC 1 fl_X6_12 rfl hk0 dX6_readOne_60 hw (fun g7 hw => ?_)
      refine y_callV_v_I hC hRm ml_X6_89 g7 (C10_step g7 hw) (Nat.le_of_ble_eq_true rfl) (Nat.le_of_ble_eq_true rfl) ⟨Nat.zero_le _, Nat.zero_le _⟩ rfl (st := []) rfl (Nat.le_of_ble_eq_true rfl) dX6_readOne_63 (fun I3 hw => ?_)
      refine wm_iconst hC dX6_readOne_66 (k := ?_)
      refine wm_istore_n hC dX6_readOne_67 (by decide) (L2 := [(3, vi 0), (2, vi x1), (0, vr l0), (1, vi l1)]) rfl ?_
      obtain ⟨f, hw⟩ := hw
      refine wm_sub [2, 3, 1, 0] (L2 := [(0, vr l0), (1, vi l1), (2, vi x1), (3, vi 0)]) rfl ?_
      exact W6_readOne_b68 hC hRm hE hk0 f _ _ hw
    · refine wm_aload_n hC 0 dX6_readOne_22 rfl (k_ne0 hk0 (by decide)) ?_
      refine wm_iconst hC dX6_readOne_23 (k := ?_)
      refine y_callV_v_I hC hRm ml_X6_92 hk0 (C6_fail hk0 hw) (Nat.le_of_ble_eq_true rfl) (Nat.le_of_ble_eq_true rfl) ⟨Nat.zero_le _, Nat.zero_le _⟩ rfl (st := []) rfl (Nat.le_of_ble_eq_true rfl) dX6_readOne_24 (fun I4 hw => ?_)
      exact wm_return hC hE dX6_readOne_27 ⟨⟨rfl, rfl⟩, hw⟩
def P6_findNamed (l0 : Nat) (l1 : Int) (I : mI) (R : mR) (Q : Int → mI → Prop) : Prop := (P6_isName l0 I R (fun r1 I1 => (if r1 = 0 then (Q (-1) I1) else (kK (R l0 2) = 3 ∧ (kK (R l0 1) = 10 ∧ (P10_valueHere (R l0 1) I1 R (fun r2 => (P3_find (R l0 2) l1 r2 I1 R (fun r3 => (if r3 = (-1) then (P6_fail l0 3 I1 R (fun I2 => (Q r3 I2))) else (Q r3 I1)))))))))))
set_option maxRecDepth 20000 in
theorem C6_findNamed {ad : Nat → Nat} {n : Nat} {I J : mI} {R : mR} {Q : Int → mI → Prop} {l0 : Nat} {l1 : Int} (hk0 : kK l0 = 6) (hw : P6_findNamed l0 l1 I R Q) : wMet yX6_findNamed cX6_findNamed 3 (some .int) 4 73 ad n I J R [vr l0, vi l1] (fun r I' J' R' => (J' = J ∧ R' = R) ∧ Q r I') := by
  refine wMet_of (by decide) (Nat.le_of_ble_eq_true rfl) (fun C hC hRm hE => ?_)
  refine (show WM C ad n I J R 0 0 0 [(0, vr l0), (1, vi l1)] [] from ?_)
  unfold P6_findNamed at hw
  refine wm_aload_n hC 0 dX6_findNamed_0 rfl (k_ne0 hk0 (by decide)) ?_
  refine y_callV_z_I hC hRm ml_X6_139 hk0 (C6_isName hk0 hw) (Nat.le_of_ble_eq_true rfl) (Nat.le_of_ble_eq_true rfl) ⟨Nat.zero_le _, Nat.zero_le _⟩ rfl (st := []) rfl (Nat.le_of_ble_eq_true rfl) dX6_findNamed_1 (fun r1 I1 hw => ?_)
  refine wm_if_ne (tgt := 9) hC dX6_findNamed_4 (by decide) hw (fun hw => ?_) (fun hw => ?_)
  · refine wm_iconst hC dX6_findNamed_7 (k := ?_)
    exact wm_ireturn hC hE dX6_findNamed_8 ⟨⟨rfl, rfl⟩, hw⟩
  · refine wm_aload_n hC 0 dX6_findNamed_9 rfl (k_ne0 hk0 (by decide)) ?_
    refine x_getR2 hC 2 fl_X6_38 rfl hk0 dX6_findNamed_10 hw (fun g1 hw => ?_)
    refine wm_iload_n hC 1 dX6_findNamed_13 rfl ?_
    refine wm_aload_n hC 0 dX6_findNamed_14 rfl (k_ne0 hk0 (by decide)) ?_
    refine x_getR2 hC 1 fl_X6_12 rfl hk0 dX6_findNamed_15 hw (fun g2 hw => ?_)
    refine y_callV_i_n hC hRm ml_X6_78 g2 (C10_valueHere g2 hw) (Nat.le_of_ble_eq_true rfl) (Nat.le_of_ble_eq_true rfl) ⟨Nat.zero_le _, Nat.zero_le _⟩ rfl (st := [vi l1, vr (R l0 2)]) rfl (Nat.le_of_ble_eq_true rfl) dX6_findNamed_18 (fun r2 hw => ?_)
    refine y_callV_i_n hC hRm ml_X6_174 g1 (C3_find g1 hw) (Nat.le_of_ble_eq_true rfl) (Nat.le_of_ble_eq_true rfl) ⟨Nat.zero_le _, Nat.zero_le _⟩ rfl (st := []) rfl (Nat.le_of_ble_eq_true rfl) dX6_findNamed_21 (fun r3 hw => ?_)
    refine wm_istore_n hC dX6_findNamed_24 (by decide) (L2 := [(2, vi r3), (0, vr l0), (1, vi l1)]) rfl ?_
    refine wm_iload_n hC 0 dX6_findNamed_25 rfl ?_
    refine wm_iconst hC dX6_findNamed_26 (k := ?_)
    refine wm_icmp_ne (tgt := 35) hC dX6_findNamed_27 (by decide) hw (fun hw => ?_) (fun hw => ?_)
    · refine wm_aload_n hC 1 dX6_findNamed_30 rfl (k_ne0 hk0 (by decide)) ?_
      refine wm_iconst hC dX6_findNamed_31 (k := ?_)
      refine y_callV_v_I hC hRm ml_X6_92 hk0 (C6_fail hk0 hw) (Nat.le_of_ble_eq_true rfl) (Nat.le_of_ble_eq_true rfl) ⟨Nat.zero_le _, Nat.zero_le _⟩ rfl (st := []) rfl (Nat.le_of_ble_eq_true rfl) dX6_findNamed_32 (fun I2 hw => ?_)
      refine wm_iload_n hC 0 dX6_findNamed_35 rfl ?_
      exact wm_ireturn hC hE dX6_findNamed_36 ⟨⟨rfl, rfl⟩, hw⟩
    · refine wm_iload_n hC 0 dX6_findNamed_35 rfl ?_
      exact wm_ireturn hC hE dX6_findNamed_36 ⟨⟨rfl, rfl⟩, hw⟩
def P6_readLate (l0 : Nat) (I : mI) (R : mR) (Q : mI → Prop) : Prop := (P6_findNamed l0 0 I R (fun r1 I1 => (if r1 = (-1) then (Q I1) else (kK (R l0 2) = 3 ∧ (P3_isLate (R l0 2) r1 I1 (fun r2 => (if r2 = 1 then (P6_fail l0 3 I1 R (fun I4 => (Q I4))) else (kK (R l0 2) = 3 ∧ (wLet (up I1 (R l0 2) 9 (bOr (I1 (R l0 2) 9) (bShl 1 r1))) (fun I2 => (kK (R l0 1) = 10 ∧ (P10_step (R l0 1) I2 (fun I3 => (Q I3))))))))))))))
set_option maxRecDepth 20000 in
theorem C6_readLate {ad : Nat → Nat} {n : Nat} {I J : mI} {R : mR} {Q : mI → Prop} {l0 : Nat} (hk0 : kK l0 = 6) (hw : P6_readLate l0 I R Q) : wMet yX6_readLate cX6_readLate 2 none 5 95 ad n I J R [vr l0] (fun _ I' J' R' => (J' = J ∧ R' = R) ∧ Q I') := by
  refine wMet_of (by decide) (Nat.le_of_ble_eq_true rfl) (fun C hC hRm hE => ?_)
  refine (show WM C ad n I J R 0 0 0 [(0, vr l0)] [] from ?_)
  unfold P6_readLate at hw
  refine wm_aload_n hC 0 dX6_readLate_0 rfl (k_ne0 hk0 (by decide)) ?_
  refine wm_iconst hC dX6_readLate_1 (k := ?_)
  refine y_callV_i_I hC hRm ml_X6_159 hk0 (C6_findNamed hk0 hw) (Nat.le_of_ble_eq_true rfl) (Nat.le_of_ble_eq_true rfl) ⟨Nat.zero_le _, Nat.zero_le _⟩ rfl (st := []) rfl (Nat.le_of_ble_eq_true rfl) dX6_readLate_2 (fun r1 I1 hw => ?_)
  refine wm_istore_n hC dX6_readLate_5 (by decide) (L2 := [(1, vi r1), (0, vr l0)]) rfl ?_
  refine wm_iload_n hC 0 dX6_readLate_6 rfl ?_
  refine wm_iconst hC dX6_readLate_7 (k := ?_)
  refine wm_icmp_ne (tgt := 12) hC dX6_readLate_8 (by decide) hw (fun hw => ?_) (fun hw => ?_)
  · exact wm_return hC hE dX6_readLate_11 ⟨⟨rfl, rfl⟩, hw⟩
  · refine wm_aload_n hC 1 dX6_readLate_12 rfl (k_ne0 hk0 (by decide)) ?_
    refine x_getR2 hC 2 fl_X6_38 rfl hk0 dX6_readLate_13 hw (fun g1 hw => ?_)
    refine wm_iload_n hC 0 dX6_readLate_16 rfl ?_
    refine y_callV_i_n hC hRm ml_X6_162 g1 (C3_isLate g1 hw) (Nat.le_of_ble_eq_true rfl) (Nat.le_of_ble_eq_true rfl) ⟨Nat.zero_le _, Nat.zero_le _⟩ rfl (st := []) rfl (Nat.le_of_ble_eq_true rfl) dX6_readLate_17 (fun r2 hw => ?_)
    refine wm_iconst hC dX6_readLate_20 (k := ?_)
    refine wm_icmp_ne (tgt := 30) hC dX6_readLate_21 (by decide) hw (fun hw => ?_) (fun hw => ?_)
    · refine wm_aload_n hC 1 dX6_readLate_24 rfl (k_ne0 hk0 (by decide)) ?_
      refine wm_iconst hC dX6_readLate_25 (k := ?_)
      refine y_callV_v_I hC hRm ml_X6_92 hk0 (C6_fail hk0 hw) (Nat.le_of_ble_eq_true rfl) (Nat.le_of_ble_eq_true rfl) ⟨Nat.zero_le _, Nat.zero_le _⟩ rfl (st := []) rfl (Nat.le_of_ble_eq_true rfl) dX6_readLate_26 (fun I4 hw => ?_)
      exact wm_return hC hE dX6_readLate_29 ⟨⟨rfl, rfl⟩, hw⟩
    · refine wm_aload_n hC 1 dX6_readLate_30 rfl (k_ne0 hk0 (by decide)) ?_
      refine x_getR2 hC 2 fl_X6_38 rfl hk0 dX6_readLate_31 hw (fun g2 hw => ?_)
      refine wm_dup hC dX6_readLate_34 (k := ?_)
      refine x_getI hC 9 fl_X6_165 rfl g2 dX6_readLate_35 ?_
      refine wm_iconst hC dX6_readLate_38 (k := ?_)
      refine wm_iload_n hC 0 dX6_readLate_39 rfl ?_
      refine wm_ishl hC dX6_readLate_40 ?_
      refine wm_ior hC dX6_readLate_41 ?_
      refine x_putI hC 9 fl_X6_165 rfl g2 dX6_readLate_42 hw (fun I2 hw => ?_)
      refine wm_aload_n hC 1 dX6_readLate_45 rfl (k_ne0 hk0 (by decide)) ?_
      refine x_getR2 hC 1 fl_X6_12 rfl hk0 dX6_readLate_46 hw (fun g3 hw => ?_)
      refine y_callV_v_I hC hRm ml_X6_89 g3 (C10_step g3 hw) (Nat.le_of_ble_eq_true rfl) (Nat.le_of_ble_eq_true rfl) ⟨Nat.zero_le _, Nat.zero_le _⟩ rfl (st := []) rfl (Nat.le_of_ble_eq_true rfl) dX6_readLate_49 (fun I3 hw => ?_)
      exact wm_return hC hE dX6_readLate_52 ⟨⟨rfl, rfl⟩, hw⟩
def P6_readNear (l0 : Nat) (I : mI) (R : mR) (Q : mI → Prop) : Prop := (P6_findNamed l0 2 I R (fun r1 I1 => (if r1 = (-1) then (Q I1) else (kK (R l0 1) = 10 ∧ (P10_step (R l0 1) I1 (fun I2 => (P6_findNamed l0 2 I2 R (fun r2 I3 => (if r2 = (-1) then (Q I3) else (if r1 = r2 then (P6_fail l0 3 I3 R (fun I4 => (Q I4))) else (kK (R l0 2) = 3 ∧ (kK (R (R l0 2) 3) = 21 ∧ (((0 : Int) ≤ r1 ∧ r1 < (kN (R (R l0 2) 3) : Int)) ∧ (if (bAnd (bShr (I3 (R (R l0 2) 3) r1) r2) 1) = 1 then (P6_fail l0 3 I3 R (fun I8 => (Q I8))) else (kK (R l0 2) = 3 ∧ (kK (R (R l0 2) 3) = 21 ∧ (((0 : Int) ≤ r1 ∧ r1 < (kN (R (R l0 2) 3) : Int)) ∧ (((0 : Int) ≤ r1 ∧ r1 < (kN (R (R l0 2) 3) : Int)) ∧ wLet (up I3 (R (R l0 2) 3) r1 (bOr (I3 (R (R l0 2) 3) r1) (bShl 1 r2))) (fun I5 => (kK (R l0 2) = 3 ∧ (kK (R (R l0 2) 3) = 21 ∧ (((0 : Int) ≤ r2 ∧ r2 < (kN (R (R l0 2) 3) : Int)) ∧ (((0 : Int) ≤ r2 ∧ r2 < (kN (R (R l0 2) 3) : Int)) ∧ wLet (up I5 (R (R l0 2) 3) r2 (bOr (I5 (R (R l0 2) 3) r2) (bShl 1 r1))) (fun I6 => (kK (R l0 1) = 10 ∧ (P10_step (R l0 1) I6 (fun I7 => (Q I7))))))))))))))))))))))))))))
set_option maxRecDepth 20000 in
theorem C6_readNear {ad : Nat → Nat} {n : Nat} {I J : mI} {R : mR} {Q : mI → Prop} {l0 : Nat} (hk0 : kK l0 = 6) (hw : P6_readNear l0 I R Q) : wMet yX6_readNear cX6_readNear 3 none 5 95 ad n I J R [vr l0] (fun _ I' J' R' => (J' = J ∧ R' = R) ∧ Q I') := by
  refine wMet_of (by decide) (Nat.le_of_ble_eq_true rfl) (fun C hC hRm hE => ?_)
  refine (show WM C ad n I J R 0 0 0 [(0, vr l0)] [] from ?_)
  unfold P6_readNear at hw
  refine wm_aload_n hC 0 dX6_readNear_0 rfl (k_ne0 hk0 (by decide)) ?_
  refine wm_iconst hC dX6_readNear_1 (k := ?_)
  refine y_callV_i_I hC hRm ml_X6_159 hk0 (C6_findNamed hk0 hw) (Nat.le_of_ble_eq_true rfl) (Nat.le_of_ble_eq_true rfl) ⟨Nat.zero_le _, Nat.zero_le _⟩ rfl (st := []) rfl (Nat.le_of_ble_eq_true rfl) dX6_readNear_2 (fun r1 I1 hw => ?_)
  refine wm_istore_n hC dX6_readNear_5 (by decide) (L2 := [(1, vi r1), (0, vr l0)]) rfl ?_
  refine wm_iload_n hC 0 dX6_readNear_6 rfl ?_
  refine wm_iconst hC dX6_readNear_7 (k := ?_)
  refine wm_icmp_ne (tgt := 12) hC dX6_readNear_8 (by decide) hw (fun hw => ?_) (fun hw => ?_)
  · exact wm_return hC hE dX6_readNear_11 ⟨⟨rfl, rfl⟩, hw⟩
  · refine wm_aload_n hC 1 dX6_readNear_12 rfl (k_ne0 hk0 (by decide)) ?_
    refine x_getR2 hC 1 fl_X6_12 rfl hk0 dX6_readNear_13 hw (fun g1 hw => ?_)
    refine y_callV_v_I hC hRm ml_X6_89 g1 (C10_step g1 hw) (Nat.le_of_ble_eq_true rfl) (Nat.le_of_ble_eq_true rfl) ⟨Nat.zero_le _, Nat.zero_le _⟩ rfl (st := []) rfl (Nat.le_of_ble_eq_true rfl) dX6_readNear_16 (fun I2 hw => ?_)
    refine wm_aload_n hC 1 dX6_readNear_19 rfl (k_ne0 hk0 (by decide)) ?_
    refine wm_iconst hC dX6_readNear_20 (k := ?_)
    refine y_callV_i_I hC hRm ml_X6_159 hk0 (C6_findNamed hk0 hw) (Nat.le_of_ble_eq_true rfl) (Nat.le_of_ble_eq_true rfl) ⟨Nat.zero_le _, Nat.zero_le _⟩ rfl (st := []) rfl (Nat.le_of_ble_eq_true rfl) dX6_readNear_21 (fun r2 I3 hw => ?_)
    refine wm_istore_n hC dX6_readNear_24 (by decide) (L2 := [(2, vi r2), (1, vi r1), (0, vr l0)]) rfl ?_
    refine wm_iload_n hC 0 dX6_readNear_25 rfl ?_
    refine wm_iconst hC dX6_readNear_26 (k := ?_)
    refine wm_icmp_ne (tgt := 31) hC dX6_readNear_27 (by decide) hw (fun hw => ?_) (fun hw => ?_)
    · exact wm_return hC hE dX6_readNear_30 ⟨⟨rfl, rfl⟩, hw⟩
    · refine wm_iload_n hC 1 dX6_readNear_31 rfl ?_
      refine wm_iload_n hC 0 dX6_readNear_32 rfl ?_
      refine wm_icmp_eq (tgt := 53) hC dX6_readNear_33 (by decide) hw (fun hw => ?_) (fun hw => ?_)
      · refine wm_aload_n hC 2 dX6_readNear_53 rfl (k_ne0 hk0 (by decide)) ?_
        refine wm_iconst hC dX6_readNear_54 (k := ?_)
        refine y_callV_v_I hC hRm ml_X6_92 hk0 (C6_fail hk0 hw) (Nat.le_of_ble_eq_true rfl) (Nat.le_of_ble_eq_true rfl) ⟨Nat.zero_le _, Nat.zero_le _⟩ rfl (st := []) rfl (Nat.le_of_ble_eq_true rfl) dX6_readNear_55 (fun I4 hw => ?_)
        exact wm_return hC hE dX6_readNear_58 ⟨⟨rfl, rfl⟩, hw⟩
      · refine wm_aload_n hC 2 dX6_readNear_36 rfl (k_ne0 hk0 (by decide)) ?_
        refine x_getR2 hC 2 fl_X6_38 rfl hk0 dX6_readNear_37 hw (fun g2 hw => ?_)
        refine x_getR2 hC 3 fl_X6_168 rfl g2 dX6_readNear_40 hw (fun g3 hw => ?_)
        refine wm_iload_n hC 1 dX6_readNear_43 rfl ?_
        refine x_iald hC g3 dX6_readNear_44 hw (fun hw => ?_)
        refine wm_iload_n hC 0 dX6_readNear_45 rfl ?_
        refine wm_ishr hC dX6_readNear_46 ?_
        refine wm_iconst hC dX6_readNear_47 (k := ?_)
        refine wm_iand hC dX6_readNear_48 ?_
        refine wm_iconst hC dX6_readNear_49 (k := ?_)
        refine wm_icmp_ne (tgt := 59) hC dX6_readNear_50 (by decide) hw (fun hw => ?_) (fun hw => ?_)
        · refine wm_aload_n hC 2 dX6_readNear_53 rfl (k_ne0 hk0 (by decide)) ?_
          refine wm_iconst hC dX6_readNear_54 (k := ?_)
          refine y_callV_v_I hC hRm ml_X6_92 hk0 (C6_fail hk0 hw) (Nat.le_of_ble_eq_true rfl) (Nat.le_of_ble_eq_true rfl) ⟨Nat.zero_le _, Nat.zero_le _⟩ rfl (st := []) rfl (Nat.le_of_ble_eq_true rfl) dX6_readNear_55 (fun I8 hw => ?_)
          exact wm_return hC hE dX6_readNear_58 ⟨⟨rfl, rfl⟩, hw⟩
        · refine wm_aload_n hC 2 dX6_readNear_59 rfl (k_ne0 hk0 (by decide)) ?_
          refine x_getR2 hC 2 fl_X6_38 rfl hk0 dX6_readNear_60 hw (fun g4 hw => ?_)
          refine x_getR2 hC 3 fl_X6_168 rfl g4 dX6_readNear_63 hw (fun g5 hw => ?_)
          refine wm_iload_n hC 1 dX6_readNear_66 rfl ?_
          refine wm_dup2_11 hC dX6_readNear_67 (k := ?_)
          refine x_iald hC g5 dX6_readNear_68 hw (fun hw => ?_)
          refine wm_iconst hC dX6_readNear_69 (k := ?_)
          refine wm_iload_n hC 0 dX6_readNear_70 rfl ?_
          refine wm_ishl hC dX6_readNear_71 ?_
          refine wm_ior hC dX6_readNear_72 ?_
          refine x_iast hC g5 dX6_readNear_73 hw (fun I5 hw => ?_)
          refine wm_aload_n hC 2 dX6_readNear_74 rfl (k_ne0 hk0 (by decide)) ?_
          refine x_getR2 hC 2 fl_X6_38 rfl hk0 dX6_readNear_75 hw (fun g6 hw => ?_)
          refine x_getR2 hC 3 fl_X6_168 rfl g6 dX6_readNear_78 hw (fun g7 hw => ?_)
          refine wm_iload_n hC 0 dX6_readNear_81 rfl ?_
          refine wm_dup2_11 hC dX6_readNear_82 (k := ?_)
          refine x_iald hC g7 dX6_readNear_83 hw (fun hw => ?_)
          refine wm_iconst hC dX6_readNear_84 (k := ?_)
          refine wm_iload_n hC 1 dX6_readNear_85 rfl ?_
          refine wm_ishl hC dX6_readNear_86 ?_
          refine wm_ior hC dX6_readNear_87 ?_
          refine x_iast hC g7 dX6_readNear_88 hw (fun I6 hw => ?_)
          refine wm_aload_n hC 2 dX6_readNear_89 rfl (k_ne0 hk0 (by decide)) ?_
          refine x_getR2 hC 1 fl_X6_12 rfl hk0 dX6_readNear_90 hw (fun g8 hw => ?_)
          refine y_callV_v_I hC hRm ml_X6_89 g8 (C10_step g8 hw) (Nat.le_of_ble_eq_true rfl) (Nat.le_of_ble_eq_true rfl) ⟨Nat.zero_le _, Nat.zero_le _⟩ rfl (st := []) rfl (Nat.le_of_ble_eq_true rfl) dX6_readNear_93 (fun I7 hw => ?_)
          exact wm_return hC hE dX6_readNear_96 ⟨⟨rfl, rfl⟩, hw⟩
