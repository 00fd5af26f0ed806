def P7_wornBy_b5_body (l0 : Nat) (l1 : Int) (l2 : Int) (I : mI) (R : mR) (Q : Int → Prop) (k5 : Int → Int → Prop) (l3 : Int) (l4 : Int) : Prop := (if l1 ≤ l4 then (Q l3) else (kK (R l0 5) = 21 ∧ (if (kN (R l0 5) : Int) ≤ l4 then (Q l3) else (kK (R l0 5) = 21 ∧ (((0 : Int) ≤ l4 ∧ l4 < (kN (R l0 5) : Int)) ∧ (if (I (R l0 5) l4) = l2 then (rg (l3 + 1) ∧ (rg (l4 + 1) ∧ (k5 (l3 + 1) (l4 + 1)))) else (rg (l3 + 0) ∧ (rg (l4 + 1) ∧ (k5 (l3 + 0) (l4 + 1))))))))))
def P7_wornBy_b5 (l0 : Nat) (l1 : Int) (l2 : Int) (I : mI) (R : mR) (Q : Int → Prop) : Nat → Int → Int → Prop
  | 0 => fun _ _ => False
  | f + 1 => fun l3 l4 => P7_wornBy_b5_body l0 l1 l2 I R Q (P7_wornBy_b5 l0 l1 l2 I R Q f) l3 l4
set_option maxRecDepth 20000 in
theorem W7_wornBy_b5_body {C : wX} {ad : Nat → Nat} {n : Nat} {I J : mI} {R : mR} {Q : Int → Prop} (hC : wOK C cX7_wornBy 5 RX7) (hRm : wRm C 1 12 0 0) (hE : wEnd C (some .int) ad n (fun r I' J' R' => (I' = I ∧ J' = J ∧ R' = R) ∧ Q r)) {l0 : Nat} {l1 : Int} {l2 : Int} {l3 : Int} {l4 : Int}   (hk0 : kK l0 = 7)  {k5 : Int → Int → Prop} (kk5 : ∀ (y3 : Int) (y4 : Int), k5 y3 y4 → WM C ad n I J R 0 0 5 [(0, vr l0), (1, vi l1), (2, vi l2), (3, vi y3), (4, vi y4)] []) (hw : P7_wornBy_b5_body l0 l1 l2 I R Q k5 l3 l4) : WM C ad n I J R 0 0 5 [(0, vr l0), (1, vi l1), (2, vi l2), (3, vi l3), (4, vi l4)] [] := by
  unfold P7_wornBy_b5_body at hw
  refine wm_iload hC 4 dX7_wornBy_5 rfl ?_
  refine wm_iload_n hC 1 dX7_wornBy_7 rfl ?_
  refine wm_icmp_ge (tgt := 46) hC dX7_wornBy_8 (by decide) hw (fun hw => ?_) (fun hw => ?_)
  · refine wm_iload_n hC 3 dX7_wornBy_46 rfl ?_
    exact wm_ireturn hC hE dX7_wornBy_47 ⟨⟨rfl, rfl, rfl⟩, hw⟩
  · refine wm_iload hC 4 dX7_wornBy_11 rfl ?_
    refine wm_aload_n hC 0 dX7_wornBy_13 rfl (k_ne0 hk0 (by decide)) ?_
    refine x_getR2 hC 5 fl_X7_28 rfl hk0 dX7_wornBy_14 hw (fun g1 hw => ?_)
    refine x_alen hC g1 (by decide) dX7_wornBy_17 ?_
    refine wm_icmp_ge (tgt := 46) hC dX7_wornBy_18 (by decide) hw (fun hw => ?_) (fun hw => ?_)
    · refine wm_iload_n hC 3 dX7_wornBy_46 rfl ?_
      exact wm_ireturn hC hE dX7_wornBy_47 ⟨⟨rfl, rfl, rfl⟩, hw⟩
    · refine wm_iload_n hC 3 dX7_wornBy_21 rfl ?_
      refine wm_aload_n hC 0 dX7_wornBy_22 rfl (k_ne0 hk0 (by decide)) ?_
      refine x_getR2 hC 5 fl_X7_28 rfl hk0 dX7_wornBy_23 hw (fun g2 hw => ?_)
      refine wm_iload hC 4 dX7_wornBy_26 rfl ?_
      refine x_iald hC g2 dX7_wornBy_28 hw (fun hw => ?_)
      refine wm_iload_n hC 2 dX7_wornBy_29 rfl ?_
      refine wm_icmp_ne (tgt := 37) hC dX7_wornBy_30 (by decide) hw (fun hw => ?_) (fun hw => ?_)
      · refine wm_iconst hC dX7_wornBy_33 (k := ?_)
        refine wm_goto (tgt := 38) hC dX7_wornBy_34 (by decide) ?_
        refine x_iadd hC dX7_wornBy_38 hw (fun hw => ?_)
        refine wm_istore_n hC dX7_wornBy_39 (by decide) (L2 := [(3, vi (l3 + 1)), (0, vr l0), (1, vi l1), (2, vi l2), (4, vi l4)]) rfl ?_
        refine x_iinc hC 4 dX7_wornBy_40 rfl (by decide) (L2 := [(4, vi (l4 + 1)), (3, vi (l3 + 1)), (0, vr l0), (1, vi l1), (2, vi l2)]) rfl hw (fun hw => ?_)
        refine wm_goto (tgt := 5) hC dX7_wornBy_43 (by decide) ?_
        refine wm_sub [2, 3, 4, 1, 0] (L2 := [(0, vr l0), (1, vi l1), (2, vi l2), (3, vi (l3 + 1)), (4, vi (l4 + 1))]) rfl ?_
        exact kk5 _ _ hw
      · refine wm_iconst hC dX7_wornBy_37 (k := ?_)
        refine x_iadd hC dX7_wornBy_38 hw (fun hw => ?_)
        refine wm_istore_n hC dX7_wornBy_39 (by decide) (L2 := [(3, vi (l3 + 0)), (0, vr l0), (1, vi l1), (2, vi l2), (4, vi l4)]) rfl ?_
        refine x_iinc hC 4 dX7_wornBy_40 rfl (by decide) (L2 := [(4, vi (l4 + 1)), (3, vi (l3 + 0)), (0, vr l0), (1, vi l1), (2, vi l2)]) rfl hw (fun hw => ?_)
        refine wm_goto (tgt := 5) hC dX7_wornBy_43 (by decide) ?_
        refine wm_sub [2, 3, 4, 1, 0] (L2 := [(0, vr l0), (1, vi l1), (2, vi l2), (3, vi (l3 + 0)), (4, vi (l4 + 1))]) rfl ?_
        exact kk5 _ _ hw
set_option maxRecDepth 20000 in
theorem W7_wornBy_b5 {C : wX} {ad : Nat → Nat} {n : Nat} {I J : mI} {R : mR} {Q : Int → Prop} (hC : wOK C cX7_wornBy 5 RX7) (hRm : wRm C 1 12 0 0) (hE : wEnd C (some .int) ad n (fun r I' J' R' => (I' = I ∧ J' = J ∧ R' = R) ∧ Q r)) {l0 : Nat} {l1 : Int} {l2 : Int}   (hk0 : kK l0 = 7)  : ∀ (f : Nat) (l3 : Int) (l4 : Int), P7_wornBy_b5 l0 l1 l2 I R Q f l3 l4 → WM C ad n I J R 0 0 5 [(0, vr l0), (1, vi l1), (2, vi l2), (3, vi l3), (4, vi l4)] [] := by
  intro f
  induction f with
  | zero => intro l3 l4 hw; exact hw.elim
  | succ f ih => intro l3 l4 hw; exact W7_wornBy_b5_body hC hRm hE hk0 (fun a0 a1 hw => ih a0 a1 hw) hw
def P7_wornBy (l0 : Nat) (l1 : Int) (l2 : Int) (I : mI) (R : mR) (Q : Int → Prop) : Prop := (∃ f, P7_wornBy_b5 l0 l1 l2 I R Q f 0 0)
set_option maxRecDepth 20000 in
theorem C7_wornBy {ad : Nat → Nat} {n : Nat} {I J : mI} {R : mR} {Q : Int → Prop} {l0 : Nat} {l1 : Int} {l2 : Int} (hk0 : kK l0 = 7) (hw : P7_wornBy l0 l1 l2 I R Q) : wMet yX7_wornBy cX7_wornBy 5 (some .int) 1 12 ad n I J R [vr l0, vi l1, vi l2] (fun r I' J' R' => (I' = I ∧ J' = J ∧ R' = R) ∧ Q r) := by
  refine wMet_of (by decide) (Nat.le_of_ble_eq_true rfl) (fun C hC hRm hE => ?_)
  refine (show WM C ad n I J R 0 0 0 [(0, vr l0), (1, vi l1), (2, vi l2)] [] from ?_)
  unfold P7_wornBy at hw
  refine wm_iconst hC dX7_wornBy_0 (k := ?_)
  refine wm_istore_n hC dX7_wornBy_1 (by decide) (L2 := [(3, vi 0), (0, vr l0), (1, vi l1), (2, vi l2)]) rfl ?_
  refine wm_iconst hC dX7_wornBy_2 (k := ?_)
  refine wm_istore hC dX7_wornBy_3 (by decide) (L2 := [(4, vi 0), (3, vi 0), (0, vr l0), (1, vi l1), (2, vi l2)]) rfl ?_
  obtain ⟨f, hw⟩ := hw
  refine wm_sub [2, 3, 4, 1, 0] (L2 := [(0, vr l0), (1, vi l1), (2, vi l2), (3, vi 0), (4, vi 0)]) rfl ?_
  exact W7_wornBy_b5 hC hRm hE hk0 f _ _ hw
def P7_placeOf_b2_body (l0 : Nat) (l1 : Int) (l2 : Int) (I : mI) (R : mR) (Q : Int → Prop) (k2 : Int → Prop) (l3 : Int) : Prop := (if l2 ≤ l3 then (Q (-1)) else (kK (R l0 3) = 21 ∧ (if (kN (R l0 3) : Int) ≤ l3 then (Q (-1)) else (kK (R l0 3) = 21 ∧ (((0 : Int) ≤ l3 ∧ l3 < (kN (R l0 3) : Int)) ∧ (if (I (R l0 3) l3) = l1 then (Q l3) else (rg (l3 + 1) ∧ (k2 (l3 + 1)))))))))
def P7_placeOf_b2 (l0 : Nat) (l1 : Int) (l2 : Int) (I : mI) (R : mR) (Q : Int → Prop) : Nat → Int → Prop
  | 0 => fun _ => False
  | f + 1 => fun l3 => P7_placeOf_b2_body l0 l1 l2 I R Q (P7_placeOf_b2 l0 l1 l2 I R Q f) l3
set_option maxRecDepth 20000 in
theorem W7_placeOf_b2_body {C : wX} {ad : Nat → Nat} {n : Nat} {I J : mI} {R : mR} {Q : Int → Prop} (hC : wOK C cX7_placeOf 4 RX7) (hRm : wRm C 1 12 0 0) (hE : wEnd C (some .int) ad n (fun r I' J' R' => (I' = I ∧ J' = J ∧ R' = R) ∧ Q r)) {l0 : Nat} {l1 : Int} {l2 : Int} {l3 : Int}   (hk0 : kK l0 = 7)  {k2 : Int → Prop} (kk2 : ∀ (y3 : Int), k2 y3 → WM C ad n I J R 0 0 2 [(0, vr l0), (1, vi l1), (2, vi l2), (3, vi y3)] []) (hw : P7_placeOf_b2_body l0 l1 l2 I R Q k2 l3) : WM C ad n I J R 0 0 2 [(0, vr l0), (1, vi l1), (2, vi l2), (3, vi l3)] [] := by
  unfold P7_placeOf_b2_body at hw
  refine wm_iload_n hC 3 dX7_placeOf_2 rfl ?_
  refine wm_iload_n hC 2 dX7_placeOf_3 rfl ?_
  refine wm_icmp_ge (tgt := 34) hC dX7_placeOf_4 (by decide) hw (fun hw => ?_) (fun hw => ?_)
  · refine wm_iconst hC dX7_placeOf_34 (k := ?_)
    exact wm_ireturn hC hE dX7_placeOf_35 ⟨⟨rfl, rfl, rfl⟩, hw⟩
  · refine wm_iload_n hC 3 dX7_placeOf_7 rfl ?_
    refine wm_aload_n hC 0 dX7_placeOf_8 rfl (k_ne0 hk0 (by decide)) ?_
    refine x_getR2 hC 3 fl_X7_21 rfl hk0 dX7_placeOf_9 hw (fun g1 hw => ?_)
    refine x_alen hC g1 (by decide) dX7_placeOf_12 ?_
    refine wm_icmp_ge (tgt := 34) hC dX7_placeOf_13 (by decide) hw (fun hw => ?_) (fun hw => ?_)
    · refine wm_iconst hC dX7_placeOf_34 (k := ?_)
      exact wm_ireturn hC hE dX7_placeOf_35 ⟨⟨rfl, rfl, rfl⟩, hw⟩
    · refine wm_aload_n hC 0 dX7_placeOf_16 rfl (k_ne0 hk0 (by decide)) ?_
      refine x_getR2 hC 3 fl_X7_21 rfl hk0 dX7_placeOf_17 hw (fun g2 hw => ?_)
      refine wm_iload_n hC 3 dX7_placeOf_20 rfl ?_
      refine x_iald hC g2 dX7_placeOf_21 hw (fun hw => ?_)
      refine wm_iload_n hC 1 dX7_placeOf_22 rfl ?_
      refine wm_icmp_ne (tgt := 28) hC dX7_placeOf_23 (by decide) hw (fun hw => ?_) (fun hw => ?_)
      · refine wm_iload_n hC 3 dX7_placeOf_26 rfl ?_
        exact wm_ireturn hC hE dX7_placeOf_27 ⟨⟨rfl, rfl, rfl⟩, hw⟩
      · refine x_iinc hC 3 dX7_placeOf_28 rfl (by decide) (L2 := [(3, vi (l3 + 1)), (0, vr l0), (1, vi l1), (2, vi l2)]) rfl hw (fun hw => ?_)
        refine wm_goto (tgt := 2) hC dX7_placeOf_31 (by decide) ?_
        refine wm_sub [1, 2, 3, 0] (L2 := [(0, vr l0), (1, vi l1), (2, vi l2), (3, vi (l3 + 1))]) rfl ?_
        exact kk2 _ hw
set_option maxRecDepth 20000 in
theorem W7_placeOf_b2 {C : wX} {ad : Nat → Nat} {n : Nat} {I J : mI} {R : mR} {Q : Int → Prop} (hC : wOK C cX7_placeOf 4 RX7) (hRm : wRm C 1 12 0 0) (hE : wEnd C (some .int) ad n (fun r I' J' R' => (I' = I ∧ J' = J ∧ R' = R) ∧ Q r)) {l0 : Nat} {l1 : Int} {l2 : Int}   (hk0 : kK l0 = 7)  : ∀ (f : Nat) (l3 : Int), P7_placeOf_b2 l0 l1 l2 I R Q f l3 → WM C ad n I J R 0 0 2 [(0, vr l0), (1, vi l1), (2, vi l2), (3, vi l3)] [] := by
  intro f
  induction f with
  | zero => intro l3 hw; exact hw.elim
  | succ f ih => intro l3 hw; exact W7_placeOf_b2_body hC hRm hE hk0 (fun a0 hw => ih a0 hw) hw
def P7_placeOf (l0 : Nat) (l1 : Int) (l2 : Int) (I : mI) (R : mR) (Q : Int → Prop) : Prop := (∃ f, P7_placeOf_b2 l0 l1 l2 I R Q f 0)
set_option maxRecDepth 20000 in
theorem C7_placeOf {ad : Nat → Nat} {n : Nat} {I J : mI} {R : mR} {Q : Int → Prop} {l0 : Nat} {l1 : Int} {l2 : Int} (hk0 : kK l0 = 7) (hw : P7_placeOf l0 l1 l2 I R Q) : wMet yX7_placeOf cX7_placeOf 4 (some .int) 1 12 ad n I J R [vr l0, vi l1, vi l2] (fun r I' J' R' => (I' = I ∧ J' = J ∧ R' = R) ∧ Q r) := by
  refine wMet_of (by decide) (Nat.le_of_ble_eq_true rfl) (fun C hC hRm hE => ?_)
  refine (show WM C ad n I J R 0 0 0 [(0, vr l0), (1, vi l1), (2, vi l2)] [] from ?_)
  unfold P7_placeOf at hw
  refine wm_iconst hC dX7_placeOf_0 (k := ?_)
  refine wm_istore_n hC dX7_placeOf_1 (by decide) (L2 := [(3, vi 0), (0, vr l0), (1, vi l1), (2, vi l2)]) rfl ?_
  obtain ⟨f, hw⟩ := hw
  refine wm_sub [1, 2, 3, 0] (L2 := [(0, vr l0), (1, vi l1), (2, vi l2), (3, vi 0)]) rfl ?_
  exact W7_placeOf_b2 hC hRm hE hk0 f _ hw
def P3_isThere (l0 : Nat) (l1 : Int) (l2 : Int) (I : mI) (R : mR) (Q : Int → Prop) : Prop := (if l1 < 0 then (Q 0) else (kK (R l0 0) = 21 ∧ (if (kN (R l0 0) : Int) ≤ l1 then (Q 0) else (if l2 < 0 then (Q 0) else (kK (R l0 0) = 21 ∧ (((0 : Int) ≤ l1 ∧ l1 < (kN (R l0 0) : Int)) ∧ (if (I (R l0 0) l1) ≤ l2 then (Q 0) else (Q 1))))))))
set_option maxRecDepth 20000 in
theorem C3_isThere {ad : Nat → Nat} {n : Nat} {I J : mI} {R : mR} {Q : Int → Prop} {l0 : Nat} {l1 : Int} {l2 : Int} (hk0 : kK l0 = 3) (hw : P3_isThere l0 l1 l2 I R Q) : wMet yX3_isThere cX3_isThere 3 (some .boolean) 1 12 ad n I J R [vr l0, vi l1, vi l2] (fun r I' J' R' => (I' = I ∧ J' = J ∧ R' = R) ∧ Q r) := by
  refine wMet_of (by decide) (Nat.le_of_ble_eq_true rfl) (fun C hC hRm hE => ?_)
  refine (show WM C ad n I J R 0 0 0 [(0, vr l0), (1, vi l1), (2, vi l2)] [] from ?_)
  unfold P3_isThere at hw
  refine wm_iload_n hC 1 dX3_isThere_0 rfl ?_
  refine wm_if_lt (tgt := 31) hC dX3_isThere_1 (by decide) hw (fun hw => ?_) (fun hw => ?_)
  · refine wm_iconst hC dX3_isThere_31 (k := ?_)
    exact wm_zreturn hC hE (Or.inl rfl) dX3_isThere_32 ⟨⟨rfl, rfl, rfl⟩, hw⟩
  · refine wm_iload_n hC 1 dX3_isThere_4 rfl ?_
    refine wm_aload_n hC 0 dX3_isThere_5 rfl (k_ne0 hk0 (by decide)) ?_
    refine x_getR2 hC 0 fl_X3_9 rfl hk0 dX3_isThere_6 hw (fun g1 hw => ?_)
    refine x_alen hC g1 (by decide) dX3_isThere_9 ?_
    refine wm_icmp_ge (tgt := 31) hC dX3_isThere_10 (by decide) hw (fun hw => ?_) (fun hw => ?_)
    · refine wm_iconst hC dX3_isThere_31 (k := ?_)
      exact wm_zreturn hC hE (Or.inl rfl) dX3_isThere_32 ⟨⟨rfl, rfl, rfl⟩, hw⟩
    · refine wm_iload_n hC 2 dX3_isThere_13 rfl ?_
      refine wm_if_lt (tgt := 31) hC dX3_isThere_14 (by decide) hw (fun hw => ?_) (fun hw => ?_)
      · refine wm_iconst hC dX3_isThere_31 (k := ?_)
        exact wm_zreturn hC hE (Or.inl rfl) dX3_isThere_32 ⟨⟨rfl, rfl, rfl⟩, hw⟩
      · refine wm_iload_n hC 2 dX3_isThere_17 rfl ?_
        refine wm_aload_n hC 0 dX3_isThere_18 rfl (k_ne0 hk0 (by decide)) ?_
        refine x_getR2 hC 0 fl_X3_9 rfl hk0 dX3_isThere_19 hw (fun g2 hw => ?_)
        refine wm_iload_n hC 1 dX3_isThere_22 rfl ?_
        refine x_iald hC g2 dX3_isThere_23 hw (fun hw => ?_)
        refine wm_icmp_ge (tgt := 31) hC dX3_isThere_24 (by decide) hw (fun hw => ?_) (fun hw => ?_)
        · refine wm_iconst hC dX3_isThere_31 (k := ?_)
          exact wm_zreturn hC hE (Or.inl rfl) dX3_isThere_32 ⟨⟨rfl, rfl, rfl⟩, hw⟩
        · refine wm_iconst hC dX3_isThere_27 (k := ?_)
          refine wm_goto (tgt := 32) hC dX3_isThere_28 (by decide) ?_
          exact wm_zreturn hC hE (Or.inr rfl) dX3_isThere_32 ⟨⟨rfl, rfl, rfl⟩, hw⟩
def P9_byteAt (l0 : Nat) (l1 : Int) (I : mI) (R : mR) (Q : Int → Prop) : Prop := (if l1 < 0 then (Q (-1)) else (if (I l0 1) ≤ l1 then (Q (-1)) else (kK (R l0 0) = 20 ∧ (if (kN (R l0 0) : Int) ≤ l1 then (Q (-1)) else (kK (R l0 0) = 20 ∧ (((0 : Int) ≤ l1 ∧ l1 < (kN (R l0 0) : Int)) ∧ (Q (bAnd (I (R l0 0) l1) 255))))))))
set_option maxRecDepth 20000 in
theorem C9_byteAt {ad : Nat → Nat} {n : Nat} {I J : mI} {R : mR} {Q : Int → Prop} {l0 : Nat} {l1 : Int} (hk0 : kK l0 = 9) (hw : P9_byteAt l0 l1 I R Q) : wMet yX9_byteAt cX9_byteAt 2 (some .int) 1 12 ad n I J R [vr l0, vi l1] (fun r I' J' R' => (I' = I ∧ J' = J ∧ R' = R) ∧ Q r) := by
  refine wMet_of (by decide) (Nat.le_of_ble_eq_true rfl) (fun C hC hRm hE => ?_)
  refine (show WM C ad n I J R 0 0 0 [(0, vr l0), (1, vi l1)] [] from ?_)
  unfold P9_byteAt at hw
  refine wm_iload_n hC 1 dX9_byteAt_0 rfl ?_
  refine wm_if_lt (tgt := 34) hC dX9_byteAt_1 (by decide) hw (fun hw => ?_) (fun hw => ?_)
  · refine wm_iconst hC dX9_byteAt_34 (k := ?_)
    exact wm_ireturn hC hE dX9_byteAt_35 ⟨⟨rfl, rfl, rfl⟩, hw⟩
  · refine wm_iload_n hC 1 dX9_byteAt_4 rfl ?_
    refine wm_aload_n hC 0 dX9_byteAt_5 rfl (k_ne0 hk0 (by decide)) ?_
    refine x_getI hC 1 fl_X9_15 rfl hk0 dX9_byteAt_6 ?_
    refine wm_icmp_ge (tgt := 34) hC dX9_byteAt_9 (by decide) hw (fun hw => ?_) (fun hw => ?_)
    · refine wm_iconst hC dX9_byteAt_34 (k := ?_)
      exact wm_ireturn hC hE dX9_byteAt_35 ⟨⟨rfl, rfl, rfl⟩, hw⟩
    · refine wm_iload_n hC 1 dX9_byteAt_12 rfl ?_
      refine wm_aload_n hC 0 dX9_byteAt_13 rfl (k_ne0 hk0 (by decide)) ?_
      refine x_getR2 hC 0 fl_X9_9 rfl hk0 dX9_byteAt_14 hw (fun g1 hw => ?_)
      refine x_alen hC g1 (by decide) dX9_byteAt_17 ?_
      refine wm_icmp_ge (tgt := 34) hC dX9_byteAt_18 (by decide) hw (fun hw => ?_) (fun hw => ?_)
      · refine wm_iconst hC dX9_byteAt_34 (k := ?_)
        exact wm_ireturn hC hE dX9_byteAt_35 ⟨⟨rfl, rfl, rfl⟩, hw⟩
      · refine wm_aload_n hC 0 dX9_byteAt_21 rfl (k_ne0 hk0 (by decide)) ?_
        refine x_getR2 hC 0 fl_X9_9 rfl hk0 dX9_byteAt_22 hw (fun g2 hw => ?_)
        refine wm_iload_n hC 1 dX9_byteAt_25 rfl ?_
        refine x_bald hC g2 dX9_byteAt_26 hw (fun hw => ?_)
        refine wm_sipush hC dX9_byteAt_27 (k := ?_)
        refine wm_iand hC dX9_byteAt_30 ?_
        refine wm_goto (tgt := 35) hC dX9_byteAt_31 (by decide) ?_
        exact wm_ireturn hC hE dX9_byteAt_35 ⟨⟨rfl, rfl, rfl⟩, hw⟩
def P7_keep_b35 (l0 : Nat) (l1 : Int) (l2 : Int) (I : mI) (R : mR) (Q : mI → Prop) : Prop := (kK (R l0 6) = 21 ∧ (rg (3 * (I l0 2)) ∧ (((0 : Int) ≤ (3 * (I l0 2)) ∧ (3 * (I l0 2)) < (kN (R l0 6) : Int)) ∧ wLet (up I (R l0 6) (3 * (I l0 2)) (I l0 0)) (fun I3 => (kK (R l0 6) = 21 ∧ (rg (3 * (I3 l0 2)) ∧ (rg ((3 * (I3 l0 2)) + 1) ∧ (((0 : Int) ≤ ((3 * (I3 l0 2)) + 1) ∧ ((3 * (I3 l0 2)) + 1) < (kN (R l0 6) : Int)) ∧ wLet (up I3 (R l0 6) ((3 * (I3 l0 2)) + 1) l1) (fun I4 => (kK (R l0 6) = 21 ∧ (rg (3 * (I4 l0 2)) ∧ (rg ((3 * (I4 l0 2)) + 2) ∧ (((0 : Int) ≤ ((3 * (I4 l0 2)) + 2) ∧ ((3 * (I4 l0 2)) + 2) < (kN (R l0 6) : Int)) ∧ wLet (up I4 (R l0 6) ((3 * (I4 l0 2)) + 2) l2) (fun I5 => (rg ((I5 l0 2) + 1) ∧ (wLet (up I5 l0 2 ((I5 l0 2) + 1)) (fun I6 => (Q I6))))))))))))))))))
set_option maxRecDepth 20000 in
theorem W7_keep_b35 {C : wX} {ad : Nat → Nat} {n : Nat} {I J : mI} {R : mR} {Q : mI → Prop} (hC : wOK C cX7_keep 3 RX7) (hRm : wRm C 1 60 0 0) (hE : wEnd C none ad n (fun _ I' J' R' => (J' = J ∧ R' = R) ∧ Q I')) {l0 : Nat} {l1 : Int} {l2 : Int}   (hk0 : kK l0 = 7)  (hw : P7_keep_b35 l0 l1 l2 I R Q) : WM C ad n I J R 0 0 35 [(0, vr l0), (1, vi l1), (2, vi l2)] [] := by
  unfold P7_keep_b35 at hw
  refine wm_aload_n hC 0 dX7_keep_35 rfl (k_ne0 hk0 (by decide)) ?_
  refine x_getR2 hC 6 fl_X7_31 rfl hk0 dX7_keep_36 hw (fun g4 hw => ?_)
  refine wm_iconst hC dX7_keep_39 (k := ?_)
  refine wm_aload_n hC 0 dX7_keep_40 rfl (k_ne0 hk0 (by decide)) ?_
  refine x_getI hC 2 fl_X7_18 rfl hk0 dX7_keep_41 ?_
  refine x_imul hC dX7_keep_44 hw (fun hw => ?_)
  refine wm_aload_n hC 0 dX7_keep_45 rfl (k_ne0 hk0 (by decide)) ?_
  refine x_getI hC 0 fl_X7_9 rfl hk0 dX7_keep_46 ?_
  refine x_iast hC g4 dX7_keep_49 hw (fun I3 hw => ?_)
  refine wm_aload_n hC 0 dX7_keep_50 rfl (k_ne0 hk0 (by decide)) ?_
  refine x_getR2 hC 6 fl_X7_31 rfl hk0 dX7_keep_51 hw (fun g5 hw => ?_)
  refine wm_iconst hC dX7_keep_54 (k := ?_)
  refine wm_aload_n hC 0 dX7_keep_55 rfl (k_ne0 hk0 (by decide)) ?_
  refine x_getI hC 2 fl_X7_18 rfl hk0 dX7_keep_56 ?_
  refine x_imul hC dX7_keep_59 hw (fun hw => ?_)
  refine wm_iconst hC dX7_keep_60 (k := ?_)
  refine x_iadd hC dX7_keep_61 hw (fun hw => ?_)
  refine wm_iload_n hC 1 dX7_keep_62 rfl ?_
  refine x_iast hC g5 dX7_keep_63 hw (fun I4 hw => ?_)
  refine wm_aload_n hC 0 dX7_keep_64 rfl (k_ne0 hk0 (by decide)) ?_
  refine x_getR2 hC 6 fl_X7_31 rfl hk0 dX7_keep_65 hw (fun g6 hw => ?_)
  refine wm_iconst hC dX7_keep_68 (k := ?_)
  refine wm_aload_n hC 0 dX7_keep_69 rfl (k_ne0 hk0 (by decide)) ?_
  refine x_getI hC 2 fl_X7_18 rfl hk0 dX7_keep_70 ?_
  refine x_imul hC dX7_keep_73 hw (fun hw => ?_)
  refine wm_iconst hC dX7_keep_74 (k := ?_)
  refine x_iadd hC dX7_keep_75 hw (fun hw => ?_)
  refine wm_iload_n hC 2 dX7_keep_76 rfl ?_
  refine x_iast hC g6 dX7_keep_77 hw (fun I5 hw => ?_)
  refine wm_aload_n hC 0 dX7_keep_78 rfl (k_ne0 hk0 (by decide)) ?_
  refine wm_dup hC dX7_keep_79 (k := ?_)
  refine x_getI hC 2 fl_X7_18 rfl hk0 dX7_keep_80 ?_
  refine wm_iconst hC dX7_keep_83 (k := ?_)
  refine x_iadd hC dX7_keep_84 hw (fun hw => ?_)
  refine x_putI hC 2 fl_X7_18 rfl hk0 dX7_keep_85 hw (fun I6 hw => ?_)
  exact wm_return hC hE dX7_keep_88 ⟨⟨rfl, rfl⟩, hw⟩
def P7_keep (l0 : Nat) (l1 : Int) (l2 : Int) (I : mI) (R : mR) (Q : mI → Prop) : Prop := (if (I l0 2) < 40 then (P7_keep_b35 l0 l1 l2 I R Q) else (kK (R l0 6) = 21 ∧ (kK (R l0 6) = 21 ∧ (kK (R l0 6) = 21 ∧ (rg ((kN (R l0 6) : Int) - 3) ∧ (((0 : Int) ≤ 3 ∧ (0 : Int) ≤ 0 ∧ (0 : Int) ≤ ((kN (R l0 6) : Int) - 3) ∧ (3 : Int) + ((kN (R l0 6) : Int) - 3) ≤ (kN (R l0 6) : Int) ∧ (0 : Int) + ((kN (R l0 6) : Int) - 3) ≤ (kN (R l0 6) : Int)) ∧ wLet (cpy I (R l0 6) 3 (R l0 6) 0 ((kN (R l0 6) : Int) - 3)) (fun I1 => (wLet (up I1 l0 2 39) (fun I2 => (P7_keep_b35 l0 l1 l2 I2 R Q))))))))))
set_option maxRecDepth 20000 in
theorem C7_keep {ad : Nat → Nat} {n : Nat} {I J : mI} {R : mR} {Q : mI → Prop} {l0 : Nat} {l1 : Int} {l2 : Int} (hk0 : kK l0 = 7) (hw : P7_keep l0 l1 l2 I R Q) : wMet yX7_keep cX7_keep 3 none 1 60 ad n I J R [vr l0, vi l1, vi l2] (fun _ I' J' R' => (J' = J ∧ R' = R) ∧ Q I') := by
  refine wMet_of (by decide) (Nat.le_of_ble_eq_true rfl) (fun C hC hRm hE => ?_)
  refine (show WM C ad n I J R 0 0 0 [(0, vr l0), (1, vi l1), (2, vi l2)] [] from ?_)
  unfold P7_keep at hw
  refine wm_aload_n hC 0 dX7_keep_0 rfl (k_ne0 hk0 (by decide)) ?_
  refine x_getI hC 2 fl_X7_18 rfl hk0 dX7_keep_1 ?_
  refine wm_bipush hC dX7_keep_4 (k := ?_)
  refine wm_icmp_lt (tgt := 35) hC dX7_keep_6 (by decide) hw (fun hw => ?_) (fun hw => ?_)
  · exact W7_keep_b35 hC hRm hE hk0 hw
  · refine wm_aload_n hC 0 dX7_keep_9 rfl (k_ne0 hk0 (by decide)) ?_
    refine x_getR2 hC 6 fl_X7_31 rfl hk0 dX7_keep_10 hw (fun g1 hw => ?_)
    refine wm_iconst hC dX7_keep_13 (k := ?_)
    refine wm_aload_n hC 0 dX7_keep_14 rfl (k_ne0 hk0 (by decide)) ?_
    refine x_getR2 hC 6 fl_X7_31 rfl hk0 dX7_keep_15 hw (fun g2 hw => ?_)
    refine wm_iconst hC dX7_keep_18 (k := ?_)
    refine wm_aload_n hC 0 dX7_keep_19 rfl (k_ne0 hk0 (by decide)) ?_
    refine x_getR2 hC 6 fl_X7_31 rfl hk0 dX7_keep_20 hw (fun g3 hw => ?_)
    refine x_alen hC g3 (by decide) dX7_keep_23 ?_
    refine wm_iconst hC dX7_keep_24 (k := ?_)
    refine x_isub hC dX7_keep_25 hw (fun hw => ?_)
    refine x_copyi hC hRm (st := []) g1 g2 cw_X7_42 (Nat.le_of_ble_eq_true rfl) (by decide) dX7_keep_26 hw (fun I1 hw => ?_)
    refine wm_aload_n hC 0 dX7_keep_29 rfl (k_ne0 hk0 (by decide)) ?_
    refine wm_bipush hC dX7_keep_30 (k := ?_)
    refine x_putI hC 2 fl_X7_18 rfl hk0 dX7_keep_32 hw (fun I2 hw => ?_)
    exact W7_keep_b35 hC hRm hE hk0 hw
def P12_isDigit (l0 : Int)  (Q : Int → Prop) : Prop := (if l0 < 48 then (Q 0) else (if (57 : Int) < l0 then (Q 0) else (Q 1)))
set_option maxRecDepth 20000 in
theorem C12_isDigit {ad : Nat → Nat} {n : Nat} {I J : mI} {R : mR} {Q : Int → Prop} {l0 : Int}  (hw : P12_isDigit l0 Q) : wMet yX12_isDigit cX12_isDigit 1 (some .boolean) 1 12 ad n I J R [vi l0] (fun r I' J' R' => (I' = I ∧ J' = J ∧ R' = R) ∧ Q r) := by
  refine wMet_of (by decide) (Nat.le_of_ble_eq_true rfl) (fun C hC hRm hE => ?_)
  refine (show WM C ad n I J R 0 0 0 [(0, vi l0)] [] from ?_)
  unfold P12_isDigit at hw
  refine wm_iload_n hC 0 dX12_isDigit_0 rfl ?_
  refine wm_bipush hC dX12_isDigit_1 (k := ?_)
  refine wm_icmp_lt (tgt := 16) hC dX12_isDigit_3 (by decide) hw (fun hw => ?_) (fun hw => ?_)
  · refine wm_iconst hC dX12_isDigit_16 (k := ?_)
    exact wm_zreturn hC hE (Or.inl rfl) dX12_isDigit_17 ⟨⟨rfl, rfl, rfl⟩, hw⟩
  · refine wm_iload_n hC 0 dX12_isDigit_6 rfl ?_
    refine wm_bipush hC dX12_isDigit_7 (k := ?_)
    refine wm_icmp_gt (tgt := 16) hC dX12_isDigit_9 (by decide) hw (fun hw => ?_) (fun hw => ?_)
    · refine wm_iconst hC dX12_isDigit_16 (k := ?_)
      exact wm_zreturn hC hE (Or.inl rfl) dX12_isDigit_17 ⟨⟨rfl, rfl, rfl⟩, hw⟩
    · refine wm_iconst hC dX12_isDigit_12 (k := ?_)
      refine wm_goto (tgt := 17) hC dX12_isDigit_13 (by decide) ?_
      exact wm_zreturn hC hE (Or.inr rfl) dX12_isDigit_17 ⟨⟨rfl, rfl, rfl⟩, hw⟩
def P12_isLetter (l0 : Int)  (Q : Int → Prop) : Prop := (if l0 < 97 then (Q 0) else (if (122 : Int) < l0 then (Q 0) else (Q 1)))
set_option maxRecDepth 20000 in
theorem C12_isLetter {ad : Nat → Nat} {n : Nat} {I J : mI} {R : mR} {Q : Int → Prop} {l0 : Int}  (hw : P12_isLetter l0 Q) : wMet yX12_isLetter cX12_isLetter 1 (some .boolean) 1 12 ad n I J R [vi l0] (fun r I' J' R' => (I' = I ∧ J' = J ∧ R' = R) ∧ Q r) := by
  refine wMet_of (by decide) (Nat.le_of_ble_eq_true rfl) (fun C hC hRm hE => ?_)
  refine (show WM C ad n I J R 0 0 0 [(0, vi l0)] [] from ?_)
  unfold P12_isLetter at hw
  refine wm_iload_n hC 0 dX12_isLetter_0 rfl ?_
  refine wm_bipush hC dX12_isLetter_1 (k := ?_)
  refine wm_icmp_lt (tgt := 16) hC dX12_isLetter_3 (by decide) hw (fun hw => ?_) (fun hw => ?_)
  · refine wm_iconst hC dX12_isLetter_16 (k := ?_)
    exact wm_zreturn hC hE (Or.inl rfl) dX12_isLetter_17 ⟨⟨rfl, rfl, rfl⟩, hw⟩
  · refine wm_iload_n hC 0 dX12_isLetter_6 rfl ?_
    refine wm_bipush hC dX12_isLetter_7 (k := ?_)
    refine wm_icmp_gt (tgt := 16) hC dX12_isLetter_9 (by decide) hw (fun hw => ?_) (fun hw => ?_)
    · refine wm_iconst hC dX12_isLetter_16 (k := ?_)
      exact wm_zreturn hC hE (Or.inl rfl) dX12_isLetter_17 ⟨⟨rfl, rfl, rfl⟩, hw⟩
    · refine wm_iconst hC dX12_isLetter_12 (k := ?_)
      refine wm_goto (tgt := 17) hC dX12_isLetter_13 (by decide) ?_
      exact wm_zreturn hC hE (Or.inr rfl) dX12_isLetter_17 ⟨⟨rfl, rfl, rfl⟩, hw⟩
def P12_ahead_b293 (l0 : Nat) (l1 : Int) (l2 : Int) (l3 : Int) (l4 : Int) (l5 : Int) (I : mI) (J : mI) (R : mR) (k204 : Int → Int → mI → mI → Prop) (Q : mI → mI → Prop) : Prop := (if l4 ≤ l5 then (rg (l5 + 1) ∧ (rg (l1 + 1) ∧ (k204 (l1 + 1) (l5 + 1) I J))) else (if l3 = 0 then (rg (l5 + 1) ∧ (rg (l1 + 1) ∧ (k204 (l1 + 1) (l5 + 1) I J))) else (rg (10 * (I l0 6)) ∧ (kK (R l0 0) = 21 ∧ (((0 : Int) ≤ l1 ∧ l1 < (kN (R l0 0) : Int)) ∧ (rg ((10 * (I l0 6)) + (I (R l0 0) l1)) ∧ (rg (((10 * (I l0 6)) + (I (R l0 0) l1)) - 48) ∧ (wLet (up I l0 6 (((10 * (I l0 6)) + (I (R l0 0) l1)) - 48)) (fun I15 => (rg (l5 + 1) ∧ (rg (l1 + 1) ∧ (k204 (l1 + 1) (l5 + 1) I15 J))))))))))))
set_option maxRecDepth 20000 in
theorem W12_ahead_b293 {C : wX} {ad : Nat → Nat} {n : Nat} {I J : mI} {R : mR} {Q : mI → mI → Prop} (hC : wOK C cX12_ahead 6 RX12) (hRm : wRm C 2 32 0 0) (hE : wEnd C none ad n (fun _ I' J' R' => (R' = R) ∧ Q I' J')) {l0 : Nat} {l1 : Int} {l2 : Int} {l3 : Int} {l4 : Int} {l5 : Int}  {k204 : Int → Int → mI → mI → Prop} (hk0 : kK l0 = 12) (kk204 : ∀ (y1 : Int) (y5 : Int) (I' : mI) (J' : mI), k204 y1 y5 I' J' → WM C ad n I' J' R 0 0 204 [(0, vr l0), (1, vi y1), (2, vi l2), (3, vi l3), (4, vi l4), (5, vi y5)] []) (hw : P12_ahead_b293 l0 l1 l2 l3 l4 l5 I J R k204 Q) : WM C ad n I J R 0 0 293 [(0, vr l0), (1, vi l1), (2, vi l2), (3, vi l3), (4, vi l4), (5, vi l5)] [] := by
  unfold P12_ahead_b293 at hw
  refine wm_iload hC 5 dX12_ahead_293 rfl ?_
  refine wm_iload hC 4 dX12_ahead_295 rfl ?_
  refine wm_icmp_ge (tgt := 325) hC dX12_ahead_297 (by decide) hw (fun hw => ?_) (fun hw => ?_)
  · refine x_iinc hC 5 dX12_ahead_325 rfl (by decide) (L2 := [(5, vi (l5 + 1)), (0, vr l0), (1, vi l1), (2, vi l2), (3, vi l3), (4, vi l4)]) rfl hw (fun hw => ?_)
    refine x_iinc hC 2 dX12_ahead_328 rfl (by decide) (L2 := [(1, vi (l1 + 1)), (5, vi (l5 + 1)), (0, vr l0), (2, vi l2), (3, vi l3), (4, vi l4)]) rfl hw (fun hw => ?_)
    refine wm_goto (tgt := 204) hC dX12_ahead_331 (by decide) ?_
    refine wm_sub [2, 0, 3, 4, 5, 1] (L2 := [(0, vr l0), (1, vi (l1 + 1)), (2, vi l2), (3, vi l3), (4, vi l4), (5, vi (l5 + 1))]) rfl ?_
    exact kk204 _ _ _ _ hw
  · refine wm_iload_n hC 3 dX12_ahead_300 rfl ?_
    refine wm_if_eq (tgt := 325) hC dX12_ahead_301 (by decide) hw (fun hw => ?_) (fun hw => ?_)
    · refine x_iinc hC 5 dX12_ahead_325 rfl (by decide) (L2 := [(5, vi (l5 + 1)), (0, vr l0), (1, vi l1), (2, vi l2), (3, vi l3), (4, vi l4)]) rfl hw (fun hw => ?_)
      refine x_iinc hC 2 dX12_ahead_328 rfl (by decide) (L2 := [(1, vi (l1 + 1)), (5, vi (l5 + 1)), (0, vr l0), (2, vi l2), (3, vi l3), (4, vi l4)]) rfl hw (fun hw => ?_)
      refine wm_goto (tgt := 204) hC dX12_ahead_331 (by decide) ?_
      refine wm_sub [2, 0, 3, 4, 5, 1] (L2 := [(0, vr l0), (1, vi (l1 + 1)), (2, vi l2), (3, vi l3), (4, vi l4), (5, vi (l5 + 1))]) rfl ?_
      exact kk204 _ _ _ _ hw
    · refine wm_aload_n hC 0 dX12_ahead_304 rfl (k_ne0 hk0 (by decide)) ?_
      refine wm_bipush hC dX12_ahead_305 (k := ?_)
      refine wm_aload_n hC 0 dX12_ahead_307 rfl (k_ne0 hk0 (by decide)) ?_
      refine x_getI hC 6 fl_X12_29 rfl hk0 dX12_ahead_308 ?_
      refine x_imul hC dX12_ahead_311 hw (fun hw => ?_)
      refine wm_aload_n hC 0 dX12_ahead_312 rfl (k_ne0 hk0 (by decide)) ?_
      refine x_getR2 hC 0 fl_X12_7 rfl hk0 dX12_ahead_313 hw (fun g11 hw => ?_)
      refine wm_iload_n hC 1 dX12_ahead_316 rfl ?_
      refine x_iald hC g11 dX12_ahead_317 hw (fun hw => ?_)
      refine x_iadd hC dX12_ahead_318 hw (fun hw => ?_)
      refine wm_bipush hC dX12_ahead_319 (k := ?_)
      refine x_isub hC dX12_ahead_321 hw (fun hw => ?_)
      refine x_putI hC 6 fl_X12_29 rfl hk0 dX12_ahead_322 hw (fun I15 hw => ?_)
      refine x_iinc hC 5 dX12_ahead_325 rfl (by decide) (L2 := [(5, vi (l5 + 1)), (0, vr l0), (1, vi l1), (2, vi l2), (3, vi l3), (4, vi l4)]) rfl hw (fun hw => ?_)
      refine x_iinc hC 2 dX12_ahead_328 rfl (by decide) (L2 := [(1, vi (l1 + 1)), (5, vi (l5 + 1)), (0, vr l0), (2, vi l2), (3, vi l3), (4, vi l4)]) rfl hw (fun hw => ?_)
      refine wm_goto (tgt := 204) hC dX12_ahead_331 (by decide) ?_
      refine wm_sub [2, 0, 3, 4, 5, 1] (L2 := [(0, vr l0), (1, vi (l1 + 1)), (2, vi l2), (3, vi l3), (4, vi l4), (5, vi (l5 + 1))]) rfl ?_
      exact kk204 _ _ _ _ hw
def P12_ahead_b263 (l0 : Nat) (l1 : Int) (l2 : Int) (l3 : Int) (l4 : Int) (l5 : Int) (I : mI) (J : mI) (R : mR) (k204 : Int → Int → mI → mI → Prop) (Q : mI → mI → Prop) : Prop := (if l4 ≤ l5 then (P12_ahead_b293 l0 l1 l2 l3 l4 l5 I J R k204 Q) else (if l2 = 0 then (P12_ahead_b293 l0 l1 l2 l3 l4 l5 I J R k204 Q) else (kK (R l0 0) = 21 ∧ (((0 : Int) ≤ l1 ∧ l1 < (kN (R l0 0) : Int)) ∧ (wLet (up J l0 7 (lOr (lShl (J l0 7) 8) (I (R l0 0) l1))) (fun J2 => (P12_ahead_b293 l0 l1 l2 l3 l4 l5 I J2 R k204 Q)))))))
set_option maxRecDepth 20000 in
theorem W12_ahead_b263 {C : wX} {ad : Nat → Nat} {n : Nat} {I J : mI} {R : mR} {Q : mI → mI → Prop} (hC : wOK C cX12_ahead 6 RX12) (hRm : wRm C 2 32 0 0) (hE : wEnd C none ad n (fun _ I' J' R' => (R' = R) ∧ Q I' J')) {l0 : Nat} {l1 : Int} {l2 : Int} {l3 : Int} {l4 : Int} {l5 : Int}  {k204 : Int → Int → mI → mI → Prop} (hk0 : kK l0 = 12) (kk204 : ∀ (y1 : Int) (y5 : Int) (I' : mI) (J' : mI), k204 y1 y5 I' J' → WM C ad n I' J' R 0 0 204 [(0, vr l0), (1, vi y1), (2, vi l2), (3, vi l3), (4, vi l4), (5, vi y5)] []) (hw : P12_ahead_b263 l0 l1 l2 l3 l4 l5 I J R k204 Q) : WM C ad n I J R 0 0 263 [(0, vr l0), (1, vi l1), (2, vi l2), (3, vi l3), (4, vi l4), (5, vi l5)] [] := by
  unfold P12_ahead_b263 at hw
  refine wm_iload hC 5 dX12_ahead_263 rfl ?_
  refine wm_iload hC 4 dX12_ahead_265 rfl ?_
  refine wm_icmp_ge (tgt := 293) hC dX12_ahead_267 (by decide) hw (fun hw => ?_) (fun hw => ?_)
  · exact W12_ahead_b293 hC hRm hE hk0 kk204 hw
  · refine wm_iload_n hC 2 dX12_ahead_270 rfl ?_
    refine wm_if_eq (tgt := 293) hC dX12_ahead_271 (by decide) hw (fun hw => ?_) (fun hw => ?_)
    · exact W12_ahead_b293 hC hRm hE hk0 kk204 hw
    · refine wm_aload_n hC 0 dX12_ahead_274 rfl (k_ne0 hk0 (by decide)) ?_
      refine wm_aload_n hC 0 dX12_ahead_275 rfl (k_ne0 hk0 (by decide)) ?_
      refine x_getJ hC 7 fl_X12_32 rfl hk0 dX12_ahead_276 ?_
      refine wm_bipush hC dX12_ahead_279 (k := ?_)
      refine wm_lshl hC dX12_ahead_281 ?_
      refine wm_aload_n hC 0 dX12_ahead_282 rfl (k_ne0 hk0 (by decide)) ?_
      refine x_getR2 hC 0 fl_X12_7 rfl hk0 dX12_ahead_283 hw (fun g10 hw => ?_)
      refine wm_iload_n hC 1 dX12_ahead_286 rfl ?_
      refine x_iald hC g10 dX12_ahead_287 hw (fun hw => ?_)
      refine wm_i2l hC dX12_ahead_288 ?_
      refine wm_lor hC dX12_ahead_289 ?_
      refine x_putJ hC 7 fl_X12_32 rfl hk0 dX12_ahead_290 hw (fun J2 hw => ?_)
      exact W12_ahead_b293 hC hRm hE hk0 kk204 hw
def P12_ahead_b243 (l0 : Nat) (l1 : Int) (l2 : Int) (l3 : Int) (l4 : Int) (l5 : Int) (I : mI) (J : mI) (R : mR) (k204 : Int → Int → mI → mI → Prop) (Q : mI → mI → Prop) : Prop := (if l5 = l4 then (if (I l0 12) = (-1) then (wLet (up I l0 12 l1) (fun I14 => (P12_ahead_b263 l0 l1 l2 l3 l4 l5 I14 J R k204 Q))) else (P12_ahead_b263 l0 l1 l2 l3 l4 l5 I J R k204 Q)) else (P12_ahead_b263 l0 l1 l2 l3 l4 l5 I J R k204 Q))
set_option maxRecDepth 20000 in
theorem W12_ahead_b243 {C : wX} {ad : Nat → Nat} {n : Nat} {I J : mI} {R : mR} {Q : mI → mI → Prop} (hC : wOK C cX12_ahead 6 RX12) (hRm : wRm C 2 32 0 0) (hE : wEnd C none ad n (fun _ I' J' R' => (R' = R) ∧ Q I' J')) {l0 : Nat} {l1 : Int} {l2 : Int} {l3 : Int} {l4 : Int} {l5 : Int}  {k204 : Int → Int → mI → mI → Prop} (hk0 : kK l0 = 12) (kk204 : ∀ (y1 : Int) (y5 : Int) (I' : mI) (J' : mI), k204 y1 y5 I' J' → WM C ad n I' J' R 0 0 204 [(0, vr l0), (1, vi y1), (2, vi l2), (3, vi l3), (4, vi l4), (5, vi y5)] []) (hw : P12_ahead_b243 l0 l1 l2 l3 l4 l5 I J R k204 Q) : WM C ad n I J R 0 0 243 [(0, vr l0), (1, vi l1), (2, vi l2), (3, vi l3), (4, vi l4), (5, vi l5)] [] := by
  unfold P12_ahead_b243 at hw
  refine wm_iload hC 5 dX12_ahead_243 rfl ?_
  refine wm_iload hC 4 dX12_ahead_245 rfl ?_
  refine wm_icmp_ne (tgt := 263) hC dX12_ahead_247 (by decide) hw (fun hw => ?_) (fun hw => ?_)
  · refine wm_aload_n hC 0 dX12_ahead_250 rfl (k_ne0 hk0 (by decide)) ?_
    refine x_getI hC 12 fl_X12_48 rfl hk0 dX12_ahead_251 ?_
    refine wm_iconst hC dX12_ahead_254 (k := ?_)
    refine wm_icmp_ne (tgt := 263) hC dX12_ahead_255 (by decide) hw (fun hw => ?_) (fun hw => ?_)
    · refine wm_aload_n hC 0 dX12_ahead_258 rfl (k_ne0 hk0 (by decide)) ?_
      refine wm_iload_n hC 1 dX12_ahead_259 rfl ?_
      refine x_putI hC 12 fl_X12_48 rfl hk0 dX12_ahead_260 hw (fun I14 hw => ?_)
      exact W12_ahead_b263 hC hRm hE hk0 kk204 hw
    · exact W12_ahead_b263 hC hRm hE hk0 kk204 hw
  · exact W12_ahead_b263 hC hRm hE hk0 kk204 hw
def P12_ahead_b204_body (l0 : Nat) (l2 : Int) (l3 : Int) (l4 : Int) (R : mR) (Q : mI → mI → Prop) (k204 : Int → Int → mI → mI → Prop) (l1 : Int) (l5 : Int) (I : mI) (J : mI) : Prop := (if (I l0 2) ≤ l1 then (wLet (up I l0 5 l1) (fun I11 => (Q I11 J))) else (if l2 = 0 then (kK (R l0 0) = 21 ∧ (((0 : Int) ≤ l1 ∧ l1 < (kN (R l0 0) : Int)) ∧ (P12_isDigit (I (R l0 0) l1) (fun r5 => (if r5 = 0 then (wLet (up I l0 5 l1) (fun I12 => (Q I12 J))) else (P12_ahead_b243 l0 l1 l2 l3 l4 l5 I J R k204 Q)))))) else (kK (R l0 0) = 21 ∧ (((0 : Int) ≤ l1 ∧ l1 < (kN (R l0 0) : Int)) ∧ (P12_isLetter (I (R l0 0) l1) (fun r6 => (if r6 = 0 then (wLet (up I l0 5 l1) (fun I13 => (Q I13 J))) else (P12_ahead_b243 l0 l1 l2 l3 l4 l5 I J R k204 Q))))))))
def P12_ahead_b204 (l0 : Nat) (l2 : Int) (l3 : Int) (l4 : Int) (R : mR) (Q : mI → mI → Prop) : Nat → Int → Int → mI → mI → Prop
  | 0 => fun _ _ _ _ => False
  | f + 1 => fun l1 l5 I J => P12_ahead_b204_body l0 l2 l3 l4 R Q (P12_ahead_b204 l0 l2 l3 l4 R Q f) l1 l5 I J
set_option maxRecDepth 20000 in
theorem W12_ahead_b204_body {C : wX} {ad : Nat → Nat} {n : Nat} {I J : mI} {R : mR} {Q : mI → mI → Prop} (hC : wOK C cX12_ahead 6 RX12) (hRm : wRm C 2 32 0 0) (hE : wEnd C none ad n (fun _ I' J' R' => (R' = R) ∧ Q I' J')) {l0 : Nat} {l2 : Int} {l3 : Int} {l4 : Int} {l1 : Int} {l5 : Int}   (hk0 : kK l0 = 12)  {k204 : Int → Int → mI → mI → Prop} (kk204 : ∀ (y1 : Int) (y5 : Int) (I' : mI) (J' : mI), k204 y1 y5 I' J' → WM C ad n I' J' R 0 0 204 [(0, vr l0), (1, vi y1), (2, vi l2), (3, vi l3), (4, vi l4), (5, vi y5)] []) (hw : P12_ahead_b204_body l0 l2 l3 l4 R Q k204 l1 l5 I J) : WM C ad n I J R 0 0 204 [(0, vr l0), (1, vi l1), (2, vi l2), (3, vi l3), (4, vi l4), (5, vi l5)] [] := by
  unfold P12_ahead_b204_body at hw
  refine wm_iload_n hC 1 dX12_ahead_204 rfl ?_
  refine wm_aload_n hC 0 dX12_ahead_205 rfl (k_ne0 hk0 (by decide)) ?_
  refine x_getI hC 2 fl_X12_17 rfl hk0 dX12_ahead_206 ?_
  refine wm_icmp_ge (tgt := 334) hC dX12_ahead_209 (by decide) hw (fun hw => ?_) (fun hw => ?_)
  · refine wm_aload_n hC 0 dX12_ahead_334 rfl (k_ne0 hk0 (by decide)) ?_
    refine wm_iload_n hC 1 dX12_ahead_335 rfl ?_
    refine x_putI hC 5 fl_X12_26 rfl hk0 dX12_ahead_336 hw (fun I11 hw => ?_)
    exact wm_return hC hE dX12_ahead_339 ⟨rfl, hw⟩
  · refine wm_iload_n hC 2 dX12_ahead_212 rfl ?_
    refine wm_if_eq (tgt := 231) hC dX12_ahead_213 (by decide) hw (fun hw => ?_) (fun hw => ?_)
    · refine wm_aload_n hC 0 dX12_ahead_231 rfl (k_ne0 hk0 (by decide)) ?_
      refine x_getR2 hC 0 fl_X12_7 rfl hk0 dX12_ahead_232 hw (fun g8 hw => ?_)
      refine wm_iload_n hC 1 dX12_ahead_235 rfl ?_
      refine x_iald hC g8 dX12_ahead_236 hw (fun hw => ?_)
      refine y_callS_z_n hC hRm ml_X12_238 (C12_isDigit  hw) (Nat.le_of_ble_eq_true rfl) (Nat.le_of_ble_eq_true rfl) ⟨Nat.zero_le _, Nat.zero_le _⟩ rfl (st := []) rfl (Nat.le_of_ble_eq_true rfl) dX12_ahead_237 (fun r5 hw => ?_)
      refine wm_if_eq (tgt := 334) hC dX12_ahead_240 (by decide) hw (fun hw => ?_) (fun hw => ?_)
      · refine wm_aload_n hC 0 dX12_ahead_334 rfl (k_ne0 hk0 (by decide)) ?_
        refine wm_iload_n hC 1 dX12_ahead_335 rfl ?_
        refine x_putI hC 5 fl_X12_26 rfl hk0 dX12_ahead_336 hw (fun I12 hw => ?_)
        exact wm_return hC hE dX12_ahead_339 ⟨rfl, hw⟩
      · exact W12_ahead_b243 hC hRm hE hk0 kk204 hw
    · refine wm_aload_n hC 0 dX12_ahead_216 rfl (k_ne0 hk0 (by decide)) ?_
      refine x_getR2 hC 0 fl_X12_7 rfl hk0 dX12_ahead_217 hw (fun g9 hw => ?_)
      refine wm_iload_n hC 1 dX12_ahead_220 rfl ?_
      refine x_iald hC g9 dX12_ahead_221 hw (fun hw => ?_)
      refine y_callS_z_n hC hRm ml_X12_234 (C12_isLetter  hw) (Nat.le_of_ble_eq_true rfl) (Nat.le_of_ble_eq_true rfl) ⟨Nat.zero_le _, Nat.zero_le _⟩ rfl (st := []) rfl (Nat.le_of_ble_eq_true rfl) dX12_ahead_222 (fun r6 hw => ?_)
      refine wm_if_eq (tgt := 334) hC dX12_ahead_225 (by decide) hw (fun hw => ?_) (fun hw => ?_)
      · refine wm_aload_n hC 0 dX12_ahead_334 rfl (k_ne0 hk0 (by decide)) ?_
        refine wm_iload_n hC 1 dX12_ahead_335 rfl ?_
        refine x_putI hC 5 fl_X12_26 rfl hk0 dX12_ahead_336 hw (fun I13 hw => ?_)
        exact wm_return hC hE dX12_ahead_339 ⟨rfl, hw⟩
      · refine wm_goto (tgt := 243) hC dX12_ahead_228 (by decide) ?_
        exact W12_ahead_b243 hC hRm hE hk0 kk204 hw
set_option maxRecDepth 20000 in
theorem W12_ahead_b204 {C : wX} {ad : Nat → Nat} {n : Nat} {R : mR} {Q : mI → mI → Prop} (hC : wOK C cX12_ahead 6 RX12) (hRm : wRm C 2 32 0 0) (hE : wEnd C none ad n (fun _ I' J' R' => (R' = R) ∧ Q I' J')) {l0 : Nat} {l2 : Int} {l3 : Int} {l4 : Int}   (hk0 : kK l0 = 12)  : ∀ (f : Nat) (l1 : Int) (l5 : Int) (I : mI) (J : mI), P12_ahead_b204 l0 l2 l3 l4 R Q f l1 l5 I J → WM C ad n I J R 0 0 204 [(0, vr l0), (1, vi l1), (2, vi l2), (3, vi l3), (4, vi l4), (5, vi l5)] [] := by
  intro f
  induction f with
  | zero => intro l1 l5 I J hw; exact hw.elim
  | succ f ih => intro l1 l5 I J hw; exact W12_ahead_b204_body hC hRm hE hk0 (fun a0 a1 a2 a3 hw => ih a0 a1 a2 a3 hw) hw
def P12_ahead_b186 (l0 : Nat) (l1 : Int) (l2 : Int) (l3 : Int) (s0 : Nat) (s1 : Int) (I : mI) (J : mI) (R : mR) (Q : mI → mI → Prop) : Prop := (wLet (up I s0 3 s1) (fun I10 => (if l2 = 0 then (∃ f, P12_ahead_b204 l0 l2 l3 4 R Q f l1 0 I10 J) else (∃ f, P12_ahead_b204 l0 l2 l3 6 R Q f l1 0 I10 J))))
set_option maxRecDepth 20000 in
theorem W12_ahead_b186 {C : wX} {ad : Nat → Nat} {n : Nat} {I J : mI} {R : mR} {Q : mI → mI → Prop} (hC : wOK C cX12_ahead 6 RX12) (hRm : wRm C 2 32 0 0) (hE : wEnd C none ad n (fun _ I' J' R' => (R' = R) ∧ Q I' J')) {l0 : Nat} {l1 : Int} {l2 : Int} {l3 : Int} {s0 : Nat} {s1 : Int}   (hk0 : kK l0 = 12) (hs0 : kK s0 = 12)  (hw : P12_ahead_b186 l0 l1 l2 l3 s0 s1 I J R Q) : WM C ad n I J R 0 0 186 [(0, vr l0), (1, vi l1), (2, vi l2), (3, vi l3)] [vi s1, vr s0] := by
  unfold P12_ahead_b186 at hw
  refine x_putI hC 3 fl_X12_20 rfl hs0 dX12_ahead_186 hw (fun I10 hw => ?_)
  refine wm_iload_n hC 2 dX12_ahead_189 rfl ?_
  refine wm_if_eq (tgt := 198) hC dX12_ahead_190 (by decide) hw (fun hw => ?_) (fun hw => ?_)
  · refine wm_iconst hC dX12_ahead_198 (k := ?_)
    refine wm_istore hC dX12_ahead_199 (by decide) (L2 := [(4, vi 4), (0, vr l0), (1, vi l1), (2, vi l2), (3, vi l3)]) rfl ?_
    refine wm_iconst hC dX12_ahead_201 (k := ?_)
    refine wm_istore hC dX12_ahead_202 (by decide) (L2 := [(5, vi 0), (4, vi 4), (0, vr l0), (1, vi l1), (2, vi l2), (3, vi l3)]) rfl ?_
    obtain ⟨f, hw⟩ := hw
    refine wm_sub [2, 3, 4, 5, 1, 0] (L2 := [(0, vr l0), (1, vi l1), (2, vi l2), (3, vi l3), (4, vi 4), (5, vi 0)]) rfl ?_
    exact W12_ahead_b204 hC hRm hE hk0 f _ _ _ _ hw
  · refine wm_bipush hC dX12_ahead_193 (k := ?_)
    refine wm_goto (tgt := 199) hC dX12_ahead_195 (by decide) ?_
    refine wm_istore hC dX12_ahead_199 (by decide) (L2 := [(4, vi 6), (0, vr l0), (1, vi l1), (2, vi l2), (3, vi l3)]) rfl ?_
    refine wm_iconst hC dX12_ahead_201 (k := ?_)
    refine wm_istore hC dX12_ahead_202 (by decide) (L2 := [(5, vi 0), (4, vi 6), (0, vr l0), (1, vi l1), (2, vi l2), (3, vi l3)]) rfl ?_
    obtain ⟨f, hw⟩ := hw
    refine wm_sub [2, 3, 4, 5, 1, 0] (L2 := [(0, vr l0), (1, vi l1), (2, vi l2), (3, vi l3), (4, vi 6), (5, vi 0)]) rfl ?_
    exact W12_ahead_b204 hC hRm hE hk0 f _ _ _ _ hw
def P12_ahead_b176 (l0 : Nat) (l1 : Int) (l2 : Int) (l3 : Int) (I : mI) (J : mI) (R : mR) (Q : mI → mI → Prop) : Prop := (if l2 = 0 then (P12_ahead_b186 l0 l1 l2 l3 l0 2 I J R Q) else (P12_ahead_b186 l0 l1 l2 l3 l0 1 I J R Q))
set_option maxRecDepth 20000 in
theorem W12_ahead_b176 {C : wX} {ad : Nat → Nat} {n : Nat} {I J : mI} {R : mR} {Q : mI → mI → Prop} (hC : wOK C cX12_ahead 6 RX12) (hRm : wRm C 2 32 0 0) (hE : wEnd C none ad n (fun _ I' J' R' => (R' = R) ∧ Q I' J')) {l0 : Nat} {l1 : Int} {l2 : Int} {l3 : Int}   (hk0 : kK l0 = 12)  (hw : P12_ahead_b176 l0 l1 l2 l3 I J R Q) : WM C ad n I J R 0 0 176 [(0, vr l0), (1, vi l1), (2, vi l2), (3, vi l3)] [] := by
  unfold P12_ahead_b176 at hw
  refine wm_aload_n hC 0 dX12_ahead_176 rfl (k_ne0 hk0 (by decide)) ?_
  refine wm_iload_n hC 2 dX12_ahead_177 rfl ?_
  refine wm_if_eq (tgt := 185) hC dX12_ahead_178 (by decide) hw (fun hw => ?_) (fun hw => ?_)
  · refine wm_iconst hC dX12_ahead_185 (k := ?_)
    exact W12_ahead_b186 hC hRm hE hk0 hk0 hw
  · refine wm_iconst hC dX12_ahead_181 (k := ?_)
    refine wm_goto (tgt := 186) hC dX12_ahead_182 (by decide) ?_
    exact W12_ahead_b186 hC hRm hE hk0 hk0 hw
def P12_ahead_b135 (l0 : Nat) (l1 : Int) (l2 : Int) (l3 : Int) (I : mI) (J : mI) (R : mR) (Q : mI → mI → Prop) : Prop := (wLet (up I l0 6 0) (fun I6 => (wLet (up J l0 7 0) (fun J1 => (wLet (up I6 l0 3 3) (fun I7 => (rg (l1 + 1) ∧ (wLet (up I7 l0 5 (l1 + 1)) (fun I8 => (if l2 = 0 then (if l3 = 0 then (kK (R l0 0) = 21 ∧ (((0 : Int) ≤ l1 ∧ l1 < (kN (R l0 0) : Int)) ∧ (wLet (up I8 l0 6 (I8 (R l0 0) l1)) (fun I9 => (Q I9 J1))))) else (P12_ahead_b176 l0 l1 l2 l3 I8 J1 R Q)) else (P12_ahead_b176 l0 l1 l2 l3 I8 J1 R Q)))))))))))
set_option maxRecDepth 20000 in
theorem W12_ahead_b135 {C : wX} {ad : Nat → Nat} {n : Nat} {I J : mI} {R : mR} {Q : mI → mI → Prop} (hC : wOK C cX12_ahead 6 RX12) (hRm : wRm C 2 32 0 0) (hE : wEnd C none ad n (fun _ I' J' R' => (R' = R) ∧ Q I' J')) {l0 : Nat} {l1 : Int} {l2 : Int} {l3 : Int}   (hk0 : kK l0 = 12)  (hw : P12_ahead_b135 l0 l1 l2 l3 I J R Q) : WM C ad n I J R 0 0 135 [(0, vr l0), (1, vi l1), (2, vi l2), (3, vi l3)] [] := by
  unfold P12_ahead_b135 at hw
  refine wm_aload_n hC 0 dX12_ahead_135 rfl (k_ne0 hk0 (by decide)) ?_
  refine wm_iconst hC dX12_ahead_136 (k := ?_)
  refine x_putI hC 6 fl_X12_29 rfl hk0 dX12_ahead_137 hw (fun I6 hw => ?_)
  refine wm_aload_n hC 0 dX12_ahead_140 rfl (k_ne0 hk0 (by decide)) ?_
  refine wm_lconst hC (x := 0) dX12_ahead_141 (k := ?_)
  refine x_putJ hC 7 fl_X12_32 rfl hk0 dX12_ahead_142 hw (fun J1 hw => ?_)
  refine wm_aload_n hC 0 dX12_ahead_145 rfl (k_ne0 hk0 (by decide)) ?_
  refine wm_iconst hC dX12_ahead_146 (k := ?_)
  refine x_putI hC 3 fl_X12_20 rfl hk0 dX12_ahead_147 hw (fun I7 hw => ?_)
  refine wm_aload_n hC 0 dX12_ahead_150 rfl (k_ne0 hk0 (by decide)) ?_
  refine wm_iload_n hC 1 dX12_ahead_151 rfl ?_
  refine wm_iconst hC dX12_ahead_152 (k := ?_)
  refine x_iadd hC dX12_ahead_153 hw (fun hw => ?_)
  refine x_putI hC 5 fl_X12_26 rfl hk0 dX12_ahead_154 hw (fun I8 hw => ?_)
  refine wm_iload_n hC 2 dX12_ahead_157 rfl ?_
  refine wm_if_ne (tgt := 176) hC dX12_ahead_158 (by decide) hw (fun hw => ?_) (fun hw => ?_)
  · refine wm_iload_n hC 3 dX12_ahead_161 rfl ?_
    refine wm_if_ne (tgt := 176) hC dX12_ahead_162 (by decide) hw (fun hw => ?_) (fun hw => ?_)
    · refine wm_aload_n hC 0 dX12_ahead_165 rfl (k_ne0 hk0 (by decide)) ?_
      refine wm_aload_n hC 0 dX12_ahead_166 rfl (k_ne0 hk0 (by decide)) ?_
      refine x_getR2 hC 0 fl_X12_7 rfl hk0 dX12_ahead_167 hw (fun g7 hw => ?_)
      refine wm_iload_n hC 1 dX12_ahead_170 rfl ?_
      refine x_iald hC g7 dX12_ahead_171 hw (fun hw => ?_)
      refine x_putI hC 6 fl_X12_29 rfl hk0 dX12_ahead_172 hw (fun I9 hw => ?_)
      exact wm_return hC hE dX12_ahead_175 ⟨rfl, hw⟩
    · exact W12_ahead_b176 hC hRm hE hk0 hw
  · exact W12_ahead_b176 hC hRm hE hk0 hw
def P12_ahead_b130 (l0 : Nat) (l1 : Int) (l2 : Int) (l3 : Int) (I : mI) (J : mI) (R : mR) (Q : mI → mI → Prop) : Prop := (wLet (up I l0 12 l1) (fun I5 => (P12_ahead_b135 l0 l1 l2 l3 I5 J R Q)))
set_option maxRecDepth 20000 in
theorem W12_ahead_b130 {C : wX} {ad : Nat → Nat} {n : Nat} {I J : mI} {R : mR} {Q : mI → mI → Prop} (hC : wOK C cX12_ahead 6 RX12) (hRm : wRm C 2 32 0 0) (hE : wEnd C none ad n (fun _ I' J' R' => (R' = R) ∧ Q I' J')) {l0 : Nat} {l1 : Int} {l2 : Int} {l3 : Int}   (hk0 : kK l0 = 12)  (hw : P12_ahead_b130 l0 l1 l2 l3 I J R Q) : WM C ad n I J R 0 0 130 [(0, vr l0), (1, vi l1), (2, vi l2), (3, vi l3)] [] := by
  unfold P12_ahead_b130 at hw
  refine wm_aload_n hC 0 dX12_ahead_130 rfl (k_ne0 hk0 (by decide)) ?_
  refine wm_iload_n hC 1 dX12_ahead_131 rfl ?_
  refine x_putI hC 12 fl_X12_48 rfl hk0 dX12_ahead_132 hw (fun I5 hw => ?_)
  exact W12_ahead_b135 hC hRm hE hk0 hw
def P12_ahead_b98 (l0 : Nat) (l1 : Int) (l2 : Int) (l3 : Int) (I : mI) (J : mI) (R : mR) (Q : mI → mI → Prop) : Prop := (if l1 ≤ 0 then (P12_ahead_b135 l0 l1 l2 l3 I J R Q) else (kK (R l0 0) = 21 ∧ (rg (l1 - 1) ∧ (((0 : Int) ≤ (l1 - 1) ∧ (l1 - 1) < (kN (R l0 0) : Int)) ∧ (P12_isLetter (I (R l0 0) (l1 - 1)) (fun r3 => (if r3 = 0 then (kK (R l0 0) = 21 ∧ (rg (l1 - 1) ∧ (((0 : Int) ≤ (l1 - 1) ∧ (l1 - 1) < (kN (R l0 0) : Int)) ∧ (P12_isDigit (I (R l0 0) (l1 - 1)) (fun r4 => (if r4 = 0 then (P12_ahead_b135 l0 l1 l2 l3 I J R Q) else (P12_ahead_b130 l0 l1 l2 l3 I J R Q))))))) else (P12_ahead_b130 l0 l1 l2 l3 I J R Q))))))))
set_option maxRecDepth 20000 in
theorem W12_ahead_b98 {C : wX} {ad : Nat → Nat} {n : Nat} {I J : mI} {R : mR} {Q : mI → mI → Prop} (hC : wOK C cX12_ahead 6 RX12) (hRm : wRm C 2 32 0 0) (hE : wEnd C none ad n (fun _ I' J' R' => (R' = R) ∧ Q I' J')) {l0 : Nat} {l1 : Int} {l2 : Int} {l3 : Int}   (hk0 : kK l0 = 12)  (hw : P12_ahead_b98 l0 l1 l2 l3 I J R Q) : WM C ad n I J R 0 0 98 [(0, vr l0), (1, vi l1), (2, vi l2), (3, vi l3)] [] := by
  unfold P12_ahead_b98 at hw
  refine wm_iload_n hC 1 dX12_ahead_98 rfl ?_
  refine wm_if_le (tgt := 135) hC dX12_ahead_99 (by decide) hw (fun hw => ?_) (fun hw => ?_)
  · exact W12_ahead_b135 hC hRm hE hk0 hw
  · refine wm_aload_n hC 0 dX12_ahead_102 rfl (k_ne0 hk0 (by decide)) ?_
    refine x_getR2 hC 0 fl_X12_7 rfl hk0 dX12_ahead_103 hw (fun g5 hw => ?_)
    refine wm_iload_n hC 1 dX12_ahead_106 rfl ?_
    refine wm_iconst hC dX12_ahead_107 (k := ?_)
    refine x_isub hC dX12_ahead_108 hw (fun hw => ?_)
    refine x_iald hC g5 dX12_ahead_109 hw (fun hw => ?_)
    refine y_callS_z_n hC hRm ml_X12_234 (C12_isLetter  hw) (Nat.le_of_ble_eq_true rfl) (Nat.le_of_ble_eq_true rfl) ⟨Nat.zero_le _, Nat.zero_le _⟩ rfl (st := []) rfl (Nat.le_of_ble_eq_true rfl) dX12_ahead_110 (fun r3 hw => ?_)
    refine wm_if_ne (tgt := 130) hC dX12_ahead_113 (by decide) hw (fun hw => ?_) (fun hw => ?_)
    · refine wm_aload_n hC 0 dX12_ahead_116 rfl (k_ne0 hk0 (by decide)) ?_
      refine x_getR2 hC 0 fl_X12_7 rfl hk0 dX12_ahead_117 hw (fun g6 hw => ?_)
      refine wm_iload_n hC 1 dX12_ahead_120 rfl ?_
      refine wm_iconst hC dX12_ahead_121 (k := ?_)
      refine x_isub hC dX12_ahead_122 hw (fun hw => ?_)
      refine x_iald hC g6 dX12_ahead_123 hw (fun hw => ?_)
      refine y_callS_z_n hC hRm ml_X12_238 (C12_isDigit  hw) (Nat.le_of_ble_eq_true rfl) (Nat.le_of_ble_eq_true rfl) ⟨Nat.zero_le _, Nat.zero_le _⟩ rfl (st := []) rfl (Nat.le_of_ble_eq_true rfl) dX12_ahead_124 (fun r4 hw => ?_)
      refine wm_if_eq (tgt := 135) hC dX12_ahead_127 (by decide) hw (fun hw => ?_) (fun hw => ?_)
      · exact W12_ahead_b135 hC hRm hE hk0 hw
      · exact W12_ahead_b130 hC hRm hE hk0 hw
    · exact W12_ahead_b130 hC hRm hE hk0 hw
def P12_ahead_b41 (l0 : Nat) (l1 : Int) (I : mI) (J : mI) (R : mR) (Q : mI → mI → Prop) : Prop := (wLet (up I l0 4 l1) (fun I1 => (wLet (up I1 l0 5 l1) (fun I2 => (wLet (up I2 l0 3 0) (fun I3 => (wLet (up I3 l0 12 (-1)) (fun I4 => (if l1 < (I4 l0 2) then (kK (R l0 0) = 21 ∧ (((0 : Int) ≤ l1 ∧ l1 < (kN (R l0 0) : Int)) ∧ (P12_isLetter (I4 (R l0 0) l1) (fun r1 => (kK (R l0 0) = 21 ∧ (((0 : Int) ≤ l1 ∧ l1 < (kN (R l0 0) : Int)) ∧ (P12_isDigit (I4 (R l0 0) l1) (fun r2 => (if r1 = 0 then (if r2 = 0 then (P12_ahead_b135 l0 l1 r1 r2 I4 J R Q) else (P12_ahead_b98 l0 l1 r1 r2 I4 J R Q)) else (P12_ahead_b98 l0 l1 r1 r2 I4 J R Q)))))))))) else (Q I4 J))))))))))
set_option maxRecDepth 20000 in
theorem W12_ahead_b41 {C : wX} {ad : Nat → Nat} {n : Nat} {I J : mI} {R : mR} {Q : mI → mI → Prop} (hC : wOK C cX12_ahead 6 RX12) (hRm : wRm C 2 32 0 0) (hE : wEnd C none ad n (fun _ I' J' R' => (R' = R) ∧ Q I' J')) {l0 : Nat} {l1 : Int}   (hk0 : kK l0 = 12)  (hw : P12_ahead_b41 l0 l1 I J R Q) : WM C ad n I J R 0 0 41 [(0, vr l0), (1, vi l1)] [] := by
  unfold P12_ahead_b41 at hw
  refine wm_aload_n hC 0 dX12_ahead_41 rfl (k_ne0 hk0 (by decide)) ?_
  refine wm_iload_n hC 1 dX12_ahead_42 rfl ?_
  refine x_putI hC 4 fl_X12_23 rfl hk0 dX12_ahead_43 hw (fun I1 hw => ?_)
  refine wm_aload_n hC 0 dX12_ahead_46 rfl (k_ne0 hk0 (by decide)) ?_
  refine wm_iload_n hC 1 dX12_ahead_47 rfl ?_
  refine x_putI hC 5 fl_X12_26 rfl hk0 dX12_ahead_48 hw (fun I2 hw => ?_)
  refine wm_aload_n hC 0 dX12_ahead_51 rfl (k_ne0 hk0 (by decide)) ?_
  refine wm_iconst hC dX12_ahead_52 (k := ?_)
  refine x_putI hC 3 fl_X12_20 rfl hk0 dX12_ahead_53 hw (fun I3 hw => ?_)
  refine wm_aload_n hC 0 dX12_ahead_56 rfl (k_ne0 hk0 (by decide)) ?_
  refine wm_iconst hC dX12_ahead_57 (k := ?_)
  refine x_putI hC 12 fl_X12_48 rfl hk0 dX12_ahead_58 hw (fun I4 hw => ?_)
  refine wm_iload_n hC 1 dX12_ahead_61 rfl ?_
  refine wm_aload_n hC 0 dX12_ahead_62 rfl (k_ne0 hk0 (by decide)) ?_
  refine x_getI hC 2 fl_X12_17 rfl hk0 dX12_ahead_63 ?_
  refine wm_icmp_lt (tgt := 70) hC dX12_ahead_66 (by decide) hw (fun hw => ?_) (fun hw => ?_)
  · refine wm_aload_n hC 0 dX12_ahead_70 rfl (k_ne0 hk0 (by decide)) ?_
    refine x_getR2 hC 0 fl_X12_7 rfl hk0 dX12_ahead_71 hw (fun g3 hw => ?_)
    refine wm_iload_n hC 1 dX12_ahead_74 rfl ?_
    refine x_iald hC g3 dX12_ahead_75 hw (fun hw => ?_)
    refine y_callS_z_n hC hRm ml_X12_234 (C12_isLetter  hw) (Nat.le_of_ble_eq_true rfl) (Nat.le_of_ble_eq_true rfl) ⟨Nat.zero_le _, Nat.zero_le _⟩ rfl (st := []) rfl (Nat.le_of_ble_eq_true rfl) dX12_ahead_76 (fun r1 hw => ?_)
    refine wm_istore_n hC dX12_ahead_79 (by decide) (L2 := [(2, vi r1), (0, vr l0), (1, vi l1)]) rfl ?_
    refine wm_aload_n hC 1 dX12_ahead_80 rfl (k_ne0 hk0 (by decide)) ?_
    refine x_getR2 hC 0 fl_X12_7 rfl hk0 dX12_ahead_81 hw (fun g4 hw => ?_)
    refine wm_iload_n hC 2 dX12_ahead_84 rfl ?_
    refine x_iald hC g4 dX12_ahead_85 hw (fun hw => ?_)
    refine y_callS_z_n hC hRm ml_X12_238 (C12_isDigit  hw) (Nat.le_of_ble_eq_true rfl) (Nat.le_of_ble_eq_true rfl) ⟨Nat.zero_le _, Nat.zero_le _⟩ rfl (st := []) rfl (Nat.le_of_ble_eq_true rfl) dX12_ahead_86 (fun r2 hw => ?_)
    refine wm_istore_n hC dX12_ahead_89 (by decide) (L2 := [(3, vi r2), (2, vi r1), (0, vr l0), (1, vi l1)]) rfl ?_
    refine wm_iload_n hC 1 dX12_ahead_90 rfl ?_
    refine wm_if_ne (tgt := 98) hC dX12_ahead_91 (by decide) hw (fun hw => ?_) (fun hw => ?_)
    · refine wm_iload_n hC 0 dX12_ahead_94 rfl ?_
      refine wm_if_eq (tgt := 135) hC dX12_ahead_95 (by decide) hw (fun hw => ?_) (fun hw => ?_)
      · refine wm_sub [2, 3, 1, 0] (L2 := [(0, vr l0), (1, vi l1), (2, vi r1), (3, vi r2)]) rfl ?_
        exact W12_ahead_b135 hC hRm hE hk0 hw
      · refine wm_sub [2, 3, 1, 0] (L2 := [(0, vr l0), (1, vi l1), (2, vi r1), (3, vi r2)]) rfl ?_
        exact W12_ahead_b98 hC hRm hE hk0 hw
    · refine wm_sub [2, 3, 1, 0] (L2 := [(0, vr l0), (1, vi l1), (2, vi r1), (3, vi r2)]) rfl ?_
      exact W12_ahead_b98 hC hRm hE hk0 hw
  · exact wm_return hC hE dX12_ahead_69 ⟨rfl, hw⟩
def P12_ahead_b5_body (l0 : Nat) (I : mI) (J : mI) (R : mR) (Q : mI → mI → Prop) (k5 : Int → Prop) (l1 : Int) : Prop := (if (I l0 2) ≤ l1 then (P12_ahead_b41 l0 l1 I J R Q) else (kK (R l0 0) = 21 ∧ (((0 : Int) ≤ l1 ∧ l1 < (kN (R l0 0) : Int)) ∧ (if (I (R l0 0) l1) = 32 then (rg (l1 + 1) ∧ (k5 (l1 + 1))) else (kK (R l0 0) = 21 ∧ (((0 : Int) ≤ l1 ∧ l1 < (kN (R l0 0) : Int)) ∧ (if (I (R l0 0) l1) = 10 then (rg (l1 + 1) ∧ (k5 (l1 + 1))) else (P12_ahead_b41 l0 l1 I J R Q))))))))
def P12_ahead_b5 (l0 : Nat) (I : mI) (J : mI) (R : mR) (Q : mI → mI → Prop) : Nat → Int → Prop
  | 0 => fun _ => False
  | f + 1 => fun l1 => P12_ahead_b5_body l0 I J R Q (P12_ahead_b5 l0 I J R Q f) l1
set_option maxRecDepth 20000 in
theorem W12_ahead_b5_body {C : wX} {ad : Nat → Nat} {n : Nat} {I J : mI} {R : mR} {Q : mI → mI → Prop} (hC : wOK C cX12_ahead 6 RX12) (hRm : wRm C 2 32 0 0) (hE : wEnd C none ad n (fun _ I' J' R' => (R' = R) ∧ Q I' J')) {l0 : Nat} {l1 : Int}   (hk0 : kK l0 = 12)  {k5 : Int → Prop} (kk5 : ∀ (y1 : Int), k5 y1 → WM C ad n I J R 0 0 5 [(0, vr l0), (1, vi y1)] []) (hw : P12_ahead_b5_body l0 I J R Q k5 l1) : WM C ad n I J R 0 0 5 [(0, vr l0), (1, vi l1)] [] := by
  unfold P12_ahead_b5_body at hw
  refine wm_iload_n hC 1 dX12_ahead_5 rfl ?_
  refine wm_aload_n hC 0 dX12_ahead_6 rfl (k_ne0 hk0 (by decide)) ?_
  refine x_getI hC 2 fl_X12_17 rfl hk0 dX12_ahead_7 ?_
  refine wm_icmp_ge (tgt := 41) hC dX12_ahead_10 (by decide) hw (fun hw => ?_) (fun hw => ?_)
  · exact W12_ahead_b41 hC hRm hE hk0 hw
  · refine wm_aload_n hC 0 dX12_ahead_13 rfl (k_ne0 hk0 (by decide)) ?_
    refine x_getR2 hC 0 fl_X12_7 rfl hk0 dX12_ahead_14 hw (fun g1 hw => ?_)
    refine wm_iload_n hC 1 dX12_ahead_17 rfl ?_
    refine x_iald hC g1 dX12_ahead_18 hw (fun hw => ?_)
    refine wm_bipush hC dX12_ahead_19 (k := ?_)
    refine wm_icmp_eq (tgt := 35) hC dX12_ahead_21 (by decide) hw (fun hw => ?_) (fun hw => ?_)
    · refine x_iinc hC 1 dX12_ahead_35 rfl (by decide) (L2 := [(1, vi (l1 + 1)), (0, vr l0)]) rfl hw (fun hw => ?_)
      refine wm_goto (tgt := 5) hC dX12_ahead_38 (by decide) ?_
      refine wm_sub [1, 0] (L2 := [(0, vr l0), (1, vi (l1 + 1))]) rfl ?_
      exact kk5 _ hw
    · refine wm_aload_n hC 0 dX12_ahead_24 rfl (k_ne0 hk0 (by decide)) ?_
      refine x_getR2 hC 0 fl_X12_7 rfl hk0 dX12_ahead_25 hw (fun g2 hw => ?_)
      refine wm_iload_n hC 1 dX12_ahead_28 rfl ?_
      refine x_iald hC g2 dX12_ahead_29 hw (fun hw => ?_)
      refine wm_bipush hC dX12_ahead_30 (k := ?_)
      refine wm_icmp_ne (tgt := 41) hC dX12_ahead_32 (by decide) hw (fun hw => ?_) (fun hw => ?_)
      · refine x_iinc hC 1 dX12_ahead_35 rfl (by decide) (L2 := [(1, vi (l1 + 1)), (0, vr l0)]) rfl hw (fun hw => ?_)
        refine wm_goto (tgt := 5) hC dX12_ahead_38 (by decide) ?_
        refine wm_sub [1, 0] (L2 := [(0, vr l0), (1, vi (l1 + 1))]) rfl ?_
        exact kk5 _ hw
      · exact W12_ahead_b41 hC hRm hE hk0 hw
set_option maxRecDepth 20000 in
theorem W12_ahead_b5 {C : wX} {ad : Nat → Nat} {n : Nat} {I J : mI} {R : mR} {Q : mI → mI → Prop} (hC : wOK C cX12_ahead 6 RX12) (hRm : wRm C 2 32 0 0) (hE : wEnd C none ad n (fun _ I' J' R' => (R' = R) ∧ Q I' J')) {l0 : Nat}   (hk0 : kK l0 = 12)  : ∀ (f : Nat) (l1 : Int), P12_ahead_b5 l0 I J R Q f l1 → WM C ad n I J R 0 0 5 [(0, vr l0), (1, vi l1)] [] := by
  intro f
  induction f with
  | zero => intro l1 hw; exact hw.elim
  | succ f ih => intro l1 hw; exact W12_ahead_b5_body hC hRm hE hk0 (fun a0 hw => ih a0 hw) hw
def P12_ahead (l0 : Nat) (I : mI) (J : mI) (R : mR) (Q : mI → mI → Prop) : Prop := (∃ f, P12_ahead_b5 l0 I J R Q f (I l0 5))
set_option maxRecDepth 20000 in
theorem C12_ahead {ad : Nat → Nat} {n : Nat} {I J : mI} {R : mR} {Q : mI → mI → Prop} {l0 : Nat} (hk0 : kK l0 = 12) (hw : P12_ahead l0 I J R Q) : wMet yX12_ahead cX12_ahead 6 none 2 32 ad n I J R [vr l0] (fun _ I' J' R' => (R' = R) ∧ Q I' J') := by
  refine wMet_of (by decide) (Nat.le_of_ble_eq_true rfl) (fun C hC hRm hE => ?_)
  refine (show WM C ad n I J R 0 0 0 [(0, vr l0)] [] from ?_)
  unfold P12_ahead at hw
  refine wm_aload_n hC 0 dX12_ahead_0 rfl (k_ne0 hk0 (by decide)) ?_
  refine x_getI hC 5 fl_X12_26 rfl hk0 dX12_ahead_1 ?_
  refine wm_istore_n hC dX12_ahead_4 (by decide) (L2 := [(1, vi (I l0 5)), (0, vr l0)]) rfl ?_
  obtain ⟨f, hw⟩ := hw
  refine wm_sub [1, 0] (L2 := [(0, vr l0), (1, vi (I l0 5))]) rfl ?_
  exact W12_ahead_b5 hC hRm hE hk0 f _ hw
def PJ7_fill_b5_body (l0 : Nat) (l1 : Int) (l3 : Int) (Q : mI → Prop) (k5 : Int → mI → Prop) (l2 : Int) (I : mI) : Prop := (if l3 ≤ l2 then (Q I) else (((0 : Int) ≤ l2 ∧ l2 < (kN l0 : Int)) ∧ wLet (up I l0 l2 l1) (fun I1 => (rg (l2 + 1) ∧ (k5 (l2 + 1) I1)))))
def PJ7_fill_b5 (l0 : Nat) (l1 : Int) (l3 : Int) (Q : mI → Prop) : Nat → Int → mI → Prop
  | 0 => fun _ _ => False
  | f + 1 => fun l2 I => PJ7_fill_b5_body l0 l1 l3 Q (PJ7_fill_b5 l0 l1 l3 Q f) l2 I
set_option maxRecDepth 20000 in
theorem WJ7_fill_b5_body {C : wX} {ad : Nat → Nat} {n : Nat} {I J : mI} {R : mR} {Q : mI → Prop} (hC : wOK C cJ7_fill_53178 4 RJ7) (hRm : wRm C 1 12 0 0) (hE : wEnd C none ad n (fun _ I' J' R' => (J' = J ∧ R' = R) ∧ Q I')) {l0 : Nat} {l1 : Int} {l3 : Int} {l2 : Int}   (hk0 : kK l0 = 21)  {k5 : Int → mI → Prop} (kk5 : ∀ (y2 : Int) (I' : mI), k5 y2 I' → WM C ad n I' J R 0 0 5 [(0, vr l0), (1, vi l1), (2, vi y2), (3, vi l3)] []) (hw : PJ7_fill_b5_body l0 l1 l3 Q k5 l2 I) : WM C ad n I J R 0 0 5 [(0, vr l0), (1, vi l1), (2, vi l2), (3, vi l3)] [] := by
  unfold PJ7_fill_b5_body at hw
  refine wm_iload_n hC 2 dJ7_fill_53178_5 rfl ?_
  refine wm_iload_n hC 3 dJ7_fill_53178_6 rfl ?_
  refine wm_icmp_ge (tgt := 20) hC dJ7_fill_53178_7 (by decide) hw (fun hw => ?_) (fun hw => ?_)
  · exact wm_return hC hE dJ7_fill_53178_20 ⟨⟨rfl, rfl⟩, hw⟩
  · refine wm_aload_n hC 0 dJ7_fill_53178_10 rfl (k_ne0 hk0 (by decide)) ?_
    refine wm_iload_n hC 2 dJ7_fill_53178_11 rfl ?_
    refine wm_iload_n hC 1 dJ7_fill_53178_12 rfl ?_
    refine x_iast hC hk0 dJ7_fill_53178_13 hw (fun I1 hw => ?_)
    refine x_iinc hC 2 dJ7_fill_53178_14 rfl (by decide) (L2 := [(2, vi (l2 + 1)), (0, vr l0), (1, vi l1), (3, vi l3)]) rfl hw (fun hw => ?_)
    refine wm_goto (tgt := 5) hC dJ7_fill_53178_17 (by decide) ?_
    refine wm_sub [1, 2, 0, 3] (L2 := [(0, vr l0), (1, vi l1), (2, vi (l2 + 1)), (3, vi l3)]) rfl ?_
    exact kk5 _ _ hw
set_option maxRecDepth 20000 in
theorem WJ7_fill_b5 {C : wX} {ad : Nat → Nat} {n : Nat} {J : mI} {R : mR} {Q : mI → Prop} (hC : wOK C cJ7_fill_53178 4 RJ7) (hRm : wRm C 1 12 0 0) (hE : wEnd C none ad n (fun _ I' J' R' => (J' = J ∧ R' = R) ∧ Q I')) {l0 : Nat} {l1 : Int} {l3 : Int}   (hk0 : kK l0 = 21)  : ∀ (f : Nat) (l2 : Int) (I : mI), PJ7_fill_b5 l0 l1 l3 Q f l2 I → WM C ad n I J R 0 0 5 [(0, vr l0), (1, vi l1), (2, vi l2), (3, vi l3)] [] := by
  intro f
  induction f with
  | zero => intro l2 I hw; exact hw.elim
  | succ f ih => intro l2 I hw; exact WJ7_fill_b5_body hC hRm hE hk0 (fun a0 a1 hw => ih a0 a1 hw) hw
def PJ7_fill (l0 : Nat) (l1 : Int) (I : mI) (Q : mI → Prop) : Prop := (∃ f, PJ7_fill_b5 l0 l1 (kN l0 : Int) Q f 0 I)
set_option maxRecDepth 20000 in
theorem CJ7_fill {ad : Nat → Nat} {n : Nat} {I J : mI} {R : mR} {Q : mI → Prop} {l0 : Nat} {l1 : Int} (hk0 : kK l0 = 21) (hw : PJ7_fill l0 l1 I Q) : wMet yJ7_fill_53178 cJ7_fill_53178 4 none 1 12 ad n I J R [vr l0, vi l1] (fun _ I' J' R' => (J' = J ∧ R' = R) ∧ Q I') := by
  refine wMet_of (by decide) (Nat.le_of_ble_eq_true rfl) (fun C hC hRm hE => ?_)
  refine (show WM C ad n I J R 0 0 0 [(0, vr l0), (1, vi l1)] [] from ?_)
  unfold PJ7_fill at hw
  refine wm_iconst hC dJ7_fill_53178_0 (k := ?_)
  refine wm_istore_n hC dJ7_fill_53178_1 (by decide) (L2 := [(2, vi 0), (0, vr l0), (1, vi l1)]) rfl ?_
  refine wm_aload_n hC 1 dJ7_fill_53178_2 rfl (k_ne0 hk0 (by decide)) ?_
  refine x_alen hC hk0 (by decide) dJ7_fill_53178_3 ?_
  refine wm_istore_n hC dJ7_fill_53178_4 (by decide) (L2 := [(3, vi (kN l0 : Int)), (2, vi 0), (0, vr l0), (1, vi l1)]) rfl ?_
  obtain ⟨f, hw⟩ := hw
  refine wm_sub [2, 3, 1, 0] (L2 := [(0, vr l0), (1, vi l1), (2, vi 0), (3, vi (kN l0 : Int))]) rfl ?_
  exact WJ7_fill_b5 hC hRm hE hk0 f _ _ hw
def P7_take (l0 : Nat) (l1 : Nat) (I : mI) (R : mR) (Q : mI → Prop) : Prop := (wLet (up I l0 0 (I l1 0)) (fun I1 => (wLet (up I1 l0 1 (I1 l1 1)) (fun I2 => (wLet (up I2 l0 2 (I2 l1 2)) (fun I3 => (kK (R l1 3) = 21 ∧ (kK (R l0 3) = 21 ∧ (kK (R l0 3) = 21 ∧ (((0 : Int) ≤ 0 ∧ (0 : Int) ≤ 0 ∧ (0 : Int) ≤ (kN (R l0 3) : Int) ∧ (0 : Int) + (kN (R l0 3) : Int) ≤ (kN (R l1 3) : Int) ∧ (0 : Int) + (kN (R l0 3) : Int) ≤ (kN (R l0 3) : Int)) ∧ wLet (cpy I3 (R l1 3) 0 (R l0 3) 0 (kN (R l0 3) : Int)) (fun I4 => (kK (R l1 4) = 21 ∧ (kK (R l0 4) = 21 ∧ (kK (R l0 4) = 21 ∧ (((0 : Int) ≤ 0 ∧ (0 : Int) ≤ 0 ∧ (0 : Int) ≤ (kN (R l0 4) : Int) ∧ (0 : Int) + (kN (R l0 4) : Int) ≤ (kN (R l1 4) : Int) ∧ (0 : Int) + (kN (R l0 4) : Int) ≤ (kN (R l0 4) : Int)) ∧ wLet (cpy I4 (R l1 4) 0 (R l0 4) 0 (kN (R l0 4) : Int)) (fun I5 => (kK (R l1 5) = 21 ∧ (kK (R l0 5) = 21 ∧ (kK (R l0 5) = 21 ∧ (((0 : Int) ≤ 0 ∧ (0 : Int) ≤ 0 ∧ (0 : Int) ≤ (kN (R l0 5) : Int) ∧ (0 : Int) + (kN (R l0 5) : Int) ≤ (kN (R l1 5) : Int) ∧ (0 : Int) + (kN (R l0 5) : Int) ≤ (kN (R l0 5) : Int)) ∧ wLet (cpy I5 (R l1 5) 0 (R l0 5) 0 (kN (R l0 5) : Int)) (fun I6 => (kK (R l1 6) = 21 ∧ (kK (R l0 6) = 21 ∧ (kK (R l0 6) = 21 ∧ (((0 : Int) ≤ 0 ∧ (0 : Int) ≤ 0 ∧ (0 : Int) ≤ (kN (R l0 6) : Int) ∧ (0 : Int) + (kN (R l0 6) : Int) ≤ (kN (R l1 6) : Int) ∧ (0 : Int) + (kN (R l0 6) : Int) ≤ (kN (R l0 6) : Int)) ∧ wLet (cpy I6 (R l1 6) 0 (R l0 6) 0 (kN (R l0 6) : Int)) (fun I7 => (Q I7)))))))))))))))))))))))))))
set_option maxRecDepth 20000 in
theorem C7_take {ad : Nat → Nat} {n : Nat} {I J : mI} {R : mR} {Q : mI → Prop} {l0 : Nat} {l1 : Nat} (hk0 : kK l0 = 7) (hk1 : kK l1 = 7) (hw : P7_take l0 l1 I R Q) : wMet yX7_take cX7_take 2 none 1 60 ad n I J R [vr l0, vr l1] (fun _ I' J' R' => (J' = J ∧ R' = R) ∧ Q I') := by
  refine wMet_of (by decide) (Nat.le_of_ble_eq_true rfl) (fun C hC hRm hE => ?_)
  refine (show WM C ad n I J R 0 0 0 [(0, vr l0), (1, vr l1)] [] from ?_)
  unfold P7_take at hw
  refine wm_aload_n hC 0 dX7_take_0 rfl (k_ne0 hk0 (by decide)) ?_
  refine wm_aload_n hC 1 dX7_take_1 rfl (k_ne0 hk1 (by decide)) ?_
  refine x_getI hC 0 fl_X7_9 rfl hk1 dX7_take_2 ?_
  refine x_putI hC 0 fl_X7_9 rfl hk0 dX7_take_5 hw (fun I1 hw => ?_)
  refine wm_aload_n hC 0 dX7_take_8 rfl (k_ne0 hk0 (by decide)) ?_
  refine wm_aload_n hC 1 dX7_take_9 rfl (k_ne0 hk1 (by decide)) ?_
  refine x_getI hC 1 fl_X7_15 rfl hk1 dX7_take_10 ?_
  refine x_putI hC 1 fl_X7_15 rfl hk0 dX7_take_13 hw (fun I2 hw => ?_)
  refine wm_aload_n hC 0 dX7_take_16 rfl (k_ne0 hk0 (by decide)) ?_
  refine wm_aload_n hC 1 dX7_take_17 rfl (k_ne0 hk1 (by decide)) ?_
  refine x_getI hC 2 fl_X7_18 rfl hk1 dX7_take_18 ?_
  refine x_putI hC 2 fl_X7_18 rfl hk0 dX7_take_21 hw (fun I3 hw => ?_)
  refine wm_aload_n hC 1 dX7_take_24 rfl (k_ne0 hk1 (by decide)) ?_
  refine x_getR2 hC 3 fl_X7_21 rfl hk1 dX7_take_25 hw (fun g1 hw => ?_)
  refine wm_iconst hC dX7_take_28 (k := ?_)
  refine wm_aload_n hC 0 dX7_take_29 rfl (k_ne0 hk0 (by decide)) ?_
  refine x_getR2 hC 3 fl_X7_21 rfl hk0 dX7_take_30 hw (fun g2 hw => ?_)
  refine wm_iconst hC dX7_take_33 (k := ?_)
  refine wm_aload_n hC 0 dX7_take_34 rfl (k_ne0 hk0 (by decide)) ?_
  refine x_getR2 hC 3 fl_X7_21 rfl hk0 dX7_take_35 hw (fun g3 hw => ?_)
  refine x_alen hC g3 (by decide) dX7_take_38 ?_
  refine x_copyi hC hRm (st := []) g1 g2 cw_X7_42 (Nat.le_of_ble_eq_true rfl) (by decide) dX7_take_39 hw (fun I4 hw => ?_)
  refine wm_aload_n hC 1 dX7_take_42 rfl (k_ne0 hk1 (by decide)) ?_
  refine x_getR2 hC 4 fl_X7_25 rfl hk1 dX7_take_43 hw (fun g4 hw => ?_)
  refine wm_iconst hC dX7_take_46 (k := ?_)
  refine wm_aload_n hC 0 dX7_take_47 rfl (k_ne0 hk0 (by decide)) ?_
  refine x_getR2 hC 4 fl_X7_25 rfl hk0 dX7_take_48 hw (fun g5 hw => ?_)
  refine wm_iconst hC dX7_take_51 (k := ?_)
  refine wm_aload_n hC 0 dX7_take_52 rfl (k_ne0 hk0 (by decide)) ?_
  refine x_getR2 hC 4 fl_X7_25 rfl hk0 dX7_take_53 hw (fun g6 hw => ?_)
  refine x_alen hC g6 (by decide) dX7_take_56 ?_
  refine x_copyi hC hRm (st := []) g4 g5 cw_X7_42 (Nat.le_of_ble_eq_true rfl) (by decide) dX7_take_57 hw (fun I5 hw => ?_)
  refine wm_aload_n hC 1 dX7_take_60 rfl (k_ne0 hk1 (by decide)) ?_
  refine x_getR2 hC 5 fl_X7_28 rfl hk1 dX7_take_61 hw (fun g7 hw => ?_)
  refine wm_iconst hC dX7_take_64 (k := ?_)
  refine wm_aload_n hC 0 dX7_take_65 rfl (k_ne0 hk0 (by decide)) ?_
  refine x_getR2 hC 5 fl_X7_28 rfl hk0 dX7_take_66 hw (fun g8 hw => ?_)
  refine wm_iconst hC dX7_take_69 (k := ?_)
  refine wm_aload_n hC 0 dX7_take_70 rfl (k_ne0 hk0 (by decide)) ?_
  refine x_getR2 hC 5 fl_X7_28 rfl hk0 dX7_take_71 hw (fun g9 hw => ?_)
  refine x_alen hC g9 (by decide) dX7_take_74 ?_
  refine x_copyi hC hRm (st := []) g7 g8 cw_X7_42 (Nat.le_of_ble_eq_true rfl) (by decide) dX7_take_75 hw (fun I6 hw => ?_)
  refine wm_aload_n hC 1 dX7_take_78 rfl (k_ne0 hk1 (by decide)) ?_
  refine x_getR2 hC 6 fl_X7_31 rfl hk1 dX7_take_79 hw (fun g10 hw => ?_)
  refine wm_iconst hC dX7_take_82 (k := ?_)
  refine wm_aload_n hC 0 dX7_take_83 rfl (k_ne0 hk0 (by decide)) ?_
  refine x_getR2 hC 6 fl_X7_31 rfl hk0 dX7_take_84 hw (fun g11 hw => ?_)
  refine wm_iconst hC dX7_take_87 (k := ?_)
  refine wm_aload_n hC 0 dX7_take_88 rfl (k_ne0 hk0 (by decide)) ?_
  refine x_getR2 hC 6 fl_X7_31 rfl hk0 dX7_take_89 hw (fun g12 hw => ?_)
  refine x_alen hC g12 (by decide) dX7_take_92 ?_
  refine x_copyi hC hRm (st := []) g10 g11 cw_X7_42 (Nat.le_of_ble_eq_true rfl) (by decide) dX7_take_93 hw (fun I7 hw => ?_)
  exact wm_return hC hE dX7_take_96 ⟨⟨rfl, rfl⟩, hw⟩
def P3_letterOf_b72_body (l3 : Int) (I : mI) (R : mR) (Q : Int → Prop) (k72 : Int → Int → Prop) (l4 : Int) (l6 : Int) : Prop := (if l6 ≤ l3 then (Q (Int.tmod l4 27)) else (rg (l6 + (-1)) ∧ (k72 (Int.tdiv l4 27) (l6 + (-1)))))
def P3_letterOf_b72 (l3 : Int) (I : mI) (R : mR) (Q : Int → Prop) : Nat → Int → Int → Prop
  | 0 => fun _ _ => False
  | f + 1 => fun l4 l6 => P3_letterOf_b72_body l3 I R Q (P3_letterOf_b72 l3 I R Q f) l4 l6
set_option maxRecDepth 20000 in
theorem W3_letterOf_b72_body {C : wX} {ad : Nat → Nat} {n : Nat} {I J : mI} {R : mR} {Q : Int → Prop} (hC : wOK C cX3_letterOf 7 RX3) (hRm : wRm C 2 34 0 0) (hE : wEnd C (some .int) ad n (fun r I' J' R' => (I' = I ∧ J' = J ∧ R' = R) ∧ Q r)) {l3 : Int} {l4 : Int} {l6 : Int}     {k72 : Int → Int → Prop} (kk72 : ∀ (y4 : Int) (y6 : Int), k72 y4 y6 → WM C ad n I J R 0 0 72 [(3, vi l3), (4, vi y4), (6, vi y6)] []) (hw : P3_letterOf_b72_body l3 I R Q k72 l4 l6) : WM C ad n I J R 0 0 72 [(3, vi l3), (4, vi l4), (6, vi l6)] [] := by
  unfold P3_letterOf_b72_body at hw
  refine wm_iload hC 2 dX3_letterOf_72 rfl ?_
  refine wm_iload_n hC 0 dX3_letterOf_74 rfl ?_
  refine wm_icmp_le (tgt := 91) hC dX3_letterOf_75 (by decide) hw (fun hw => ?_) (fun hw => ?_)
  · refine wm_iload hC 1 dX3_letterOf_91 rfl ?_
    refine wm_bipush hC dX3_letterOf_93 (k := ?_)
    refine x_iremP hC (by decide) dX3_letterOf_95 ?_
    exact wm_ireturn hC hE dX3_letterOf_96 ⟨⟨rfl, rfl, rfl⟩, hw⟩
  · refine wm_iload hC 1 dX3_letterOf_78 rfl ?_
    refine wm_bipush hC dX3_letterOf_80 (k := ?_)
    refine x_idivP hC (by decide) dX3_letterOf_82 ?_
    refine wm_istore hC dX3_letterOf_83 (by decide) (L2 := [(4, vi (Int.tdiv l4 27)), (3, vi l3), (6, vi l6)]) rfl ?_
    refine x_iinc hC 2 dX3_letterOf_85 rfl (by decide) (L2 := [(6, vi (l6 + (-1))), (4, vi (Int.tdiv l4 27)), (3, vi l3)]) rfl hw (fun hw => ?_)
    refine wm_goto (tgt := 72) hC dX3_letterOf_88 (by decide) ?_
    refine wm_sub [2, 1, 0] (L2 := [(3, vi l3), (4, vi (Int.tdiv l4 27)), (6, vi (l6 + (-1)))]) rfl ?_
    exact kk72 _ _ hw
set_option maxRecDepth 20000 in
theorem W3_letterOf_b72 {C : wX} {ad : Nat → Nat} {n : Nat} {I J : mI} {R : mR} {Q : Int → Prop} (hC : wOK C cX3_letterOf 7 RX3) (hRm : wRm C 2 34 0 0) (hE : wEnd C (some .int) ad n (fun r I' J' R' => (I' = I ∧ J' = J ∧ R' = R) ∧ Q r)) {l3 : Int}     : ∀ (f : Nat) (l4 : Int) (l6 : Int), P3_letterOf_b72 l3 I R Q f l4 l6 → WM C ad n I J R 0 0 72 [(3, vi l3), (4, vi l4), (6, vi l6)] [] := by
  intro f
  induction f with
  | zero => intro l4 l6 hw; exact hw.elim
  | succ f ih => intro l4 l6 hw; exact W3_letterOf_b72_body hC hRm hE  (fun a0 a1 hw => ih a0 a1 hw) hw
def P3_letterOf_b58 (l3 : Int) (l4 : Int) (l5 : Int) (I : mI) (R : mR) (Q : Int → Prop) : Prop := (if l3 < l5 then (rg (l5 - 1) ∧ (∃ f, P3_letterOf_b72 l3 I R Q f l4 (l5 - 1))) else (Q 0))
set_option maxRecDepth 20000 in
theorem W3_letterOf_b58 {C : wX} {ad : Nat → Nat} {n : Nat} {I J : mI} {R : mR} {Q : Int → Prop} (hC : wOK C cX3_letterOf 7 RX3) (hRm : wRm C 2 34 0 0) (hE : wEnd C (some .int) ad n (fun r I' J' R' => (I' = I ∧ J' = J ∧ R' = R) ∧ Q r)) {l3 : Int} {l4 : Int} {l5 : Int}     (hw : P3_letterOf_b58 l3 l4 l5 I R Q) : WM C ad n I J R 0 0 58 [(3, vi l3), (4, vi l4), (5, vi l5)] [] := by
  unfold P3_letterOf_b58 at hw
  refine wm_iload_n hC 0 dX3_letterOf_58 rfl ?_
  refine wm_iload hC 2 dX3_letterOf_59 rfl ?_
  refine wm_icmp_lt (tgt := 66) hC dX3_letterOf_61 (by decide) hw (fun hw => ?_) (fun hw => ?_)
  · refine wm_iload hC 2 dX3_letterOf_66 rfl ?_
    refine wm_iconst hC dX3_letterOf_68 (k := ?_)
    refine x_isub hC dX3_letterOf_69 hw (fun hw => ?_)
    refine wm_istore hC dX3_letterOf_70 (by decide) (L2 := [(6, vi (l5 - 1)), (3, vi l3), (4, vi l4), (5, vi l5)]) rfl ?_
    obtain ⟨f, hw⟩ := hw
    refine wm_sub [1, 2, 0] (L2 := [(3, vi l3), (4, vi l4), (6, vi (l5 - 1))]) rfl ?_
    exact W3_letterOf_b72 hC hRm hE  f _ _ hw
  · refine wm_iconst hC dX3_letterOf_64 (k := ?_)
    exact wm_ireturn hC hE dX3_letterOf_65 ⟨⟨rfl, rfl, rfl⟩, hw⟩
def P3_letterOf_b33_body (l3 : Int) (l4 : Int) (I : mI) (R : mR) (Q : Int → Prop) (k33 : Int → Int → Prop) (l5 : Int) (l6 : Int) : Prop := (if l6 ≤ 0 then (P3_letterOf_b58 l3 l4 l5 I R Q) else (if (6 : Int) ≤ l5 then (P3_letterOf_b58 l3 l4 l5 I R Q) else (rg (l5 + 1) ∧ (k33 (l5 + 1) (Int.tdiv l6 27)))))
def P3_letterOf_b33 (l3 : Int) (l4 : Int) (I : mI) (R : mR) (Q : Int → Prop) : Nat → Int → Int → Prop
  | 0 => fun _ _ => False
  | f + 1 => fun l5 l6 => P3_letterOf_b33_body l3 l4 I R Q (P3_letterOf_b33 l3 l4 I R Q f) l5 l6
set_option maxRecDepth 20000 in
theorem W3_letterOf_b33_body {C : wX} {ad : Nat → Nat} {n : Nat} {I J : mI} {R : mR} {Q : Int → Prop} (hC : wOK C cX3_letterOf 7 RX3) (hRm : wRm C 2 34 0 0) (hE : wEnd C (some .int) ad n (fun r I' J' R' => (I' = I ∧ J' = J ∧ R' = R) ∧ Q r)) {l3 : Int} {l4 : Int} {l5 : Int} {l6 : Int}     {k33 : Int → Int → Prop} (kk33 : ∀ (y5 : Int) (y6 : Int), k33 y5 y6 → WM C ad n I J R 0 0 33 [(3, vi l3), (4, vi l4), (5, vi y5), (6, vi y6)] []) (hw : P3_letterOf_b33_body l3 l4 I R Q k33 l5 l6) : WM C ad n I J R 0 0 33 [(3, vi l3), (4, vi l4), (5, vi l5), (6, vi l6)] [] := by
  unfold P3_letterOf_b33_body at hw
  refine wm_iload hC 3 dX3_letterOf_33 rfl ?_
  refine wm_if_le (tgt := 58) hC dX3_letterOf_35 (by decide) hw (fun hw => ?_) (fun hw => ?_)
  · refine wm_sub [0, 1, 2] (L2 := [(3, vi l3), (4, vi l4), (5, vi l5)]) rfl ?_
    exact W3_letterOf_b58 hC hRm hE  hw
  · refine wm_iload hC 2 dX3_letterOf_38 rfl ?_
    refine wm_bipush hC dX3_letterOf_40 (k := ?_)
    refine wm_icmp_ge (tgt := 58) hC dX3_letterOf_42 (by decide) hw (fun hw => ?_) (fun hw => ?_)
    · refine wm_sub [0, 1, 2] (L2 := [(3, vi l3), (4, vi l4), (5, vi l5)]) rfl ?_
      exact W3_letterOf_b58 hC hRm hE  hw
    · refine x_iinc hC 2 dX3_letterOf_45 rfl (by decide) (L2 := [(5, vi (l5 + 1)), (3, vi l3), (4, vi l4), (6, vi l6)]) rfl hw (fun hw => ?_)
      refine wm_iload hC 3 dX3_letterOf_48 rfl ?_
      refine wm_bipush hC dX3_letterOf_50 (k := ?_)
      refine x_idivP hC (by decide) dX3_letterOf_52 ?_
      refine wm_istore hC dX3_letterOf_53 (by decide) (L2 := [(6, vi (Int.tdiv l6 27)), (5, vi (l5 + 1)), (3, vi l3), (4, vi l4)]) rfl ?_
      refine wm_goto (tgt := 33) hC dX3_letterOf_55 (by decide) ?_
      refine wm_sub [2, 3, 1, 0] (L2 := [(3, vi l3), (4, vi l4), (5, vi (l5 + 1)), (6, vi (Int.tdiv l6 27))]) rfl ?_
      exact kk33 _ _ hw
set_option maxRecDepth 20000 in
theorem W3_letterOf_b33 {C : wX} {ad : Nat → Nat} {n : Nat} {I J : mI} {R : mR} {Q : Int → Prop} (hC : wOK C cX3_letterOf 7 RX3) (hRm : wRm C 2 34 0 0) (hE : wEnd C (some .int) ad n (fun r I' J' R' => (I' = I ∧ J' = J ∧ R' = R) ∧ Q r)) {l3 : Int} {l4 : Int}     : ∀ (f : Nat) (l5 : Int) (l6 : Int), P3_letterOf_b33 l3 l4 I R Q f l5 l6 → WM C ad n I J R 0 0 33 [(3, vi l3), (4, vi l4), (5, vi l5), (6, vi l6)] [] := by
  intro f
  induction f with
  | zero => intro l5 l6 hw; exact hw.elim
  | succ f ih => intro l5 l6 hw; exact W3_letterOf_b33_body hC hRm hE  (fun a0 a1 hw => ih a0 a1 hw) hw
def P3_letterOf (l0 : Nat) (l1 : Int) (l2 : Int) (l3 : Int) (I : mI) (R : mR) (Q : Int → Prop) : Prop := (P3_isThere l0 l1 l2 I R (fun r1 => (if r1 = 0 then (∃ f, P3_letterOf_b33 l3 0 I R Q f 0 0) else (kK (R l0 1) = 21 ∧ (rg (l1 * 6) ∧ (rg ((l1 * 6) + l2) ∧ (((0 : Int) ≤ ((l1 * 6) + l2) ∧ ((l1 * 6) + l2) < (kN (R l0 1) : Int)) ∧ (wLet (I (R l0 1) ((l1 * 6) + l2)) (fun x1 => (∃ f, P3_letterOf_b33 l3 x1 I R Q f 0 x1))))))))))
set_option maxRecDepth 20000 in
theorem C3_letterOf {ad : Nat → Nat} {n : Nat} {I J : mI} {R : mR} {Q : Int → Prop} {l0 : Nat} {l1 : Int} {l2 : Int} {l3 : Int} (hk0 : kK l0 = 3) (hw : P3_letterOf l0 l1 l2 l3 I R Q) : wMet yX3_letterOf cX3_letterOf 7 (some .int) 2 34 ad n I J R [vr l0, vi l1, vi l2, vi l3] (fun r I' J' R' => (I' = I ∧ J' = J ∧ R' = R) ∧ Q r) := by
  refine wMet_of (by decide) (Nat.le_of_ble_eq_true rfl) (fun C hC hRm hE => ?_)
  refine (show WM C ad n I J R 0 0 0 [(0, vr l0), (1, vi l1), (2, vi l2), (3, vi l3)] [] from ?_)
  unfold P3_letterOf at hw
  refine wm_aload_n hC 0 dX3_letterOf_0 rfl (k_ne0 hk0 (by decide)) ?_
  refine wm_iload_n hC 1 dX3_letterOf_1 rfl ?_
  refine wm_iload_n hC 2 dX3_letterOf_2 rfl ?_
  refine y_callV_z_n hC hRm ml_X3_58 hk0 (C3_isThere hk0 hw) (Nat.le_of_ble_eq_true rfl) (Nat.le_of_ble_eq_true rfl) ⟨Nat.zero_le _, Nat.zero_le _⟩ rfl (st := []) rfl (Nat.le_of_ble_eq_true rfl) dX3_letterOf_3 (fun r1 hw => ?_)
  refine wm_if_eq (tgt := 23) hC dX3_letterOf_6 (by decide) hw (fun hw => ?_) (fun hw => ?_)
  · refine wm_iconst hC dX3_letterOf_23 (k := ?_)
    refine wm_istore hC dX3_letterOf_24 (by decide) (L2 := [(4, vi 0), (0, vr l0), (1, vi l1), (2, vi l2), (3, vi l3)]) rfl ?_
    refine wm_iconst hC dX3_letterOf_26 (k := ?_)
    refine wm_istore hC dX3_letterOf_27 (by decide) (L2 := [(5, vi 0), (4, vi 0), (0, vr l0), (1, vi l1), (2, vi l2), (3, vi l3)]) rfl ?_
    refine wm_iload hC 1 dX3_letterOf_29 rfl ?_
    refine wm_istore hC dX3_letterOf_31 (by decide) (L2 := [(6, vi 0), (5, vi 0), (4, vi 0), (0, vr l0), (1, vi l1), (2, vi l2), (3, vi l3)]) rfl ?_
    obtain ⟨f, hw⟩ := hw
    refine wm_sub [6, 2, 1, 0] (L2 := [(3, vi l3), (4, vi 0), (5, vi 0), (6, vi 0)]) rfl ?_
    exact W3_letterOf_b33 hC hRm hE  f _ _ hw
  · refine wm_aload_n hC 0 dX3_letterOf_9 rfl (k_ne0 hk0 (by decide)) ?_
    refine x_getR2 hC 1 fl_X3_15 rfl hk0 dX3_letterOf_10 hw (fun g1 hw => ?_)
    refine wm_iload_n hC 1 dX3_letterOf_13 rfl ?_
    refine wm_bipush hC dX3_letterOf_14 (k := ?_)
    refine x_imul hC dX3_letterOf_16 hw (fun hw => ?_)
    refine wm_iload_n hC 2 dX3_letterOf_17 rfl ?_
    refine x_iadd hC dX3_letterOf_18 hw (fun hw => ?_)
    refine x_iald hC g1 dX3_letterOf_19 hw (fun hw => ?_)
    refine wm_goto (tgt := 24) hC dX3_letterOf_20 (by decide) ?_
    refine x_nameI hw (fun x1 hw => ?_)
    refine wm_istore hC dX3_letterOf_24 (by decide) (L2 := [(4, vi x1), (0, vr l0), (1, vi l1), (2, vi l2), (3, vi l3)]) rfl ?_
    refine wm_iconst hC dX3_letterOf_26 (k := ?_)
    refine wm_istore hC dX3_letterOf_27 (by decide) (L2 := [(5, vi 0), (4, vi x1), (0, vr l0), (1, vi l1), (2, vi l2), (3, vi l3)]) rfl ?_
    refine wm_iload hC 1 dX3_letterOf_29 rfl ?_
    refine wm_istore hC dX3_letterOf_31 (by decide) (L2 := [(6, vi x1), (5, vi 0), (4, vi x1), (0, vr l0), (1, vi l1), (2, vi l2), (3, vi l3)]) rfl ?_
    obtain ⟨f, hw⟩ := hw
    refine wm_sub [6, 2, 1, 0] (L2 := [(3, vi l3), (4, vi x1), (5, vi 0), (6, vi x1)]) rfl ?_
    exact W3_letterOf_b33 hC hRm hE  f _ _ hw
