def p1_saidBy (l1 : Int) (I : mI) (Q : Int → Prop) : Prop := (if l1 < 0 then (Q (-1)) else (if (6 : Int) ≤ l1 then (Q (-1)) else (((0 : Int) ≤ l1 ∧ l1 < (6 : Int)) ∧ (Q (I 149 l1)))))
set_option maxRecDepth 20000 in
theorem c1_saidBy {ad : Nat → Nat} {n : Nat} {I J : mI} {R : mR} {Q : Int → Prop}  (hRF : RF R) {l1 : Int}   (hw : p1_saidBy l1 I Q) : wMet yX1_saidBy cX1_saidBy 2 (some .int) 1 12 false ad n I J R [vr 146, vi l1] (fun r I' J' R' => (I' = I ∧ J' = J ∧ R' = R) ∧ Q r) := by
  refine wMet_of (by decide) (Nat.le_of_ble_eq_true rfl) (fun C hC hRm hE hS => ?_)
  refine (show WM C ad n I J R 0 0 0 [(0, vr 146), (1, vi l1)] [] from ?_)
  unfold p1_saidBy at hw
  refine wm_iload_n hC 1 dX1_saidBy_0 rfl ?_
  refine wm_if_lt (tgt := 22) hC dX1_saidBy_1 (by decide) hw (fun hw => ?_) (fun hw => ?_)
  · refine wm_iconst hC dX1_saidBy_22 (k := ?_)
    exact wm_ireturn hC hE dX1_saidBy_23 ⟨⟨rfl, rfl, rfl⟩, hw⟩
  · refine wm_iload_n hC 1 dX1_saidBy_4 rfl ?_
    refine wm_aload_n hC 0 dX1_saidBy_5 rfl (k_ne0 kk_146 (by decide)) ?_
    refine x_getR3 hC 3 fl_X1_18 rfl kk_146 (rf_146_3 hRF) dX1_saidBy_6 ?_
    refine x_alen2 hC kk_149 kn_149 (by decide) dX1_saidBy_9 ?_
    refine wm_icmp_ge (tgt := 22) hC dX1_saidBy_10 (by decide) hw (fun hw => ?_) (fun hw => ?_)
    · refine wm_iconst hC dX1_saidBy_22 (k := ?_)
      exact wm_ireturn hC hE dX1_saidBy_23 ⟨⟨rfl, rfl, rfl⟩, hw⟩
    · refine wm_aload_n hC 0 dX1_saidBy_13 rfl (k_ne0 kk_146 (by decide)) ?_
      refine x_getR3 hC 3 fl_X1_18 rfl kk_146 (rf_146_3 hRF) dX1_saidBy_14 ?_
      refine wm_iload_n hC 1 dX1_saidBy_17 rfl ?_
      refine x_iald2 hC kk_149 kn_149 dX1_saidBy_18 hw (fun hw => ?_)
      refine wm_goto (tgt := 23) hC dX1_saidBy_19 (by decide) ?_
      exact wm_ireturn hC hE dX1_saidBy_23 ⟨⟨rfl, rfl, rfl⟩, hw⟩
def p0_changeMoods_b39 (l1 : Nat) (l2 : Nat) (l3 : Int) (l4 : Int) (s0 : Int) (s1 : Int) (I : mI) (k3 : Int → mI → Prop) (Q : mI → Prop) : Prop := (rg (s0 + s1) ∧ (if (0 : Int) ≤ (s0 + s1) then (if (s0 + s1) ≤ 9 then (((0 : Int) ≤ l4 ∧ l4 < (6 : Int)) ∧ wLet (up I (l2 + 2) l4 (s0 + s1)) (fun I1 => (rg (l4 + 1) ∧ (k3 (l4 + 1) I1)))) else (((0 : Int) ≤ l4 ∧ l4 < (6 : Int)) ∧ wLet (up I (l2 + 2) l4 9) (fun I2 => (rg (l4 + 1) ∧ (k3 (l4 + 1) I2))))) else (((0 : Int) ≤ l4 ∧ l4 < (6 : Int)) ∧ wLet (up I (l2 + 2) l4 0) (fun I3 => (rg (l4 + 1) ∧ (k3 (l4 + 1) I3))))))
set_option maxRecDepth 20000 in
theorem w0_changeMoods_b39 {C : wX} {ad : Nat → Nat} {n : Nat} {I J : mI} {R : mR} {Q : mI → Prop} (hC : wOK C cX0_changeMoods 6 RX0) (hRm : wRm C 2 33 0 0) (hE : wEnd C none ad n (fun _ I' J' R' => (J' = J ∧ R' = R) ∧ Q I')) (hRF : RF R) {l1 : Nat} {l2 : Nat} {l3 : Int} {l4 : Int} {s0 : Int} {s1 : Int}  {k3 : Int → mI → Prop} (h1 : isLd l1) (h2 : isSt l2) (kk3 : ∀ (y4 : Int) (I' : mI), k3 y4 I' → WM C ad n I' J R 0 0 3 [(0, vr 150), (1, vr l1), (2, vr l2), (3, vi l3), (4, vi y4)] []) (hw : p0_changeMoods_b39 l1 l2 l3 l4 s0 s1 I k3 Q) : WM C ad n I J R 0 0 39 [(0, vr 150), (1, vr l1), (2, vr l2), (3, vi l3), (4, vi l4)] [vi s1, vi s0] := by
  unfold p0_changeMoods_b39 at hw
  refine x_iadd hC dX0_changeMoods_39 hw (fun hw => ?_)
  refine wm_istore hC dX0_changeMoods_40 (by decide) (L2 := [(5, vi (s0 + s1)), (0, vr 150), (1, vr l1), (2, vr l2), (3, vi l3), (4, vi l4)]) rfl ?_
  refine wm_aload_n hC 3 dX0_changeMoods_42 rfl (k_ne0 (st_k0 h2) (by decide)) ?_
  refine x_getR3 hC 4 fl_X0_90 rfl (st_k0 h2) (rfs_4 hRF h2) dX0_changeMoods_43 ?_
  refine wm_iload hC 5 dX0_changeMoods_46 rfl ?_
  refine wm_iload hC 0 dX0_changeMoods_48 rfl ?_
  refine wm_if_ge (tgt := 57) hC dX0_changeMoods_50 (by decide) hw (fun hw => ?_) (fun hw => ?_)
  · refine wm_iload hC 0 dX0_changeMoods_57 rfl ?_
    refine wm_bipush hC dX0_changeMoods_59 (k := ?_)
    refine wm_icmp_le (tgt := 69) hC dX0_changeMoods_61 (by decide) hw (fun hw => ?_) (fun hw => ?_)
    · refine wm_iload hC 0 dX0_changeMoods_69 rfl ?_
      refine x_iast2 hC (st_k2 h2) (st_n2 h2) dX0_changeMoods_71 hw (fun I1 hw => ?_)
      refine x_iinc hC 5 dX0_changeMoods_72 rfl (by decide) (L2 := [(4, vi (l4 + 1)), (5, vi (s0 + s1)), (0, vr 150), (1, vr l1), (2, vr l2), (3, vi l3)]) rfl hw (fun hw => ?_)
      refine wm_goto (tgt := 3) hC dX0_changeMoods_75 (by decide) ?_
      refine wm_sub [2, 3, 4, 5, 0] (L2 := [(0, vr 150), (1, vr l1), (2, vr l2), (3, vi l3), (4, vi (l4 + 1))]) rfl ?_
      exact kk3 _ _ hw
    · refine wm_bipush hC dX0_changeMoods_64 (k := ?_)
      refine wm_goto (tgt := 71) hC dX0_changeMoods_66 (by decide) ?_
      refine x_iast2 hC (st_k2 h2) (st_n2 h2) dX0_changeMoods_71 hw (fun I2 hw => ?_)
      refine x_iinc hC 5 dX0_changeMoods_72 rfl (by decide) (L2 := [(4, vi (l4 + 1)), (5, vi (s0 + s1)), (0, vr 150), (1, vr l1), (2, vr l2), (3, vi l3)]) rfl hw (fun hw => ?_)
      refine wm_goto (tgt := 3) hC dX0_changeMoods_75 (by decide) ?_
      refine wm_sub [2, 3, 4, 5, 0] (L2 := [(0, vr 150), (1, vr l1), (2, vr l2), (3, vi l3), (4, vi (l4 + 1))]) rfl ?_
      exact kk3 _ _ hw
  · refine wm_iconst hC dX0_changeMoods_53 (k := ?_)
    refine wm_goto (tgt := 71) hC dX0_changeMoods_54 (by decide) ?_
    refine x_iast2 hC (st_k2 h2) (st_n2 h2) dX0_changeMoods_71 hw (fun I3 hw => ?_)
    refine x_iinc hC 5 dX0_changeMoods_72 rfl (by decide) (L2 := [(4, vi (l4 + 1)), (5, vi (s0 + s1)), (0, vr 150), (1, vr l1), (2, vr l2), (3, vi l3)]) rfl hw (fun hw => ?_)
    refine wm_goto (tgt := 3) hC dX0_changeMoods_75 (by decide) ?_
    refine wm_sub [2, 3, 4, 5, 0] (L2 := [(0, vr 150), (1, vr l1), (2, vr l2), (3, vi l3), (4, vi (l4 + 1))]) rfl ?_
    exact kk3 _ _ hw
def p0_changeMoods_b3_body (l1 : Nat) (l2 : Nat) (l3 : Int) (Q : mI → Prop) (k3 : Int → mI → Prop) (l4 : Int) (I : mI) : Prop := (if (I (l1 + 1) 0) ≤ l4 then (Q I) else (((0 : Int) ≤ l4 ∧ l4 < (6 : Int)) ∧ (p1_saidBy l4 I (fun r1 => (if r1 = l3 then (p0_changeMoods_b39 l1 l2 l3 l4 (I (l2 + 2) l4) 1 I k3 Q) else (p0_changeMoods_b39 l1 l2 l3 l4 (I (l2 + 2) l4) (-1) I k3 Q))))))
def p0_changeMoods_b3 (l1 : Nat) (l2 : Nat) (l3 : Int) (Q : mI → Prop) : Nat → Int → mI → Prop
  | 0 => fun _ _ => False
  | f + 1 => fun l4 I => p0_changeMoods_b3_body l1 l2 l3 Q (p0_changeMoods_b3 l1 l2 l3 Q f) l4 I
set_option maxRecDepth 20000 in
theorem w0_changeMoods_b3_body {C : wX} {ad : Nat → Nat} {n : Nat} {I J : mI} {R : mR} {Q : mI → Prop} (hC : wOK C cX0_changeMoods 6 RX0) (hRm : wRm C 2 33 0 0) (hE : wEnd C none ad n (fun _ I' J' R' => (J' = J ∧ R' = R) ∧ Q I')) (hRF : RF R) {l1 : Nat} {l2 : Nat} {l3 : Int} {l4 : Int}   (h1 : isLd l1) (h2 : isSt l2)  {k3 : Int → mI → Prop} (kk3 : ∀ (y4 : Int) (I' : mI), k3 y4 I' → WM C ad n I' J R 0 0 3 [(0, vr 150), (1, vr l1), (2, vr l2), (3, vi l3), (4, vi y4)] []) (hw : p0_changeMoods_b3_body l1 l2 l3 Q k3 l4 I) : WM C ad n I J R 0 0 3 [(0, vr 150), (1, vr l1), (2, vr l2), (3, vi l3), (4, vi l4)] [] := by
  unfold p0_changeMoods_b3_body at hw
  refine wm_iload hC 4 dX0_changeMoods_3 rfl ?_
  refine wm_aload_n hC 1 dX0_changeMoods_5 rfl (k_ne0 (ld_k0 h1) (by decide)) ?_
  refine x_getR3 hC 0 fl_X0_29 rfl (ld_k0 h1) (rfd_0 hRF h1) dX0_changeMoods_6 ?_
  refine wm_iconst hC dX0_changeMoods_9 (k := ?_)
  refine x_ialdK hC (ld_k1 h1) (ld_n1 h1) (by decide) (by decide) dX0_changeMoods_10 ?_
  refine wm_icmp_ge (tgt := 78) hC dX0_changeMoods_11 (by decide) hw (fun hw => ?_) (fun hw => ?_)
  · exact wm_return hC hE dX0_changeMoods_78 ⟨⟨rfl, rfl⟩, hw⟩
  · refine wm_aload_n hC 2 dX0_changeMoods_14 rfl (k_ne0 (st_k0 h2) (by decide)) ?_
    refine x_getR3 hC 4 fl_X0_90 rfl (st_k0 h2) (rfs_4 hRF h2) dX0_changeMoods_15 ?_
    refine wm_iload hC 4 dX0_changeMoods_18 rfl ?_
    refine x_iald2 hC (st_k2 h2) (st_n2 h2) dX0_changeMoods_20 hw (fun hw => ?_)
    refine wm_aload_n hC 0 dX0_changeMoods_21 rfl (k_ne0 kk_150 (by decide)) ?_
    refine x_getR3 hC 0 fl_X0_9 rfl kk_150 (rf_150_0 hRF) dX0_changeMoods_22 ?_
    refine wm_iload hC 4 dX0_changeMoods_25 rfl ?_
    refine y_callV_i_n hC hRm noS ml_X0_93 kk_146 (c1_saidBy hRF  hw) (Nat.le_of_ble_eq_true rfl) (Nat.le_of_ble_eq_true rfl) ⟨Nat.zero_le _, Nat.zero_le _⟩ rfl (st := [vi (I (l2 + 2) l4)]) rfl (Nat.le_of_ble_eq_true rfl) dX0_changeMoods_27 (fun r1 hw => ?_)
    refine wm_iload_n hC 3 dX0_changeMoods_30 rfl ?_
    refine wm_icmp_ne (tgt := 38) hC dX0_changeMoods_31 (by decide) hw (fun hw => ?_) (fun hw => ?_)
    · refine wm_iconst hC dX0_changeMoods_34 (k := ?_)
      refine wm_goto (tgt := 39) hC dX0_changeMoods_35 (by decide) ?_
      exact w0_changeMoods_b39 hC hRm hE hRF h1 h2 kk3 hw
    · refine wm_iconst hC dX0_changeMoods_38 (k := ?_)
      exact w0_changeMoods_b39 hC hRm hE hRF h1 h2 kk3 hw
set_option maxRecDepth 20000 in
theorem w0_changeMoods_b3 {C : wX} {ad : Nat → Nat} {n : Nat} {J : mI} {R : mR} {Q : mI → Prop} (hC : wOK C cX0_changeMoods 6 RX0) (hRm : wRm C 2 33 0 0) (hE : wEnd C none ad n (fun _ I' J' R' => (J' = J ∧ R' = R) ∧ Q I')) (hRF : RF R) {l1 : Nat} {l2 : Nat} {l3 : Int}   (h1 : isLd l1) (h2 : isSt l2)  : ∀ (f : Nat) (l4 : Int) (I : mI), p0_changeMoods_b3 l1 l2 l3 Q f l4 I → WM C ad n I J R 0 0 3 [(0, vr 150), (1, vr l1), (2, vr l2), (3, vi l3), (4, vi l4)] [] := by
  intro f
  induction f with
  | zero => intro l4 I hw; exact hw.elim
  | succ f ih => intro l4 I hw; exact w0_changeMoods_b3_body hC hRm hE hRF h1 h2 (fun a0 a1 aw => ih a0 a1 aw) hw
def p0_changeMoods (l1 : Nat) (l2 : Nat) (l3 : Int) (I : mI) (Q : mI → Prop) : Prop := (∃ f, p0_changeMoods_b3 l1 l2 l3 Q f 0 I)
set_option maxRecDepth 20000 in
theorem c0_changeMoods {ad : Nat → Nat} {n : Nat} {I J : mI} {R : mR} {Q : mI → Prop}  (hRF : RF R) {l1 : Nat} {l2 : Nat} {l3 : Int}  (h1 : isLd l1) (h2 : isSt l2)  (hw : p0_changeMoods l1 l2 l3 I Q) : wMet yX0_changeMoods cX0_changeMoods 6 none 2 33 false ad n I J R [vr 150, vr l1, vr l2, vi l3] (fun _ I' J' R' => (J' = J ∧ R' = R) ∧ Q I') := by
  refine wMet_of (by decide) (Nat.le_of_ble_eq_true rfl) (fun C hC hRm hE hS => ?_)
  refine (show WM C ad n I J R 0 0 0 [(0, vr 150), (1, vr l1), (2, vr l2), (3, vi l3)] [] from ?_)
  unfold p0_changeMoods at hw
  refine wm_iconst hC dX0_changeMoods_0 (k := ?_)
  refine wm_istore hC dX0_changeMoods_1 (by decide) (L2 := [(4, vi 0), (0, vr 150), (1, vr l1), (2, vr l2), (3, vi l3)]) rfl ?_
  obtain ⟨f, hw⟩ := hw
  refine wm_sub [1, 2, 3, 4, 0] (L2 := [(0, vr 150), (1, vr l1), (2, vr l2), (3, vi l3), (4, vi 0)]) rfl ?_
  exact w0_changeMoods_b3 hC hRm hE hRF h1 h2 f _ _ hw
def p3_hasCode (l0 : Nat) (l1 : Int) (I : mI) (Q : Int → Prop) : Prop := (if l1 < 0 then (Q 0) else (if (3 : Int) ≤ l1 then (Q 0) else (((0 : Int) ≤ l1 ∧ l1 < (3 : Int)) ∧ (((0 : Int) ≤ l1 ∧ l1 < (3 : Int)) ∧ (if (I (l0 + 8) l1) ≤ (I (l0 + 7) l1) then (Q 0) else (Q 1))))))
set_option maxRecDepth 20000 in
theorem c3_hasCode {ad : Nat → Nat} {n : Nat} {I J : mI} {R : mR} {Q : Int → Prop}  (hRF : RF R) {l0 : Nat} {l1 : Int} (h0 : isLd l0)  (hw : p3_hasCode l0 l1 I Q) : wMet yX3_hasCode cX3_hasCode 2 (some .boolean) 1 12 false ad n I J R [vr l0, vi l1] (fun r I' J' R' => (I' = I ∧ J' = J ∧ R' = R) ∧ Q r) := by
  refine wMet_of (by decide) (Nat.le_of_ble_eq_true rfl) (fun C hC hRm hE hS => ?_)
  refine (show WM C ad n I J R 0 0 0 [(0, vr l0), (1, vi l1)] [] from ?_)
  unfold p3_hasCode at hw
  refine wm_iload_n hC 1 dX3_hasCode_0 rfl ?_
  refine wm_if_lt (tgt := 32) hC dX3_hasCode_1 (by decide) hw (fun hw => ?_) (fun hw => ?_)
  · refine wm_iconst hC dX3_hasCode_32 (k := ?_)
    exact wm_zreturn hC hE (Or.inl rfl) dX3_hasCode_33 ⟨⟨rfl, rfl, rfl⟩, hw⟩
  · refine wm_iload_n hC 1 dX3_hasCode_4 rfl ?_
    refine wm_aload_n hC 0 dX3_hasCode_5 rfl (k_ne0 (ld_k0 h0) (by decide)) ?_
    refine x_getR3 hC 7 fl_X3_33 rfl (ld_k0 h0) (rfd_7 hRF h0) dX3_hasCode_6 ?_
    refine x_alen2 hC (ld_k8 h0) (ld_n8 h0) (by decide) dX3_hasCode_9 ?_
    refine wm_icmp_ge (tgt := 32) hC dX3_hasCode_10 (by decide) hw (fun hw => ?_) (fun hw => ?_)
    · refine wm_iconst hC dX3_hasCode_32 (k := ?_)
      exact wm_zreturn hC hE (Or.inl rfl) dX3_hasCode_33 ⟨⟨rfl, rfl, rfl⟩, hw⟩
    · refine wm_aload_n hC 0 dX3_hasCode_13 rfl (k_ne0 (ld_k0 h0) (by decide)) ?_
      refine x_getR3 hC 7 fl_X3_33 rfl (ld_k0 h0) (rfd_7 hRF h0) dX3_hasCode_14 ?_
      refine wm_iload_n hC 1 dX3_hasCode_17 rfl ?_
      refine x_iald2 hC (ld_k8 h0) (ld_n8 h0) dX3_hasCode_18 hw (fun hw => ?_)
      refine wm_aload_n hC 0 dX3_hasCode_19 rfl (k_ne0 (ld_k0 h0) (by decide)) ?_
      refine x_getR3 hC 6 fl_X3_30 rfl (ld_k0 h0) (rfd_6 hRF h0) dX3_hasCode_20 ?_
      refine wm_iload_n hC 1 dX3_hasCode_23 rfl ?_
      refine x_iald2 hC (ld_k7 h0) (ld_n7 h0) dX3_hasCode_24 hw (fun hw => ?_)
      refine wm_icmp_le (tgt := 32) hC dX3_hasCode_25 (by decide) hw (fun hw => ?_) (fun hw => ?_)
      · refine wm_iconst hC dX3_hasCode_32 (k := ?_)
        exact wm_zreturn hC hE (Or.inl rfl) dX3_hasCode_33 ⟨⟨rfl, rfl, rfl⟩, hw⟩
      · refine wm_iconst hC dX3_hasCode_28 (k := ?_)
        refine wm_goto (tgt := 33) hC dX3_hasCode_29 (by decide) ?_
        exact wm_zreturn hC hE (Or.inr rfl) dX3_hasCode_33 ⟨⟨rfl, rfl, rfl⟩, hw⟩
def p7_wornBy_b5_body (l0 : Nat) (l1 : Int) (l2 : Int) (I : mI) (Q : Int → Prop) (k5 : Int → Int → Prop) (l3 : Int) (l4 : Int) : Prop := (if l1 ≤ l4 then (Q l3) else (if (6 : Int) ≤ l4 then (Q l3) else (((0 : Int) ≤ l4 ∧ l4 < (6 : Int)) ∧ (if (I (l0 + 3) l4) = l2 then (rg (l3 + 1) ∧ (rg (l4 + 1) ∧ (k5 (l3 + 1) (l4 + 1)))) else (rg (l3 + 0) ∧ (rg (l4 + 1) ∧ (k5 (l3 + 0) (l4 + 1))))))))
def p7_wornBy_b5 (l0 : Nat) (l1 : Int) (l2 : Int) (I : mI) (Q : Int → Prop) : Nat → Int → Int → Prop
  | 0 => fun _ _ => False
  | f + 1 => fun l3 l4 => p7_wornBy_b5_body l0 l1 l2 I Q (p7_wornBy_b5 l0 l1 l2 I Q f) l3 l4
set_option maxRecDepth 20000 in
theorem w7_wornBy_b5_body {C : wX} {ad : Nat → Nat} {n : Nat} {I J : mI} {R : mR} {Q : Int → Prop} (hC : wOK C cX7_wornBy 5 RX7) (hRm : wRm C 1 12 0 0) (hE : wEnd C (some .int) ad n (fun r I' J' R' => (I' = I ∧ J' = J ∧ R' = R) ∧ Q r)) (hRF : RF R) {l0 : Nat} {l1 : Int} {l2 : Int} {l3 : Int} {l4 : Int}   (h0 : isSt l0)  {k5 : Int → Int → Prop} (kk5 : ∀ (y3 : Int) (y4 : Int), k5 y3 y4 → WM C ad n I J R 0 0 5 [(0, vr l0), (1, vi l1), (2, vi l2), (3, vi y3), (4, vi y4)] []) (hw : p7_wornBy_b5_body l0 l1 l2 I Q k5 l3 l4) : WM C ad n I J R 0 0 5 [(0, vr l0), (1, vi l1), (2, vi l2), (3, vi l3), (4, vi l4)] [] := by
  unfold p7_wornBy_b5_body at hw
  refine wm_iload hC 4 dX7_wornBy_5 rfl ?_
  refine wm_iload_n hC 1 dX7_wornBy_7 rfl ?_
  refine wm_icmp_ge (tgt := 46) hC dX7_wornBy_8 (by decide) hw (fun hw => ?_) (fun hw => ?_)
  · refine wm_iload_n hC 3 dX7_wornBy_46 rfl ?_
    exact wm_ireturn hC hE dX7_wornBy_47 ⟨⟨rfl, rfl, rfl⟩, hw⟩
  · refine wm_iload hC 4 dX7_wornBy_11 rfl ?_
    refine wm_aload_n hC 0 dX7_wornBy_13 rfl (k_ne0 (st_k0 h0) (by decide)) ?_
    refine x_getR3 hC 5 fl_X7_28 rfl (st_k0 h0) (rfs_5 hRF h0) dX7_wornBy_14 ?_
    refine x_alen2 hC (st_k3 h0) (st_n3 h0) (by decide) dX7_wornBy_17 ?_
    refine wm_icmp_ge (tgt := 46) hC dX7_wornBy_18 (by decide) hw (fun hw => ?_) (fun hw => ?_)
    · refine wm_iload_n hC 3 dX7_wornBy_46 rfl ?_
      exact wm_ireturn hC hE dX7_wornBy_47 ⟨⟨rfl, rfl, rfl⟩, hw⟩
    · refine wm_iload_n hC 3 dX7_wornBy_21 rfl ?_
      refine wm_aload_n hC 0 dX7_wornBy_22 rfl (k_ne0 (st_k0 h0) (by decide)) ?_
      refine x_getR3 hC 5 fl_X7_28 rfl (st_k0 h0) (rfs_5 hRF h0) dX7_wornBy_23 ?_
      refine wm_iload hC 4 dX7_wornBy_26 rfl ?_
      refine x_iald2 hC (st_k3 h0) (st_n3 h0) dX7_wornBy_28 hw (fun hw => ?_)
      refine wm_iload_n hC 2 dX7_wornBy_29 rfl ?_
      refine wm_icmp_ne (tgt := 37) hC dX7_wornBy_30 (by decide) hw (fun hw => ?_) (fun hw => ?_)
      · refine wm_iconst hC dX7_wornBy_33 (k := ?_)
        refine wm_goto (tgt := 38) hC dX7_wornBy_34 (by decide) ?_
        refine x_iadd hC dX7_wornBy_38 hw (fun hw => ?_)
        refine wm_istore_n hC dX7_wornBy_39 (by decide) (L2 := [(3, vi (l3 + 1)), (0, vr l0), (1, vi l1), (2, vi l2), (4, vi l4)]) rfl ?_
        refine x_iinc hC 4 dX7_wornBy_40 rfl (by decide) (L2 := [(4, vi (l4 + 1)), (3, vi (l3 + 1)), (0, vr l0), (1, vi l1), (2, vi l2)]) rfl hw (fun hw => ?_)
        refine wm_goto (tgt := 5) hC dX7_wornBy_43 (by decide) ?_
        refine wm_sub [2, 3, 4, 1, 0] (L2 := [(0, vr l0), (1, vi l1), (2, vi l2), (3, vi (l3 + 1)), (4, vi (l4 + 1))]) rfl ?_
        exact kk5 _ _ hw
      · refine wm_iconst hC dX7_wornBy_37 (k := ?_)
        refine x_iadd hC dX7_wornBy_38 hw (fun hw => ?_)
        refine wm_istore_n hC dX7_wornBy_39 (by decide) (L2 := [(3, vi (l3 + 0)), (0, vr l0), (1, vi l1), (2, vi l2), (4, vi l4)]) rfl ?_
        refine x_iinc hC 4 dX7_wornBy_40 rfl (by decide) (L2 := [(4, vi (l4 + 1)), (3, vi (l3 + 0)), (0, vr l0), (1, vi l1), (2, vi l2)]) rfl hw (fun hw => ?_)
        refine wm_goto (tgt := 5) hC dX7_wornBy_43 (by decide) ?_
        refine wm_sub [2, 3, 4, 1, 0] (L2 := [(0, vr l0), (1, vi l1), (2, vi l2), (3, vi (l3 + 0)), (4, vi (l4 + 1))]) rfl ?_
        exact kk5 _ _ hw
set_option maxRecDepth 20000 in
theorem w7_wornBy_b5 {C : wX} {ad : Nat → Nat} {n : Nat} {I : mI} {J : mI} {R : mR} {Q : Int → Prop} (hC : wOK C cX7_wornBy 5 RX7) (hRm : wRm C 1 12 0 0) (hE : wEnd C (some .int) ad n (fun r I' J' R' => (I' = I ∧ J' = J ∧ R' = R) ∧ Q r)) (hRF : RF R) {l0 : Nat} {l1 : Int} {l2 : Int}   (h0 : isSt l0)  : ∀ (f : Nat) (l3 : Int) (l4 : Int), p7_wornBy_b5 l0 l1 l2 I Q f l3 l4 → WM C ad n I J R 0 0 5 [(0, vr l0), (1, vi l1), (2, vi l2), (3, vi l3), (4, vi l4)] [] := by
  intro f
  induction f with
  | zero => intro l3 l4 hw; exact hw.elim
  | succ f ih => intro l3 l4 hw; exact w7_wornBy_b5_body hC hRm hE hRF h0 (fun a0 a1 aw => ih a0 a1 aw) hw
def p7_wornBy (l0 : Nat) (l1 : Int) (l2 : Int) (I : mI) (Q : Int → Prop) : Prop := (∃ f, p7_wornBy_b5 l0 l1 l2 I Q f 0 0)
set_option maxRecDepth 20000 in
theorem c7_wornBy {ad : Nat → Nat} {n : Nat} {I J : mI} {R : mR} {Q : Int → Prop}  (hRF : RF R) {l0 : Nat} {l1 : Int} {l2 : Int} (h0 : isSt l0)   (hw : p7_wornBy l0 l1 l2 I Q) : wMet yX7_wornBy cX7_wornBy 5 (some .int) 1 12 false ad n I J R [vr l0, vi l1, vi l2] (fun r I' J' R' => (I' = I ∧ J' = J ∧ R' = R) ∧ Q r) := by
  refine wMet_of (by decide) (Nat.le_of_ble_eq_true rfl) (fun C hC hRm hE hS => ?_)
  refine (show WM C ad n I J R 0 0 0 [(0, vr l0), (1, vi l1), (2, vi l2)] [] from ?_)
  unfold p7_wornBy at hw
  refine wm_iconst hC dX7_wornBy_0 (k := ?_)
  refine wm_istore_n hC dX7_wornBy_1 (by decide) (L2 := [(3, vi 0), (0, vr l0), (1, vi l1), (2, vi l2)]) rfl ?_
  refine wm_iconst hC dX7_wornBy_2 (k := ?_)
  refine wm_istore hC dX7_wornBy_3 (by decide) (L2 := [(4, vi 0), (3, vi 0), (0, vr l0), (1, vi l1), (2, vi l2)]) rfl ?_
  obtain ⟨f, hw⟩ := hw
  refine wm_sub [2, 3, 4, 1, 0] (L2 := [(0, vr l0), (1, vi l1), (2, vi l2), (3, vi 0), (4, vi 0)]) rfl ?_
  exact w7_wornBy_b5 hC hRm hE hRF h0 f _ _ hw
def p8_put (l1 : Int) (l2 : Int) (I : mI) (Q : mI → Prop) : Prop := (rg ((-1) - l1) ∧ (if ((-1) - l1) < 0 then (Q I) else (if (9 : Int) ≤ ((-1) - l1) then (Q I) else (((0 : Int) ≤ ((-1) - l1) ∧ ((-1) - l1) < (9 : Int)) ∧ wLet (up I 5 ((-1) - l1) l2) (fun I1 => (Q I1))))))
set_option maxRecDepth 20000 in
theorem c8_put {ad : Nat → Nat} {n : Nat} {I J : mI} {R : mR} {Q : mI → Prop}  (hRF : RF R) {l1 : Int} {l2 : Int}    (hw : p8_put l1 l2 I Q) : wMet yX8_put cX8_put 4 none 1 12 false ad n I J R [vr 4, vi l1, vi l2] (fun _ I' J' R' => (J' = J ∧ R' = R) ∧ Q I') := by
  refine wMet_of (by decide) (Nat.le_of_ble_eq_true rfl) (fun C hC hRm hE hS => ?_)
  refine (show WM C ad n I J R 0 0 0 [(0, vr 4), (1, vi l1), (2, vi l2)] [] from ?_)
  unfold p8_put at hw
  refine wm_iconst hC dX8_put_0 (k := ?_)
  refine wm_iload_n hC 1 dX8_put_1 rfl ?_
  refine x_isub hC dX8_put_2 hw (fun hw => ?_)
  refine wm_istore_n hC dX8_put_3 (by decide) (L2 := [(3, vi ((-1) - l1)), (0, vr 4), (1, vi l1), (2, vi l2)]) rfl ?_
  refine wm_iload_n hC 0 dX8_put_4 rfl ?_
  refine wm_if_lt (tgt := 24) hC dX8_put_5 (by decide) hw (fun hw => ?_) (fun hw => ?_)
  · exact wm_return hC hE dX8_put_24 ⟨⟨rfl, rfl⟩, hw⟩
  · refine wm_iload_n hC 0 dX8_put_8 rfl ?_
    refine wm_aload_n hC 1 dX8_put_9 rfl (k_ne0 kk_4 (by decide)) ?_
    refine x_getR3 hC 0 fl_X8_7 rfl kk_4 (rf_4_0 hRF) dX8_put_10 ?_
    refine x_alen2 hC kk_5 kn_5 (by decide) dX8_put_13 ?_
    refine wm_icmp_ge (tgt := 24) hC dX8_put_14 (by decide) hw (fun hw => ?_) (fun hw => ?_)
    · exact wm_return hC hE dX8_put_24 ⟨⟨rfl, rfl⟩, hw⟩
    · refine wm_aload_n hC 1 dX8_put_17 rfl (k_ne0 kk_4 (by decide)) ?_
      refine x_getR3 hC 0 fl_X8_7 rfl kk_4 (rf_4_0 hRF) dX8_put_18 ?_
      refine wm_iload_n hC 0 dX8_put_21 rfl ?_
      refine wm_iload_n hC 3 dX8_put_22 rfl ?_
      refine x_iast2 hC kk_5 kn_5 dX8_put_23 hw (fun I1 hw => ?_)
      exact wm_return hC hE dX8_put_24 ⟨⟨rfl, rfl⟩, hw⟩
def p8_join (l0 : Int) (l1 : Int) (l3 : Int) (Q : Int → Prop) : Prop := (if l0 = (-21) then (Q (lOr l1 l3)) else (if l0 = (-20) then (Q (lAnd l1 l3)) else (if l0 = (-19) then (if l1 = l3 then (Q 1) else (Q 0)) else (if l0 = (-18) then (if l1 ≤ l3 then (Q 0) else (Q 1)) else (if l0 = (-17) then (if l3 ≤ l1 then (Q 0) else (Q 1)) else (if l0 = (-16) then (if l1 ≤ l3 then (Q l3) else (Q l1)) else (if l0 = (-15) then (if l3 ≤ l1 then (Q l3) else (Q l1)) else (if l0 = (-14) then (if l3 = 0 then (Q 0) else (l3 ≠ 0 ∧ (rl ((Int.tmod l1 l3) + l3) ∧ (l3 ≠ 0 ∧ (Q (Int.tmod ((Int.tmod l1 l3) + l3) l3)))))) else (if l0 = (-13) then (if l3 = 0 then (Q 0) else (l3 ≠ 0 ∧ (rl ((Int.tmod l1 l3) + l3) ∧ (l3 ≠ 0 ∧ (rl (l1 - (Int.tmod ((Int.tmod l1 l3) + l3) l3)) ∧ ((l3 ≠ 0 ∧ rl (Int.tdiv (l1 - (Int.tmod ((Int.tmod l1 l3) + l3) l3)) l3)) ∧ (Q (Int.tdiv (l1 - (Int.tmod ((Int.tmod l1 l3) + l3) l3)) l3)))))))) else (if l0 = (-12) then (rl (l1 * l3) ∧ (Q (l1 * l3))) else (if l0 = (-11) then (rl (l1 - l3) ∧ (Q (l1 - l3))) else (if l0 = (-10) then (rl (l1 + l3) ∧ (Q (l1 + l3))) else (Q 0)))))))))))))
set_option maxRecDepth 20000 in
theorem c8_join {ad : Nat → Nat} {n : Nat} {I J : mI} {R : mR} {Q : Int → Prop}  (hRF : RF R) {l0 : Int} {l1 : Int} {l3 : Int}    (hw : p8_join l0 l1 l3 Q) : wMet yX8_join cX8_join 5 (some .long) 1 12 false ad n I J R [vi l0, vl l1, vl l3] (fun r I' J' R' => (I' = I ∧ J' = J ∧ R' = R) ∧ Q r) := by
  refine wMet_of (by decide) (Nat.le_of_ble_eq_true rfl) (fun C hC hRm hE hS => ?_)
  refine (show WM C ad n I J R 0 0 0 [(0, vi l0), (1, vl l1), (3, vl l3)] [] from ?_)
  unfold p8_join at hw
  refine wm_iload_n hC 0 dX8_join_0 rfl ?_
  by_cases hc1 : l0 = (-21)
  · rw [if_pos hc1] at hw
    refine wm_tableIn (v := (-21)) (tgt := 180) hC dX8_join_1 hc1 (by decide) (by decide) rfl rfl ?_
    refine wm_lload_n hC 1 dX8_join_180 rfl ?_
    refine wm_lload_n hC 2 dX8_join_181 rfl ?_
    refine wm_lor hC dX8_join_182 ?_
    exact wm_lreturn hC hE dX8_join_183 ⟨⟨rfl, rfl, rfl⟩, hw⟩
  rw [if_neg hc1] at hw
  by_cases hc2 : l0 = (-20)
  · rw [if_pos hc2] at hw
    refine wm_tableIn (v := (-20)) (tgt := 176) hC dX8_join_1 hc2 (by decide) (by decide) rfl rfl ?_
    refine wm_lload_n hC 1 dX8_join_176 rfl ?_
    refine wm_lload_n hC 2 dX8_join_177 rfl ?_
    refine wm_land hC dX8_join_178 ?_
    exact wm_lreturn hC hE dX8_join_179 ⟨⟨rfl, rfl, rfl⟩, hw⟩
  rw [if_neg hc2] at hw
  by_cases hc3 : l0 = (-19)
  · rw [if_pos hc3] at hw
    refine wm_tableIn (v := (-19)) (tgt := 164) hC dX8_join_1 hc3 (by decide) (by decide) rfl rfl ?_
    refine wm_lload_n hC 1 dX8_join_164 rfl ?_
    refine wm_lload_n hC 2 dX8_join_165 rfl ?_
    refine wm_lcmp_ne (tgt := 174) hC dX8_join_166 dX8_join_167 (by decide) hw (fun hw => ?_) (fun hw => ?_)
    · refine wm_lconst hC (x := 1) dX8_join_170 (k := ?_)
      refine wm_goto (tgt := 175) hC dX8_join_171 (by decide) ?_
      exact wm_lreturn hC hE dX8_join_175 ⟨⟨rfl, rfl, rfl⟩, hw⟩
    · refine wm_lconst hC (x := 0) dX8_join_174 (k := ?_)
      exact wm_lreturn hC hE dX8_join_175 ⟨⟨rfl, rfl, rfl⟩, hw⟩
  rw [if_neg hc3] at hw
  by_cases hc4 : l0 = (-18)
  · rw [if_pos hc4] at hw
    refine wm_tableIn (v := (-18)) (tgt := 152) hC dX8_join_1 hc4 (by decide) (by decide) rfl rfl ?_
    refine wm_lload_n hC 1 dX8_join_152 rfl ?_
    refine wm_lload_n hC 2 dX8_join_153 rfl ?_
    refine wm_lcmp_le (tgt := 162) hC dX8_join_154 dX8_join_155 (by decide) hw (fun hw => ?_) (fun hw => ?_)
    · refine wm_lconst hC (x := 0) dX8_join_162 (k := ?_)
      exact wm_lreturn hC hE dX8_join_163 ⟨⟨rfl, rfl, rfl⟩, hw⟩
    · refine wm_lconst hC (x := 1) dX8_join_158 (k := ?_)
      refine wm_goto (tgt := 163) hC dX8_join_159 (by decide) ?_
      exact wm_lreturn hC hE dX8_join_163 ⟨⟨rfl, rfl, rfl⟩, hw⟩
  rw [if_neg hc4] at hw
  by_cases hc5 : l0 = (-17)
  · rw [if_pos hc5] at hw
    refine wm_tableIn (v := (-17)) (tgt := 140) hC dX8_join_1 hc5 (by decide) (by decide) rfl rfl ?_
    refine wm_lload_n hC 1 dX8_join_140 rfl ?_
    refine wm_lload_n hC 2 dX8_join_141 rfl ?_
    refine wm_lcmp_ge (tgt := 150) hC dX8_join_142 dX8_join_143 (by decide) hw (fun hw => ?_) (fun hw => ?_)
    · refine wm_lconst hC (x := 0) dX8_join_150 (k := ?_)
      exact wm_lreturn hC hE dX8_join_151 ⟨⟨rfl, rfl, rfl⟩, hw⟩
    · refine wm_lconst hC (x := 1) dX8_join_146 (k := ?_)
      refine wm_goto (tgt := 151) hC dX8_join_147 (by decide) ?_
      exact wm_lreturn hC hE dX8_join_151 ⟨⟨rfl, rfl, rfl⟩, hw⟩
  rw [if_neg hc5] at hw
  by_cases hc6 : l0 = (-16)
  · rw [if_pos hc6] at hw
    refine wm_tableIn (v := (-16)) (tgt := 128) hC dX8_join_1 hc6 (by decide) (by decide) rfl rfl ?_
    refine wm_lload_n hC 1 dX8_join_128 rfl ?_
    refine wm_lload_n hC 2 dX8_join_129 rfl ?_
    refine wm_lcmp_le (tgt := 138) hC dX8_join_130 dX8_join_131 (by decide) hw (fun hw => ?_) (fun hw => ?_)
    · refine wm_lload_n hC 2 dX8_join_138 rfl ?_
      exact wm_lreturn hC hE dX8_join_139 ⟨⟨rfl, rfl, rfl⟩, hw⟩
    · refine wm_lload_n hC 1 dX8_join_134 rfl ?_
      refine wm_goto (tgt := 139) hC dX8_join_135 (by decide) ?_
      exact wm_lreturn hC hE dX8_join_139 ⟨⟨rfl, rfl, rfl⟩, hw⟩
  rw [if_neg hc6] at hw
  by_cases hc7 : l0 = (-15)
  · rw [if_pos hc7] at hw
    refine wm_tableIn (v := (-15)) (tgt := 116) hC dX8_join_1 hc7 (by decide) (by decide) rfl rfl ?_
    refine wm_lload_n hC 1 dX8_join_116 rfl ?_
    refine wm_lload_n hC 2 dX8_join_117 rfl ?_
    refine wm_lcmp_ge (tgt := 126) hC dX8_join_118 dX8_join_119 (by decide) hw (fun hw => ?_) (fun hw => ?_)
    · refine wm_lload_n hC 2 dX8_join_126 rfl ?_
      exact wm_lreturn hC hE dX8_join_127 ⟨⟨rfl, rfl, rfl⟩, hw⟩
    · refine wm_lload_n hC 1 dX8_join_122 rfl ?_
      refine wm_goto (tgt := 127) hC dX8_join_123 (by decide) ?_
      exact wm_lreturn hC hE dX8_join_127 ⟨⟨rfl, rfl, rfl⟩, hw⟩
  rw [if_neg hc7] at hw
  by_cases hc8 : l0 = (-14)
  · rw [if_pos hc8] at hw
    refine wm_tableIn (v := (-14)) (tgt := 98) hC dX8_join_1 hc8 (by decide) (by decide) rfl rfl ?_
    refine wm_lload_n hC 2 dX8_join_98 rfl ?_
    refine wm_lconst hC (x := 0) dX8_join_99 (k := ?_)
    refine wm_lcmp_ne (tgt := 108) hC dX8_join_100 dX8_join_101 (by decide) hw (fun hw => ?_) (fun hw => ?_)
    · refine wm_lconst hC (x := 0) dX8_join_104 (k := ?_)
      refine wm_goto (tgt := 115) hC dX8_join_105 (by decide) ?_
      exact wm_lreturn hC hE dX8_join_115 ⟨⟨rfl, rfl, rfl⟩, hw⟩
    · refine wm_lload_n hC 1 dX8_join_108 rfl ?_
      refine wm_lload_n hC 2 dX8_join_109 rfl ?_
      refine x_lrem hC dX8_join_110 hw (fun hw => ?_)
      refine wm_lload_n hC 2 dX8_join_111 rfl ?_
      refine x_ladd hC dX8_join_112 hw (fun hw => ?_)
      refine wm_lload_n hC 2 dX8_join_113 rfl ?_
      refine x_lrem hC dX8_join_114 hw (fun hw => ?_)
      exact wm_lreturn hC hE dX8_join_115 ⟨⟨rfl, rfl, rfl⟩, hw⟩
  rw [if_neg hc8] at hw
  by_cases hc9 : l0 = (-13)
  · rw [if_pos hc9] at hw
    refine wm_tableIn (v := (-13)) (tgt := 76) hC dX8_join_1 hc9 (by decide) (by decide) rfl rfl ?_
    refine wm_lload_n hC 2 dX8_join_76 rfl ?_
    refine wm_lconst hC (x := 0) dX8_join_77 (k := ?_)
    refine wm_lcmp_ne (tgt := 86) hC dX8_join_78 dX8_join_79 (by decide) hw (fun hw => ?_) (fun hw => ?_)
    · refine wm_lconst hC (x := 0) dX8_join_82 (k := ?_)
      refine wm_goto (tgt := 97) hC dX8_join_83 (by decide) ?_
      exact wm_lreturn hC hE dX8_join_97 ⟨⟨rfl, rfl, rfl⟩, hw⟩
    · refine wm_lload_n hC 1 dX8_join_86 rfl ?_
      refine wm_lload_n hC 1 dX8_join_87 rfl ?_
      refine wm_lload_n hC 2 dX8_join_88 rfl ?_
      refine x_lrem hC dX8_join_89 hw (fun hw => ?_)
      refine wm_lload_n hC 2 dX8_join_90 rfl ?_
      refine x_ladd hC dX8_join_91 hw (fun hw => ?_)
      refine wm_lload_n hC 2 dX8_join_92 rfl ?_
      refine x_lrem hC dX8_join_93 hw (fun hw => ?_)
      refine x_lsub hC dX8_join_94 hw (fun hw => ?_)
      refine wm_lload_n hC 2 dX8_join_95 rfl ?_
      refine x_ldiv hC dX8_join_96 hw (fun hw => ?_)
      exact wm_lreturn hC hE dX8_join_97 ⟨⟨rfl, rfl, rfl⟩, hw⟩
  rw [if_neg hc9] at hw
  by_cases hc10 : l0 = (-12)
  · rw [if_pos hc10] at hw
    refine wm_tableIn (v := (-12)) (tgt := 72) hC dX8_join_1 hc10 (by decide) (by decide) rfl rfl ?_
    refine wm_lload_n hC 1 dX8_join_72 rfl ?_
    refine wm_lload_n hC 2 dX8_join_73 rfl ?_
    refine x_lmul hC dX8_join_74 hw (fun hw => ?_)
    exact wm_lreturn hC hE dX8_join_75 ⟨⟨rfl, rfl, rfl⟩, hw⟩
  rw [if_neg hc10] at hw
  by_cases hc11 : l0 = (-11)
  · rw [if_pos hc11] at hw
    refine wm_tableIn (v := (-11)) (tgt := 68) hC dX8_join_1 hc11 (by decide) (by decide) rfl rfl ?_
    refine wm_lload_n hC 1 dX8_join_68 rfl ?_
    refine wm_lload_n hC 2 dX8_join_69 rfl ?_
    refine x_lsub hC dX8_join_70 hw (fun hw => ?_)
    exact wm_lreturn hC hE dX8_join_71 ⟨⟨rfl, rfl, rfl⟩, hw⟩
  rw [if_neg hc11] at hw
  by_cases hc12 : l0 = (-10)
  · rw [if_pos hc12] at hw
    refine wm_tableIn (v := (-10)) (tgt := 64) hC dX8_join_1 hc12 (by decide) (by decide) rfl rfl ?_
    refine wm_lload_n hC 1 dX8_join_64 rfl ?_
    refine wm_lload_n hC 2 dX8_join_65 rfl ?_
    refine x_ladd hC dX8_join_66 hw (fun hw => ?_)
    exact wm_lreturn hC hE dX8_join_67 ⟨⟨rfl, rfl, rfl⟩, hw⟩
  rw [if_neg hc12] at hw
  refine wm_tableOut (tgt := 184) hC dX8_join_1 (by omega) rfl ?_
  refine wm_lconst hC (x := 0) dX8_join_184 (k := ?_)
  exact wm_lreturn hC hE dX8_join_185 ⟨⟨rfl, rfl, rfl⟩, hw⟩
def p8_within (l0 : Int) (Q : Int → Prop) : Prop := (if l0 ≤ 1000000 then (if ((-1000000) : Int) ≤ l0 then (Q l0) else (Q (-1000000))) else (Q 1000000))
set_option maxRecDepth 20000 in
theorem c8_within {ad : Nat → Nat} {n : Nat} {I J : mI} {R : mR} {Q : Int → Prop}  (hRF : RF R) {l0 : Int}  (hw : p8_within l0 Q) : wMet yX8_within cX8_within 2 (some .long) 1 12 false ad n I J R [vl l0] (fun r I' J' R' => (I' = I ∧ J' = J ∧ R' = R) ∧ Q r) := by
  refine wMet_of (by decide) (Nat.le_of_ble_eq_true rfl) (fun C hC hRm hE hS => ?_)
  refine (show WM C ad n I J R 0 0 0 [(0, vl l0)] [] from ?_)
  unfold p8_within at hw
  refine wm_lload_n hC 0 dX8_within_0 rfl ?_
  refine wm_ldc2 hC (x := 1000000) tc_X8_40 rfl dX8_within_1 (k := ?_)
  refine wm_lcmp_le (tgt := 14) hC dX8_within_4 dX8_within_5 (by decide) hw (fun hw => ?_) (fun hw => ?_)
  · refine wm_lload_n hC 0 dX8_within_14 rfl ?_
    refine wm_ldc2 hC (x := (-1000000)) tc_X8_42 rfl dX8_within_15 (k := ?_)
    refine wm_lcmp_ge (tgt := 28) hC dX8_within_18 dX8_within_19 (by decide) hw (fun hw => ?_) (fun hw => ?_)
    · refine wm_lload_n hC 0 dX8_within_28 rfl ?_
      exact wm_lreturn hC hE dX8_within_29 ⟨⟨rfl, rfl, rfl⟩, hw⟩
    · refine wm_ldc2 hC (x := (-1000000)) tc_X8_42 rfl dX8_within_22 (k := ?_)
      refine wm_goto (tgt := 29) hC dX8_within_25 (by decide) ?_
      exact wm_lreturn hC hE dX8_within_29 ⟨⟨rfl, rfl, rfl⟩, hw⟩
  · refine wm_ldc2 hC (x := 1000000) tc_X8_40 rfl dX8_within_8 (k := ?_)
    refine wm_goto (tgt := 29) hC dX8_within_11 (by decide) ?_
    exact wm_lreturn hC hE dX8_within_29 ⟨⟨rfl, rfl, rfl⟩, hw⟩
def p8_workOut_b206 (l1 : Nat) (l3 : Int) (l4 : Int) (l5 : Int) (l6 : Int) (I : mI) (J : mI) (k50 : Int → Int → mI → Prop) (Q : Int → mI → Prop) : Prop := (if l6 ≤ (-22) then (rg (l5 + 1) ∧ (k50 l3 (l5 + 1) J)) else (if l3 < 2 then (rg (l5 + 1) ∧ (k50 l3 (l5 + 1) J)) else (rg (l3 + (-1)) ∧ (rg ((l3 + (-1)) - 1) ∧ (rg ((l3 + (-1)) - 1) ∧ (((0 : Int) ≤ ((l3 + (-1)) - 1) ∧ ((l3 + (-1)) - 1) < (96 : Int)) ∧ (((0 : Int) ≤ (l3 + (-1)) ∧ (l3 + (-1)) < (96 : Int)) ∧ (p8_join l6 (J 6 ((l3 + (-1)) - 1)) (J 6 (l3 + (-1))) (fun r2 => (p8_within r2 (fun r3 => (((0 : Int) ≤ ((l3 + (-1)) - 1) ∧ ((l3 + (-1)) - 1) < (96 : Int)) ∧ wLet (up J 6 ((l3 + (-1)) - 1) r3) (fun J6 => (rg (l5 + 1) ∧ (k50 (l3 + (-1)) (l5 + 1) J6)))))))))))))))
set_option maxRecDepth 20000 in
theorem w8_workOut_b206 {C : wX} {ad : Nat → Nat} {n : Nat} {I J : mI} {R : mR} {Q : Int → mI → Prop} (hC : wOK C cX8_workOut 7 RX8) (hRm : wRm C 2 36 0 0) (hE : wEnd C (some .int) ad n (fun r I' J' R' => (I' = I ∧ R' = R) ∧ Q r J')) (hRF : RF R) {l1 : Nat} {l3 : Int} {l4 : Int} {l5 : Int} {l6 : Int}  {k50 : Int → Int → mI → Prop} (h1 : isLd l1) (kk50 : ∀ (y3 : Int) (y5 : Int) (J' : mI), k50 y3 y5 J' → WM C ad n I J' R 0 0 50 [(0, vr 4), (1, vr l1), (3, vi y3), (4, vi l4), (5, vi y5)] []) (hw : p8_workOut_b206 l1 l3 l4 l5 l6 I J k50 Q) : WM C ad n I J R 0 0 206 [(0, vr 4), (1, vr l1), (3, vi l3), (4, vi l4), (5, vi l5), (6, vi l6)] [] := by
  unfold p8_workOut_b206 at hw
  refine wm_iload hC 5 dX8_workOut_206 rfl ?_
  refine wm_bipush hC dX8_workOut_208 (k := ?_)
  refine wm_icmp_le (tgt := 251) hC dX8_workOut_210 (by decide) hw (fun hw => ?_) (fun hw => ?_)
  · refine x_iinc hC 4 dX8_workOut_251 rfl (by decide) (L2 := [(5, vi (l5 + 1)), (0, vr 4), (1, vr l1), (3, vi l3), (4, vi l4), (6, vi l6)]) rfl hw (fun hw => ?_)
    refine wm_goto (tgt := 50) hC dX8_workOut_254 (by decide) ?_
    refine wm_sub [1, 2, 3, 4, 0] (L2 := [(0, vr 4), (1, vr l1), (3, vi l3), (4, vi l4), (5, vi (l5 + 1))]) rfl ?_
    exact kk50 _ _ _ hw
  · refine wm_iload_n hC 2 dX8_workOut_213 rfl ?_
    refine wm_iconst hC dX8_workOut_214 (k := ?_)
    refine wm_icmp_lt (tgt := 251) hC dX8_workOut_215 (by decide) hw (fun hw => ?_) (fun hw => ?_)
    · refine x_iinc hC 4 dX8_workOut_251 rfl (by decide) (L2 := [(5, vi (l5 + 1)), (0, vr 4), (1, vr l1), (3, vi l3), (4, vi l4), (6, vi l6)]) rfl hw (fun hw => ?_)
      refine wm_goto (tgt := 50) hC dX8_workOut_254 (by decide) ?_
      refine wm_sub [1, 2, 3, 4, 0] (L2 := [(0, vr 4), (1, vr l1), (3, vi l3), (4, vi l4), (5, vi (l5 + 1))]) rfl ?_
      exact kk50 _ _ _ hw
    · refine x_iinc hC 2 dX8_workOut_218 rfl (by decide) (L2 := [(3, vi (l3 + (-1))), (0, vr 4), (1, vr l1), (4, vi l4), (5, vi l5), (6, vi l6)]) rfl hw (fun hw => ?_)
      refine wm_aload_n hC 1 dX8_workOut_221 rfl (k_ne0 kk_4 (by decide)) ?_
      refine x_getR3 hC 1 fl_X8_13 rfl kk_4 (rf_4_1 hRF) dX8_workOut_222 ?_
      refine wm_iload_n hC 0 dX8_workOut_225 rfl ?_
      refine wm_iconst hC dX8_workOut_226 (k := ?_)
      refine x_isub hC dX8_workOut_227 hw (fun hw => ?_)
      refine wm_iload hC 5 dX8_workOut_228 rfl ?_
      refine wm_aload_n hC 1 dX8_workOut_230 rfl (k_ne0 kk_4 (by decide)) ?_
      refine x_getR3 hC 1 fl_X8_13 rfl kk_4 (rf_4_1 hRF) dX8_workOut_231 ?_
      refine wm_iload_n hC 0 dX8_workOut_234 rfl ?_
      refine wm_iconst hC dX8_workOut_235 (k := ?_)
      refine x_isub hC dX8_workOut_236 hw (fun hw => ?_)
      refine x_lald2 hC kk_6 kn_6 dX8_workOut_237 hw (fun hw => ?_)
      refine wm_aload_n hC 1 dX8_workOut_238 rfl (k_ne0 kk_4 (by decide)) ?_
      refine x_getR3 hC 1 fl_X8_13 rfl kk_4 (rf_4_1 hRF) dX8_workOut_239 ?_
      refine wm_iload_n hC 0 dX8_workOut_242 rfl ?_
      refine x_lald2 hC kk_6 kn_6 dX8_workOut_243 hw (fun hw => ?_)
      refine y_callS_l_n hC hRm noS ml_X8_32 (c8_join hRF  hw) (Nat.le_of_ble_eq_true rfl) (Nat.le_of_ble_eq_true rfl) ⟨Nat.zero_le _, Nat.zero_le _⟩ rfl (st := [vi ((l3 + (-1)) - 1), vr 6]) rfl (Nat.le_of_ble_eq_true rfl) dX8_workOut_244 (fun r2 hw => ?_)
      refine y_callS_l_n hC hRm noS ml_X8_36 (c8_within hRF  hw) (Nat.le_of_ble_eq_true rfl) (Nat.le_of_ble_eq_true rfl) ⟨Nat.zero_le _, Nat.zero_le _⟩ rfl (st := [vi ((l3 + (-1)) - 1), vr 6]) rfl (Nat.le_of_ble_eq_true rfl) dX8_workOut_247 (fun r3 hw => ?_)
      refine x_last2 hC kk_6 kn_6 dX8_workOut_250 hw (fun J6 hw => ?_)
      refine x_iinc hC 4 dX8_workOut_251 rfl (by decide) (L2 := [(5, vi (l5 + 1)), (3, vi (l3 + (-1))), (0, vr 4), (1, vr l1), (4, vi l4), (6, vi l6)]) rfl hw (fun hw => ?_)
      refine wm_goto (tgt := 50) hC dX8_workOut_254 (by decide) ?_
      refine wm_sub [2, 3, 1, 4, 0] (L2 := [(0, vr 4), (1, vr l1), (3, vi (l3 + (-1))), (4, vi l4), (5, vi (l5 + 1))]) rfl ?_
      exact kk50 _ _ _ hw
def p8_workOut_b150 (l1 : Nat) (l3 : Int) (l4 : Int) (l5 : Int) (l6 : Int) (I : mI) (J : mI) (k50 : Int → Int → mI → Prop) (Q : Int → mI → Prop) : Prop := (if l6 = (-23) then (if l3 < 3 then (p8_workOut_b206 l1 l3 l4 l5 l6 I J k50 Q) else (rg (l3 + (-2)) ∧ (rg ((l3 + (-2)) - 1) ∧ (rg ((l3 + (-2)) - 1) ∧ (((0 : Int) ≤ ((l3 + (-2)) - 1) ∧ ((l3 + (-2)) - 1) < (96 : Int)) ∧ (if (J 6 ((l3 + (-2)) - 1)) = 0 then (rg ((l3 + (-2)) + 1) ∧ (((0 : Int) ≤ ((l3 + (-2)) + 1) ∧ ((l3 + (-2)) + 1) < (96 : Int)) ∧ (((0 : Int) ≤ ((l3 + (-2)) - 1) ∧ ((l3 + (-2)) - 1) < (96 : Int)) ∧ wLet (up J 6 ((l3 + (-2)) - 1) (J 6 ((l3 + (-2)) + 1))) (fun J4 => (rg (l5 + 1) ∧ (k50 (l3 + (-2)) (l5 + 1) J4)))))) else (((0 : Int) ≤ (l3 + (-2)) ∧ (l3 + (-2)) < (96 : Int)) ∧ (((0 : Int) ≤ ((l3 + (-2)) - 1) ∧ ((l3 + (-2)) - 1) < (96 : Int)) ∧ wLet (up J 6 ((l3 + (-2)) - 1) (J 6 (l3 + (-2)))) (fun J5 => (rg (l5 + 1) ∧ (k50 (l3 + (-2)) (l5 + 1) J5))))))))))) else (p8_workOut_b206 l1 l3 l4 l5 l6 I J k50 Q))
set_option maxRecDepth 20000 in
theorem w8_workOut_b150 {C : wX} {ad : Nat → Nat} {n : Nat} {I J : mI} {R : mR} {Q : Int → mI → Prop} (hC : wOK C cX8_workOut 7 RX8) (hRm : wRm C 2 36 0 0) (hE : wEnd C (some .int) ad n (fun r I' J' R' => (I' = I ∧ R' = R) ∧ Q r J')) (hRF : RF R) {l1 : Nat} {l3 : Int} {l4 : Int} {l5 : Int} {l6 : Int}  {k50 : Int → Int → mI → Prop} (h1 : isLd l1) (kk50 : ∀ (y3 : Int) (y5 : Int) (J' : mI), k50 y3 y5 J' → WM C ad n I J' R 0 0 50 [(0, vr 4), (1, vr l1), (3, vi y3), (4, vi l4), (5, vi y5)] []) (hw : p8_workOut_b150 l1 l3 l4 l5 l6 I J k50 Q) : WM C ad n I J R 0 0 150 [(0, vr 4), (1, vr l1), (3, vi l3), (4, vi l4), (5, vi l5), (6, vi l6)] [] := by
  unfold p8_workOut_b150 at hw
  refine wm_iload hC 5 dX8_workOut_150 rfl ?_
  refine wm_bipush hC dX8_workOut_152 (k := ?_)
  refine wm_icmp_ne (tgt := 206) hC dX8_workOut_154 (by decide) hw (fun hw => ?_) (fun hw => ?_)
  · refine wm_iload_n hC 2 dX8_workOut_157 rfl ?_
    refine wm_iconst hC dX8_workOut_158 (k := ?_)
    refine wm_icmp_lt (tgt := 206) hC dX8_workOut_159 (by decide) hw (fun hw => ?_) (fun hw => ?_)
    · exact w8_workOut_b206 hC hRm hE hRF h1 kk50 hw
    · refine x_iinc hC 2 dX8_workOut_162 rfl (by decide) (L2 := [(3, vi (l3 + (-2))), (0, vr 4), (1, vr l1), (4, vi l4), (5, vi l5), (6, vi l6)]) rfl hw (fun hw => ?_)
      refine wm_aload_n hC 1 dX8_workOut_165 rfl (k_ne0 kk_4 (by decide)) ?_
      refine x_getR3 hC 1 fl_X8_13 rfl kk_4 (rf_4_1 hRF) dX8_workOut_166 ?_
      refine wm_iload_n hC 0 dX8_workOut_169 rfl ?_
      refine wm_iconst hC dX8_workOut_170 (k := ?_)
      refine x_isub hC dX8_workOut_171 hw (fun hw => ?_)
      refine wm_aload_n hC 1 dX8_workOut_172 rfl (k_ne0 kk_4 (by decide)) ?_
      refine x_getR3 hC 1 fl_X8_13 rfl kk_4 (rf_4_1 hRF) dX8_workOut_173 ?_
      refine wm_iload_n hC 0 dX8_workOut_176 rfl ?_
      refine wm_iconst hC dX8_workOut_177 (k := ?_)
      refine x_isub hC dX8_workOut_178 hw (fun hw => ?_)
      refine x_lald2 hC kk_6 kn_6 dX8_workOut_179 hw (fun hw => ?_)
      refine wm_lconst hC (x := 0) dX8_workOut_180 (k := ?_)
      refine wm_lcmp_eq (tgt := 194) hC dX8_workOut_181 dX8_workOut_182 (by decide) hw (fun hw => ?_) (fun hw => ?_)
      · refine wm_aload_n hC 1 dX8_workOut_194 rfl (k_ne0 kk_4 (by decide)) ?_
        refine x_getR3 hC 1 fl_X8_13 rfl kk_4 (rf_4_1 hRF) dX8_workOut_195 ?_
        refine wm_iload_n hC 0 dX8_workOut_198 rfl ?_
        refine wm_iconst hC dX8_workOut_199 (k := ?_)
        refine x_iadd hC dX8_workOut_200 hw (fun hw => ?_)
        refine x_lald2 hC kk_6 kn_6 dX8_workOut_201 hw (fun hw => ?_)
        refine x_last2 hC kk_6 kn_6 dX8_workOut_202 hw (fun J4 hw => ?_)
        refine wm_goto (tgt := 251) hC dX8_workOut_203 (by decide) ?_
        refine x_iinc hC 4 dX8_workOut_251 rfl (by decide) (L2 := [(5, vi (l5 + 1)), (3, vi (l3 + (-2))), (0, vr 4), (1, vr l1), (4, vi l4), (6, vi l6)]) rfl hw (fun hw => ?_)
        refine wm_goto (tgt := 50) hC dX8_workOut_254 (by decide) ?_
        refine wm_sub [2, 3, 1, 4, 0] (L2 := [(0, vr 4), (1, vr l1), (3, vi (l3 + (-2))), (4, vi l4), (5, vi (l5 + 1))]) rfl ?_
        exact kk50 _ _ _ hw
      · refine wm_aload_n hC 1 dX8_workOut_185 rfl (k_ne0 kk_4 (by decide)) ?_
        refine x_getR3 hC 1 fl_X8_13 rfl kk_4 (rf_4_1 hRF) dX8_workOut_186 ?_
        refine wm_iload_n hC 0 dX8_workOut_189 rfl ?_
        refine x_lald2 hC kk_6 kn_6 dX8_workOut_190 hw (fun hw => ?_)
        refine wm_goto (tgt := 202) hC dX8_workOut_191 (by decide) ?_
        refine x_last2 hC kk_6 kn_6 dX8_workOut_202 hw (fun J5 hw => ?_)
        refine wm_goto (tgt := 251) hC dX8_workOut_203 (by decide) ?_
        refine x_iinc hC 4 dX8_workOut_251 rfl (by decide) (L2 := [(5, vi (l5 + 1)), (3, vi (l3 + (-2))), (0, vr 4), (1, vr l1), (4, vi l4), (6, vi l6)]) rfl hw (fun hw => ?_)
        refine wm_goto (tgt := 50) hC dX8_workOut_254 (by decide) ?_
        refine wm_sub [2, 3, 1, 4, 0] (L2 := [(0, vr 4), (1, vr l1), (3, vi (l3 + (-2))), (4, vi l4), (5, vi (l5 + 1))]) rfl ?_
        exact kk50 _ _ _ hw
  · exact w8_workOut_b206 hC hRm hE hRF h1 kk50 hw
def p8_workOut_b50_body (l1 : Nat) (l4 : Int) (I : mI) (Q : Int → mI → Prop) (k50 : Int → Int → mI → Prop) (l3 : Int) (l5 : Int) (J : mI) : Prop := (if l4 ≤ l5 then (if l3 < 1 then (Q 0 J) else (rg (J 6 0) ∧ (Q (J 6 0) J))) else (((0 : Int) ≤ l5 ∧ l5 < (1600 : Int)) ∧ (if (I (l1 + 6) l5) < (-9) then (if (I (l1 + 6) l5) = (-22) then (if l3 < 1 then (p8_workOut_b150 l1 l3 l4 l5 (I (l1 + 6) l5) I J k50 Q) else (rg (l3 - 1) ∧ (rg (l3 - 1) ∧ (((0 : Int) ≤ (l3 - 1) ∧ (l3 - 1) < (96 : Int)) ∧ (rl (1 - (J 6 (l3 - 1))) ∧ (((0 : Int) ≤ (l3 - 1) ∧ (l3 - 1) < (96 : Int)) ∧ wLet (up J 6 (l3 - 1) (1 - (J 6 (l3 - 1)))) (fun J1 => (rg (l5 + 1) ∧ (k50 l3 (l5 + 1) J1))))))))) else (p8_workOut_b150 l1 l3 l4 l5 (I (l1 + 6) l5) I J k50 Q)) else (if l3 < 96 then (if (I (l1 + 6) l5) < 0 then (rg ((-1) - (I (l1 + 6) l5)) ∧ (((0 : Int) ≤ ((-1) - (I (l1 + 6) l5)) ∧ ((-1) - (I (l1 + 6) l5)) < (9 : Int)) ∧ (((0 : Int) ≤ l3 ∧ l3 < (96 : Int)) ∧ wLet (up J 6 l3 (I 5 ((-1) - (I (l1 + 6) l5)))) (fun J2 => (rg (l3 + 1) ∧ (rg (l5 + 1) ∧ (k50 (l3 + 1) (l5 + 1) J2))))))) else (((0 : Int) ≤ l3 ∧ l3 < (96 : Int)) ∧ wLet (up J 6 l3 (I (l1 + 6) l5)) (fun J3 => (rg (l3 + 1) ∧ (rg (l5 + 1) ∧ (k50 (l3 + 1) (l5 + 1) J3)))))) else (Q 0 J)))))
def p8_workOut_b50 (l1 : Nat) (l4 : Int) (I : mI) (Q : Int → mI → Prop) : Nat → Int → Int → mI → Prop
  | 0 => fun _ _ _ => False
  | f + 1 => fun l3 l5 J => p8_workOut_b50_body l1 l4 I Q (p8_workOut_b50 l1 l4 I Q f) l3 l5 J
set_option maxRecDepth 20000 in
theorem w8_workOut_b50_body {C : wX} {ad : Nat → Nat} {n : Nat} {I J : mI} {R : mR} {Q : Int → mI → Prop} (hC : wOK C cX8_workOut 7 RX8) (hRm : wRm C 2 36 0 0) (hE : wEnd C (some .int) ad n (fun r I' J' R' => (I' = I ∧ R' = R) ∧ Q r J')) (hRF : RF R) {l1 : Nat} {l4 : Int} {l3 : Int} {l5 : Int}   (h1 : isLd l1)  {k50 : Int → Int → mI → Prop} (kk50 : ∀ (y3 : Int) (y5 : Int) (J' : mI), k50 y3 y5 J' → WM C ad n I J' R 0 0 50 [(0, vr 4), (1, vr l1), (3, vi y3), (4, vi l4), (5, vi y5)] []) (hw : p8_workOut_b50_body l1 l4 I Q k50 l3 l5 J) : WM C ad n I J R 0 0 50 [(0, vr 4), (1, vr l1), (3, vi l3), (4, vi l4), (5, vi l5)] [] := by
  unfold p8_workOut_b50_body at hw
  refine wm_iload hC 4 dX8_workOut_50 rfl ?_
  refine wm_iload hC 3 dX8_workOut_52 rfl ?_
  refine wm_icmp_ge (tgt := 257) hC dX8_workOut_54 (by decide) hw (fun hw => ?_) (fun hw => ?_)
  · refine wm_iload_n hC 2 dX8_workOut_257 rfl ?_
    refine wm_iconst hC dX8_workOut_258 (k := ?_)
    refine wm_icmp_lt (tgt := 272) hC dX8_workOut_259 (by decide) hw (fun hw => ?_) (fun hw => ?_)
    · refine wm_iconst hC dX8_workOut_272 (k := ?_)
      exact wm_ireturn hC hE dX8_workOut_273 ⟨⟨rfl, rfl⟩, hw⟩
    · refine wm_aload_n hC 0 dX8_workOut_262 rfl (k_ne0 kk_4 (by decide)) ?_
      refine x_getR3 hC 1 fl_X8_13 rfl kk_4 (rf_4_1 hRF) dX8_workOut_263 ?_
      refine wm_iconst hC dX8_workOut_266 (k := ?_)
      refine x_laldK hC kk_6 kn_6 (by decide) (by decide) dX8_workOut_267 ?_
      refine x_l2i hC dX8_workOut_268 hw (fun hw => ?_)
      refine wm_goto (tgt := 273) hC dX8_workOut_269 (by decide) ?_
      exact wm_ireturn hC hE dX8_workOut_273 ⟨⟨rfl, rfl⟩, hw⟩
  · refine wm_aload_n hC 1 dX8_workOut_57 rfl (k_ne0 (ld_k0 h1) (by decide)) ?_
    refine x_getR3 hC 5 fl_X8_26 rfl (ld_k0 h1) (rfd_5 hRF h1) dX8_workOut_58 ?_
    refine wm_iload hC 4 dX8_workOut_61 rfl ?_
    refine x_iald2 hC (ld_k6 h1) (ld_n6 h1) dX8_workOut_63 hw (fun hw => ?_)
    refine wm_istore hC dX8_workOut_64 (by decide) (L2 := [(6, vi (I (l1 + 6) l5)), (0, vr 4), (1, vr l1), (3, vi l3), (4, vi l4), (5, vi l5)]) rfl ?_
    refine wm_iload hC 0 dX8_workOut_66 rfl ?_
    refine wm_bipush hC dX8_workOut_68 (k := ?_)
    refine wm_icmp_lt (tgt := 117) hC dX8_workOut_70 (by decide) hw (fun hw => ?_) (fun hw => ?_)
    · refine wm_iload hC 0 dX8_workOut_117 rfl ?_
      refine wm_bipush hC dX8_workOut_119 (k := ?_)
      refine wm_icmp_ne (tgt := 150) hC dX8_workOut_121 (by decide) hw (fun hw => ?_) (fun hw => ?_)
      · refine wm_iload_n hC 3 dX8_workOut_124 rfl ?_
        refine wm_iconst hC dX8_workOut_125 (k := ?_)
        refine wm_icmp_lt (tgt := 150) hC dX8_workOut_126 (by decide) hw (fun hw => ?_) (fun hw => ?_)
        · refine wm_sub [1, 2, 3, 4, 5, 0] (L2 := [(0, vr 4), (1, vr l1), (3, vi l3), (4, vi l4), (5, vi l5), (6, vi (I (l1 + 6) l5))]) rfl ?_
          exact w8_workOut_b150 hC hRm hE hRF h1 kk50 hw
        · refine wm_aload_n hC 1 dX8_workOut_129 rfl (k_ne0 kk_4 (by decide)) ?_
          refine x_getR3 hC 1 fl_X8_13 rfl kk_4 (rf_4_1 hRF) dX8_workOut_130 ?_
          refine wm_iload_n hC 3 dX8_workOut_133 rfl ?_
          refine wm_iconst hC dX8_workOut_134 (k := ?_)
          refine x_isub hC dX8_workOut_135 hw (fun hw => ?_)
          refine wm_lconst hC (x := 1) dX8_workOut_136 (k := ?_)
          refine wm_aload_n hC 1 dX8_workOut_137 rfl (k_ne0 kk_4 (by decide)) ?_
          refine x_getR3 hC 1 fl_X8_13 rfl kk_4 (rf_4_1 hRF) dX8_workOut_138 ?_
          refine wm_iload_n hC 3 dX8_workOut_141 rfl ?_
          refine wm_iconst hC dX8_workOut_142 (k := ?_)
          refine x_isub hC dX8_workOut_143 hw (fun hw => ?_)
          refine x_lald2 hC kk_6 kn_6 dX8_workOut_144 hw (fun hw => ?_)
          refine x_lsub hC dX8_workOut_145 hw (fun hw => ?_)
          refine x_last2 hC kk_6 kn_6 dX8_workOut_146 hw (fun J1 hw => ?_)
          refine wm_goto (tgt := 251) hC dX8_workOut_147 (by decide) ?_
          refine x_iinc hC 5 dX8_workOut_251 rfl (by decide) (L2 := [(5, vi (l5 + 1)), (6, vi (I (l1 + 6) l5)), (0, vr 4), (1, vr l1), (3, vi l3), (4, vi l4)]) rfl hw (fun hw => ?_)
          refine wm_goto (tgt := 50) hC dX8_workOut_254 (by decide) ?_
          refine wm_sub [2, 3, 4, 5, 0] (L2 := [(0, vr 4), (1, vr l1), (3, vi l3), (4, vi l4), (5, vi (l5 + 1))]) rfl ?_
          exact kk50 _ _ _ hw
      · refine wm_sub [1, 2, 3, 4, 5, 0] (L2 := [(0, vr 4), (1, vr l1), (3, vi l3), (4, vi l4), (5, vi l5), (6, vi (I (l1 + 6) l5))]) rfl ?_
        exact w8_workOut_b150 hC hRm hE hRF h1 kk50 hw
    · refine wm_iload_n hC 3 dX8_workOut_73 rfl ?_
      refine wm_aload_n hC 1 dX8_workOut_74 rfl (k_ne0 kk_4 (by decide)) ?_
      refine x_getR3 hC 1 fl_X8_13 rfl kk_4 (rf_4_1 hRF) dX8_workOut_75 ?_
      refine x_alen2 hC kk_6 kn_6 (by decide) dX8_workOut_78 ?_
      refine wm_icmp_lt (tgt := 84) hC dX8_workOut_79 (by decide) hw (fun hw => ?_) (fun hw => ?_)
      · refine wm_aload_n hC 1 dX8_workOut_84 rfl (k_ne0 kk_4 (by decide)) ?_
        refine x_getR3 hC 1 fl_X8_13 rfl kk_4 (rf_4_1 hRF) dX8_workOut_85 ?_
        refine wm_iload_n hC 3 dX8_workOut_88 rfl ?_
        refine wm_iload hC 0 dX8_workOut_89 rfl ?_
        refine wm_if_lt (tgt := 100) hC dX8_workOut_91 (by decide) hw (fun hw => ?_) (fun hw => ?_)
        · refine wm_aload_n hC 1 dX8_workOut_100 rfl (k_ne0 kk_4 (by decide)) ?_
          refine x_getR3 hC 0 fl_X8_7 rfl kk_4 (rf_4_0 hRF) dX8_workOut_101 ?_
          refine wm_iconst hC dX8_workOut_104 (k := ?_)
          refine wm_iload hC 0 dX8_workOut_105 rfl ?_
          refine x_isub hC dX8_workOut_107 hw (fun hw => ?_)
          refine x_iald2 hC kk_5 kn_5 dX8_workOut_108 hw (fun hw => ?_)
          refine wm_i2l hC dX8_workOut_109 ?_
          refine x_last2 hC kk_6 kn_6 dX8_workOut_110 hw (fun J2 hw => ?_)
          refine x_iinc hC 3 dX8_workOut_111 rfl (by decide) (L2 := [(3, vi (l3 + 1)), (6, vi (I (l1 + 6) l5)), (0, vr 4), (1, vr l1), (4, vi l4), (5, vi l5)]) rfl hw (fun hw => ?_)
          refine wm_goto (tgt := 251) hC dX8_workOut_114 (by decide) ?_
          refine x_iinc hC 5 dX8_workOut_251 rfl (by decide) (L2 := [(5, vi (l5 + 1)), (3, vi (l3 + 1)), (6, vi (I (l1 + 6) l5)), (0, vr 4), (1, vr l1), (4, vi l4)]) rfl hw (fun hw => ?_)
          refine wm_goto (tgt := 50) hC dX8_workOut_254 (by decide) ?_
          refine wm_sub [3, 4, 1, 5, 0] (L2 := [(0, vr 4), (1, vr l1), (3, vi (l3 + 1)), (4, vi l4), (5, vi (l5 + 1))]) rfl ?_
          exact kk50 _ _ _ hw
        · refine wm_iload hC 0 dX8_workOut_94 rfl ?_
          refine wm_i2l hC dX8_workOut_96 ?_
          refine wm_goto (tgt := 110) hC dX8_workOut_97 (by decide) ?_
          refine x_last2 hC kk_6 kn_6 dX8_workOut_110 hw (fun J3 hw => ?_)
          refine x_iinc hC 3 dX8_workOut_111 rfl (by decide) (L2 := [(3, vi (l3 + 1)), (6, vi (I (l1 + 6) l5)), (0, vr 4), (1, vr l1), (4, vi l4), (5, vi l5)]) rfl hw (fun hw => ?_)
          refine wm_goto (tgt := 251) hC dX8_workOut_114 (by decide) ?_
          refine x_iinc hC 5 dX8_workOut_251 rfl (by decide) (L2 := [(5, vi (l5 + 1)), (3, vi (l3 + 1)), (6, vi (I (l1 + 6) l5)), (0, vr 4), (1, vr l1), (4, vi l4)]) rfl hw (fun hw => ?_)
          refine wm_goto (tgt := 50) hC dX8_workOut_254 (by decide) ?_
          refine wm_sub [3, 4, 1, 5, 0] (L2 := [(0, vr 4), (1, vr l1), (3, vi (l3 + 1)), (4, vi l4), (5, vi (l5 + 1))]) rfl ?_
          exact kk50 _ _ _ hw
      · refine wm_iconst hC dX8_workOut_82 (k := ?_)
        exact wm_ireturn hC hE dX8_workOut_83 ⟨⟨rfl, rfl⟩, hw⟩
set_option maxRecDepth 20000 in
theorem w8_workOut_b50 {C : wX} {ad : Nat → Nat} {n : Nat} {I : mI} {R : mR} {Q : Int → mI → Prop} (hC : wOK C cX8_workOut 7 RX8) (hRm : wRm C 2 36 0 0) (hE : wEnd C (some .int) ad n (fun r I' J' R' => (I' = I ∧ R' = R) ∧ Q r J')) (hRF : RF R) {l1 : Nat} {l4 : Int}   (h1 : isLd l1)  : ∀ (f : Nat) (l3 : Int) (l5 : Int) (J : mI), p8_workOut_b50 l1 l4 I Q f l3 l5 J → WM C ad n I J R 0 0 50 [(0, vr 4), (1, vr l1), (3, vi l3), (4, vi l4), (5, vi l5)] [] := by
  intro f
  induction f with
  | zero => intro l3 l5 J hw; exact hw.elim
  | succ f ih => intro l3 l5 J hw; exact w8_workOut_b50_body hC hRm hE hRF h1 (fun a0 a1 a2 aw => ih a0 a1 a2 aw) hw
def p8_workOut (l1 : Nat) (l2 : Int) (I : mI) (J : mI) (Q : Int → mI → Prop) : Prop := (p3_hasCode l1 l2 I (fun r1 => (if r1 = 0 then (Q 0 J) else (((0 : Int) ≤ l2 ∧ l2 < (3 : Int)) ∧ (if (1600 : Int) ≤ (I (l1 + 8) l2) then (((0 : Int) ≤ l2 ∧ l2 < (3 : Int)) ∧ (∃ f, p8_workOut_b50 l1 1600 I Q f 0 (I (l1 + 7) l2) J)) else (((0 : Int) ≤ l2 ∧ l2 < (3 : Int)) ∧ (((0 : Int) ≤ l2 ∧ l2 < (3 : Int)) ∧ (∃ f, p8_workOut_b50 l1 (I (l1 + 8) l2) I Q f 0 (I (l1 + 7) l2) J))))))))
set_option maxRecDepth 20000 in
theorem c8_workOut {ad : Nat → Nat} {n : Nat} {I J : mI} {R : mR} {Q : Int → mI → Prop}  (hRF : RF R) {l1 : Nat} {l2 : Int}  (h1 : isLd l1)  (hw : p8_workOut l1 l2 I J Q) : wMet yX8_workOut cX8_workOut 7 (some .int) 2 36 false ad n I J R [vr 4, vr l1, vi l2] (fun r I' J' R' => (I' = I ∧ R' = R) ∧ Q r J') := by
  refine wMet_of (by decide) (Nat.le_of_ble_eq_true rfl) (fun C hC hRm hE hS => ?_)
  refine (show WM C ad n I J R 0 0 0 [(0, vr 4), (1, vr l1), (2, vi l2)] [] from ?_)
  unfold p8_workOut at hw
  refine wm_aload_n hC 1 dX8_workOut_0 rfl (k_ne0 (ld_k0 h1) (by decide)) ?_
  refine wm_iload_n hC 2 dX8_workOut_1 rfl ?_
  refine y_callV_z_n hC hRm noS ml_X8_17 (ld_k0 h1) (c3_hasCode hRF h1 hw) (Nat.le_of_ble_eq_true rfl) (Nat.le_of_ble_eq_true rfl) ⟨Nat.zero_le _, Nat.zero_le _⟩ rfl (st := []) rfl (Nat.le_of_ble_eq_true rfl) dX8_workOut_2 (fun r1 hw => ?_)
  refine wm_if_ne (tgt := 10) hC dX8_workOut_5 (by decide) hw (fun hw => ?_) (fun hw => ?_)
  · refine wm_iconst hC dX8_workOut_8 (k := ?_)
    exact wm_ireturn hC hE dX8_workOut_9 ⟨⟨rfl, rfl⟩, hw⟩
  · refine wm_iconst hC dX8_workOut_10 (k := ?_)
    refine wm_istore_n hC dX8_workOut_11 (by decide) (L2 := [(3, vi 0), (0, vr 4), (1, vr l1), (2, vi l2)]) rfl ?_
    refine wm_aload_n hC 2 dX8_workOut_12 rfl (k_ne0 (ld_k0 h1) (by decide)) ?_
    refine x_getR3 hC 7 fl_X8_23 rfl (ld_k0 h1) (rfd_7 hRF h1) dX8_workOut_13 ?_
    refine wm_iload_n hC 3 dX8_workOut_16 rfl ?_
    refine x_iald2 hC (ld_k8 h1) (ld_n8 h1) dX8_workOut_17 hw (fun hw => ?_)
    refine wm_aload_n hC 2 dX8_workOut_18 rfl (k_ne0 (ld_k0 h1) (by decide)) ?_
    refine x_getR3 hC 5 fl_X8_26 rfl (ld_k0 h1) (rfd_5 hRF h1) dX8_workOut_19 ?_
    refine x_alen2 hC (ld_k6 h1) (ld_n6 h1) (by decide) dX8_workOut_22 ?_
    refine wm_icmp_ge (tgt := 35) hC dX8_workOut_23 (by decide) hw (fun hw => ?_) (fun hw => ?_)
    · refine wm_aload_n hC 2 dX8_workOut_35 rfl (k_ne0 (ld_k0 h1) (by decide)) ?_
      refine x_getR3 hC 5 fl_X8_26 rfl (ld_k0 h1) (rfd_5 hRF h1) dX8_workOut_36 ?_
      refine x_alen2 hC (ld_k6 h1) (ld_n6 h1) (by decide) dX8_workOut_39 ?_
      refine wm_istore hC dX8_workOut_40 (by decide) (L2 := [(4, vi 1600), (3, vi 0), (0, vr 4), (1, vr l1), (2, vi l2)]) rfl ?_
      refine wm_aload_n hC 3 dX8_workOut_42 rfl (k_ne0 (ld_k0 h1) (by decide)) ?_
      refine x_getR3 hC 6 fl_X8_29 rfl (ld_k0 h1) (rfd_6 hRF h1) dX8_workOut_43 ?_
      refine wm_iload_n hC 4 dX8_workOut_46 rfl ?_
      refine x_iald2 hC (ld_k7 h1) (ld_n7 h1) dX8_workOut_47 hw (fun hw => ?_)
      refine wm_istore hC dX8_workOut_48 (by decide) (L2 := [(5, vi (I (l1 + 7) l2)), (4, vi 1600), (3, vi 0), (0, vr 4), (1, vr l1), (2, vi l2)]) rfl ?_
      obtain ⟨f, hw⟩ := hw
      refine wm_sub [3, 4, 2, 1, 0] (L2 := [(0, vr 4), (1, vr l1), (3, vi 0), (4, vi 1600), (5, vi (I (l1 + 7) l2))]) rfl ?_
      exact w8_workOut_b50 hC hRm hE hRF h1 f _ _ _ hw
    · refine wm_aload_n hC 2 dX8_workOut_26 rfl (k_ne0 (ld_k0 h1) (by decide)) ?_
      refine x_getR3 hC 7 fl_X8_23 rfl (ld_k0 h1) (rfd_7 hRF h1) dX8_workOut_27 ?_
      refine wm_iload_n hC 3 dX8_workOut_30 rfl ?_
      refine x_iald2 hC (ld_k8 h1) (ld_n8 h1) dX8_workOut_31 hw (fun hw => ?_)
      refine wm_goto (tgt := 40) hC dX8_workOut_32 (by decide) ?_
      refine wm_istore hC dX8_workOut_40 (by decide) (L2 := [(4, vi (I (l1 + 8) l2)), (3, vi 0), (0, vr 4), (1, vr l1), (2, vi l2)]) rfl ?_
      refine wm_aload_n hC 3 dX8_workOut_42 rfl (k_ne0 (ld_k0 h1) (by decide)) ?_
      refine x_getR3 hC 6 fl_X8_29 rfl (ld_k0 h1) (rfd_6 hRF h1) dX8_workOut_43 ?_
      refine wm_iload_n hC 4 dX8_workOut_46 rfl ?_
      refine x_iald2 hC (ld_k7 h1) (ld_n7 h1) dX8_workOut_47 hw (fun hw => ?_)
      refine wm_istore hC dX8_workOut_48 (by decide) (L2 := [(5, vi (I (l1 + 7) l2)), (4, vi (I (l1 + 8) l2)), (3, vi 0), (0, vr 4), (1, vr l1), (2, vi l2)]) rfl ?_
      obtain ⟨f, hw⟩ := hw
      refine wm_sub [3, 4, 2, 1, 0] (L2 := [(0, vr 4), (1, vr l1), (3, vi 0), (4, vi (I (l1 + 8) l2)), (5, vi (I (l1 + 7) l2))]) rfl ?_
      exact w8_workOut_b50 hC hRm hE hRF h1 f _ _ _ hw
def p0_gift (l1 : Nat) (l2 : Nat) (I : mI) (J : mI) (Q : Int → mI → mI → Prop) : Prop := (p3_hasCode l1 2 I (fun r1 => (if r1 = 0 then (Q 9 I J) else (p8_put (-1) (I l2 0) I (fun I1 => (p8_put (-8) (I1 l2 1) I1 (fun I2 => (p7_wornBy l2 (I2 (l1 + 1) 2) (-1) I2 (fun r2 => (p8_put (-9) r2 I2 (fun I3 => (p8_workOut l1 2 I3 J (fun r3 J1 => (if (0 : Int) ≤ r3 then (if r3 ≤ 99 then (Q r3 I3 J1) else (Q 99 I3 J1)) else (Q 0 I3 J1)))))))))))))))
set_option maxRecDepth 20000 in
theorem c0_gift {ad : Nat → Nat} {n : Nat} {I J : mI} {R : mR} {Q : Int → mI → mI → Prop}  (hRF : RF R) {l1 : Nat} {l2 : Nat}  (h1 : isLd l1) (h2 : isSt l2) (hw : p0_gift l1 l2 I J Q) : wMet yX0_gift cX0_gift 4 (some .int) 3 62 false ad n I J R [vr 150, vr l1, vr l2] (fun r I' J' R' => (R' = R) ∧ Q r I' J') := by
  refine wMet_of (by decide) (Nat.le_of_ble_eq_true rfl) (fun C hC hRm hE hS => ?_)
  refine (show WM C ad n I J R 0 0 0 [(0, vr 150), (1, vr l1), (2, vr l2)] [] from ?_)
  unfold p0_gift at hw
  refine wm_aload_n hC 1 dX0_gift_0 rfl (k_ne0 (ld_k0 h1) (by decide)) ?_
  refine wm_iconst hC dX0_gift_1 (k := ?_)
  refine y_callV_z_n hC hRm noS ml_X0_62 (ld_k0 h1) (c3_hasCode hRF h1 hw) (Nat.le_of_ble_eq_true rfl) (Nat.le_of_ble_eq_true rfl) ⟨Nat.zero_le _, Nat.zero_le _⟩ rfl (st := []) rfl (Nat.le_of_ble_eq_true rfl) dX0_gift_2 (fun r1 hw => ?_)
  refine wm_if_ne (tgt := 11) hC dX0_gift_5 (by decide) hw (fun hw => ?_) (fun hw => ?_)
  · refine wm_bipush hC dX0_gift_8 (k := ?_)
    exact wm_ireturn hC hE dX0_gift_10 ⟨rfl, hw⟩
  · refine wm_aload_n hC 0 dX0_gift_11 rfl (k_ne0 kk_150 (by decide)) ?_
    refine x_getR3 hC 1 fl_X0_15 rfl kk_150 (rf_150_1 hRF) dX0_gift_12 ?_
    refine wm_iconst hC dX0_gift_15 (k := ?_)
    refine wm_aload_n hC 2 dX0_gift_16 rfl (k_ne0 (st_k0 h2) (by decide)) ?_
    refine x_getI hC 0 fl_X0_35 rfl (st_k0 h2) dX0_gift_17 ?_
    refine y_callV_v_I hC hRm noS ml_X0_68 kk_4 (c8_put hRF  hw) (Nat.le_of_ble_eq_true rfl) (Nat.le_of_ble_eq_true rfl) ⟨Nat.zero_le _, Nat.zero_le _⟩ rfl (st := []) rfl (Nat.le_of_ble_eq_true rfl) dX0_gift_20 (fun I1 hw => ?_)
    refine wm_aload_n hC 0 dX0_gift_23 rfl (k_ne0 kk_150 (by decide)) ?_
    refine x_getR3 hC 1 fl_X0_15 rfl kk_150 (rf_150_1 hRF) dX0_gift_24 ?_
    refine wm_bipush hC dX0_gift_27 (k := ?_)
    refine wm_aload_n hC 2 dX0_gift_29 rfl (k_ne0 (st_k0 h2) (by decide)) ?_
    refine x_getI hC 1 fl_X0_23 rfl (st_k0 h2) dX0_gift_30 ?_
    refine y_callV_v_I hC hRm noS ml_X0_68 kk_4 (c8_put hRF  hw) (Nat.le_of_ble_eq_true rfl) (Nat.le_of_ble_eq_true rfl) ⟨Nat.zero_le _, Nat.zero_le _⟩ rfl (st := []) rfl (Nat.le_of_ble_eq_true rfl) dX0_gift_33 (fun I2 hw => ?_)
    refine wm_aload_n hC 0 dX0_gift_36 rfl (k_ne0 kk_150 (by decide)) ?_
    refine x_getR3 hC 1 fl_X0_15 rfl kk_150 (rf_150_1 hRF) dX0_gift_37 ?_
    refine wm_bipush hC dX0_gift_40 (k := ?_)
    refine wm_aload_n hC 2 dX0_gift_42 rfl (k_ne0 (st_k0 h2) (by decide)) ?_
    refine wm_aload_n hC 1 dX0_gift_43 rfl (k_ne0 (ld_k0 h1) (by decide)) ?_
    refine x_getR3 hC 0 fl_X0_29 rfl (ld_k0 h1) (rfd_0 hRF h1) dX0_gift_44 ?_
    refine wm_iconst hC dX0_gift_47 (k := ?_)
    refine x_ialdK hC (ld_k1 h1) (ld_n1 h1) (by decide) (by decide) dX0_gift_48 ?_
    refine wm_iconst hC dX0_gift_49 (k := ?_)
    refine y_callV_i_n hC hRm noS ml_X0_72 (st_k0 h2) (c7_wornBy hRF h2 hw) (Nat.le_of_ble_eq_true rfl) (Nat.le_of_ble_eq_true rfl) ⟨Nat.zero_le _, Nat.zero_le _⟩ rfl (st := [vi (-9), vr 4]) rfl (Nat.le_of_ble_eq_true rfl) dX0_gift_50 (fun r2 hw => ?_)
    refine y_callV_v_I hC hRm noS ml_X0_68 kk_4 (c8_put hRF  hw) (Nat.le_of_ble_eq_true rfl) (Nat.le_of_ble_eq_true rfl) ⟨Nat.zero_le _, Nat.zero_le _⟩ rfl (st := []) rfl (Nat.le_of_ble_eq_true rfl) dX0_gift_53 (fun I3 hw => ?_)
    refine wm_aload_n hC 0 dX0_gift_56 rfl (k_ne0 kk_150 (by decide)) ?_
    refine x_getR3 hC 1 fl_X0_15 rfl kk_150 (rf_150_1 hRF) dX0_gift_57 ?_
    refine wm_aload_n hC 1 dX0_gift_60 rfl (k_ne0 (ld_k0 h1) (by decide)) ?_
    refine wm_iconst hC dX0_gift_61 (k := ?_)
    refine y_callV_i_J hC hRm noS ml_X0_76 kk_4 (c8_workOut hRF h1 hw) (Nat.le_of_ble_eq_true rfl) (Nat.le_of_ble_eq_true rfl) ⟨Nat.zero_le _, Nat.zero_le _⟩ rfl (st := []) rfl (Nat.le_of_ble_eq_true rfl) dX0_gift_62 (fun r3 J1 hw => ?_)
    refine wm_istore_n hC dX0_gift_65 (by decide) (L2 := [(3, vi r3), (0, vr 150), (1, vr l1), (2, vr l2)]) rfl ?_
    refine wm_iload_n hC 0 dX0_gift_66 rfl ?_
    refine wm_if_ge (tgt := 74) hC dX0_gift_67 (by decide) hw (fun hw => ?_) (fun hw => ?_)
    · refine wm_iload_n hC 0 dX0_gift_74 rfl ?_
      refine wm_bipush hC dX0_gift_75 (k := ?_)
      refine wm_icmp_le (tgt := 85) hC dX0_gift_77 (by decide) hw (fun hw => ?_) (fun hw => ?_)
      · refine wm_iload_n hC 0 dX0_gift_85 rfl ?_
        exact wm_ireturn hC hE dX0_gift_86 ⟨rfl, hw⟩
      · refine wm_bipush hC dX0_gift_80 (k := ?_)
        refine wm_goto (tgt := 86) hC dX0_gift_82 (by decide) ?_
        exact wm_ireturn hC hE dX0_gift_86 ⟨rfl, hw⟩
    · refine wm_iconst hC dX0_gift_70 (k := ?_)
      refine wm_goto (tgt := 86) hC dX0_gift_71 (by decide) ?_
      exact wm_ireturn hC hE dX0_gift_86 ⟨rfl, hw⟩
def p3_traitOf (l0 : Nat) (l1 : Int) (l2 : Int) (l3 : Int) (I : mI) (Q : Int → Prop) : Prop := (rg (l1 * 6) ∧ (rg ((l1 * 6) + l2) ∧ (rg (((l1 * 6) + l2) * 4) ∧ (rg ((((l1 * 6) + l2) * 4) + l3) ∧ (wLet ((((l1 * 6) + l2) * 4) + l3) (fun x1 => (if x1 < 0 then (Q (-1)) else (if (72 : Int) ≤ x1 then (Q (-1)) else (((0 : Int) ≤ x1 ∧ x1 < (72 : Int)) ∧ (Q (I (l0 + 3) x1)))))))))))
set_option maxRecDepth 20000 in
theorem c3_traitOf {ad : Nat → Nat} {n : Nat} {I J : mI} {R : mR} {Q : Int → Prop}  (hRF : RF R) {l0 : Nat} {l1 : Int} {l2 : Int} {l3 : Int} (h0 : isLd l0)    (hw : p3_traitOf l0 l1 l2 l3 I Q) : wMet yX3_traitOf cX3_traitOf 5 (some .int) 1 12 false ad n I J R [vr l0, vi l1, vi l2, vi l3] (fun r I' J' R' => (I' = I ∧ J' = J ∧ R' = R) ∧ Q r) := by
  refine wMet_of (by decide) (Nat.le_of_ble_eq_true rfl) (fun C hC hRm hE hS => ?_)
  refine (show WM C ad n I J R 0 0 0 [(0, vr l0), (1, vi l1), (2, vi l2), (3, vi l3)] [] from ?_)
  unfold p3_traitOf at hw
  refine wm_iload_n hC 1 dX3_traitOf_0 rfl ?_
  refine wm_bipush hC dX3_traitOf_1 (k := ?_)
  refine x_imul hC dX3_traitOf_3 hw (fun hw => ?_)
  refine wm_iload_n hC 2 dX3_traitOf_4 rfl ?_
  refine x_iadd hC dX3_traitOf_5 hw (fun hw => ?_)
  refine wm_iconst hC dX3_traitOf_6 (k := ?_)
  refine x_imul hC dX3_traitOf_7 hw (fun hw => ?_)
  refine wm_iload_n hC 3 dX3_traitOf_8 rfl ?_
  refine x_iadd hC dX3_traitOf_9 hw (fun hw => ?_)
  refine x_nameI hw (fun x1 hw => ?_)
  refine wm_istore hC dX3_traitOf_10 (by decide) (L2 := [(4, vi x1), (0, vr l0), (1, vi l1), (2, vi l2), (3, vi l3)]) rfl ?_
  refine wm_iload hC 0 dX3_traitOf_12 rfl ?_
  refine wm_if_lt (tgt := 37) hC dX3_traitOf_14 (by decide) hw (fun hw => ?_) (fun hw => ?_)
  · refine wm_iconst hC dX3_traitOf_37 (k := ?_)
    exact wm_ireturn hC hE dX3_traitOf_38 ⟨⟨rfl, rfl, rfl⟩, hw⟩
  · refine wm_iload hC 0 dX3_traitOf_17 rfl ?_
    refine wm_aload_n hC 1 dX3_traitOf_19 rfl (k_ne0 (ld_k0 h0) (by decide)) ?_
    refine x_getR3 hC 2 fl_X3_18 rfl (ld_k0 h0) (rfd_2 hRF h0) dX3_traitOf_20 ?_
    refine x_alen2 hC (ld_k3 h0) (ld_n3 h0) (by decide) dX3_traitOf_23 ?_
    refine wm_icmp_ge (tgt := 37) hC dX3_traitOf_24 (by decide) hw (fun hw => ?_) (fun hw => ?_)
    · refine wm_iconst hC dX3_traitOf_37 (k := ?_)
      exact wm_ireturn hC hE dX3_traitOf_38 ⟨⟨rfl, rfl, rfl⟩, hw⟩
    · refine wm_aload_n hC 1 dX3_traitOf_27 rfl (k_ne0 (ld_k0 h0) (by decide)) ?_
      refine x_getR3 hC 2 fl_X3_18 rfl (ld_k0 h0) (rfd_2 hRF h0) dX3_traitOf_28 ?_
      refine wm_iload hC 0 dX3_traitOf_31 rfl ?_
      refine x_iald2 hC (ld_k3 h0) (ld_n3 h0) dX3_traitOf_33 hw (fun hw => ?_)
      refine wm_goto (tgt := 38) hC dX3_traitOf_34 (by decide) ?_
      exact wm_ireturn hC hE dX3_traitOf_38 ⟨⟨rfl, rfl, rfl⟩, hw⟩
def p7_keep_b35 (l0 : Nat) (l1 : Int) (l2 : Int) (I : mI) (Q : mI → Prop) : Prop := (rg (3 * (I l0 2)) ∧ (((0 : Int) ≤ (3 * (I l0 2)) ∧ (3 * (I l0 2)) < (120 : Int)) ∧ wLet (up I (l0 + 4) (3 * (I l0 2)) (I l0 0)) (fun I3 => (rg (3 * (I3 l0 2)) ∧ (rg ((3 * (I3 l0 2)) + 1) ∧ (((0 : Int) ≤ ((3 * (I3 l0 2)) + 1) ∧ ((3 * (I3 l0 2)) + 1) < (120 : Int)) ∧ wLet (up I3 (l0 + 4) ((3 * (I3 l0 2)) + 1) l1) (fun I4 => (rg (3 * (I4 l0 2)) ∧ (rg ((3 * (I4 l0 2)) + 2) ∧ (((0 : Int) ≤ ((3 * (I4 l0 2)) + 2) ∧ ((3 * (I4 l0 2)) + 2) < (120 : Int)) ∧ wLet (up I4 (l0 + 4) ((3 * (I4 l0 2)) + 2) l2) (fun I5 => (rg ((I5 l0 2) + 1) ∧ (wLet (up I5 l0 2 ((I5 l0 2) + 1)) (fun I6 => (Q I6)))))))))))))))
set_option maxRecDepth 20000 in
theorem w7_keep_b35 {C : wX} {ad : Nat → Nat} {n : Nat} {I J : mI} {R : mR} {Q : mI → Prop} (hC : wOK C cX7_keep 3 RX7) (hRm : wRm C 1 60 0 0) (hE : wEnd C none ad n (fun _ I' J' R' => (J' = J ∧ R' = R) ∧ Q I')) (hRF : RF R) {l0 : Nat} {l1 : Int} {l2 : Int}   (h0 : isSt l0)  (hw : p7_keep_b35 l0 l1 l2 I Q) : WM C ad n I J R 0 0 35 [(0, vr l0), (1, vi l1), (2, vi l2)] [] := by
  unfold p7_keep_b35 at hw
  refine wm_aload_n hC 0 dX7_keep_35 rfl (k_ne0 (st_k0 h0) (by decide)) ?_
  refine x_getR3 hC 6 fl_X7_31 rfl (st_k0 h0) (rfs_6 hRF h0) dX7_keep_36 ?_
  refine wm_iconst hC dX7_keep_39 (k := ?_)
  refine wm_aload_n hC 0 dX7_keep_40 rfl (k_ne0 (st_k0 h0) (by decide)) ?_
  refine x_getI hC 2 fl_X7_18 rfl (st_k0 h0) dX7_keep_41 ?_
  refine x_imul hC dX7_keep_44 hw (fun hw => ?_)
  refine wm_aload_n hC 0 dX7_keep_45 rfl (k_ne0 (st_k0 h0) (by decide)) ?_
  refine x_getI hC 0 fl_X7_9 rfl (st_k0 h0) dX7_keep_46 ?_
  refine x_iast2 hC (st_k4 h0) (st_n4 h0) dX7_keep_49 hw (fun I3 hw => ?_)
  refine wm_aload_n hC 0 dX7_keep_50 rfl (k_ne0 (st_k0 h0) (by decide)) ?_
  refine x_getR3 hC 6 fl_X7_31 rfl (st_k0 h0) (rfs_6 hRF h0) dX7_keep_51 ?_
  refine wm_iconst hC dX7_keep_54 (k := ?_)
  refine wm_aload_n hC 0 dX7_keep_55 rfl (k_ne0 (st_k0 h0) (by decide)) ?_
  refine x_getI hC 2 fl_X7_18 rfl (st_k0 h0) dX7_keep_56 ?_
  refine x_imul hC dX7_keep_59 hw (fun hw => ?_)
  refine wm_iconst hC dX7_keep_60 (k := ?_)
  refine x_iadd hC dX7_keep_61 hw (fun hw => ?_)
  refine wm_iload_n hC 1 dX7_keep_62 rfl ?_
  refine x_iast2 hC (st_k4 h0) (st_n4 h0) dX7_keep_63 hw (fun I4 hw => ?_)
  refine wm_aload_n hC 0 dX7_keep_64 rfl (k_ne0 (st_k0 h0) (by decide)) ?_
  refine x_getR3 hC 6 fl_X7_31 rfl (st_k0 h0) (rfs_6 hRF h0) dX7_keep_65 ?_
  refine wm_iconst hC dX7_keep_68 (k := ?_)
  refine wm_aload_n hC 0 dX7_keep_69 rfl (k_ne0 (st_k0 h0) (by decide)) ?_
  refine x_getI hC 2 fl_X7_18 rfl (st_k0 h0) dX7_keep_70 ?_
  refine x_imul hC dX7_keep_73 hw (fun hw => ?_)
  refine wm_iconst hC dX7_keep_74 (k := ?_)
  refine x_iadd hC dX7_keep_75 hw (fun hw => ?_)
  refine wm_iload_n hC 2 dX7_keep_76 rfl ?_
  refine x_iast2 hC (st_k4 h0) (st_n4 h0) dX7_keep_77 hw (fun I5 hw => ?_)
  refine wm_aload_n hC 0 dX7_keep_78 rfl (k_ne0 (st_k0 h0) (by decide)) ?_
  refine wm_dup hC dX7_keep_79 (k := ?_)
  refine x_getI hC 2 fl_X7_18 rfl (st_k0 h0) dX7_keep_80 ?_
  refine wm_iconst hC dX7_keep_83 (k := ?_)
  refine x_iadd hC dX7_keep_84 hw (fun hw => ?_)
  refine x_putI hC 2 fl_X7_18 rfl (st_k0 h0) dX7_keep_85 hw (fun I6 hw => ?_)
  exact wm_return hC hE dX7_keep_88 ⟨⟨rfl, rfl⟩, hw⟩
def p7_keep (l0 : Nat) (l1 : Int) (l2 : Int) (I : mI) (Q : mI → Prop) : Prop := (if (I l0 2) < 40 then (p7_keep_b35 l0 l1 l2 I Q) else (rg ((120 : Int) - 3) ∧ (((0 : Int) ≤ 3 ∧ (0 : Int) ≤ 0 ∧ (0 : Int) ≤ ((120 : Int) - 3) ∧ (3 : Int) + ((120 : Int) - 3) ≤ (120 : Int) ∧ (0 : Int) + ((120 : Int) - 3) ≤ (120 : Int)) ∧ (wLet (cpy I (l0 + 4) 3 (l0 + 4) 0 ((120 : Int) - 3)) (fun I1 => (wLet (up I1 l0 2 39) (fun I2 => (p7_keep_b35 l0 l1 l2 I2 Q))))))))
set_option maxRecDepth 20000 in
theorem c7_keep {ad : Nat → Nat} {n : Nat} {I J : mI} {R : mR} {Q : mI → Prop}  (hRF : RF R) {l0 : Nat} {l1 : Int} {l2 : Int} (h0 : isSt l0)   (hw : p7_keep l0 l1 l2 I Q) : wMet yX7_keep cX7_keep 3 none 1 60 false ad n I J R [vr l0, vi l1, vi l2] (fun _ I' J' R' => (J' = J ∧ R' = R) ∧ Q I') := by
  refine wMet_of (by decide) (Nat.le_of_ble_eq_true rfl) (fun C hC hRm hE hS => ?_)
  refine (show WM C ad n I J R 0 0 0 [(0, vr l0), (1, vi l1), (2, vi l2)] [] from ?_)
  unfold p7_keep at hw
  refine wm_aload_n hC 0 dX7_keep_0 rfl (k_ne0 (st_k0 h0) (by decide)) ?_
  refine x_getI hC 2 fl_X7_18 rfl (st_k0 h0) dX7_keep_1 ?_
  refine wm_bipush hC dX7_keep_4 (k := ?_)
  refine wm_icmp_lt (tgt := 35) hC dX7_keep_6 (by decide) hw (fun hw => ?_) (fun hw => ?_)
  · exact w7_keep_b35 hC hRm hE hRF h0 hw
  · refine wm_aload_n hC 0 dX7_keep_9 rfl (k_ne0 (st_k0 h0) (by decide)) ?_
    refine x_getR3 hC 6 fl_X7_31 rfl (st_k0 h0) (rfs_6 hRF h0) dX7_keep_10 ?_
    refine wm_iconst hC dX7_keep_13 (k := ?_)
    refine wm_aload_n hC 0 dX7_keep_14 rfl (k_ne0 (st_k0 h0) (by decide)) ?_
    refine x_getR3 hC 6 fl_X7_31 rfl (st_k0 h0) (rfs_6 hRF h0) dX7_keep_15 ?_
    refine wm_iconst hC dX7_keep_18 (k := ?_)
    refine wm_aload_n hC 0 dX7_keep_19 rfl (k_ne0 (st_k0 h0) (by decide)) ?_
    refine x_getR3 hC 6 fl_X7_31 rfl (st_k0 h0) (rfs_6 hRF h0) dX7_keep_20 ?_
    refine x_alen2 hC (st_k4 h0) (st_n4 h0) (by decide) dX7_keep_23 ?_
    refine wm_iconst hC dX7_keep_24 (k := ?_)
    refine x_isub hC dX7_keep_25 hw (fun hw => ?_)
    obtain ⟨hcp, hw⟩ := hw
    refine x_copyi2 hC hRm (st := []) (st_k4 h0) (st_n4 h0) (st_k4 h0) (st_n4 h0) cw_X7_42 (Nat.le_of_ble_eq_true rfl) (by decide) hcp dX7_keep_26 hw (fun I1 hw => ?_)
    refine wm_aload_n hC 0 dX7_keep_29 rfl (k_ne0 (st_k0 h0) (by decide)) ?_
    refine wm_bipush hC dX7_keep_30 (k := ?_)
    refine x_putI hC 2 fl_X7_18 rfl (st_k0 h0) dX7_keep_32 hw (fun I2 hw => ?_)
    exact w7_keep_b35 hC hRm hE hRF h0 hw
def p0_paintIfPaid (l0 : Nat) (l1 : Nat) (l2 : Int) (l3 : Int) (I : mI) (Q : Int → mI → Prop) : Prop := (p3_traitOf l0 1 l3 3 I (fun r1 => (if (I l1 1) < r1 then (Q 0 I) else (((0 : Int) ≤ l2 ∧ l2 < (6 : Int)) ∧ (if (I (l1 + 3) l2) = l3 then (Q 0 I) else (((0 : Int) ≤ l2 ∧ l2 < (6 : Int)) ∧ wLet (up I (l1 + 3) l2 l3) (fun I1 => (rg ((I1 l1 1) - r1) ∧ (wLet (up I1 l1 1 ((I1 l1 1) - r1)) (fun I2 => (p7_keep l1 l2 l3 I2 (fun I3 => (Q 1 I3)))))))))))))
set_option maxRecDepth 20000 in
theorem c0_paintIfPaid {ad : Nat → Nat} {n : Nat} {I J : mI} {R : mR} {Q : Int → mI → Prop}  (hRF : RF R) {l0 : Nat} {l1 : Nat} {l2 : Int} {l3 : Int} (h0 : isLd l0) (h1 : isSt l1)   (hw : p0_paintIfPaid l0 l1 l2 l3 I Q) : wMet yX0_paintIfPaid cX0_paintIfPaid 5 (some .boolean) 2 82 false ad n I J R [vr l0, vr l1, vi l2, vi l3] (fun r I' J' R' => (J' = J ∧ R' = R) ∧ Q r I') := by
  refine wMet_of (by decide) (Nat.le_of_ble_eq_true rfl) (fun C hC hRm hE hS => ?_)
  refine (show WM C ad n I J R 0 0 0 [(0, vr l0), (1, vr l1), (2, vi l2), (3, vi l3)] [] from ?_)
  unfold p0_paintIfPaid at hw
  refine wm_aload_n hC 0 dX0_paintIfPaid_0 rfl (k_ne0 (ld_k0 h0) (by decide)) ?_
  refine wm_iconst hC dX0_paintIfPaid_1 (k := ?_)
  refine wm_iload_n hC 3 dX0_paintIfPaid_2 rfl ?_
  refine wm_iconst hC dX0_paintIfPaid_3 (k := ?_)
  refine y_callV_i_n hC hRm noS ml_X0_80 (ld_k0 h0) (c3_traitOf hRF h0 hw) (Nat.le_of_ble_eq_true rfl) (Nat.le_of_ble_eq_true rfl) ⟨Nat.zero_le _, Nat.zero_le _⟩ rfl (st := []) rfl (Nat.le_of_ble_eq_true rfl) dX0_paintIfPaid_4 (fun r1 hw => ?_)
  refine wm_istore hC dX0_paintIfPaid_7 (by decide) (L2 := [(4, vi r1), (0, vr l0), (1, vr l1), (2, vi l2), (3, vi l3)]) rfl ?_
  refine wm_iload hC 0 dX0_paintIfPaid_9 rfl ?_
  refine wm_aload_n hC 2 dX0_paintIfPaid_11 rfl (k_ne0 (st_k0 h1) (by decide)) ?_
  refine x_getI hC 1 fl_X0_23 rfl (st_k0 h1) dX0_paintIfPaid_12 ?_
  refine wm_icmp_gt (tgt := 28) hC dX0_paintIfPaid_15 (by decide) hw (fun hw => ?_) (fun hw => ?_)
  · refine wm_iconst hC dX0_paintIfPaid_28 (k := ?_)
    exact wm_zreturn hC hE (Or.inl rfl) dX0_paintIfPaid_29 ⟨⟨rfl, rfl⟩, hw⟩
  · refine wm_aload_n hC 2 dX0_paintIfPaid_18 rfl (k_ne0 (st_k0 h1) (by decide)) ?_
    refine x_getR3 hC 5 fl_X0_84 rfl (st_k0 h1) (rfs_5 hRF h1) dX0_paintIfPaid_19 ?_
    refine wm_iload_n hC 3 dX0_paintIfPaid_22 rfl ?_
    refine x_iald2 hC (st_k3 h1) (st_n3 h1) dX0_paintIfPaid_23 hw (fun hw => ?_)
    refine wm_iload_n hC 4 dX0_paintIfPaid_24 rfl ?_
    refine wm_icmp_ne (tgt := 30) hC dX0_paintIfPaid_25 (by decide) hw (fun hw => ?_) (fun hw => ?_)
    · refine wm_iconst hC dX0_paintIfPaid_28 (k := ?_)
      exact wm_zreturn hC hE (Or.inl rfl) dX0_paintIfPaid_29 ⟨⟨rfl, rfl⟩, hw⟩
    · refine wm_aload_n hC 2 dX0_paintIfPaid_30 rfl (k_ne0 (st_k0 h1) (by decide)) ?_
      refine x_getR3 hC 5 fl_X0_84 rfl (st_k0 h1) (rfs_5 hRF h1) dX0_paintIfPaid_31 ?_
      refine wm_iload_n hC 3 dX0_paintIfPaid_34 rfl ?_
      refine wm_iload_n hC 4 dX0_paintIfPaid_35 rfl ?_
      refine x_iast2 hC (st_k3 h1) (st_n3 h1) dX0_paintIfPaid_36 hw (fun I1 hw => ?_)
      refine wm_aload_n hC 2 dX0_paintIfPaid_37 rfl (k_ne0 (st_k0 h1) (by decide)) ?_
      refine wm_dup hC dX0_paintIfPaid_38 (k := ?_)
      refine x_getI hC 1 fl_X0_23 rfl (st_k0 h1) dX0_paintIfPaid_39 ?_
      refine wm_iload hC 0 dX0_paintIfPaid_42 rfl ?_
      refine x_isub hC dX0_paintIfPaid_44 hw (fun hw => ?_)
      refine x_putI hC 1 fl_X0_23 rfl (st_k0 h1) dX0_paintIfPaid_45 hw (fun I2 hw => ?_)
      refine wm_aload_n hC 2 dX0_paintIfPaid_48 rfl (k_ne0 (st_k0 h1) (by decide)) ?_
      refine wm_iload_n hC 3 dX0_paintIfPaid_49 rfl ?_
      refine wm_iload_n hC 4 dX0_paintIfPaid_50 rfl ?_
      refine y_callV_v_I hC hRm noS ml_X0_87 (st_k0 h1) (c7_keep hRF h1 hw) (Nat.le_of_ble_eq_true rfl) (Nat.le_of_ble_eq_true rfl) ⟨Nat.zero_le _, Nat.zero_le _⟩ rfl (st := []) rfl (Nat.le_of_ble_eq_true rfl) dX0_paintIfPaid_51 (fun I3 hw => ?_)
      refine wm_iconst hC dX0_paintIfPaid_54 (k := ?_)
      exact wm_zreturn hC hE (Or.inr rfl) dX0_paintIfPaid_55 ⟨⟨rfl, rfl⟩, hw⟩
def p1_isCounting (l1 : Int) (I : mI) (Q : Int → Prop) : Prop := (if (bAnd (bShr (I 146 7) l1) 1) = 1 then (Q 1) else (Q 0))
set_option maxRecDepth 20000 in
theorem c1_isCounting {ad : Nat → Nat} {n : Nat} {I J : mI} {R : mR} {Q : Int → Prop}  (hRF : RF R) {l1 : Int}   (hw : p1_isCounting l1 I Q) : wMet yX1_isCounting cX1_isCounting 2 (some .boolean) 1 12 false ad n I J R [vr 146, vi l1] (fun r I' J' R' => (I' = I ∧ J' = J ∧ R' = R) ∧ Q r) := by
  refine wMet_of (by decide) (Nat.le_of_ble_eq_true rfl) (fun C hC hRm hE hS => ?_)
  refine (show WM C ad n I J R 0 0 0 [(0, vr 146), (1, vi l1)] [] from ?_)
  unfold p1_isCounting at hw
  refine wm_aload_n hC 0 dX1_isCounting_0 rfl (k_ne0 kk_146 (by decide)) ?_
  refine x_getI hC 7 fl_X1_25 rfl kk_146 dX1_isCounting_1 ?_
  refine wm_iload_n hC 1 dX1_isCounting_4 rfl ?_
  refine wm_ishr hC dX1_isCounting_5 ?_
  refine wm_iconst hC dX1_isCounting_6 (k := ?_)
  refine wm_iand hC dX1_isCounting_7 ?_
  refine wm_iconst hC dX1_isCounting_8 (k := ?_)
  refine wm_icmp_ne (tgt := 16) hC dX1_isCounting_9 (by decide) hw (fun hw => ?_) (fun hw => ?_)
  · refine wm_iconst hC dX1_isCounting_12 (k := ?_)
    refine wm_goto (tgt := 17) hC dX1_isCounting_13 (by decide) ?_
    exact wm_zreturn hC hE (Or.inr rfl) dX1_isCounting_17 ⟨⟨rfl, rfl, rfl⟩, hw⟩
  · refine wm_iconst hC dX1_isCounting_16 (k := ?_)
    exact wm_zreturn hC hE (Or.inl rfl) dX1_isCounting_17 ⟨⟨rfl, rfl, rfl⟩, hw⟩
def p3_isLate (l0 : Nat) (l1 : Int) (I : mI) (Q : Int → Prop) : Prop := (Q (bAnd (bShr (I l0 9) l1) 1))
set_option maxRecDepth 20000 in
theorem c3_isLate {ad : Nat → Nat} {n : Nat} {I J : mI} {R : mR} {Q : Int → Prop}  (hRF : RF R) {l0 : Nat} {l1 : Int} (h0 : isLd l0)  (hw : p3_isLate l0 l1 I Q) : wMet yX3_isLate cX3_isLate 2 (some .int) 1 12 false ad n I J R [vr l0, vi l1] (fun r I' J' R' => (I' = I ∧ J' = J ∧ R' = R) ∧ Q r) := by
  refine wMet_of (by decide) (Nat.le_of_ble_eq_true rfl) (fun C hC hRm hE hS => ?_)
  refine (show WM C ad n I J R 0 0 0 [(0, vr l0), (1, vi l1)] [] from ?_)
  unfold p3_isLate at hw
  refine wm_aload_n hC 0 dX3_isLate_0 rfl (k_ne0 (ld_k0 h0) (by decide)) ?_
  refine x_getI hC 9 fl_X3_40 rfl (ld_k0 h0) dX3_isLate_1 ?_
  refine wm_iload_n hC 1 dX3_isLate_4 rfl ?_
  refine wm_ishr hC dX3_isLate_5 ?_
  refine wm_iconst hC dX3_isLate_6 (k := ?_)
  refine wm_iand hC dX3_isLate_7 ?_
  exact wm_ireturn hC hE dX3_isLate_8 ⟨⟨rfl, rfl, rfl⟩, hw⟩
def p1_putPerson (l1 : Int) (I : mI) (R : mR) (Q : mI → Prop) : Prop := (isSt (R 146 5) ∧ (p8_put (-1) (I (R 146 5) 0) I (fun I1 => (isSt (R 146 5) ∧ (((0 : Int) ≤ l1 ∧ l1 < (6 : Int)) ∧ (p8_put (-2) (I1 ((R 146 5) + 2) l1) I1 (fun I2 => (isLd (R 146 4) ∧ (p3_isLate (R 146 4) l1 I2 (fun r1 => (p8_put (-3) r1 I2 (fun I3 => (Q I3)))))))))))))
set_option maxRecDepth 20000 in
theorem c1_putPerson {ad : Nat → Nat} {n : Nat} {I J : mI} {R : mR} {Q : mI → Prop}  (hRF : RF R) {l1 : Int}   (hw : p1_putPerson l1 I R Q) : wMet yX1_putPerson cX1_putPerson 2 none 2 35 false ad n I J R [vr 146, vi l1] (fun _ I' J' R' => (J' = J ∧ R' = R) ∧ Q I') := by
  refine wMet_of (by decide) (Nat.le_of_ble_eq_true rfl) (fun C hC hRm hE hS => ?_)
  refine (show WM C ad n I J R 0 0 0 [(0, vr 146), (1, vi l1)] [] from ?_)
  unfold p1_putPerson at hw
  refine wm_aload_n hC 0 dX1_putPerson_0 rfl (k_ne0 kk_146 (by decide)) ?_
  refine x_getR3 hC 0 fl_X1_34 rfl kk_146 (rf_146_0 hRF) dX1_putPerson_1 ?_
  refine wm_iconst hC dX1_putPerson_4 (k := ?_)
  refine wm_aload_n hC 0 dX1_putPerson_5 rfl (k_ne0 kk_146 (by decide)) ?_
  refine x_getRD hC 5 fl_X1_42 rfl kk_146 dX1_putPerson_6 hw (fun g1 hw => ?_)
  refine x_getI hC 0 fl_X1_72 rfl (st_k0 g1) dX1_putPerson_9 ?_
  refine y_callV_v_I hC hRm noS ml_X1_77 kk_4 (c8_put hRF  hw) (Nat.le_of_ble_eq_true rfl) (Nat.le_of_ble_eq_true rfl) ⟨Nat.zero_le _, Nat.zero_le _⟩ rfl (st := []) rfl (Nat.le_of_ble_eq_true rfl) dX1_putPerson_12 (fun I1 hw => ?_)
  refine wm_aload_n hC 0 dX1_putPerson_15 rfl (k_ne0 kk_146 (by decide)) ?_
  refine x_getR3 hC 0 fl_X1_34 rfl kk_146 (rf_146_0 hRF) dX1_putPerson_16 ?_
  refine wm_bipush hC dX1_putPerson_19 (k := ?_)
  refine wm_aload_n hC 0 dX1_putPerson_21 rfl (k_ne0 kk_146 (by decide)) ?_
  refine x_getRD hC 5 fl_X1_42 rfl kk_146 dX1_putPerson_22 hw (fun g2 hw => ?_)
  refine x_getR3 hC 4 fl_X1_81 rfl (st_k0 g2) (rfs_4 hRF g2) dX1_putPerson_25 ?_
  refine wm_iload_n hC 1 dX1_putPerson_28 rfl ?_
  refine x_iald2 hC (st_k2 g2) (st_n2 g2) dX1_putPerson_29 hw (fun hw => ?_)
  refine y_callV_v_I hC hRm noS ml_X1_77 kk_4 (c8_put hRF  hw) (Nat.le_of_ble_eq_true rfl) (Nat.le_of_ble_eq_true rfl) ⟨Nat.zero_le _, Nat.zero_le _⟩ rfl (st := []) rfl (Nat.le_of_ble_eq_true rfl) dX1_putPerson_30 (fun I2 hw => ?_)
  refine wm_aload_n hC 0 dX1_putPerson_33 rfl (k_ne0 kk_146 (by decide)) ?_
  refine x_getR3 hC 0 fl_X1_34 rfl kk_146 (rf_146_0 hRF) dX1_putPerson_34 ?_
  refine wm_bipush hC dX1_putPerson_37 (k := ?_)
  refine wm_aload_n hC 0 dX1_putPerson_39 rfl (k_ne0 kk_146 (by decide)) ?_
  refine x_getRD hC 4 fl_X1_38 rfl kk_146 dX1_putPerson_40 hw (fun g3 hw => ?_)
  refine wm_iload_n hC 1 dX1_putPerson_43 rfl ?_
  refine y_callV_i_n hC hRm noS ml_X1_84 (ld_k0 g3) (c3_isLate hRF g3 hw) (Nat.le_of_ble_eq_true rfl) (Nat.le_of_ble_eq_true rfl) ⟨Nat.zero_le _, Nat.zero_le _⟩ rfl (st := [vi (-3), vr 4]) rfl (Nat.le_of_ble_eq_true rfl) dX1_putPerson_44 (fun r1 hw => ?_)
  refine y_callV_v_I hC hRm noS ml_X1_77 kk_4 (c8_put hRF  hw) (Nat.le_of_ble_eq_true rfl) (Nat.le_of_ble_eq_true rfl) ⟨Nat.zero_le _, Nat.zero_le _⟩ rfl (st := []) rfl (Nat.le_of_ble_eq_true rfl) dX1_putPerson_47 (fun I3 hw => ?_)
  exact wm_return hC hE dX1_putPerson_50 ⟨⟨rfl, rfl⟩, hw⟩
def p3_matchOf_b29 (l0 : Nat) (l1 : Int) (l2 : Int) (l3 : Int) (l4 : Int) (l5 : Int) (l6 : Int) (s0 : Int) (I : mI) (k6 : Int → Int → Prop) (Q : Int → Prop) : Prop := (p3_traitOf l0 2 l3 l6 I (fun r2 => (p3_traitOf l0 1 l4 l6 I (fun r3 => (rg (r2 - r3) ∧ (if (0 : Int) ≤ (r2 - r3) then (rg (9 - (r2 - r3)) ∧ (rg (s0 * (9 - (r2 - r3))) ∧ (rg (l5 + (s0 * (9 - (r2 - r3)))) ∧ (wLet (l5 + (s0 * (9 - (r2 - r3)))) (fun x1 => (rg (l6 + 1) ∧ (k6 x1 (l6 + 1)))))))) else (rg (-(r2 - r3)) ∧ (rg (9 - (-(r2 - r3))) ∧ (rg (s0 * (9 - (-(r2 - r3)))) ∧ (rg (l5 + (s0 * (9 - (-(r2 - r3))))) ∧ (wLet (l5 + (s0 * (9 - (-(r2 - r3))))) (fun x2 => (rg (l6 + 1) ∧ (k6 x2 (l6 + 1)))))))))))))))
set_option maxRecDepth 20000 in
theorem w3_matchOf_b29 {C : wX} {ad : Nat → Nat} {n : Nat} {I J : mI} {R : mR} {Q : Int → Prop} (hC : wOK C cX3_matchOf 9 RX3) (hRm : wRm C 2 36 0 0) (hE : wEnd C (some .int) ad n (fun r I' J' R' => (I' = I ∧ J' = J ∧ R' = R) ∧ Q r)) (hRF : RF R) {l0 : Nat} {l1 : Int} {l2 : Int} {l3 : Int} {l4 : Int} {l5 : Int} {l6 : Int} {s0 : Int}  {k6 : Int → Int → Prop} (h0 : isLd l0) (kk6 : ∀ (y5 : Int) (y6 : Int), k6 y5 y6 → WM C ad n I J R 0 0 6 [(0, vr l0), (1, vi l1), (2, vi l2), (3, vi l3), (4, vi l4), (5, vi y5), (6, vi y6)] []) (hw : p3_matchOf_b29 l0 l1 l2 l3 l4 l5 l6 s0 I k6 Q) : WM C ad n I J R 0 0 29 [(0, vr l0), (1, vi l1), (2, vi l2), (3, vi l3), (4, vi l4), (5, vi l5), (6, vi l6)] [vi s0] := by
  unfold p3_matchOf_b29 at hw
  refine wm_istore hC dX3_matchOf_29 (by decide) (L2 := [(7, vi s0), (0, vr l0), (1, vi l1), (2, vi l2), (3, vi l3), (4, vi l4), (5, vi l5), (6, vi l6)]) rfl ?_
  refine wm_aload_n hC 1 dX3_matchOf_31 rfl (k_ne0 (ld_k0 h0) (by decide)) ?_
  refine wm_iconst hC dX3_matchOf_32 (k := ?_)
  refine wm_iload_n hC 4 dX3_matchOf_33 rfl ?_
  refine wm_iload hC 7 dX3_matchOf_34 rfl ?_
  refine y_callV_i_n hC hRm noS ml_X3_62 (ld_k0 h0) (c3_traitOf hRF h0 hw) (Nat.le_of_ble_eq_true rfl) (Nat.le_of_ble_eq_true rfl) ⟨Nat.zero_le _, Nat.zero_le _⟩ rfl (st := []) rfl (Nat.le_of_ble_eq_true rfl) dX3_matchOf_36 (fun r2 hw => ?_)
  refine wm_aload_n hC 1 dX3_matchOf_39 rfl (k_ne0 (ld_k0 h0) (by decide)) ?_
  refine wm_iconst hC dX3_matchOf_40 (k := ?_)
  refine wm_iload hC 5 dX3_matchOf_41 rfl ?_
  refine wm_iload hC 7 dX3_matchOf_43 rfl ?_
  refine y_callV_i_n hC hRm noS ml_X3_62 (ld_k0 h0) (c3_traitOf hRF h0 hw) (Nat.le_of_ble_eq_true rfl) (Nat.le_of_ble_eq_true rfl) ⟨Nat.zero_le _, Nat.zero_le _⟩ rfl (st := [vi r2]) rfl (Nat.le_of_ble_eq_true rfl) dX3_matchOf_45 (fun r3 hw => ?_)
  refine x_isub hC dX3_matchOf_48 hw (fun hw => ?_)
  refine wm_istore hC dX3_matchOf_49 (by decide) (L2 := [(8, vi (r2 - r3)), (7, vi s0), (0, vr l0), (1, vi l1), (2, vi l2), (3, vi l3), (4, vi l4), (5, vi l5), (6, vi l6)]) rfl ?_
  refine wm_iload hC 7 dX3_matchOf_51 rfl ?_
  refine wm_iload hC 1 dX3_matchOf_53 rfl ?_
  refine wm_bipush hC dX3_matchOf_55 (k := ?_)
  refine wm_iload hC 0 dX3_matchOf_57 rfl ?_
  refine wm_if_ge (tgt := 68) hC dX3_matchOf_59 (by decide) hw (fun hw => ?_) (fun hw => ?_)
  · refine wm_iload hC 0 dX3_matchOf_68 rfl ?_
    refine x_isub hC dX3_matchOf_70 hw (fun hw => ?_)
    refine x_imul hC dX3_matchOf_71 hw (fun hw => ?_)
    refine x_iadd hC dX3_matchOf_72 hw (fun hw => ?_)
    refine x_nameI hw (fun x1 hw => ?_)
    refine wm_istore hC dX3_matchOf_73 (by decide) (L2 := [(5, vi x1), (8, vi (r2 - r3)), (7, vi s0), (0, vr l0), (1, vi l1), (2, vi l2), (3, vi l3), (4, vi l4), (6, vi l6)]) rfl ?_
    refine x_iinc hC 8 dX3_matchOf_75 rfl (by decide) (L2 := [(6, vi (l6 + 1)), (5, vi x1), (8, vi (r2 - r3)), (7, vi s0), (0, vr l0), (1, vi l1), (2, vi l2), (3, vi l3), (4, vi l4)]) rfl hw (fun hw => ?_)
    refine wm_goto (tgt := 6) hC dX3_matchOf_78 (by decide) ?_
    refine wm_sub [4, 5, 6, 7, 8, 1, 0] (L2 := [(0, vr l0), (1, vi l1), (2, vi l2), (3, vi l3), (4, vi l4), (5, vi x1), (6, vi (l6 + 1))]) rfl ?_
    exact kk6 _ _ hw
  · refine wm_iload hC 0 dX3_matchOf_62 rfl ?_
    refine x_ineg hC dX3_matchOf_64 hw (fun hw => ?_)
    refine wm_goto (tgt := 70) hC dX3_matchOf_65 (by decide) ?_
    refine x_isub hC dX3_matchOf_70 hw (fun hw => ?_)
    refine x_imul hC dX3_matchOf_71 hw (fun hw => ?_)
    refine x_iadd hC dX3_matchOf_72 hw (fun hw => ?_)
    refine x_nameI hw (fun x2 hw => ?_)
    refine wm_istore hC dX3_matchOf_73 (by decide) (L2 := [(5, vi x2), (8, vi (r2 - r3)), (7, vi s0), (0, vr l0), (1, vi l1), (2, vi l2), (3, vi l3), (4, vi l4), (6, vi l6)]) rfl ?_
    refine x_iinc hC 8 dX3_matchOf_75 rfl (by decide) (L2 := [(6, vi (l6 + 1)), (5, vi x2), (8, vi (r2 - r3)), (7, vi s0), (0, vr l0), (1, vi l1), (2, vi l2), (3, vi l3), (4, vi l4)]) rfl hw (fun hw => ?_)
    refine wm_goto (tgt := 6) hC dX3_matchOf_78 (by decide) ?_
    refine wm_sub [4, 5, 6, 7, 8, 1, 0] (L2 := [(0, vr l0), (1, vi l1), (2, vi l2), (3, vi l3), (4, vi l4), (5, vi x2), (6, vi (l6 + 1))]) rfl ?_
    exact kk6 _ _ hw
def p3_matchOf_b6_body (l0 : Nat) (l1 : Int) (l2 : Int) (l3 : Int) (l4 : Int) (I : mI) (Q : Int → Prop) (k6 : Int → Int → Prop) (l5 : Int) (l6 : Int) : Prop := (if (3 : Int) ≤ l6 then (Q l5) else (if l6 = 0 then (p3_matchOf_b29 l0 l1 l2 l3 l4 l5 l6 l2 I k6 Q) else (p3_traitOf l0 0 l1 l6 I (fun r1 => (p3_matchOf_b29 l0 l1 l2 l3 l4 l5 l6 r1 I k6 Q)))))
def p3_matchOf_b6 (l0 : Nat) (l1 : Int) (l2 : Int) (l3 : Int) (l4 : Int) (I : mI) (Q : Int → Prop) : Nat → Int → Int → Prop
  | 0 => fun _ _ => False
  | f + 1 => fun l5 l6 => p3_matchOf_b6_body l0 l1 l2 l3 l4 I Q (p3_matchOf_b6 l0 l1 l2 l3 l4 I Q f) l5 l6
set_option maxRecDepth 20000 in
theorem w3_matchOf_b6_body {C : wX} {ad : Nat → Nat} {n : Nat} {I J : mI} {R : mR} {Q : Int → Prop} (hC : wOK C cX3_matchOf 9 RX3) (hRm : wRm C 2 36 0 0) (hE : wEnd C (some .int) ad n (fun r I' J' R' => (I' = I ∧ J' = J ∧ R' = R) ∧ Q r)) (hRF : RF R) {l0 : Nat} {l1 : Int} {l2 : Int} {l3 : Int} {l4 : Int} {l5 : Int} {l6 : Int}   (h0 : isLd l0)  {k6 : Int → Int → Prop} (kk6 : ∀ (y5 : Int) (y6 : Int), k6 y5 y6 → WM C ad n I J R 0 0 6 [(0, vr l0), (1, vi l1), (2, vi l2), (3, vi l3), (4, vi l4), (5, vi y5), (6, vi y6)] []) (hw : p3_matchOf_b6_body l0 l1 l2 l3 l4 I Q k6 l5 l6) : WM C ad n I J R 0 0 6 [(0, vr l0), (1, vi l1), (2, vi l2), (3, vi l3), (4, vi l4), (5, vi l5), (6, vi l6)] [] := by
  unfold p3_matchOf_b6_body at hw
  refine wm_iload hC 6 dX3_matchOf_6 rfl ?_
  refine wm_iconst hC dX3_matchOf_8 (k := ?_)
  refine wm_icmp_ge (tgt := 81) hC dX3_matchOf_9 (by decide) hw (fun hw => ?_) (fun hw => ?_)
  · refine wm_iload hC 5 dX3_matchOf_81 rfl ?_
    exact wm_ireturn hC hE dX3_matchOf_83 ⟨⟨rfl, rfl, rfl⟩, hw⟩
  · refine wm_iload hC 6 dX3_matchOf_12 rfl ?_
    refine wm_if_ne (tgt := 21) hC dX3_matchOf_14 (by decide) hw (fun hw => ?_) (fun hw => ?_)
    · refine wm_iload_n hC 2 dX3_matchOf_17 rfl ?_
      refine wm_goto (tgt := 29) hC dX3_matchOf_18 (by decide) ?_
      exact w3_matchOf_b29 hC hRm hE hRF h0 kk6 hw
    · refine wm_aload_n hC 0 dX3_matchOf_21 rfl (k_ne0 (ld_k0 h0) (by decide)) ?_
      refine wm_iconst hC dX3_matchOf_22 (k := ?_)
      refine wm_iload_n hC 1 dX3_matchOf_23 rfl ?_
      refine wm_iload hC 6 dX3_matchOf_24 rfl ?_
      refine y_callV_i_n hC hRm noS ml_X3_62 (ld_k0 h0) (c3_traitOf hRF h0 hw) (Nat.le_of_ble_eq_true rfl) (Nat.le_of_ble_eq_true rfl) ⟨Nat.zero_le _, Nat.zero_le _⟩ rfl (st := []) rfl (Nat.le_of_ble_eq_true rfl) dX3_matchOf_26 (fun r1 hw => ?_)
      exact w3_matchOf_b29 hC hRm hE hRF h0 kk6 hw
set_option maxRecDepth 20000 in
theorem w3_matchOf_b6 {C : wX} {ad : Nat → Nat} {n : Nat} {I : mI} {J : mI} {R : mR} {Q : Int → Prop} (hC : wOK C cX3_matchOf 9 RX3) (hRm : wRm C 2 36 0 0) (hE : wEnd C (some .int) ad n (fun r I' J' R' => (I' = I ∧ J' = J ∧ R' = R) ∧ Q r)) (hRF : RF R) {l0 : Nat} {l1 : Int} {l2 : Int} {l3 : Int} {l4 : Int}   (h0 : isLd l0)  : ∀ (f : Nat) (l5 : Int) (l6 : Int), p3_matchOf_b6 l0 l1 l2 l3 l4 I Q f l5 l6 → WM C ad n I J R 0 0 6 [(0, vr l0), (1, vi l1), (2, vi l2), (3, vi l3), (4, vi l4), (5, vi l5), (6, vi l6)] [] := by
  intro f
  induction f with
  | zero => intro l5 l6 hw; exact hw.elim
  | succ f ih => intro l5 l6 hw; exact w3_matchOf_b6_body hC hRm hE hRF h0 (fun a0 a1 aw => ih a0 a1 aw) hw
def p3_matchOf (l0 : Nat) (l1 : Int) (l2 : Int) (l3 : Int) (l4 : Int) (I : mI) (Q : Int → Prop) : Prop := (∃ f, p3_matchOf_b6 l0 l1 l2 l3 l4 I Q f 0 0)
set_option maxRecDepth 20000 in
theorem c3_matchOf {ad : Nat → Nat} {n : Nat} {I J : mI} {R : mR} {Q : Int → Prop}  (hRF : RF R) {l0 : Nat} {l1 : Int} {l2 : Int} {l3 : Int} {l4 : Int} (h0 : isLd l0)     (hw : p3_matchOf l0 l1 l2 l3 l4 I Q) : wMet yX3_matchOf cX3_matchOf 9 (some .int) 2 36 false ad n I J R [vr l0, vi l1, vi l2, vi l3, vi l4] (fun r I' J' R' => (I' = I ∧ J' = J ∧ R' = R) ∧ Q r) := by
  refine wMet_of (by decide) (Nat.le_of_ble_eq_true rfl) (fun C hC hRm hE hS => ?_)
  refine (show WM C ad n I J R 0 0 0 [(0, vr l0), (1, vi l1), (2, vi l2), (3, vi l3), (4, vi l4)] [] from ?_)
  unfold p3_matchOf at hw
  refine wm_iconst hC dX3_matchOf_0 (k := ?_)
  refine wm_istore hC dX3_matchOf_1 (by decide) (L2 := [(5, vi 0), (0, vr l0), (1, vi l1), (2, vi l2), (3, vi l3), (4, vi l4)]) rfl ?_
  refine wm_iconst hC dX3_matchOf_3 (k := ?_)
  refine wm_istore hC dX3_matchOf_4 (by decide) (L2 := [(6, vi 0), (5, vi 0), (0, vr l0), (1, vi l1), (2, vi l2), (3, vi l3), (4, vi l4)]) rfl ?_
  obtain ⟨f, hw⟩ := hw
  refine wm_sub [2, 3, 4, 5, 6, 1, 0] (L2 := [(0, vr l0), (1, vi l1), (2, vi l2), (3, vi l3), (4, vi l4), (5, vi 0), (6, vi 0)]) rfl ?_
  exact w3_matchOf_b6 hC hRm hE hRF h0 f _ _ hw
def p1_scoreOf_b25 (l1 : Int) (l2 : Int) (l3 : Int) (s0 : Int) (I : mI) (J : mI) (R : mR) (Q : Int → mI → mI → Prop) : Prop := (rg (l1 * 6) ∧ (rg ((l1 * 6) + l2) ∧ (rg (((l1 * 6) + l2) * 6) ∧ (rg ((((l1 * 6) + l2) * 6) + l3) ∧ (wLet ((((l1 * 6) + l2) * 6) + l3) (fun x1 => (if l3 < 0 then (Q 0 I J) else (if (6 : Int) ≤ l3 then (Q 0 I J) else (if x1 < 0 then (Q 0 I J) else (if x1 < 216 then (((0 : Int) ≤ x1 ∧ x1 < (216 : Int)) ∧ (if (I 147 x1) = (-2000000) then (isLd (R 146 4) ∧ (p3_matchOf (R 146 4) l1 s0 (I 146 6) l2 I (fun r2 => (((0 : Int) ≤ x1 ∧ x1 < (216 : Int)) ∧ wLet (up I 147 x1 r2) (fun I1 => (isLd (R 146 4) ∧ (p3_hasCode (R 146 4) 0 I1 (fun r3 => (if r3 = 0 then (((0 : Int) ≤ x1 ∧ x1 < (216 : Int)) ∧ (Q (I1 147 x1) I1 J)) else (p1_putPerson l1 I1 R (fun I2 => (((0 : Int) ≤ x1 ∧ x1 < (216 : Int)) ∧ (p8_put (-4) (I2 147 x1) I2 (fun I3 => (isSt (R 146 5) ∧ (isLd (R 146 4) ∧ (p7_wornBy (R 146 5) (I3 ((R 146 4) + 1) 2) l2 I3 (fun r4 => (p8_put (-5) r4 I3 (fun I4 => (p8_put (-6) l3 I4 (fun I5 => (isLd (R 146 4) ∧ (p3_traitOf (R 146 4) 1 l2 3 I5 (fun r5 => (p8_put (-7) r5 I5 (fun I6 => (isLd (R 146 4) ∧ (p8_workOut (R 146 4) 0 I6 J (fun r6 J1 => (((0 : Int) ≤ x1 ∧ x1 < (216 : Int)) ∧ wLet (up I6 147 x1 r6) (fun I7 => (((0 : Int) ≤ x1 ∧ x1 < (216 : Int)) ∧ (Q (I7 147 x1) I7 J1)))))))))))))))))))))))))))))))))) else (((0 : Int) ≤ x1 ∧ x1 < (216 : Int)) ∧ (Q (I 147 x1) I J)))) else (Q 0 I J)))))))))))
set_option maxRecDepth 20000 in
theorem w1_scoreOf_b25 {C : wX} {ad : Nat → Nat} {n : Nat} {I J : mI} {R : mR} {Q : Int → mI → mI → Prop} (hC : wOK C cX1_scoreOf 6 RX1) (hRm : wRm C 3 64 0 0) (hE : wEnd C (some .int) ad n (fun r I' J' R' => (R' = R) ∧ Q r I' J')) (hRF : RF R) {l1 : Int} {l2 : Int} {l3 : Int} {s0 : Int}     (hw : p1_scoreOf_b25 l1 l2 l3 s0 I J R Q) : WM C ad n I J R 0 0 25 [(0, vr 146), (1, vi l1), (2, vi l2), (3, vi l3)] [vi s0] := by
  unfold p1_scoreOf_b25 at hw
  refine wm_istore hC dX1_scoreOf_25 (by decide) (L2 := [(4, vi s0), (0, vr 146), (1, vi l1), (2, vi l2), (3, vi l3)]) rfl ?_
  refine wm_iload_n hC 2 dX1_scoreOf_27 rfl ?_
  refine wm_bipush hC dX1_scoreOf_28 (k := ?_)
  refine x_imul hC dX1_scoreOf_30 hw (fun hw => ?_)
  refine wm_iload_n hC 3 dX1_scoreOf_31 rfl ?_
  refine x_iadd hC dX1_scoreOf_32 hw (fun hw => ?_)
  refine wm_bipush hC dX1_scoreOf_33 (k := ?_)
  refine x_imul hC dX1_scoreOf_35 hw (fun hw => ?_)
  refine wm_iload_n hC 4 dX1_scoreOf_36 rfl ?_
  refine x_iadd hC dX1_scoreOf_37 hw (fun hw => ?_)
  refine x_nameI hw (fun x1 hw => ?_)
  refine wm_istore hC dX1_scoreOf_38 (by decide) (L2 := [(5, vi x1), (4, vi s0), (0, vr 146), (1, vi l1), (2, vi l2), (3, vi l3)]) rfl ?_
  refine wm_iload_n hC 5 dX1_scoreOf_40 rfl ?_
  refine wm_if_lt (tgt := 65) hC dX1_scoreOf_41 (by decide) hw (fun hw => ?_) (fun hw => ?_)
  · refine wm_iconst hC dX1_scoreOf_65 (k := ?_)
    exact wm_ireturn hC hE dX1_scoreOf_66 ⟨rfl, hw⟩
  · refine wm_iload_n hC 5 dX1_scoreOf_44 rfl ?_
    refine wm_bipush hC dX1_scoreOf_45 (k := ?_)
    refine wm_icmp_ge (tgt := 65) hC dX1_scoreOf_47 (by decide) hw (fun hw => ?_) (fun hw => ?_)
    · refine wm_iconst hC dX1_scoreOf_65 (k := ?_)
      exact wm_ireturn hC hE dX1_scoreOf_66 ⟨rfl, hw⟩
    · refine wm_iload hC 0 dX1_scoreOf_50 rfl ?_
      refine wm_if_lt (tgt := 65) hC dX1_scoreOf_52 (by decide) hw (fun hw => ?_) (fun hw => ?_)
      · refine wm_iconst hC dX1_scoreOf_65 (k := ?_)
        exact wm_ireturn hC hE dX1_scoreOf_66 ⟨rfl, hw⟩
      · refine wm_iload hC 0 dX1_scoreOf_55 rfl ?_
        refine wm_aload_n hC 2 dX1_scoreOf_57 rfl (k_ne0 kk_146 (by decide)) ?_
        refine x_getR3 hC 1 fl_X1_9 rfl kk_146 (rf_146_1 hRF) dX1_scoreOf_58 ?_
        refine x_alen2 hC kk_147 kn_147 (by decide) dX1_scoreOf_61 ?_
        refine wm_icmp_lt (tgt := 67) hC dX1_scoreOf_62 (by decide) hw (fun hw => ?_) (fun hw => ?_)
        · refine wm_aload_n hC 2 dX1_scoreOf_67 rfl (k_ne0 kk_146 (by decide)) ?_
          refine x_getR3 hC 1 fl_X1_9 rfl kk_146 (rf_146_1 hRF) dX1_scoreOf_68 ?_
          refine wm_iload hC 0 dX1_scoreOf_71 rfl ?_
          refine x_iald2 hC kk_147 kn_147 dX1_scoreOf_73 hw (fun hw => ?_)
          refine wm_ldc hC (x := (-2000000)) tc_X1_46 rfl dX1_scoreOf_74 (k := ?_)
          refine wm_icmp_ne (tgt := 207) hC dX1_scoreOf_76 (by decide) hw (fun hw => ?_) (fun hw => ?_)
          · refine wm_aload_n hC 2 dX1_scoreOf_79 rfl (k_ne0 kk_146 (by decide)) ?_
            refine x_getR3 hC 1 fl_X1_9 rfl kk_146 (rf_146_1 hRF) dX1_scoreOf_80 ?_
            refine wm_iload hC 0 dX1_scoreOf_83 rfl ?_
            refine wm_aload_n hC 2 dX1_scoreOf_85 rfl (k_ne0 kk_146 (by decide)) ?_
            refine x_getRD hC 4 fl_X1_38 rfl kk_146 dX1_scoreOf_86 hw (fun g2 hw => ?_)
            refine wm_iload_n hC 3 dX1_scoreOf_89 rfl ?_
            refine wm_iload hC 1 dX1_scoreOf_90 rfl ?_
            refine wm_aload_n hC 2 dX1_scoreOf_92 rfl (k_ne0 kk_146 (by decide)) ?_
            refine x_getI hC 6 fl_X1_21 rfl kk_146 dX1_scoreOf_93 ?_
            refine wm_iload_n hC 4 dX1_scoreOf_96 rfl ?_
            refine y_callV_i_n hC hRm noS ml_X1_92 (ld_k0 g2) (c3_matchOf hRF g2 hw) (Nat.le_of_ble_eq_true rfl) (Nat.le_of_ble_eq_true rfl) ⟨Nat.zero_le _, Nat.zero_le _⟩ rfl (st := [vi x1, vr 147]) rfl (Nat.le_of_ble_eq_true rfl) dX1_scoreOf_97 (fun r2 hw => ?_)
            refine x_iast2 hC kk_147 kn_147 dX1_scoreOf_100 hw (fun I1 hw => ?_)
            refine wm_aload_n hC 2 dX1_scoreOf_101 rfl (k_ne0 kk_146 (by decide)) ?_
            refine x_getRD hC 4 fl_X1_38 rfl kk_146 dX1_scoreOf_102 hw (fun g3 hw => ?_)
            refine wm_iconst hC dX1_scoreOf_105 (k := ?_)
            refine y_callV_z_n hC hRm noS ml_X1_62 (ld_k0 g3) (c3_hasCode hRF g3 hw) (Nat.le_of_ble_eq_true rfl) (Nat.le_of_ble_eq_true rfl) ⟨Nat.zero_le _, Nat.zero_le _⟩ rfl (st := []) rfl (Nat.le_of_ble_eq_true rfl) dX1_scoreOf_106 (fun r3 hw => ?_)
            refine wm_if_eq (tgt := 207) hC dX1_scoreOf_109 (by decide) hw (fun hw => ?_) (fun hw => ?_)
            · refine wm_aload_n hC 2 dX1_scoreOf_207 rfl (k_ne0 kk_146 (by decide)) ?_
              refine x_getR3 hC 1 fl_X1_9 rfl kk_146 (rf_146_1 hRF) dX1_scoreOf_208 ?_
              refine wm_iload hC 0 dX1_scoreOf_211 rfl ?_
              refine x_iald2 hC kk_147 kn_147 dX1_scoreOf_213 hw (fun hw => ?_)
              exact wm_ireturn hC hE dX1_scoreOf_214 ⟨rfl, hw⟩
            · refine wm_aload_n hC 2 dX1_scoreOf_112 rfl (k_ne0 kk_146 (by decide)) ?_
              refine wm_iload_n hC 3 dX1_scoreOf_113 rfl ?_
              refine y_callV_v_I hC hRm noS ml_X1_58 kk_146 (c1_putPerson hRF  hw) (Nat.le_of_ble_eq_true rfl) (Nat.le_of_ble_eq_true rfl) ⟨Nat.zero_le _, Nat.zero_le _⟩ rfl (st := []) rfl (Nat.le_of_ble_eq_true rfl) dX1_scoreOf_114 (fun I2 hw => ?_)
              refine wm_aload_n hC 2 dX1_scoreOf_117 rfl (k_ne0 kk_146 (by decide)) ?_
              refine x_getR3 hC 0 fl_X1_34 rfl kk_146 (rf_146_0 hRF) dX1_scoreOf_118 ?_
              refine wm_bipush hC dX1_scoreOf_121 (k := ?_)
              refine wm_aload_n hC 2 dX1_scoreOf_123 rfl (k_ne0 kk_146 (by decide)) ?_
              refine x_getR3 hC 1 fl_X1_9 rfl kk_146 (rf_146_1 hRF) dX1_scoreOf_124 ?_
              refine wm_iload hC 0 dX1_scoreOf_127 rfl ?_
              refine x_iald2 hC kk_147 kn_147 dX1_scoreOf_129 hw (fun hw => ?_)
              refine y_callV_v_I hC hRm noS ml_X1_77 kk_4 (c8_put hRF  hw) (Nat.le_of_ble_eq_true rfl) (Nat.le_of_ble_eq_true rfl) ⟨Nat.zero_le _, Nat.zero_le _⟩ rfl (st := []) rfl (Nat.le_of_ble_eq_true rfl) dX1_scoreOf_130 (fun I3 hw => ?_)
              refine wm_aload_n hC 2 dX1_scoreOf_133 rfl (k_ne0 kk_146 (by decide)) ?_
              refine x_getR3 hC 0 fl_X1_34 rfl kk_146 (rf_146_0 hRF) dX1_scoreOf_134 ?_
              refine wm_bipush hC dX1_scoreOf_137 (k := ?_)
              refine wm_aload_n hC 2 dX1_scoreOf_139 rfl (k_ne0 kk_146 (by decide)) ?_
              refine x_getRD hC 5 fl_X1_42 rfl kk_146 dX1_scoreOf_140 hw (fun g4 hw => ?_)
              refine wm_aload_n hC 2 dX1_scoreOf_143 rfl (k_ne0 kk_146 (by decide)) ?_
              refine x_getRD hC 4 fl_X1_38 rfl kk_146 dX1_scoreOf_144 hw (fun g5 hw => ?_)
              refine x_getR3 hC 0 fl_X1_53 rfl (ld_k0 g5) (rfd_0 hRF g5) dX1_scoreOf_147 ?_
              refine wm_iconst hC dX1_scoreOf_150 (k := ?_)
              refine x_ialdK hC (ld_k1 g5) (ld_n1 g5) (by decide) (by decide) dX1_scoreOf_151 ?_
              refine wm_iload_n hC 4 dX1_scoreOf_152 rfl ?_
              refine y_callV_i_n hC hRm noS ml_X1_96 (st_k0 g4) (c7_wornBy hRF g4 hw) (Nat.le_of_ble_eq_true rfl) (Nat.le_of_ble_eq_true rfl) ⟨Nat.zero_le _, Nat.zero_le _⟩ rfl (st := [vi (-5), vr 4]) rfl (Nat.le_of_ble_eq_true rfl) dX1_scoreOf_153 (fun r4 hw => ?_)
              refine y_callV_v_I hC hRm noS ml_X1_77 kk_4 (c8_put hRF  hw) (Nat.le_of_ble_eq_true rfl) (Nat.le_of_ble_eq_true rfl) ⟨Nat.zero_le _, Nat.zero_le _⟩ rfl (st := []) rfl (Nat.le_of_ble_eq_true rfl) dX1_scoreOf_156 (fun I4 hw => ?_)
              refine wm_aload_n hC 2 dX1_scoreOf_159 rfl (k_ne0 kk_146 (by decide)) ?_
              refine x_getR3 hC 0 fl_X1_34 rfl kk_146 (rf_146_0 hRF) dX1_scoreOf_160 ?_
              refine wm_bipush hC dX1_scoreOf_163 (k := ?_)
              refine wm_iload_n hC 5 dX1_scoreOf_165 rfl ?_
              refine y_callV_v_I hC hRm noS ml_X1_77 kk_4 (c8_put hRF  hw) (Nat.le_of_ble_eq_true rfl) (Nat.le_of_ble_eq_true rfl) ⟨Nat.zero_le _, Nat.zero_le _⟩ rfl (st := []) rfl (Nat.le_of_ble_eq_true rfl) dX1_scoreOf_166 (fun I5 hw => ?_)
              refine wm_aload_n hC 2 dX1_scoreOf_169 rfl (k_ne0 kk_146 (by decide)) ?_
              refine x_getR3 hC 0 fl_X1_34 rfl kk_146 (rf_146_0 hRF) dX1_scoreOf_170 ?_
              refine wm_bipush hC dX1_scoreOf_173 (k := ?_)
              refine wm_aload_n hC 2 dX1_scoreOf_175 rfl (k_ne0 kk_146 (by decide)) ?_
              refine x_getRD hC 4 fl_X1_38 rfl kk_146 dX1_scoreOf_176 hw (fun g6 hw => ?_)
              refine wm_iconst hC dX1_scoreOf_179 (k := ?_)
              refine wm_iload_n hC 4 dX1_scoreOf_180 rfl ?_
              refine wm_iconst hC dX1_scoreOf_181 (k := ?_)
              refine y_callV_i_n hC hRm noS ml_X1_88 (ld_k0 g6) (c3_traitOf hRF g6 hw) (Nat.le_of_ble_eq_true rfl) (Nat.le_of_ble_eq_true rfl) ⟨Nat.zero_le _, Nat.zero_le _⟩ rfl (st := [vi (-7), vr 4]) rfl (Nat.le_of_ble_eq_true rfl) dX1_scoreOf_182 (fun r5 hw => ?_)
              refine y_callV_v_I hC hRm noS ml_X1_77 kk_4 (c8_put hRF  hw) (Nat.le_of_ble_eq_true rfl) (Nat.le_of_ble_eq_true rfl) ⟨Nat.zero_le _, Nat.zero_le _⟩ rfl (st := []) rfl (Nat.le_of_ble_eq_true rfl) dX1_scoreOf_185 (fun I6 hw => ?_)
              refine wm_aload_n hC 2 dX1_scoreOf_188 rfl (k_ne0 kk_146 (by decide)) ?_
              refine x_getR3 hC 1 fl_X1_9 rfl kk_146 (rf_146_1 hRF) dX1_scoreOf_189 ?_
              refine wm_iload hC 0 dX1_scoreOf_192 rfl ?_
              refine wm_aload_n hC 2 dX1_scoreOf_194 rfl (k_ne0 kk_146 (by decide)) ?_
              refine x_getR3 hC 0 fl_X1_34 rfl kk_146 (rf_146_0 hRF) dX1_scoreOf_195 ?_
              refine wm_aload_n hC 2 dX1_scoreOf_198 rfl (k_ne0 kk_146 (by decide)) ?_
              refine x_getRD hC 4 fl_X1_38 rfl kk_146 dX1_scoreOf_199 hw (fun g7 hw => ?_)
              refine wm_iconst hC dX1_scoreOf_202 (k := ?_)
              refine y_callV_i_J hC hRm noS ml_X1_66 kk_4 (c8_workOut hRF g7 hw) (Nat.le_of_ble_eq_true rfl) (Nat.le_of_ble_eq_true rfl) ⟨Nat.zero_le _, Nat.zero_le _⟩ rfl (st := [vi x1, vr 147]) rfl (Nat.le_of_ble_eq_true rfl) dX1_scoreOf_203 (fun r6 J1 hw => ?_)
              refine x_iast2 hC kk_147 kn_147 dX1_scoreOf_206 hw (fun I7 hw => ?_)
              refine wm_aload_n hC 2 dX1_scoreOf_207 rfl (k_ne0 kk_146 (by decide)) ?_
              refine x_getR3 hC 1 fl_X1_9 rfl kk_146 (rf_146_1 hRF) dX1_scoreOf_208 ?_
              refine wm_iload hC 0 dX1_scoreOf_211 rfl ?_
              refine x_iald2 hC kk_147 kn_147 dX1_scoreOf_213 hw (fun hw => ?_)
              exact wm_ireturn hC hE dX1_scoreOf_214 ⟨rfl, hw⟩
          · refine wm_aload_n hC 2 dX1_scoreOf_207 rfl (k_ne0 kk_146 (by decide)) ?_
            refine x_getR3 hC 1 fl_X1_9 rfl kk_146 (rf_146_1 hRF) dX1_scoreOf_208 ?_
            refine wm_iload hC 0 dX1_scoreOf_211 rfl ?_
            refine x_iald2 hC kk_147 kn_147 dX1_scoreOf_213 hw (fun hw => ?_)
            exact wm_ireturn hC hE dX1_scoreOf_214 ⟨rfl, hw⟩
        · refine wm_iconst hC dX1_scoreOf_65 (k := ?_)
          exact wm_ireturn hC hE dX1_scoreOf_66 ⟨rfl, hw⟩
def p1_scoreOf (l1 : Int) (l2 : Int) (l3 : Int) (I : mI) (J : mI) (R : mR) (Q : Int → mI → mI → Prop) : Prop := (if l1 = (I 146 8) then (p1_scoreOf_b25 l1 l2 l3 (I 146 9) I J R Q) else (isLd (R 146 4) ∧ (p3_traitOf (R 146 4) 0 l1 0 I (fun r1 => (p1_scoreOf_b25 l1 l2 l3 r1 I J R Q)))))
set_option maxRecDepth 20000 in
theorem c1_scoreOf {ad : Nat → Nat} {n : Nat} {I J : mI} {R : mR} {Q : Int → mI → mI → Prop}  (hRF : RF R) {l1 : Int} {l2 : Int} {l3 : Int}     (hw : p1_scoreOf l1 l2 l3 I J R Q) : wMet yX1_scoreOf cX1_scoreOf 6 (some .int) 3 64 false ad n I J R [vr 146, vi l1, vi l2, vi l3] (fun r I' J' R' => (R' = R) ∧ Q r I' J') := by
  refine wMet_of (by decide) (Nat.le_of_ble_eq_true rfl) (fun C hC hRm hE hS => ?_)
  refine (show WM C ad n I J R 0 0 0 [(0, vr 146), (1, vi l1), (2, vi l2), (3, vi l3)] [] from ?_)
  unfold p1_scoreOf at hw
  refine wm_iload_n hC 1 dX1_scoreOf_0 rfl ?_
  refine wm_aload_n hC 0 dX1_scoreOf_1 rfl (k_ne0 kk_146 (by decide)) ?_
  refine x_getI hC 8 fl_X1_28 rfl kk_146 dX1_scoreOf_2 ?_
  refine wm_icmp_ne (tgt := 15) hC dX1_scoreOf_5 (by decide) hw (fun hw => ?_) (fun hw => ?_)
  · refine wm_aload_n hC 0 dX1_scoreOf_8 rfl (k_ne0 kk_146 (by decide)) ?_
    refine x_getI hC 9 fl_X1_31 rfl kk_146 dX1_scoreOf_9 ?_
    refine wm_goto (tgt := 25) hC dX1_scoreOf_12 (by decide) ?_
    exact w1_scoreOf_b25 hC hRm hE hRF  hw
  · refine wm_aload_n hC 0 dX1_scoreOf_15 rfl (k_ne0 kk_146 (by decide)) ?_
    refine x_getRD hC 4 fl_X1_38 rfl kk_146 dX1_scoreOf_16 hw (fun g1 hw => ?_)
    refine wm_iconst hC dX1_scoreOf_19 (k := ?_)
    refine wm_iload_n hC 1 dX1_scoreOf_20 rfl ?_
    refine wm_iconst hC dX1_scoreOf_21 (k := ?_)
    refine y_callV_i_n hC hRm noS ml_X1_88 (ld_k0 g1) (c3_traitOf hRF g1 hw) (Nat.le_of_ble_eq_true rfl) (Nat.le_of_ble_eq_true rfl) ⟨Nat.zero_le _, Nat.zero_le _⟩ rfl (st := []) rfl (Nat.le_of_ble_eq_true rfl) dX1_scoreOf_22 (fun r1 hw => ?_)
    exact w1_scoreOf_b25 hC hRm hE hRF  hw
def p1_wordOf_b7_body (l1 : Int) (R : mR) (Q : Int → mI → mI → Prop) (k7 : Int → Int → Int → mI → mI → Prop) (l2 : Int) (l3 : Int) (l4 : Int) (I : mI) (J : mI) : Prop := (isLd (R 146 4) ∧ (if (I ((R 146 4) + 1) 1) ≤ l4 then (Q l2 I J) else (((0 : Int) ≤ l4 ∧ l4 < (6 : Int)) ∧ (p1_scoreOf l1 l4 (I 148 l4) I J R (fun r1 I1 J1 => (if l2 = (-1) then (rg (l4 + 1) ∧ (k7 l4 r1 (l4 + 1) I1 J1)) else (if r1 ≤ l3 then (rg (l4 + 1) ∧ (k7 l2 l3 (l4 + 1) I1 J1)) else (rg (l4 + 1) ∧ (k7 l4 r1 (l4 + 1) I1 J1)))))))))
def p1_wordOf_b7 (l1 : Int) (R : mR) (Q : Int → mI → mI → Prop) : Nat → Int → Int → Int → mI → mI → Prop
  | 0 => fun _ _ _ _ _ => False
  | f + 1 => fun l2 l3 l4 I J => p1_wordOf_b7_body l1 R Q (p1_wordOf_b7 l1 R Q f) l2 l3 l4 I J
set_option maxRecDepth 20000 in
theorem w1_wordOf_b7_body {C : wX} {ad : Nat → Nat} {n : Nat} {I J : mI} {R : mR} {Q : Int → mI → mI → Prop} (hC : wOK C cX1_wordOf 6 RX1) (hRm : wRm C 4 89 0 0) (hE : wEnd C (some .int) ad n (fun r I' J' R' => (R' = R) ∧ Q r I' J')) (hRF : RF R) {l1 : Int} {l2 : Int} {l3 : Int} {l4 : Int}     {k7 : Int → Int → Int → mI → mI → Prop} (kk7 : ∀ (y2 : Int) (y3 : Int) (y4 : Int) (I' : mI) (J' : mI), k7 y2 y3 y4 I' J' → WM C ad n I' J' R 0 0 7 [(0, vr 146), (1, vi l1), (2, vi y2), (3, vi y3), (4, vi y4)] []) (hw : p1_wordOf_b7_body l1 R Q k7 l2 l3 l4 I J) : WM C ad n I J R 0 0 7 [(0, vr 146), (1, vi l1), (2, vi l2), (3, vi l3), (4, vi l4)] [] := by
  unfold p1_wordOf_b7_body at hw
  refine wm_iload hC 4 dX1_wordOf_7 rfl ?_
  refine wm_aload_n hC 0 dX1_wordOf_9 rfl (k_ne0 kk_146 (by decide)) ?_
  refine x_getRD hC 4 fl_X1_38 rfl kk_146 dX1_wordOf_10 hw (fun g1 hw => ?_)
  refine x_getR3 hC 0 fl_X1_53 rfl (ld_k0 g1) (rfd_0 hRF g1) dX1_wordOf_13 ?_
  refine wm_iconst hC dX1_wordOf_16 (k := ?_)
  refine x_ialdK hC (ld_k1 g1) (ld_n1 g1) (by decide) (by decide) dX1_wordOf_17 ?_
  refine wm_icmp_ge (tgt := 60) hC dX1_wordOf_18 (by decide) hw (fun hw => ?_) (fun hw => ?_)
  · refine wm_iload_n hC 2 dX1_wordOf_60 rfl ?_
    exact wm_ireturn hC hE dX1_wordOf_61 ⟨rfl, hw⟩
  · refine wm_aload_n hC 0 dX1_wordOf_21 rfl (k_ne0 kk_146 (by decide)) ?_
    refine wm_iload_n hC 1 dX1_wordOf_22 rfl ?_
    refine wm_iload hC 4 dX1_wordOf_23 rfl ?_
    refine wm_aload_n hC 0 dX1_wordOf_25 rfl (k_ne0 kk_146 (by decide)) ?_
    refine x_getR3 hC 2 fl_X1_15 rfl kk_146 (rf_146_2 hRF) dX1_wordOf_26 ?_
    refine wm_iload hC 4 dX1_wordOf_29 rfl ?_
    refine x_iald2 hC kk_148 kn_148 dX1_wordOf_31 hw (fun hw => ?_)
    refine y_callV_i_IJ hC hRm noS ml_X1_100 kk_146 (c1_scoreOf hRF  hw) (Nat.le_of_ble_eq_true rfl) (Nat.le_of_ble_eq_true rfl) ⟨Nat.zero_le _, Nat.zero_le _⟩ rfl (st := []) rfl (Nat.le_of_ble_eq_true rfl) dX1_wordOf_32 (fun r1 I1 J1 hw => ?_)
    refine wm_istore hC dX1_wordOf_35 (by decide) (L2 := [(5, vi r1), (0, vr 146), (1, vi l1), (2, vi l2), (3, vi l3), (4, vi l4)]) rfl ?_
    refine wm_iload_n hC 3 dX1_wordOf_37 rfl ?_
    refine wm_iconst hC dX1_wordOf_38 (k := ?_)
    refine wm_icmp_eq (tgt := 48) hC dX1_wordOf_39 (by decide) hw (fun hw => ?_) (fun hw => ?_)
    · refine wm_iload hC 5 dX1_wordOf_48 rfl ?_
      refine wm_istore_n hC dX1_wordOf_50 (by decide) (L2 := [(2, vi l4), (5, vi r1), (0, vr 146), (1, vi l1), (3, vi l3), (4, vi l4)]) rfl ?_
      refine wm_iload hC 1 dX1_wordOf_51 rfl ?_
      refine wm_istore_n hC dX1_wordOf_53 (by decide) (L2 := [(3, vi r1), (2, vi l4), (5, vi r1), (0, vr 146), (1, vi l1), (4, vi l4)]) rfl ?_
      refine x_iinc hC 5 dX1_wordOf_54 rfl (by decide) (L2 := [(4, vi (l4 + 1)), (3, vi r1), (2, vi l4), (5, vi r1), (0, vr 146), (1, vi l1)]) rfl hw (fun hw => ?_)
      refine wm_goto (tgt := 7) hC dX1_wordOf_57 (by decide) ?_
      refine wm_sub [4, 5, 2, 1, 0] (L2 := [(0, vr 146), (1, vi l1), (2, vi l4), (3, vi r1), (4, vi (l4 + 1))]) rfl ?_
      exact kk7 _ _ _ _ _ hw
    · refine wm_iload hC 0 dX1_wordOf_42 rfl ?_
      refine wm_iload_n hC 4 dX1_wordOf_44 rfl ?_
      refine wm_icmp_le (tgt := 54) hC dX1_wordOf_45 (by decide) hw (fun hw => ?_) (fun hw => ?_)
      · refine x_iinc hC 5 dX1_wordOf_54 rfl (by decide) (L2 := [(4, vi (l4 + 1)), (5, vi r1), (0, vr 146), (1, vi l1), (2, vi l2), (3, vi l3)]) rfl hw (fun hw => ?_)
        refine wm_goto (tgt := 7) hC dX1_wordOf_57 (by decide) ?_
        refine wm_sub [2, 3, 4, 5, 0] (L2 := [(0, vr 146), (1, vi l1), (2, vi l2), (3, vi l3), (4, vi (l4 + 1))]) rfl ?_
        exact kk7 _ _ _ _ _ hw
      · refine wm_iload hC 5 dX1_wordOf_48 rfl ?_
        refine wm_istore_n hC dX1_wordOf_50 (by decide) (L2 := [(2, vi l4), (5, vi r1), (0, vr 146), (1, vi l1), (3, vi l3), (4, vi l4)]) rfl ?_
        refine wm_iload hC 1 dX1_wordOf_51 rfl ?_
        refine wm_istore_n hC dX1_wordOf_53 (by decide) (L2 := [(3, vi r1), (2, vi l4), (5, vi r1), (0, vr 146), (1, vi l1), (4, vi l4)]) rfl ?_
        refine x_iinc hC 5 dX1_wordOf_54 rfl (by decide) (L2 := [(4, vi (l4 + 1)), (3, vi r1), (2, vi l4), (5, vi r1), (0, vr 146), (1, vi l1)]) rfl hw (fun hw => ?_)
        refine wm_goto (tgt := 7) hC dX1_wordOf_57 (by decide) ?_
        refine wm_sub [4, 5, 2, 1, 0] (L2 := [(0, vr 146), (1, vi l1), (2, vi l4), (3, vi r1), (4, vi (l4 + 1))]) rfl ?_
        exact kk7 _ _ _ _ _ hw
set_option maxRecDepth 20000 in
theorem w1_wordOf_b7 {C : wX} {ad : Nat → Nat} {n : Nat} {R : mR} {Q : Int → mI → mI → Prop} (hC : wOK C cX1_wordOf 6 RX1) (hRm : wRm C 4 89 0 0) (hE : wEnd C (some .int) ad n (fun r I' J' R' => (R' = R) ∧ Q r I' J')) (hRF : RF R) {l1 : Int}     : ∀ (f : Nat) (l2 : Int) (l3 : Int) (l4 : Int) (I : mI) (J : mI), p1_wordOf_b7 l1 R Q f l2 l3 l4 I J → WM C ad n I J R 0 0 7 [(0, vr 146), (1, vi l1), (2, vi l2), (3, vi l3), (4, vi l4)] [] := by
  intro f
  induction f with
  | zero => intro l2 l3 l4 I J hw; exact hw.elim
  | succ f ih => intro l2 l3 l4 I J hw; exact w1_wordOf_b7_body hC hRm hE hRF  (fun a0 a1 a2 a3 a4 aw => ih a0 a1 a2 a3 a4 aw) hw
def p1_wordOf (l1 : Int) (I : mI) (J : mI) (R : mR) (Q : Int → mI → mI → Prop) : Prop := (∃ f, p1_wordOf_b7 l1 R Q f (-1) 0 0 I J)
set_option maxRecDepth 20000 in
theorem c1_wordOf {ad : Nat → Nat} {n : Nat} {I J : mI} {R : mR} {Q : Int → mI → mI → Prop}  (hRF : RF R) {l1 : Int}   (hw : p1_wordOf l1 I J R Q) : wMet yX1_wordOf cX1_wordOf 6 (some .int) 4 89 false ad n I J R [vr 146, vi l1] (fun r I' J' R' => (R' = R) ∧ Q r I' J') := by
  refine wMet_of (by decide) (Nat.le_of_ble_eq_true rfl) (fun C hC hRm hE hS => ?_)
  refine (show WM C ad n I J R 0 0 0 [(0, vr 146), (1, vi l1)] [] from ?_)
  unfold p1_wordOf at hw
  refine wm_iconst hC dX1_wordOf_0 (k := ?_)
  refine wm_istore_n hC dX1_wordOf_1 (by decide) (L2 := [(2, vi (-1)), (0, vr 146), (1, vi l1)]) rfl ?_
  refine wm_iconst hC dX1_wordOf_2 (k := ?_)
  refine wm_istore_n hC dX1_wordOf_3 (by decide) (L2 := [(3, vi 0), (2, vi (-1)), (0, vr 146), (1, vi l1)]) rfl ?_
  refine wm_iconst hC dX1_wordOf_4 (k := ?_)
  refine wm_istore hC dX1_wordOf_5 (by decide) (L2 := [(4, vi 0), (3, vi 0), (2, vi (-1)), (0, vr 146), (1, vi l1)]) rfl ?_
  obtain ⟨f, hw⟩ := hw
  refine wm_sub [3, 4, 2, 1, 0] (L2 := [(0, vr 146), (1, vi l1), (2, vi (-1)), (3, vi 0), (4, vi 0)]) rfl ?_
  exact w1_wordOf_b7 hC hRm hE hRF  f _ _ _ _ _ hw
def p1_ask_b159 (l3 : Int) (l4 : Int) (s0 : Int) (s1 : Int) (I : mI) (J : mI) (R : mR) (k123 : Int → Int → Prop) (Q : Int → mI → mI → Prop) : Prop := (if s0 ≤ s1 then (rg (l4 + 1) ∧ (k123 l3 (l4 + 1))) else (rg (l4 + 1) ∧ (k123 l4 (l4 + 1))))
set_option maxRecDepth 20000 in
theorem w1_ask_b159 {C : wX} {ad : Nat → Nat} {n : Nat} {I J : mI} {R : mR} {Q : Int → mI → mI → Prop} (hC : wOK C cX1_ask 6 RX1) (hRm : wRm C 5 114 0 0) (hE : wEnd C (some .int) ad n (fun r I' J' R' => (R' = R) ∧ Q r I' J')) (hRF : RF R) {l3 : Int} {l4 : Int} {s0 : Int} {s1 : Int}  {k123 : Int → Int → Prop}  (kk123 : ∀ (y3 : Int) (y4 : Int), k123 y3 y4 → WM C ad n I J R 0 0 123 [(0, vr 146), (3, vi y3), (4, vi y4)] []) (hw : p1_ask_b159 l3 l4 s0 s1 I J R k123 Q) : WM C ad n I J R 0 0 159 [(0, vr 146), (3, vi l3), (4, vi l4)] [vi s1, vi s0] := by
  unfold p1_ask_b159 at hw
  refine wm_icmp_le (tgt := 165) hC dX1_ask_159 (by decide) hw (fun hw => ?_) (fun hw => ?_)
  · refine x_iinc hC 2 dX1_ask_165 rfl (by decide) (L2 := [(4, vi (l4 + 1)), (0, vr 146), (3, vi l3)]) rfl hw (fun hw => ?_)
    refine wm_goto (tgt := 123) hC dX1_ask_168 (by decide) ?_
    refine wm_sub [1, 2, 0] (L2 := [(0, vr 146), (3, vi l3), (4, vi (l4 + 1))]) rfl ?_
    exact kk123 _ _ hw
  · refine wm_iload hC 2 dX1_ask_162 rfl ?_
    refine wm_istore_n hC dX1_ask_164 (by decide) (L2 := [(3, vi l4), (0, vr 146), (4, vi l4)]) rfl ?_
    refine x_iinc hC 2 dX1_ask_165 rfl (by decide) (L2 := [(4, vi (l4 + 1)), (3, vi l4), (0, vr 146)]) rfl hw (fun hw => ?_)
    refine wm_goto (tgt := 123) hC dX1_ask_168 (by decide) ?_
    refine wm_sub [2, 1, 0] (L2 := [(0, vr 146), (3, vi l4), (4, vi (l4 + 1))]) rfl ?_
    exact kk123 _ _ hw
def p1_ask_b123_body (I : mI) (J : mI) (R : mR) (Q : Int → mI → mI → Prop) (k123 : Int → Int → Prop) (l3 : Int) (l4 : Int) : Prop := (isLd (R 146 4) ∧ (if (I ((R 146 4) + 1) 1) ≤ l4 then (Q l3 I J) else (((0 : Int) ≤ l4 ∧ l4 < (6 : Int)) ∧ (if l3 = (-1) then (p1_ask_b159 l3 l4 (I 148 l4) 0 I J R k123 Q) else (((0 : Int) ≤ l3 ∧ l3 < (6 : Int)) ∧ (p1_ask_b159 l3 l4 (I 148 l4) (I 148 l3) I J R k123 Q))))))
def p1_ask_b123 (I : mI) (J : mI) (R : mR) (Q : Int → mI → mI → Prop) : Nat → Int → Int → Prop
  | 0 => fun _ _ => False
  | f + 1 => fun l3 l4 => p1_ask_b123_body I J R Q (p1_ask_b123 I J R Q f) l3 l4
set_option maxRecDepth 20000 in
theorem w1_ask_b123_body {C : wX} {ad : Nat → Nat} {n : Nat} {I J : mI} {R : mR} {Q : Int → mI → mI → Prop} (hC : wOK C cX1_ask 6 RX1) (hRm : wRm C 5 114 0 0) (hE : wEnd C (some .int) ad n (fun r I' J' R' => (R' = R) ∧ Q r I' J')) (hRF : RF R)  {l3 : Int} {l4 : Int}     {k123 : Int → Int → Prop} (kk123 : ∀ (y3 : Int) (y4 : Int), k123 y3 y4 → WM C ad n I J R 0 0 123 [(0, vr 146), (3, vi y3), (4, vi y4)] []) (hw : p1_ask_b123_body I J R Q k123 l3 l4) : WM C ad n I J R 0 0 123 [(0, vr 146), (3, vi l3), (4, vi l4)] [] := by
  unfold p1_ask_b123_body at hw
  refine wm_iload hC 2 dX1_ask_123 rfl ?_
  refine wm_aload_n hC 0 dX1_ask_125 rfl (k_ne0 kk_146 (by decide)) ?_
  refine x_getRD hC 4 fl_X1_38 rfl kk_146 dX1_ask_126 hw (fun g2 hw => ?_)
  refine x_getR3 hC 0 fl_X1_53 rfl (ld_k0 g2) (rfd_0 hRF g2) dX1_ask_129 ?_
  refine wm_iconst hC dX1_ask_132 (k := ?_)
  refine x_ialdK hC (ld_k1 g2) (ld_n1 g2) (by decide) (by decide) dX1_ask_133 ?_
  refine wm_icmp_ge (tgt := 171) hC dX1_ask_134 (by decide) hw (fun hw => ?_) (fun hw => ?_)
  · refine wm_iload_n hC 1 dX1_ask_171 rfl ?_
    exact wm_ireturn hC hE dX1_ask_172 ⟨rfl, hw⟩
  · refine wm_aload_n hC 0 dX1_ask_137 rfl (k_ne0 kk_146 (by decide)) ?_
    refine x_getR3 hC 2 fl_X1_15 rfl kk_146 (rf_146_2 hRF) dX1_ask_138 ?_
    refine wm_iload hC 2 dX1_ask_141 rfl ?_
    refine x_iald2 hC kk_148 kn_148 dX1_ask_143 hw (fun hw => ?_)
    refine wm_iload_n hC 1 dX1_ask_144 rfl ?_
    refine wm_iconst hC dX1_ask_145 (k := ?_)
    refine wm_icmp_ne (tgt := 153) hC dX1_ask_146 (by decide) hw (fun hw => ?_) (fun hw => ?_)
    · refine wm_iconst hC dX1_ask_149 (k := ?_)
      refine wm_goto (tgt := 159) hC dX1_ask_150 (by decide) ?_
      exact w1_ask_b159 hC hRm hE hRF kk123 hw
    · refine wm_aload_n hC 0 dX1_ask_153 rfl (k_ne0 kk_146 (by decide)) ?_
      refine x_getR3 hC 2 fl_X1_15 rfl kk_146 (rf_146_2 hRF) dX1_ask_154 ?_
      refine wm_iload_n hC 1 dX1_ask_157 rfl ?_
      refine x_iald2 hC kk_148 kn_148 dX1_ask_158 hw (fun hw => ?_)
      exact w1_ask_b159 hC hRm hE hRF kk123 hw
set_option maxRecDepth 20000 in
theorem w1_ask_b123 {C : wX} {ad : Nat → Nat} {n : Nat} {I : mI} {J : mI} {R : mR} {Q : Int → mI → mI → Prop} (hC : wOK C cX1_ask 6 RX1) (hRm : wRm C 5 114 0 0) (hE : wEnd C (some .int) ad n (fun r I' J' R' => (R' = R) ∧ Q r I' J')) (hRF : RF R)      : ∀ (f : Nat) (l3 : Int) (l4 : Int), p1_ask_b123 I J R Q f l3 l4 → WM C ad n I J R 0 0 123 [(0, vr 146), (3, vi l3), (4, vi l4)] [] := by
  intro f
  induction f with
  | zero => intro l3 l4 hw; exact hw.elim
  | succ f ih => intro l3 l4 hw; exact w1_ask_b123_body hC hRm hE hRF  (fun a0 a1 aw => ih a0 a1 aw) hw
def p1_ask_b18_body (l1 : Nat) (l2 : Int) (R : mR) (Q : Int → mI → mI → Prop) (k18 : Int → mI → mI → Prop) (l3 : Int) (I : mI) (J : mI) : Prop := (isLd (R 146 4) ∧ (if (I ((R 146 4) + 1) 0) ≤ l3 then (∃ f, p1_ask_b123 I J R Q f (-1) 0) else (if (6 : Int) ≤ l3 then (∃ f, p1_ask_b123 I J R Q f (-1) 0) else (((0 : Int) ≤ l3 ∧ l3 < (6 : Int)) ∧ (if (I l1 l3) < 0 then (rg (l3 + 1) ∧ (k18 (l3 + 1) I J)) else (if (6 : Int) ≤ (I l1 l3) then (rg (l3 + 1) ∧ (k18 (l3 + 1) I J)) else (if (bAnd (bShr l2 (I l1 l3)) 1) = 0 then (rg (l3 + 1) ∧ (k18 (l3 + 1) I J)) else (p1_wordOf (I l1 l3) I J R (fun r1 I3 J1 => (((0 : Int) ≤ (I l1 l3) ∧ (I l1 l3) < (6 : Int)) ∧ wLet (up I3 149 (I l1 l3) r1) (fun I4 => (if r1 = (-1) then (rg (l3 + 1) ∧ (k18 (l3 + 1) I4 J1)) else (p1_isCounting (I l1 l3) I4 (fun r2 => (if r2 = 0 then (rg (l3 + 1) ∧ (k18 (l3 + 1) I4 J1)) else (((0 : Int) ≤ r1 ∧ r1 < (6 : Int)) ∧ (rg ((I4 148 r1) + 1) ∧ (((0 : Int) ≤ r1 ∧ r1 < (6 : Int)) ∧ wLet (up I4 148 r1 ((I4 148 r1) + 1)) (fun I5 => (rg (l3 + 1) ∧ (k18 (l3 + 1) I5 J1)))))))))))))))))))))
def p1_ask_b18 (l1 : Nat) (l2 : Int) (R : mR) (Q : Int → mI → mI → Prop) : Nat → Int → mI → mI → Prop
  | 0 => fun _ _ _ => False
  | f + 1 => fun l3 I J => p1_ask_b18_body l1 l2 R Q (p1_ask_b18 l1 l2 R Q f) l3 I J
set_option maxRecDepth 20000 in
theorem w1_ask_b18_body {C : wX} {ad : Nat → Nat} {n : Nat} {I J : mI} {R : mR} {Q : Int → mI → mI → Prop} (hC : wOK C cX1_ask 6 RX1) (hRm : wRm C 5 114 0 0) (hE : wEnd C (some .int) ad n (fun r I' J' R' => (R' = R) ∧ Q r I' J')) (hRF : RF R) {l1 : Nat} {l2 : Int} {l3 : Int}   (h1 : isA 6 l1)  {k18 : Int → mI → mI → Prop} (kk18 : ∀ (y3 : Int) (I' : mI) (J' : mI), k18 y3 I' J' → WM C ad n I' J' R 0 0 18 [(0, vr 146), (1, vr l1), (2, vi l2), (3, vi y3)] []) (hw : p1_ask_b18_body l1 l2 R Q k18 l3 I J) : WM C ad n I J R 0 0 18 [(0, vr 146), (1, vr l1), (2, vi l2), (3, vi l3)] [] := by
  unfold p1_ask_b18_body at hw
  refine wm_iload_n hC 3 dX1_ask_18 rfl ?_
  refine wm_aload_n hC 0 dX1_ask_19 rfl (k_ne0 kk_146 (by decide)) ?_
  refine x_getRD hC 4 fl_X1_38 rfl kk_146 dX1_ask_20 hw (fun g1 hw => ?_)
  refine x_getR3 hC 0 fl_X1_53 rfl (ld_k0 g1) (rfd_0 hRF g1) dX1_ask_23 ?_
  refine wm_iconst hC dX1_ask_26 (k := ?_)
  refine x_ialdK hC (ld_k1 g1) (ld_n1 g1) (by decide) (by decide) dX1_ask_27 ?_
  refine wm_icmp_ge (tgt := 118) hC dX1_ask_28 (by decide) hw (fun hw => ?_) (fun hw => ?_)
  · refine wm_iconst hC dX1_ask_118 (k := ?_)
    refine wm_istore_n hC dX1_ask_119 (by decide) (L2 := [(3, vi (-1)), (0, vr 146), (1, vr l1), (2, vi l2)]) rfl ?_
    refine wm_iconst hC dX1_ask_120 (k := ?_)
    refine wm_istore hC dX1_ask_121 (by decide) (L2 := [(4, vi 0), (3, vi (-1)), (0, vr 146), (1, vr l1), (2, vi l2)]) rfl ?_
    obtain ⟨f, hw⟩ := hw
    refine wm_sub [2, 1, 0] (L2 := [(0, vr 146), (3, vi (-1)), (4, vi 0)]) rfl ?_
    exact w1_ask_b123 hC hRm hE hRF  f _ _ hw
  · refine wm_iload_n hC 3 dX1_ask_31 rfl ?_
    refine wm_aload_n hC 1 dX1_ask_32 rfl (k_ne0 h1.1 (by decide)) ?_
    refine x_alen2 hC h1.1 h1.2 (by decide) dX1_ask_33 ?_
    refine wm_icmp_ge (tgt := 118) hC dX1_ask_34 (by decide) hw (fun hw => ?_) (fun hw => ?_)
    · refine wm_iconst hC dX1_ask_118 (k := ?_)
      refine wm_istore_n hC dX1_ask_119 (by decide) (L2 := [(3, vi (-1)), (0, vr 146), (1, vr l1), (2, vi l2)]) rfl ?_
      refine wm_iconst hC dX1_ask_120 (k := ?_)
      refine wm_istore hC dX1_ask_121 (by decide) (L2 := [(4, vi 0), (3, vi (-1)), (0, vr 146), (1, vr l1), (2, vi l2)]) rfl ?_
      obtain ⟨f, hw⟩ := hw
      refine wm_sub [2, 1, 0] (L2 := [(0, vr 146), (3, vi (-1)), (4, vi 0)]) rfl ?_
      exact w1_ask_b123 hC hRm hE hRF  f _ _ hw
    · refine wm_aload_n hC 1 dX1_ask_37 rfl (k_ne0 h1.1 (by decide)) ?_
      refine wm_iload_n hC 3 dX1_ask_38 rfl ?_
      refine x_iald2 hC h1.1 h1.2 dX1_ask_39 hw (fun hw => ?_)
      refine wm_istore hC dX1_ask_40 (by decide) (L2 := [(4, vi (I l1 l3)), (0, vr 146), (1, vr l1), (2, vi l2), (3, vi l3)]) rfl ?_
      refine wm_iload hC 0 dX1_ask_42 rfl ?_
      refine wm_if_lt (tgt := 112) hC dX1_ask_44 (by decide) hw (fun hw => ?_) (fun hw => ?_)
      · refine x_iinc hC 4 dX1_ask_112 rfl (by decide) (L2 := [(3, vi (l3 + 1)), (4, vi (I l1 l3)), (0, vr 146), (1, vr l1), (2, vi l2)]) rfl hw (fun hw => ?_)
        refine wm_goto (tgt := 18) hC dX1_ask_115 (by decide) ?_
        refine wm_sub [2, 3, 4, 0] (L2 := [(0, vr 146), (1, vr l1), (2, vi l2), (3, vi (l3 + 1))]) rfl ?_
        exact kk18 _ _ _ hw
      · refine wm_iload hC 0 dX1_ask_47 rfl ?_
        refine wm_aload_n hC 1 dX1_ask_49 rfl (k_ne0 kk_146 (by decide)) ?_
        refine x_getR3 hC 3 fl_X1_18 rfl kk_146 (rf_146_3 hRF) dX1_ask_50 ?_
        refine x_alen2 hC kk_149 kn_149 (by decide) dX1_ask_53 ?_
        refine wm_icmp_ge (tgt := 112) hC dX1_ask_54 (by decide) hw (fun hw => ?_) (fun hw => ?_)
        · refine x_iinc hC 4 dX1_ask_112 rfl (by decide) (L2 := [(3, vi (l3 + 1)), (4, vi (I l1 l3)), (0, vr 146), (1, vr l1), (2, vi l2)]) rfl hw (fun hw => ?_)
          refine wm_goto (tgt := 18) hC dX1_ask_115 (by decide) ?_
          refine wm_sub [2, 3, 4, 0] (L2 := [(0, vr 146), (1, vr l1), (2, vi l2), (3, vi (l3 + 1))]) rfl ?_
          exact kk18 _ _ _ hw
        · refine wm_iload_n hC 3 dX1_ask_57 rfl ?_
          refine wm_iload hC 0 dX1_ask_58 rfl ?_
          refine wm_ishr hC dX1_ask_60 ?_
          refine wm_iconst hC dX1_ask_61 (k := ?_)
          refine wm_iand hC dX1_ask_62 ?_
          refine wm_if_ne (tgt := 69) hC dX1_ask_63 (by decide) hw (fun hw => ?_) (fun hw => ?_)
          · refine wm_goto (tgt := 112) hC dX1_ask_66 (by decide) ?_
            refine x_iinc hC 4 dX1_ask_112 rfl (by decide) (L2 := [(3, vi (l3 + 1)), (4, vi (I l1 l3)), (0, vr 146), (1, vr l1), (2, vi l2)]) rfl hw (fun hw => ?_)
            refine wm_goto (tgt := 18) hC dX1_ask_115 (by decide) ?_
            refine wm_sub [2, 3, 4, 0] (L2 := [(0, vr 146), (1, vr l1), (2, vi l2), (3, vi (l3 + 1))]) rfl ?_
            exact kk18 _ _ _ hw
          · refine wm_aload_n hC 1 dX1_ask_69 rfl (k_ne0 kk_146 (by decide)) ?_
            refine wm_iload hC 0 dX1_ask_70 rfl ?_
            refine y_callV_i_IJ hC hRm noS ml_X1_103 kk_146 (c1_wordOf hRF  hw) (Nat.le_of_ble_eq_true rfl) (Nat.le_of_ble_eq_true rfl) ⟨Nat.zero_le _, Nat.zero_le _⟩ rfl (st := []) rfl (Nat.le_of_ble_eq_true rfl) dX1_ask_72 (fun r1 I3 J1 hw => ?_)
            refine wm_istore hC dX1_ask_75 (by decide) (L2 := [(5, vi r1), (4, vi (I l1 l3)), (0, vr 146), (1, vr l1), (2, vi l2), (3, vi l3)]) rfl ?_
            refine wm_aload_n hC 2 dX1_ask_77 rfl (k_ne0 kk_146 (by decide)) ?_
            refine x_getR3 hC 3 fl_X1_18 rfl kk_146 (rf_146_3 hRF) dX1_ask_78 ?_
            refine wm_iload hC 1 dX1_ask_81 rfl ?_
            refine wm_iload hC 0 dX1_ask_83 rfl ?_
            refine x_iast2 hC kk_149 kn_149 dX1_ask_85 hw (fun I4 hw => ?_)
            refine wm_iload hC 0 dX1_ask_86 rfl ?_
            refine wm_iconst hC dX1_ask_88 (k := ?_)
            refine wm_icmp_eq (tgt := 112) hC dX1_ask_89 (by decide) hw (fun hw => ?_) (fun hw => ?_)
            · refine x_iinc hC 5 dX1_ask_112 rfl (by decide) (L2 := [(3, vi (l3 + 1)), (5, vi r1), (4, vi (I l1 l3)), (0, vr 146), (1, vr l1), (2, vi l2)]) rfl hw (fun hw => ?_)
              refine wm_goto (tgt := 18) hC dX1_ask_115 (by decide) ?_
              refine wm_sub [3, 4, 5, 0] (L2 := [(0, vr 146), (1, vr l1), (2, vi l2), (3, vi (l3 + 1))]) rfl ?_
              exact kk18 _ _ _ hw
            · refine wm_aload_n hC 2 dX1_ask_92 rfl (k_ne0 kk_146 (by decide)) ?_
              refine wm_iload hC 1 dX1_ask_93 rfl ?_
              refine y_callV_z_n hC hRm noS ml_X1_106 kk_146 (c1_isCounting hRF  hw) (Nat.le_of_ble_eq_true rfl) (Nat.le_of_ble_eq_true rfl) ⟨Nat.zero_le _, Nat.zero_le _⟩ rfl (st := []) rfl (Nat.le_of_ble_eq_true rfl) dX1_ask_95 (fun r2 hw => ?_)
              refine wm_if_eq (tgt := 112) hC dX1_ask_98 (by decide) hw (fun hw => ?_) (fun hw => ?_)
              · refine x_iinc hC 5 dX1_ask_112 rfl (by decide) (L2 := [(3, vi (l3 + 1)), (5, vi r1), (4, vi (I l1 l3)), (0, vr 146), (1, vr l1), (2, vi l2)]) rfl hw (fun hw => ?_)
                refine wm_goto (tgt := 18) hC dX1_ask_115 (by decide) ?_
                refine wm_sub [3, 4, 5, 0] (L2 := [(0, vr 146), (1, vr l1), (2, vi l2), (3, vi (l3 + 1))]) rfl ?_
                exact kk18 _ _ _ hw
              · refine wm_aload_n hC 2 dX1_ask_101 rfl (k_ne0 kk_146 (by decide)) ?_
                refine x_getR3 hC 2 fl_X1_15 rfl kk_146 (rf_146_2 hRF) dX1_ask_102 ?_
                refine wm_iload hC 0 dX1_ask_105 rfl ?_
                refine wm_dup2_11 hC dX1_ask_107 (k := ?_)
                refine x_iald2 hC kk_148 kn_148 dX1_ask_108 hw (fun hw => ?_)
                refine wm_iconst hC dX1_ask_109 (k := ?_)
                refine x_iadd hC dX1_ask_110 hw (fun hw => ?_)
                refine x_iast2 hC kk_148 kn_148 dX1_ask_111 hw (fun I5 hw => ?_)
                refine x_iinc hC 5 dX1_ask_112 rfl (by decide) (L2 := [(3, vi (l3 + 1)), (5, vi r1), (4, vi (I l1 l3)), (0, vr 146), (1, vr l1), (2, vi l2)]) rfl hw (fun hw => ?_)
                refine wm_goto (tgt := 18) hC dX1_ask_115 (by decide) ?_
                refine wm_sub [3, 4, 5, 0] (L2 := [(0, vr 146), (1, vr l1), (2, vi l2), (3, vi (l3 + 1))]) rfl ?_
                exact kk18 _ _ _ hw
set_option maxRecDepth 20000 in
theorem w1_ask_b18 {C : wX} {ad : Nat → Nat} {n : Nat} {R : mR} {Q : Int → mI → mI → Prop} (hC : wOK C cX1_ask 6 RX1) (hRm : wRm C 5 114 0 0) (hE : wEnd C (some .int) ad n (fun r I' J' R' => (R' = R) ∧ Q r I' J')) (hRF : RF R) {l1 : Nat} {l2 : Int}   (h1 : isA 6 l1)  : ∀ (f : Nat) (l3 : Int) (I : mI) (J : mI), p1_ask_b18 l1 l2 R Q f l3 I J → WM C ad n I J R 0 0 18 [(0, vr 146), (1, vr l1), (2, vi l2), (3, vi l3)] [] := by
  intro f
  induction f with
  | zero => intro l3 I J hw; exact hw.elim
  | succ f ih => intro l3 I J hw; exact w1_ask_b18_body hC hRm hE hRF h1 (fun a0 a1 a2 aw => ih a0 a1 a2 aw) hw
def p1_ask (l1 : Nat) (l2 : Int) (I : mI) (J : mI) (R : mR) (Q : Int → mI → mI → Prop) : Prop := (wLet (fil I 148 6 0) (fun I1 => (wLet (fil I1 149 6 (-1)) (fun I2 => (∃ f, p1_ask_b18 l1 l2 R Q f 0 I2 J)))))
set_option maxRecDepth 20000 in
theorem c1_ask {ad : Nat → Nat} {n : Nat} {I J : mI} {R : mR} {Q : Int → mI → mI → Prop}  (hRF : RF R) {l1 : Nat} {l2 : Int}  (h1 : isA 6 l1)  (hw : p1_ask l1 l2 I J R Q) : wMet yX1_ask cX1_ask 6 (some .int) 5 114 false ad n I J R [vr 146, vr l1, vi l2] (fun r I' J' R' => (R' = R) ∧ Q r I' J') := by
  refine wMet_of (by decide) (Nat.le_of_ble_eq_true rfl) (fun C hC hRm hE hS => ?_)
  refine (show WM C ad n I J R 0 0 0 [(0, vr 146), (1, vr l1), (2, vi l2)] [] from ?_)
  unfold p1_ask at hw
  refine wm_aload_n hC 0 dX1_ask_0 rfl (k_ne0 kk_146 (by decide)) ?_
  refine x_getR3 hC 2 fl_X1_15 rfl kk_146 (rf_146_2 hRF) dX1_ask_1 ?_
  refine wm_iconst hC dX1_ask_4 (k := ?_)
  refine x_fill hC hRm ml_X1_47 kk_148 kn_148 (st := []) (Nat.le_of_ble_eq_true rfl) (Nat.le_of_ble_eq_true rfl) (Nat.le_of_ble_eq_true rfl) dX1_ask_5 hw (fun I1 hw => ?_)
  refine wm_aload_n hC 0 dX1_ask_8 rfl (k_ne0 kk_146 (by decide)) ?_
  refine x_getR3 hC 3 fl_X1_18 rfl kk_146 (rf_146_3 hRF) dX1_ask_9 ?_
  refine wm_iconst hC dX1_ask_12 (k := ?_)
  refine x_fill hC hRm ml_X1_47 kk_149 kn_149 (st := []) (Nat.le_of_ble_eq_true rfl) (Nat.le_of_ble_eq_true rfl) (Nat.le_of_ble_eq_true rfl) dX1_ask_13 hw (fun I2 hw => ?_)
  refine wm_iconst hC dX1_ask_16 (k := ?_)
  refine wm_istore_n hC dX1_ask_17 (by decide) (L2 := [(3, vi 0), (0, vr 146), (1, vr l1), (2, vi l2)]) rfl ?_
  obtain ⟨f, hw⟩ := hw
  refine wm_sub [1, 2, 3, 0] (L2 := [(0, vr 146), (1, vr l1), (2, vi l2), (3, vi 0)]) rfl ?_
  exact w1_ask_b18 hC hRm hE hRF h1 f _ _ _ hw
def p1_sit_b86 (l4 : Int) (I : mI) (J : mI) (R : mR) (k40 : Int → mI → mI → Prop) (Q : mI → mI → mR → Prop) : Prop := (wLet (up I 146 7 (bOr (I 146 7) (bShl 1 l4))) (fun I6 => (rg (l4 + 1) ∧ (k40 (l4 + 1) I6 J))))
set_option maxRecDepth 20000 in
theorem w1_sit_b86 {C : wX} {ad : Nat → Nat} {n : Nat} {I J : mI} {R : mR} {Q : mI → mI → mR → Prop} (hC : wOK C cX1_sit 5 RX1) (hRm : wRm C 3 62 0 0) (hE : wEnd C none ad n (fun _ I' J' R' => (True) ∧ (RF R' ∧ Q I' J' R'))) (hRF : RF R) {l4 : Int}  {k40 : Int → mI → mI → Prop}  (kk40 : ∀ (y4 : Int) (I' : mI) (J' : mI), k40 y4 I' J' → WM C ad n I' J' R 0 0 40 [(0, vr 146), (4, vi y4)] []) (hw : p1_sit_b86 l4 I J R k40 Q) : WM C ad n I J R 0 0 86 [(0, vr 146), (4, vi l4)] [] := by
  unfold p1_sit_b86 at hw
  refine wm_aload_n hC 0 dX1_sit_86 rfl (k_ne0 kk_146 (by decide)) ?_
  refine wm_dup hC dX1_sit_87 (k := ?_)
  refine x_getI hC 7 fl_X1_25 rfl kk_146 dX1_sit_88 ?_
  refine wm_iconst hC dX1_sit_91 (k := ?_)
  refine wm_iload hC 1 dX1_sit_92 rfl ?_
  refine wm_ishl hC dX1_sit_94 ?_
  refine wm_ior hC dX1_sit_95 ?_
  refine x_putI hC 7 fl_X1_25 rfl kk_146 dX1_sit_96 hw (fun I6 hw => ?_)
  refine x_iinc hC 1 dX1_sit_99 rfl (by decide) (L2 := [(4, vi (l4 + 1)), (0, vr 146)]) rfl hw (fun hw => ?_)
  refine wm_goto (tgt := 40) hC dX1_sit_102 (by decide) ?_
  refine wm_sub [1, 0] (L2 := [(0, vr 146), (4, vi (l4 + 1))]) rfl ?_
  exact kk40 _ _ _ hw
def p1_sit_b40_body (R : mR) (Q : mI → mI → mR → Prop) (k40 : Int → mI → mI → Prop) (l4 : Int) (I : mI) (J : mI) : Prop := (isLd (R 146 4) ∧ (if (I ((R 146 4) + 1) 0) ≤ l4 then (Q I J R) else (p1_putPerson l4 I R (fun I5 => (isLd (R 146 4) ∧ (p3_hasCode (R 146 4) 1 I5 (fun r1 => (if r1 = 0 then (p1_sit_b86 l4 I5 J R k40 Q) else (isLd (R 146 4) ∧ (p8_workOut (R 146 4) 1 I5 J (fun r2 J1 => (if r2 = 0 then (rg (l4 + 1) ∧ (k40 (l4 + 1) I5 J1)) else (p1_sit_b86 l4 I5 J1 R k40 Q)))))))))))))
def p1_sit_b40 (R : mR) (Q : mI → mI → mR → Prop) : Nat → Int → mI → mI → Prop
  | 0 => fun _ _ _ => False
  | f + 1 => fun l4 I J => p1_sit_b40_body R Q (p1_sit_b40 R Q f) l4 I J
set_option maxRecDepth 20000 in
theorem w1_sit_b40_body {C : wX} {ad : Nat → Nat} {n : Nat} {I J : mI} {R : mR} {Q : mI → mI → mR → Prop} (hC : wOK C cX1_sit 5 RX1) (hRm : wRm C 3 62 0 0) (hE : wEnd C none ad n (fun _ I' J' R' => (True) ∧ (RF R' ∧ Q I' J' R'))) (hRF : RF R)  {l4 : Int}     {k40 : Int → mI → mI → Prop} (kk40 : ∀ (y4 : Int) (I' : mI) (J' : mI), k40 y4 I' J' → WM C ad n I' J' R 0 0 40 [(0, vr 146), (4, vi y4)] []) (hw : p1_sit_b40_body R Q k40 l4 I J) : WM C ad n I J R 0 0 40 [(0, vr 146), (4, vi l4)] [] := by
  unfold p1_sit_b40_body at hw
  refine wm_iload hC 1 dX1_sit_40 rfl ?_
  refine wm_aload_n hC 0 dX1_sit_42 rfl (k_ne0 kk_146 (by decide)) ?_
  refine x_getRD hC 4 fl_X1_38 rfl kk_146 dX1_sit_43 hw (fun g1 hw => ?_)
  refine x_getR3 hC 0 fl_X1_53 rfl (ld_k0 g1) (rfd_0 hRF g1) dX1_sit_46 ?_
  refine wm_iconst hC dX1_sit_49 (k := ?_)
  refine x_ialdK hC (ld_k1 g1) (ld_n1 g1) (by decide) (by decide) dX1_sit_50 ?_
  refine wm_icmp_ge (tgt := 105) hC dX1_sit_51 (by decide) hw (fun hw => ?_) (fun hw => ?_)
  · exact wm_return hC hE dX1_sit_105 ⟨trivial, ⟨hRF, hw⟩⟩
  · refine wm_aload_n hC 0 dX1_sit_54 rfl (k_ne0 kk_146 (by decide)) ?_
    refine wm_iload hC 1 dX1_sit_55 rfl ?_
    refine y_callV_v_I hC hRm noS ml_X1_58 kk_146 (c1_putPerson hRF  hw) (Nat.le_of_ble_eq_true rfl) (Nat.le_of_ble_eq_true rfl) ⟨Nat.zero_le _, Nat.zero_le _⟩ rfl (st := []) rfl (Nat.le_of_ble_eq_true rfl) dX1_sit_57 (fun I5 hw => ?_)
    refine wm_aload_n hC 0 dX1_sit_60 rfl (k_ne0 kk_146 (by decide)) ?_
    refine x_getRD hC 4 fl_X1_38 rfl kk_146 dX1_sit_61 hw (fun g2 hw => ?_)
    refine wm_iconst hC dX1_sit_64 (k := ?_)
    refine y_callV_z_n hC hRm noS ml_X1_62 (ld_k0 g2) (c3_hasCode hRF g2 hw) (Nat.le_of_ble_eq_true rfl) (Nat.le_of_ble_eq_true rfl) ⟨Nat.zero_le _, Nat.zero_le _⟩ rfl (st := []) rfl (Nat.le_of_ble_eq_true rfl) dX1_sit_65 (fun r1 hw => ?_)
    refine wm_if_eq (tgt := 86) hC dX1_sit_68 (by decide) hw (fun hw => ?_) (fun hw => ?_)
    · exact w1_sit_b86 hC hRm hE hRF kk40 hw
    · refine wm_aload_n hC 0 dX1_sit_71 rfl (k_ne0 kk_146 (by decide)) ?_
      refine x_getR3 hC 0 fl_X1_34 rfl kk_146 (rf_146_0 hRF) dX1_sit_72 ?_
      refine wm_aload_n hC 0 dX1_sit_75 rfl (k_ne0 kk_146 (by decide)) ?_
      refine x_getRD hC 4 fl_X1_38 rfl kk_146 dX1_sit_76 hw (fun g3 hw => ?_)
      refine wm_iconst hC dX1_sit_79 (k := ?_)
      refine y_callV_i_J hC hRm noS ml_X1_66 kk_4 (c8_workOut hRF g3 hw) (Nat.le_of_ble_eq_true rfl) (Nat.le_of_ble_eq_true rfl) ⟨Nat.zero_le _, Nat.zero_le _⟩ rfl (st := []) rfl (Nat.le_of_ble_eq_true rfl) dX1_sit_80 (fun r2 J1 hw => ?_)
      refine wm_if_eq (tgt := 99) hC dX1_sit_83 (by decide) hw (fun hw => ?_) (fun hw => ?_)
      · refine x_iinc hC 1 dX1_sit_99 rfl (by decide) (L2 := [(4, vi (l4 + 1)), (0, vr 146)]) rfl hw (fun hw => ?_)
        refine wm_goto (tgt := 40) hC dX1_sit_102 (by decide) ?_
        refine wm_sub [1, 0] (L2 := [(0, vr 146), (4, vi (l4 + 1))]) rfl ?_
        exact kk40 _ _ _ hw
      · exact w1_sit_b86 hC hRm hE hRF kk40 hw
set_option maxRecDepth 20000 in
theorem w1_sit_b40 {C : wX} {ad : Nat → Nat} {n : Nat} {R : mR} {Q : mI → mI → mR → Prop} (hC : wOK C cX1_sit 5 RX1) (hRm : wRm C 3 62 0 0) (hE : wEnd C none ad n (fun _ I' J' R' => (True) ∧ (RF R' ∧ Q I' J' R'))) (hRF : RF R)      : ∀ (f : Nat) (l4 : Int) (I : mI) (J : mI), p1_sit_b40 R Q f l4 I J → WM C ad n I J R 0 0 40 [(0, vr 146), (4, vi l4)] [] := by
  intro f
  induction f with
  | zero => intro l4 I J hw; exact hw.elim
  | succ f ih => intro l4 I J hw; exact w1_sit_b40_body hC hRm hE hRF  (fun a0 a1 a2 aw => ih a0 a1 a2 aw) hw
def p1_sit (l1 : Nat) (l2 : Nat) (l3 : Int) (I : mI) (J : mI) (R : mR) (Q : mI → mI → mR → Prop) : Prop := (wLet (up R 146 4 l1) (fun R1 => (wLet (up R1 146 5 l2) (fun R2 => (wLet (up I 146 6 l3) (fun I1 => (wLet (fil I1 147 216 (-2000000)) (fun I2 => (wLet (fil I2 148 6 0) (fun I3 => (wLet (up I3 146 7 0) (fun I4 => (∃ f, p1_sit_b40 R2 Q f 0 I4 J)))))))))))))
set_option maxRecDepth 20000 in
theorem c1_sit {ad : Nat → Nat} {n : Nat} {I J : mI} {R : mR} {Q : mI → mI → mR → Prop}  (hRF : RF R) {l1 : Nat} {l2 : Nat} {l3 : Int}  (h1 : isLd l1) (h2 : isSt l2)  (hw : p1_sit l1 l2 l3 I J R Q) : wMet yX1_sit cX1_sit 5 none 3 62 false ad n I J R [vr 146, vr l1, vr l2, vi l3] (fun _ I' J' R' => (True) ∧ (RF R' ∧ Q I' J' R')) := by
  refine wMet_of (by decide) (Nat.le_of_ble_eq_true rfl) (fun C hC hRm hE hS => ?_)
  refine (show WM C ad n I J R 0 0 0 [(0, vr 146), (1, vr l1), (2, vr l2), (3, vi l3)] [] from ?_)
  unfold p1_sit at hw
  refine wm_aload_n hC 0 dX1_sit_0 rfl (k_ne0 kk_146 (by decide)) ?_
  refine wm_aload_n hC 1 dX1_sit_1 rfl (k_ne0 (ld_k0 h1) (by decide)) ?_
  refine x_putRD hC hRF RF_up_146_4 4 fl_X1_38 rfl kk_146 (Or.inl ⟨_, rfl⟩) (k_lt (ld_k0 h1) (by decide)) dX1_sit_2 hw (fun R1 rf1 hw => ?_)
  refine wm_aload_n hC 0 dX1_sit_5 rfl (k_ne0 kk_146 (by decide)) ?_
  refine wm_aload_n hC 2 dX1_sit_6 rfl (k_ne0 (st_k0 h2) (by decide)) ?_
  refine x_putRD hC rf1 RF_up_146_5 5 fl_X1_42 rfl kk_146 (Or.inl ⟨_, rfl⟩) (k_lt (st_k0 h2) (by decide)) dX1_sit_7 hw (fun R2 rf2 hw => ?_)
  refine wm_aload_n hC 0 dX1_sit_10 rfl (k_ne0 kk_146 (by decide)) ?_
  refine wm_iload_n hC 3 dX1_sit_11 rfl ?_
  refine x_putI hC 6 fl_X1_21 rfl kk_146 dX1_sit_12 hw (fun I1 hw => ?_)
  refine wm_aload_n hC 0 dX1_sit_15 rfl (k_ne0 kk_146 (by decide)) ?_
  refine x_getR3 hC 1 fl_X1_9 rfl kk_146 (rf_146_1 rf2) dX1_sit_16 ?_
  refine wm_ldc hC (x := (-2000000)) tc_X1_46 rfl dX1_sit_19 (k := ?_)
  refine x_fill hC hRm ml_X1_47 kk_147 kn_147 (st := []) (Nat.le_of_ble_eq_true rfl) (Nat.le_of_ble_eq_true rfl) (Nat.le_of_ble_eq_true rfl) dX1_sit_21 hw (fun I2 hw => ?_)
  refine wm_aload_n hC 0 dX1_sit_24 rfl (k_ne0 kk_146 (by decide)) ?_
  refine x_getR3 hC 2 fl_X1_15 rfl kk_146 (rf_146_2 rf2) dX1_sit_25 ?_
  refine wm_iconst hC dX1_sit_28 (k := ?_)
  refine x_fill hC hRm ml_X1_47 kk_148 kn_148 (st := []) (Nat.le_of_ble_eq_true rfl) (Nat.le_of_ble_eq_true rfl) (Nat.le_of_ble_eq_true rfl) dX1_sit_29 hw (fun I3 hw => ?_)
  refine wm_aload_n hC 0 dX1_sit_32 rfl (k_ne0 kk_146 (by decide)) ?_
  refine wm_iconst hC dX1_sit_33 (k := ?_)
  refine x_putI hC 7 fl_X1_25 rfl kk_146 dX1_sit_34 hw (fun I4 hw => ?_)
  refine wm_iconst hC dX1_sit_37 (k := ?_)
  refine wm_istore hC dX1_sit_38 (by decide) (L2 := [(4, vi 0), (0, vr 146), (1, vr l1), (2, vr l2), (3, vi l3)]) rfl ?_
  obtain ⟨f, hw⟩ := hw
  refine wm_sub [1, 0] (L2 := [(0, vr 146), (4, vi 0)]) rfl ?_
  exact w1_sit_b40 hC hRm hE rf2  f _ _ _ hw
def p3_everybody (l0 : Nat) (I : mI) (Q : Int → Prop) : Prop := (rg ((bShl 1 (I (l0 + 1) 0)) - 1) ∧ (Q ((bShl 1 (I (l0 + 1) 0)) - 1)))
set_option maxRecDepth 20000 in
theorem c3_everybody {ad : Nat → Nat} {n : Nat} {I J : mI} {R : mR} {Q : Int → Prop}  (hRF : RF R) {l0 : Nat} (h0 : isLd l0) (hw : p3_everybody l0 I Q) : wMet yX3_everybody cX3_everybody 1 (some .int) 1 12 false ad n I J R [vr l0] (fun r I' J' R' => (I' = I ∧ J' = J ∧ R' = R) ∧ Q r) := by
  refine wMet_of (by decide) (Nat.le_of_ble_eq_true rfl) (fun C hC hRm hE hS => ?_)
  refine (show WM C ad n I J R 0 0 0 [(0, vr l0)] [] from ?_)
  unfold p3_everybody at hw
  refine wm_iconst hC dX3_everybody_0 (k := ?_)
  refine wm_aload_n hC 0 dX3_everybody_1 rfl (k_ne0 (ld_k0 h0) (by decide)) ?_
  refine x_getR3 hC 0 fl_X3_9 rfl (ld_k0 h0) (rfd_0 hRF h0) dX3_everybody_2 ?_
  refine wm_iconst hC dX3_everybody_5 (k := ?_)
  refine x_ialdK hC (ld_k1 h0) (ld_n1 h0) (by decide) (by decide) dX3_everybody_6 ?_
  refine wm_ishl hC dX3_everybody_7 ?_
  refine wm_iconst hC dX3_everybody_8 (k := ?_)
  refine x_isub hC dX3_everybody_9 hw (fun hw => ?_)
  exact wm_ireturn hC hE dX3_everybody_10 ⟨⟨rfl, rfl, rfl⟩, hw⟩
def p0_pass_b138 (l2 : Nat) (l6 : Int) (I : mI) (J : mI) (R : mR) (Q : Int → mI → mI → mR → Prop) : Prop := (if (999 : Int) ≤ (I l2 0) then (wLet (up I l2 0 999) (fun I7 => ((l6 = 0 ∨ l6 = 1) ∧ (Q l6 I7 J R)))) else (rg ((I l2 0) + 1) ∧ (wLet (up I l2 0 ((I l2 0) + 1)) (fun I8 => ((l6 = 0 ∨ l6 = 1) ∧ (Q l6 I8 J R))))))
set_option maxRecDepth 20000 in
theorem w0_pass_b138 {C : wX} {ad : Nat → Nat} {n : Nat} {I J : mI} {R : mR} {Q : Int → mI → mI → mR → Prop} (hC : wOK C cX0_pass 10 RX0) (hRm : wRm C 6 139 0 0) (hE : wEnd C (some .boolean) ad n (fun r I' J' R' => (True) ∧ (RF R' ∧ Q r I' J' R'))) (hRF : RF R) {l2 : Nat} {l6 : Int}   (h2 : isSt l2)  (hw : p0_pass_b138 l2 l6 I J R Q) : WM C ad n I J R 0 0 138 [(2, vr l2), (6, vi l6)] [] := by
  unfold p0_pass_b138 at hw
  refine wm_aload_n hC 0 dX0_pass_138 rfl (k_ne0 (st_k0 h2) (by decide)) ?_
  refine wm_aload_n hC 0 dX0_pass_139 rfl (k_ne0 (st_k0 h2) (by decide)) ?_
  refine x_getI hC 0 fl_X0_35 rfl (st_k0 h2) dX0_pass_140 ?_
  refine wm_sipush hC dX0_pass_143 (k := ?_)
  refine wm_icmp_ge (tgt := 158) hC dX0_pass_146 (by decide) hw (fun hw => ?_) (fun hw => ?_)
  · refine wm_sipush hC dX0_pass_158 (k := ?_)
    refine x_putI hC 0 fl_X0_35 rfl (st_k0 h2) dX0_pass_161 hw (fun I7 hw => ?_)
    refine wm_iload hC 1 dX0_pass_164 rfl ?_
    obtain ⟨z01, hw⟩ := hw
    exact wm_zreturn hC hE z01 dX0_pass_166 ⟨trivial, ⟨hRF, hw⟩⟩
  · refine wm_aload_n hC 0 dX0_pass_149 rfl (k_ne0 (st_k0 h2) (by decide)) ?_
    refine x_getI hC 0 fl_X0_35 rfl (st_k0 h2) dX0_pass_150 ?_
    refine wm_iconst hC dX0_pass_153 (k := ?_)
    refine x_iadd hC dX0_pass_154 hw (fun hw => ?_)
    refine wm_goto (tgt := 161) hC dX0_pass_155 (by decide) ?_
    refine x_putI hC 0 fl_X0_35 rfl (st_k0 h2) dX0_pass_161 hw (fun I8 hw => ?_)
    refine wm_iload hC 1 dX0_pass_164 rfl ?_
    obtain ⟨z01, hw⟩ := hw
    exact wm_zreturn hC hE z01 dX0_pass_166 ⟨trivial, ⟨hRF, hw⟩⟩
def p0_pass_b85 (l1 : Nat) (l2 : Nat) (l6 : Int) (l7 : Int) (s0 : Int) (I : mI) (J : mI) (R : mR) (Q : Int → mI → mI → mR → Prop) : Prop := (p1_sit l1 l2 l7 I J R (fun I3 J2 R1 => (p1_ask (l2 + 1) s0 I3 J2 R1 (fun r4 I4 J3 => (if r4 = (-1) then (p0_pass_b138 l2 l6 I4 J3 R1 Q) else (p0_paintIfPaid l1 l2 l7 r4 I4 (fun r5 I5 => (p0_changeMoods l1 l2 r4 I5 (fun I6 => (p0_pass_b138 l2 r5 I6 J3 R1 Q))))))))))
set_option maxRecDepth 20000 in
theorem w0_pass_b85 {C : wX} {ad : Nat → Nat} {n : Nat} {I J : mI} {R : mR} {Q : Int → mI → mI → mR → Prop} (hC : wOK C cX0_pass 10 RX0) (hRm : wRm C 6 139 0 0) (hE : wEnd C (some .boolean) ad n (fun r I' J' R' => (True) ∧ (RF R' ∧ Q r I' J' R'))) (hRF : RF R) {l1 : Nat} {l2 : Nat} {l6 : Int} {l7 : Int} {s0 : Int}   (h1 : isLd l1) (h2 : isSt l2)  (hw : p0_pass_b85 l1 l2 l6 l7 s0 I J R Q) : WM C ad n I J R 0 0 85 [(0, vr 150), (1, vr l1), (2, vr l2), (6, vi l6), (7, vi l7)] [vi s0] := by
  unfold p0_pass_b85 at hw
  refine wm_istore hC dX0_pass_85 (by decide) (L2 := [(8, vi s0), (0, vr 150), (1, vr l1), (2, vr l2), (6, vi l6), (7, vi l7)]) rfl ?_
  refine wm_aload_n hC 1 dX0_pass_87 rfl (k_ne0 kk_150 (by decide)) ?_
  refine x_getR3 hC 0 fl_X0_9 rfl kk_150 (rf_150_0 hRF) dX0_pass_88 ?_
  refine wm_aload_n hC 2 dX0_pass_91 rfl (k_ne0 (ld_k0 h1) (by decide)) ?_
  refine wm_aload_n hC 3 dX0_pass_92 rfl (k_ne0 (st_k0 h2) (by decide)) ?_
  refine wm_iload hC 5 dX0_pass_93 rfl ?_
  refine y_callV_v_IJR hC hRm noS ml_X0_42 kk_146 (c1_sit hRF h1 h2 hw) (Nat.le_of_ble_eq_true rfl) (Nat.le_of_ble_eq_true rfl) ⟨Nat.zero_le _, Nat.zero_le _⟩ rfl (st := []) rfl (Nat.le_of_ble_eq_true rfl) dX0_pass_95 (fun I3 J2 R1 hw => ?_)
  obtain ⟨rf1, hw⟩ := hw
  refine wm_aload_n hC 1 dX0_pass_98 rfl (k_ne0 kk_150 (by decide)) ?_
  refine x_getR3 hC 0 fl_X0_9 rfl kk_150 (rf_150_0 rf1) dX0_pass_99 ?_
  refine wm_aload_n hC 3 dX0_pass_102 rfl (k_ne0 (st_k0 h2) (by decide)) ?_
  refine x_getR3 hC 3 fl_X0_48 rfl (st_k0 h2) (rfs_3 rf1 h2) dX0_pass_103 ?_
  refine wm_iload hC 0 dX0_pass_106 rfl ?_
  refine y_callV_i_IJ hC hRm noS ml_X0_51 kk_146 (c1_ask rf1 ⟨(st_k1 h2), (st_n1 h2)⟩ hw) (Nat.le_of_ble_eq_true rfl) (Nat.le_of_ble_eq_true rfl) ⟨Nat.zero_le _, Nat.zero_le _⟩ rfl (st := []) rfl (Nat.le_of_ble_eq_true rfl) dX0_pass_108 (fun r4 I4 J3 hw => ?_)
  refine wm_istore hC dX0_pass_111 (by decide) (L2 := [(9, vi r4), (8, vi s0), (0, vr 150), (1, vr l1), (2, vr l2), (6, vi l6), (7, vi l7)]) rfl ?_
  refine wm_iload hC 0 dX0_pass_113 rfl ?_
  refine wm_iconst hC dX0_pass_115 (k := ?_)
  refine wm_icmp_eq (tgt := 138) hC dX0_pass_116 (by decide) hw (fun hw => ?_) (fun hw => ?_)
  · refine wm_sub [4, 5] (L2 := [(2, vr l2), (6, vi l6)]) rfl ?_
    exact w0_pass_b138 hC hRm hE rf1 h2 hw
  · refine wm_aload_n hC 3 dX0_pass_119 rfl (k_ne0 (ld_k0 h1) (by decide)) ?_
    refine wm_aload_n hC 4 dX0_pass_120 rfl (k_ne0 (st_k0 h2) (by decide)) ?_
    refine wm_iload hC 6 dX0_pass_121 rfl ?_
    refine wm_iload hC 0 dX0_pass_123 rfl ?_
    refine y_callS_z_I hC hRm noS ml_X0_55 (c0_paintIfPaid rf1 h1 h2 hw) (Nat.le_of_ble_eq_true rfl) (Nat.le_of_ble_eq_true rfl) ⟨Nat.zero_le _, Nat.zero_le _⟩ rfl (st := []) rfl (Nat.le_of_ble_eq_true rfl) dX0_pass_125 (fun r5 I5 hw => ?_)
    refine wm_istore hC dX0_pass_128 (by decide) (L2 := [(6, vi r5), (9, vi r4), (8, vi s0), (0, vr 150), (1, vr l1), (2, vr l2), (7, vi l7)]) rfl ?_
    refine wm_aload_n hC 3 dX0_pass_130 rfl (k_ne0 kk_150 (by decide)) ?_
    refine wm_aload_n hC 4 dX0_pass_131 rfl (k_ne0 (ld_k0 h1) (by decide)) ?_
    refine wm_aload_n hC 5 dX0_pass_132 rfl (k_ne0 (st_k0 h2) (by decide)) ?_
    refine wm_iload hC 1 dX0_pass_133 rfl ?_
    refine y_callV_v_I hC hRm noS ml_X0_59 kk_150 (c0_changeMoods rf1 h1 h2 hw) (Nat.le_of_ble_eq_true rfl) (Nat.le_of_ble_eq_true rfl) ⟨Nat.zero_le _, Nat.zero_le _⟩ rfl (st := []) rfl (Nat.le_of_ble_eq_true rfl) dX0_pass_135 (fun I6 hw => ?_)
    refine wm_sub [5, 0] (L2 := [(2, vr l2), (6, vi r5)]) rfl ?_
    exact w0_pass_b138 hC hRm hE rf1 h2 hw
def p0_pass_b35 (l1 : Nat) (l2 : Nat) (l3 : Int) (s0 : Nat) (s1 : Int) (I : mI) (J : mI) (R : mR) (Q : Int → mI → mI → mR → Prop) : Prop := (wLet (up I s0 1 s1) (fun I2 => (if (I2 (l1 + 1) 2) ≤ 0 then (p0_pass_b138 l2 0 I2 J R Q) else ((I2 (l1 + 1) 2) ≠ 0 ∧ (wLet (Int.tmod (I2 l2 0) (I2 (l1 + 1) 2)) (fun x1 => (if l3 = (-1) then (p3_everybody l1 I2 (fun r3 => (p0_pass_b85 l1 l2 0 x1 r3 I2 J R Q))) else (p3_everybody l1 I2 (fun r2 => (p0_pass_b85 l1 l2 0 x1 (bAnd r2 (bXor (bShl 1 l3) (-1))) I2 J R Q))))))))))
set_option maxRecDepth 20000 in
theorem w0_pass_b35 {C : wX} {ad : Nat → Nat} {n : Nat} {I J : mI} {R : mR} {Q : Int → mI → mI → mR → Prop} (hC : wOK C cX0_pass 10 RX0) (hRm : wRm C 6 139 0 0) (hE : wEnd C (some .boolean) ad n (fun r I' J' R' => (True) ∧ (RF R' ∧ Q r I' J' R'))) (hRF : RF R) {l1 : Nat} {l2 : Nat} {l3 : Int} {s0 : Nat} {s1 : Int}   (h1 : isLd l1) (h2 : isSt l2) (hs0 : isSt s0)  (hw : p0_pass_b35 l1 l2 l3 s0 s1 I J R Q) : WM C ad n I J R 0 0 35 [(0, vr 150), (1, vr l1), (2, vr l2), (3, vi l3)] [vi s1, vr s0] := by
  unfold p0_pass_b35 at hw
  refine x_putI hC 1 fl_X0_23 rfl (st_k0 hs0) dX0_pass_35 hw (fun I2 hw => ?_)
  refine wm_aload_n hC 1 dX0_pass_38 rfl (k_ne0 (ld_k0 h1) (by decide)) ?_
  refine x_getR3 hC 0 fl_X0_29 rfl (ld_k0 h1) (rfd_0 hRF h1) dX0_pass_39 ?_
  refine wm_iconst hC dX0_pass_42 (k := ?_)
  refine x_ialdK hC (ld_k1 h1) (ld_n1 h1) (by decide) (by decide) dX0_pass_43 ?_
  refine wm_istore hC dX0_pass_44 (by decide) (L2 := [(5, vi (I2 (l1 + 1) 2)), (0, vr 150), (1, vr l1), (2, vr l2), (3, vi l3)]) rfl ?_
  refine wm_iconst hC dX0_pass_46 (k := ?_)
  refine wm_istore hC dX0_pass_47 (by decide) (L2 := [(6, vi 0), (5, vi (I2 (l1 + 1) 2)), (0, vr 150), (1, vr l1), (2, vr l2), (3, vi l3)]) rfl ?_
  refine wm_iload hC 1 dX0_pass_49 rfl ?_
  refine wm_if_le (tgt := 138) hC dX0_pass_51 (by decide) hw (fun hw => ?_) (fun hw => ?_)
  · refine wm_sub [4, 0] (L2 := [(2, vr l2), (6, vi 0)]) rfl ?_
    exact w0_pass_b138 hC hRm hE hRF h2 hw
  · refine wm_aload_n hC 4 dX0_pass_54 rfl (k_ne0 (st_k0 h2) (by decide)) ?_
    refine x_getI hC 0 fl_X0_35 rfl (st_k0 h2) dX0_pass_55 ?_
    refine wm_iload hC 1 dX0_pass_58 rfl ?_
    refine x_irem hC dX0_pass_60 hw (fun hw => ?_)
    refine x_nameI hw (fun x1 hw => ?_)
    refine wm_istore hC dX0_pass_61 (by decide) (L2 := [(7, vi x1), (6, vi 0), (5, vi (I2 (l1 + 1) 2)), (0, vr 150), (1, vr l1), (2, vr l2), (3, vi l3)]) rfl ?_
    refine wm_iload_n hC 6 dX0_pass_63 rfl ?_
    refine wm_iconst hC dX0_pass_64 (k := ?_)
    refine wm_icmp_ne (tgt := 75) hC dX0_pass_65 (by decide) hw (fun hw => ?_) (fun hw => ?_)
    · refine wm_aload_n hC 4 dX0_pass_68 rfl (k_ne0 (ld_k0 h1) (by decide)) ?_
      refine y_callV_i_n hC hRm noS ml_X0_38 (ld_k0 h1) (c3_everybody hRF h1 hw) (Nat.le_of_ble_eq_true rfl) (Nat.le_of_ble_eq_true rfl) ⟨Nat.zero_le _, Nat.zero_le _⟩ rfl (st := []) rfl (Nat.le_of_ble_eq_true rfl) dX0_pass_69 (fun r3 hw => ?_)
      refine wm_goto (tgt := 85) hC dX0_pass_72 (by decide) ?_
      refine wm_sub [3, 4, 5, 1, 0] (L2 := [(0, vr 150), (1, vr l1), (2, vr l2), (6, vi 0), (7, vi x1)]) rfl ?_
      exact w0_pass_b85 hC hRm hE hRF h1 h2 hw
    · refine wm_aload_n hC 4 dX0_pass_75 rfl (k_ne0 (ld_k0 h1) (by decide)) ?_
      refine y_callV_i_n hC hRm noS ml_X0_38 (ld_k0 h1) (c3_everybody hRF h1 hw) (Nat.le_of_ble_eq_true rfl) (Nat.le_of_ble_eq_true rfl) ⟨Nat.zero_le _, Nat.zero_le _⟩ rfl (st := []) rfl (Nat.le_of_ble_eq_true rfl) dX0_pass_76 (fun r2 hw => ?_)
      refine wm_iconst hC dX0_pass_79 (k := ?_)
      refine wm_iload_n hC 6 dX0_pass_80 rfl ?_
      refine wm_ishl hC dX0_pass_81 ?_
      refine wm_iconst hC dX0_pass_82 (k := ?_)
      refine wm_ixor hC dX0_pass_83 ?_
      refine wm_iand hC dX0_pass_84 ?_
      refine wm_sub [3, 4, 5, 1, 0] (L2 := [(0, vr 150), (1, vr l1), (2, vr l2), (6, vi 0), (7, vi x1)]) rfl ?_
      exact w0_pass_b85 hC hRm hE hRF h1 h2 hw
def p0_pass (l1 : Nat) (l2 : Nat) (l3 : Int) (I : mI) (J : mI) (R : mR) (Q : Int → mI → mI → mR → Prop) : Prop := (p0_gift l1 l2 I J (fun r1 I1 J1 => (rg ((I1 l2 1) + r1) ∧ (if ((I1 l2 1) + r1) ≤ 9999 then (rg ((I1 l2 1) + r1) ∧ (p0_pass_b35 l1 l2 l3 l2 ((I1 l2 1) + r1) I1 J1 R Q)) else (p0_pass_b35 l1 l2 l3 l2 9999 I1 J1 R Q)))))
set_option maxRecDepth 20000 in
theorem c0_pass {ad : Nat → Nat} {n : Nat} {I J : mI} {R : mR} {Q : Int → mI → mI → mR → Prop}  (hRF : RF R) {l1 : Nat} {l2 : Nat} {l3 : Int}  (h1 : isLd l1) (h2 : isSt l2)  (hw : p0_pass l1 l2 l3 I J R Q) : wMet yX0_pass cX0_pass 10 (some .boolean) 6 139 false ad n I J R [vr 150, vr l1, vr l2, vi l3] (fun r I' J' R' => (True) ∧ (RF R' ∧ Q r I' J' R')) := by
  refine wMet_of (by decide) (Nat.le_of_ble_eq_true rfl) (fun C hC hRm hE hS => ?_)
  refine (show WM C ad n I J R 0 0 0 [(0, vr 150), (1, vr l1), (2, vr l2), (3, vi l3)] [] from ?_)
  unfold p0_pass at hw
  refine wm_aload_n hC 0 dX0_pass_0 rfl (k_ne0 kk_150 (by decide)) ?_
  refine wm_aload_n hC 1 dX0_pass_1 rfl (k_ne0 (ld_k0 h1) (by decide)) ?_
  refine wm_aload_n hC 2 dX0_pass_2 rfl (k_ne0 (st_k0 h2) (by decide)) ?_
  refine y_callV_i_IJ hC hRm noS ml_X0_19 kk_150 (c0_gift hRF h1 h2 hw) (Nat.le_of_ble_eq_true rfl) (Nat.le_of_ble_eq_true rfl) ⟨Nat.zero_le _, Nat.zero_le _⟩ rfl (st := []) rfl (Nat.le_of_ble_eq_true rfl) dX0_pass_3 (fun r1 I1 J1 hw => ?_)
  refine wm_istore hC dX0_pass_6 (by decide) (L2 := [(4, vi r1), (0, vr 150), (1, vr l1), (2, vr l2), (3, vi l3)]) rfl ?_
  refine wm_aload_n hC 3 dX0_pass_8 rfl (k_ne0 (st_k0 h2) (by decide)) ?_
  refine wm_aload_n hC 3 dX0_pass_9 rfl (k_ne0 (st_k0 h2) (by decide)) ?_
  refine x_getI hC 1 fl_X0_23 rfl (st_k0 h2) dX0_pass_10 ?_
  refine wm_iload hC 0 dX0_pass_13 rfl ?_
  refine x_iadd hC dX0_pass_15 hw (fun hw => ?_)
  refine wm_sipush hC dX0_pass_16 (k := ?_)
  refine wm_icmp_le (tgt := 28) hC dX0_pass_19 (by decide) hw (fun hw => ?_) (fun hw => ?_)
  · refine wm_aload_n hC 3 dX0_pass_28 rfl (k_ne0 (st_k0 h2) (by decide)) ?_
    refine x_getI hC 1 fl_X0_23 rfl (st_k0 h2) dX0_pass_29 ?_
    refine wm_iload hC 0 dX0_pass_32 rfl ?_
    refine x_iadd hC dX0_pass_34 hw (fun hw => ?_)
    refine wm_sub [1, 2, 3, 4] (L2 := [(0, vr 150), (1, vr l1), (2, vr l2), (3, vi l3)]) rfl ?_
    exact w0_pass_b35 hC hRm hE hRF h1 h2 h2 hw
  · refine wm_sipush hC dX0_pass_22 (k := ?_)
    refine wm_goto (tgt := 35) hC dX0_pass_25 (by decide) ?_
    refine wm_sub [1, 2, 3, 4] (L2 := [(0, vr 150), (1, vr l1), (2, vr l2), (3, vi l3)]) rfl ?_
    exact w0_pass_b35 hC hRm hE hRF h1 h2 h2 hw
def p1_beginOrders_b4_body (l1 : Nat) (R : mR) (Q : Int → mI → Prop) (k4 : Int → Int → mI → Prop) (l2 : Int) (l3 : Int) (I : mI) : Prop := (if (6 : Int) ≤ l3 then (Q l2 I) else (((0 : Int) ≤ l3 ∧ l3 < (6 : Int)) ∧ wLet (up I l1 l3 l3) (fun I1 => (isLd (R 146 4) ∧ (if (I1 ((R 146 4) + 1) 0) ≤ l3 then (rg (l2 * 1) ∧ (rg (l3 + 1) ∧ (k4 (l2 * 1) (l3 + 1) I1))) else (rg (l3 + 1) ∧ (rg (l2 * (l3 + 1)) ∧ (rg (l3 + 1) ∧ (k4 (l2 * (l3 + 1)) (l3 + 1) I1)))))))))
def p1_beginOrders_b4 (l1 : Nat) (R : mR) (Q : Int → mI → Prop) : Nat → Int → Int → mI → Prop
  | 0 => fun _ _ _ => False
  | f + 1 => fun l2 l3 I => p1_beginOrders_b4_body l1 R Q (p1_beginOrders_b4 l1 R Q f) l2 l3 I
set_option maxRecDepth 20000 in
theorem w1_beginOrders_b4_body {C : wX} {ad : Nat → Nat} {n : Nat} {I J : mI} {R : mR} {Q : Int → mI → Prop} (hC : wOK C cX1_beginOrders 4 RX1) (hRm : wRm C 1 12 0 0) (hE : wEnd C (some .int) ad n (fun r I' J' R' => (J' = J ∧ R' = R) ∧ Q r I')) (hRF : RF R) {l1 : Nat} {l2 : Int} {l3 : Int}   (h1 : isA 6 l1)  {k4 : Int → Int → mI → Prop} (kk4 : ∀ (y2 : Int) (y3 : Int) (I' : mI), k4 y2 y3 I' → WM C ad n I' J R 0 0 4 [(0, vr 146), (1, vr l1), (2, vi y2), (3, vi y3)] []) (hw : p1_beginOrders_b4_body l1 R Q k4 l2 l3 I) : WM C ad n I J R 0 0 4 [(0, vr 146), (1, vr l1), (2, vi l2), (3, vi l3)] [] := by
  unfold p1_beginOrders_b4_body at hw
  refine wm_iload_n hC 3 dX1_beginOrders_4 rfl ?_
  refine wm_aload_n hC 1 dX1_beginOrders_5 rfl (k_ne0 h1.1 (by decide)) ?_
  refine x_alen2 hC h1.1 h1.2 (by decide) dX1_beginOrders_6 ?_
  refine wm_icmp_ge (tgt := 43) hC dX1_beginOrders_7 (by decide) hw (fun hw => ?_) (fun hw => ?_)
  · refine wm_iload_n hC 2 dX1_beginOrders_43 rfl ?_
    exact wm_ireturn hC hE dX1_beginOrders_44 ⟨⟨rfl, rfl⟩, hw⟩
  · refine wm_aload_n hC 1 dX1_beginOrders_10 rfl (k_ne0 h1.1 (by decide)) ?_
    refine wm_iload_n hC 3 dX1_beginOrders_11 rfl ?_
    refine wm_iload_n hC 3 dX1_beginOrders_12 rfl ?_
    refine x_iast2 hC h1.1 h1.2 dX1_beginOrders_13 hw (fun I1 hw => ?_)
    refine wm_iload_n hC 2 dX1_beginOrders_14 rfl ?_
    refine wm_iload_n hC 3 dX1_beginOrders_15 rfl ?_
    refine wm_aload_n hC 0 dX1_beginOrders_16 rfl (k_ne0 kk_146 (by decide)) ?_
    refine x_getRD hC 4 fl_X1_38 rfl kk_146 dX1_beginOrders_17 hw (fun g1 hw => ?_)
    refine x_getR3 hC 0 fl_X1_53 rfl (ld_k0 g1) (rfd_0 hRF g1) dX1_beginOrders_20 ?_
    refine wm_iconst hC dX1_beginOrders_23 (k := ?_)
    refine x_ialdK hC (ld_k1 g1) (ld_n1 g1) (by decide) (by decide) dX1_beginOrders_24 ?_
    refine wm_icmp_ge (tgt := 34) hC dX1_beginOrders_25 (by decide) hw (fun hw => ?_) (fun hw => ?_)
    · refine wm_iconst hC dX1_beginOrders_34 (k := ?_)
      refine x_imul hC dX1_beginOrders_35 hw (fun hw => ?_)
      refine wm_istore_n hC dX1_beginOrders_36 (by decide) (L2 := [(2, vi (l2 * 1)), (0, vr 146), (1, vr l1), (3, vi l3)]) rfl ?_
      refine x_iinc hC 3 dX1_beginOrders_37 rfl (by decide) (L2 := [(3, vi (l3 + 1)), (2, vi (l2 * 1)), (0, vr 146), (1, vr l1)]) rfl hw (fun hw => ?_)
      refine wm_goto (tgt := 4) hC dX1_beginOrders_40 (by decide) ?_
      refine wm_sub [2, 3, 1, 0] (L2 := [(0, vr 146), (1, vr l1), (2, vi (l2 * 1)), (3, vi (l3 + 1))]) rfl ?_
      exact kk4 _ _ _ hw
    · refine wm_iload_n hC 3 dX1_beginOrders_28 rfl ?_
      refine wm_iconst hC dX1_beginOrders_29 (k := ?_)
      refine x_iadd hC dX1_beginOrders_30 hw (fun hw => ?_)
      refine wm_goto (tgt := 35) hC dX1_beginOrders_31 (by decide) ?_
      refine x_imul hC dX1_beginOrders_35 hw (fun hw => ?_)
      refine wm_istore_n hC dX1_beginOrders_36 (by decide) (L2 := [(2, vi (l2 * (l3 + 1))), (0, vr 146), (1, vr l1), (3, vi l3)]) rfl ?_
      refine x_iinc hC 3 dX1_beginOrders_37 rfl (by decide) (L2 := [(3, vi (l3 + 1)), (2, vi (l2 * (l3 + 1))), (0, vr 146), (1, vr l1)]) rfl hw (fun hw => ?_)
      refine wm_goto (tgt := 4) hC dX1_beginOrders_40 (by decide) ?_
      refine wm_sub [2, 3, 1, 0] (L2 := [(0, vr 146), (1, vr l1), (2, vi (l2 * (l3 + 1))), (3, vi (l3 + 1))]) rfl ?_
      exact kk4 _ _ _ hw
set_option maxRecDepth 20000 in
theorem w1_beginOrders_b4 {C : wX} {ad : Nat → Nat} {n : Nat} {J : mI} {R : mR} {Q : Int → mI → Prop} (hC : wOK C cX1_beginOrders 4 RX1) (hRm : wRm C 1 12 0 0) (hE : wEnd C (some .int) ad n (fun r I' J' R' => (J' = J ∧ R' = R) ∧ Q r I')) (hRF : RF R) {l1 : Nat}   (h1 : isA 6 l1)  : ∀ (f : Nat) (l2 : Int) (l3 : Int) (I : mI), p1_beginOrders_b4 l1 R Q f l2 l3 I → WM C ad n I J R 0 0 4 [(0, vr 146), (1, vr l1), (2, vi l2), (3, vi l3)] [] := by
  intro f
  induction f with
  | zero => intro l2 l3 I hw; exact hw.elim
  | succ f ih => intro l2 l3 I hw; exact w1_beginOrders_b4_body hC hRm hE hRF h1 (fun a0 a1 a2 aw => ih a0 a1 a2 aw) hw
def p1_beginOrders (l1 : Nat) (I : mI) (R : mR) (Q : Int → mI → Prop) : Prop := (∃ f, p1_beginOrders_b4 l1 R Q f 1 0 I)
set_option maxRecDepth 20000 in
theorem c1_beginOrders {ad : Nat → Nat} {n : Nat} {I J : mI} {R : mR} {Q : Int → mI → Prop}  (hRF : RF R) {l1 : Nat}  (h1 : isA 6 l1) (hw : p1_beginOrders l1 I R Q) : wMet yX1_beginOrders cX1_beginOrders 4 (some .int) 1 12 false ad n I J R [vr 146, vr l1] (fun r I' J' R' => (J' = J ∧ R' = R) ∧ Q r I') := by
  refine wMet_of (by decide) (Nat.le_of_ble_eq_true rfl) (fun C hC hRm hE hS => ?_)
  refine (show WM C ad n I J R 0 0 0 [(0, vr 146), (1, vr l1)] [] from ?_)
  unfold p1_beginOrders at hw
  refine wm_iconst hC dX1_beginOrders_0 (k := ?_)
  refine wm_istore_n hC dX1_beginOrders_1 (by decide) (L2 := [(2, vi 1), (0, vr 146), (1, vr l1)]) rfl ?_
  refine wm_iconst hC dX1_beginOrders_2 (k := ?_)
  refine wm_istore_n hC dX1_beginOrders_3 (by decide) (L2 := [(3, vi 0), (2, vi 1), (0, vr 146), (1, vr l1)]) rfl ?_
  obtain ⟨f, hw⟩ := hw
  refine wm_sub [2, 3, 1, 0] (L2 := [(0, vr 146), (1, vr l1), (2, vi 1), (3, vi 0)]) rfl ?_
  exact w1_beginOrders_b4 hC hRm hE hRF h1 f _ _ _ hw
