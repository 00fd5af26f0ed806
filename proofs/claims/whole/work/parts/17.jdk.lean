def PJ7_fill_53178_b5_body (l0 : Nat) (l1 : Int) (l3 : Int) (Q : mI → Prop) (k5 : Int → mI → Prop) (l2 : Int) (I : mI) : Prop := (if l3 ≤ l2 then (Q I) else (((0 : Int) ≤ l2 ∧ l2 < (kN l0 : Int)) ∧ wLet (up I l0 l2 l1) (fun I1 => (rg (l2 + 1) ∧ (k5 (l2 + 1) I1)))))
def PJ7_fill_53178_b5 (l0 : Nat) (l1 : Int) (l3 : Int) (Q : mI → Prop) : Nat → Int → mI → Prop
  | 0 => fun _ _ => False
  | f + 1 => fun l2 I => PJ7_fill_53178_b5_body l0 l1 l3 Q (PJ7_fill_53178_b5 l0 l1 l3 Q f) l2 I
set_option maxRecDepth 20000 in
theorem WJ7_fill_53178_b5_body {C : wX} {ad : Nat → Nat} {n : Nat} {I J : mI} {R : mR} {Q : mI → Prop} (hC : wOK C cJ7_fill_53178 4 RJ7) (hRm : wRm C 1 12 0 0) (hE : wEnd C none ad n (fun _ I' J' R' => (J' = J ∧ R' = R) ∧ Q I')) {l0 : Nat} {l1 : Int} {l3 : Int} {l2 : Int}   (hk0 : kK l0 = 21)  {k5 : Int → mI → Prop} (kk5 : ∀ (y2 : Int) (I' : mI), k5 y2 I' → WM C ad n I' J R 0 0 5 [(0, vr l0), (1, vi l1), (2, vi y2), (3, vi l3)] []) (hw : PJ7_fill_53178_b5_body l0 l1 l3 Q k5 l2 I) : WM C ad n I J R 0 0 5 [(0, vr l0), (1, vi l1), (2, vi l2), (3, vi l3)] [] := by
  unfold PJ7_fill_53178_b5_body at hw
  refine wm_iload_n hC 2 dJ7_fill_53178_5 rfl ?_
  refine wm_iload_n hC 3 dJ7_fill_53178_6 rfl ?_
  refine wm_icmp_ge (tgt := 20) hC dJ7_fill_53178_7 (by decide) hw (fun hw => ?_) (fun hw => ?_)
  · exact wm_return hC hE dJ7_fill_53178_20 ⟨⟨rfl, rfl⟩, hw⟩
  · refine wm_aload_n hC 0 dJ7_fill_53178_10 rfl (k_ne0 hk0 (by decide)) ?_
    refine wm_iload_n hC 2 dJ7_fill_53178_11 rfl ?_
    refine wm_iload_n hC 1 dJ7_fill_53178_12 rfl ?_
    refine x_iast hC hk0 dJ7_fill_53178_13 hw (fun I1 hw => ?_)
    refine x_iinc hC 2 dJ7_fill_53178_14 rfl (by decide) (L2 := [(2, vi (l2 + 1)), (0, vr l0), (1, vi l1), (3, vi l3)]) rfl hw (fun hw => ?_)
    refine wm_goto (tgt := 5) hC dJ7_fill_53178_17 (by decide) ?_
    refine wm_sub [1, 2, 0, 3] (L2 := [(0, vr l0), (1, vi l1), (2, vi (l2 + 1)), (3, vi l3)]) rfl ?_
    exact kk5 _ _ hw
set_option maxRecDepth 20000 in
theorem WJ7_fill_53178_b5 {C : wX} {ad : Nat → Nat} {n : Nat} {J : mI} {R : mR} {Q : mI → Prop} (hC : wOK C cJ7_fill_53178 4 RJ7) (hRm : wRm C 1 12 0 0) (hE : wEnd C none ad n (fun _ I' J' R' => (J' = J ∧ R' = R) ∧ Q I')) {l0 : Nat} {l1 : Int} {l3 : Int}   (hk0 : kK l0 = 21)  : ∀ (f : Nat) (l2 : Int) (I : mI), PJ7_fill_53178_b5 l0 l1 l3 Q f l2 I → WM C ad n I J R 0 0 5 [(0, vr l0), (1, vi l1), (2, vi l2), (3, vi l3)] [] := by
  intro f
  induction f with
  | zero => intro l2 I hw; exact hw.elim
  | succ f ih => intro l2 I hw; exact WJ7_fill_53178_b5_body hC hRm hE hk0 (fun a0 a1 hw => ih a0 a1 hw) hw
def PJ7_fill_53178 (l0 : Nat) (l1 : Int) (I : mI) (Q : mI → Prop) : Prop := (∃ f, PJ7_fill_53178_b5 l0 l1 (kN l0 : Int) Q f 0 I)
set_option maxRecDepth 20000 in
theorem CJ7_fill_53178 {ad : Nat → Nat} {n : Nat} {I J : mI} {R : mR} {Q : mI → Prop}  {l0 : Nat} {l1 : Int} (hk0 : kK l0 = 21) (hw : PJ7_fill_53178 l0 l1 I Q) : wMet yJ7_fill_53178 cJ7_fill_53178 4 none 1 12 false ad n I J R [vr l0, vi l1] (fun _ I' J' R' => (J' = J ∧ R' = R) ∧ Q I') := by
  refine wMet_of (by decide) (Nat.le_of_ble_eq_true rfl) (fun C hC hRm hE hS => ?_)
  refine (show WM C ad n I J R 0 0 0 [(0, vr l0), (1, vi l1)] [] from ?_)
  unfold PJ7_fill_53178 at hw
  refine wm_iconst hC dJ7_fill_53178_0 (k := ?_)
  refine wm_istore_n hC dJ7_fill_53178_1 (by decide) (L2 := [(2, vi 0), (0, vr l0), (1, vi l1)]) rfl ?_
  refine wm_aload_n hC 1 dJ7_fill_53178_2 rfl (k_ne0 hk0 (by decide)) ?_
  refine x_alen hC hk0 (by decide) dJ7_fill_53178_3 ?_
  refine wm_istore_n hC dJ7_fill_53178_4 (by decide) (L2 := [(3, vi (kN l0 : Int)), (2, vi 0), (0, vr l0), (1, vi l1)]) rfl ?_
  obtain ⟨f, hw⟩ := hw
  refine wm_sub [2, 3, 1, 0] (L2 := [(0, vr l0), (1, vi l1), (2, vi 0), (3, vi (kN l0 : Int))]) rfl ?_
  exact WJ7_fill_53178_b5 hC hRm hE hk0 f _ _ hw
def P3_empty (l0 : Nat) (I : mI) (R : mR) (Q : mI → Prop) : Prop := (kK (R l0 0) = 21 ∧ (PJ7_fill_53178 (R l0 0) 0 I (fun I1 => (kK (R l0 3) = 21 ∧ (PJ7_fill_53178 (R l0 3) 0 I1 (fun I2 => (kK (R l0 4) = 21 ∧ (PJ7_fill_53178 (R l0 4) (-1) I2 (fun I3 => (kK (R l0 6) = 21 ∧ (PJ7_fill_53178 (R l0 6) 0 I3 (fun I4 => (kK (R l0 7) = 21 ∧ (PJ7_fill_53178 (R l0 7) 0 I4 (fun I5 => (wLet (up I5 l0 8 0) (fun I6 => (wLet (up I6 l0 9 0) (fun I7 => (wLet (up I7 l0 10 0) (fun I8 => (wLet (up I8 l0 11 0) (fun I9 => (Q I9))))))))))))))))))))))))
set_option maxRecDepth 20000 in
theorem C3_empty {ad : Nat → Nat} {n : Nat} {I J : mI} {R : mR} {Q : mI → Prop}  {l0 : Nat} (hk0 : kK l0 = 3) (hw : P3_empty l0 I R Q) : wMet yX3_empty cX3_empty 1 none 2 35 false ad n I J R [vr l0] (fun _ I' J' R' => (J' = J ∧ R' = R) ∧ Q I') := by
  refine wMet_of (by decide) (Nat.le_of_ble_eq_true rfl) (fun C hC hRm hE hS => ?_)
  refine (show WM C ad n I J R 0 0 0 [(0, vr l0)] [] from ?_)
  unfold P3_empty at hw
  refine wm_aload_n hC 0 dX3_empty_0 rfl (k_ne0 hk0 (by decide)) ?_
  refine x_getR2 hC 0 fl_X3_9 rfl hk0 dX3_empty_1 hw (fun g1 hw => ?_)
  refine wm_iconst hC dX3_empty_4 (k := ?_)
  refine y_callS_v_I hC hRm noS ml_X3_52 (CJ7_fill_53178 g1 hw) (Nat.le_of_ble_eq_true rfl) (Nat.le_of_ble_eq_true rfl) ⟨Nat.zero_le _, Nat.zero_le _⟩ rfl (st := []) rfl (Nat.le_of_ble_eq_true rfl) dX3_empty_5 (fun I1 hw => ?_)
  refine wm_aload_n hC 0 dX3_empty_8 rfl (k_ne0 hk0 (by decide)) ?_
  refine x_getR2 hC 3 fl_X3_21 rfl hk0 dX3_empty_9 hw (fun g2 hw => ?_)
  refine wm_iconst hC dX3_empty_12 (k := ?_)
  refine y_callS_v_I hC hRm noS ml_X3_52 (CJ7_fill_53178 g2 hw) (Nat.le_of_ble_eq_true rfl) (Nat.le_of_ble_eq_true rfl) ⟨Nat.zero_le _, Nat.zero_le _⟩ rfl (st := []) rfl (Nat.le_of_ble_eq_true rfl) dX3_empty_13 (fun I2 hw => ?_)
  refine wm_aload_n hC 0 dX3_empty_16 rfl (k_ne0 hk0 (by decide)) ?_
  refine x_getR2 hC 4 fl_X3_24 rfl hk0 dX3_empty_17 hw (fun g3 hw => ?_)
  refine wm_iconst hC dX3_empty_20 (k := ?_)
  refine y_callS_v_I hC hRm noS ml_X3_52 (CJ7_fill_53178 g3 hw) (Nat.le_of_ble_eq_true rfl) (Nat.le_of_ble_eq_true rfl) ⟨Nat.zero_le _, Nat.zero_le _⟩ rfl (st := []) rfl (Nat.le_of_ble_eq_true rfl) dX3_empty_21 (fun I3 hw => ?_)
  refine wm_aload_n hC 0 dX3_empty_24 rfl (k_ne0 hk0 (by decide)) ?_
  refine x_getR2 hC 6 fl_X3_30 rfl hk0 dX3_empty_25 hw (fun g4 hw => ?_)
  refine wm_iconst hC dX3_empty_28 (k := ?_)
  refine y_callS_v_I hC hRm noS ml_X3_52 (CJ7_fill_53178 g4 hw) (Nat.le_of_ble_eq_true rfl) (Nat.le_of_ble_eq_true rfl) ⟨Nat.zero_le _, Nat.zero_le _⟩ rfl (st := []) rfl (Nat.le_of_ble_eq_true rfl) dX3_empty_29 (fun I4 hw => ?_)
  refine wm_aload_n hC 0 dX3_empty_32 rfl (k_ne0 hk0 (by decide)) ?_
  refine x_getR2 hC 7 fl_X3_33 rfl hk0 dX3_empty_33 hw (fun g5 hw => ?_)
  refine wm_iconst hC dX3_empty_36 (k := ?_)
  refine y_callS_v_I hC hRm noS ml_X3_52 (CJ7_fill_53178 g5 hw) (Nat.le_of_ble_eq_true rfl) (Nat.le_of_ble_eq_true rfl) ⟨Nat.zero_le _, Nat.zero_le _⟩ rfl (st := []) rfl (Nat.le_of_ble_eq_true rfl) dX3_empty_37 (fun I5 hw => ?_)
  refine wm_aload_n hC 0 dX3_empty_40 rfl (k_ne0 hk0 (by decide)) ?_
  refine wm_iconst hC dX3_empty_41 (k := ?_)
  refine x_putI hC 8 fl_X3_36 rfl hk0 dX3_empty_42 hw (fun I6 hw => ?_)
  refine wm_aload_n hC 0 dX3_empty_45 rfl (k_ne0 hk0 (by decide)) ?_
  refine wm_iconst hC dX3_empty_46 (k := ?_)
  refine x_putI hC 9 fl_X3_40 rfl hk0 dX3_empty_47 hw (fun I7 hw => ?_)
  refine wm_aload_n hC 0 dX3_empty_50 rfl (k_ne0 hk0 (by decide)) ?_
  refine wm_iconst hC dX3_empty_51 (k := ?_)
  refine x_putI hC 10 fl_X3_43 rfl hk0 dX3_empty_52 hw (fun I8 hw => ?_)
  refine wm_aload_n hC 0 dX3_empty_55 rfl (k_ne0 hk0 (by decide)) ?_
  refine wm_iconst hC dX3_empty_56 (k := ?_)
  refine x_putI hC 11 fl_X3_46 rfl hk0 dX3_empty_57 hw (fun I9 hw => ?_)
  exact wm_return hC hE dX3_empty_60 ⟨⟨rfl, rfl⟩, hw⟩
def PJ6_bitCount_0f7a4 (l0 : Int)  (Q : Int → Prop) : Prop := (rg (l0 - (bAnd (bUshr l0 1) 1431655765)) ∧ (wLet (l0 - (bAnd (bUshr l0 1) 1431655765)) (fun x1 => (rg ((bAnd x1 858993459) + (bAnd (bUshr x1 2) 858993459)) ∧ (wLet ((bAnd x1 858993459) + (bAnd (bUshr x1 2) 858993459)) (fun x2 => (rg (x2 + (bUshr x2 4)) ∧ (wLet (bAnd (x2 + (bUshr x2 4)) 252645135) (fun x3 => (rg (x3 + (bUshr x3 8)) ∧ (rg ((x3 + (bUshr x3 8)) + (bUshr (x3 + (bUshr x3 8)) 16)) ∧ (wLet ((x3 + (bUshr x3 8)) + (bUshr (x3 + (bUshr x3 8)) 16)) (fun x4 => (Q (bAnd x4 63)))))))))))))))
set_option maxRecDepth 20000 in
theorem CJ6_bitCount_0f7a4 {ad : Nat → Nat} {n : Nat} {I J : mI} {R : mR} {Q : Int → Prop}  {l0 : Int}  (hw : PJ6_bitCount_0f7a4 l0 Q) : wMet yJ6_bitCount_0f7a4 cJ6_bitCount_0f7a4 1 (some .int) 1 12 false ad n I J R [vi l0] (fun r I' J' R' => (I' = I ∧ J' = J ∧ R' = R) ∧ Q r) := by
  refine wMet_of (by decide) (Nat.le_of_ble_eq_true rfl) (fun C hC hRm hE hS => ?_)
  refine (show WM C ad n I J R 0 0 0 [(0, vi l0)] [] from ?_)
  unfold PJ6_bitCount_0f7a4 at hw
  refine wm_iload_n hC 0 dJ6_bitCount_0f7a4_0 rfl ?_
  refine wm_iload_n hC 0 dJ6_bitCount_0f7a4_1 rfl ?_
  refine wm_iconst hC dJ6_bitCount_0f7a4_2 (k := ?_)
  refine wm_iushr2 hC dJ6_bitCount_0f7a4_3 ?_
  refine wm_ldcw hC (x := 1431655765) tc_J6_265 rfl dJ6_bitCount_0f7a4_4 (k := ?_)
  refine wm_iand hC dJ6_bitCount_0f7a4_7 ?_
  refine x_isub hC dJ6_bitCount_0f7a4_8 hw (fun hw => ?_)
  refine x_nameI hw (fun x1 hw => ?_)
  refine wm_istore_n hC dJ6_bitCount_0f7a4_9 (by decide) (L2 := [(0, vi x1)]) rfl ?_
  refine wm_iload_n hC 0 dJ6_bitCount_0f7a4_10 rfl ?_
  refine wm_ldcw hC (x := 858993459) tc_J6_266 rfl dJ6_bitCount_0f7a4_11 (k := ?_)
  refine wm_iand hC dJ6_bitCount_0f7a4_14 ?_
  refine wm_iload_n hC 0 dJ6_bitCount_0f7a4_15 rfl ?_
  refine wm_iconst hC dJ6_bitCount_0f7a4_16 (k := ?_)
  refine wm_iushr2 hC dJ6_bitCount_0f7a4_17 ?_
  refine wm_ldcw hC (x := 858993459) tc_J6_266 rfl dJ6_bitCount_0f7a4_18 (k := ?_)
  refine wm_iand hC dJ6_bitCount_0f7a4_21 ?_
  refine x_iadd hC dJ6_bitCount_0f7a4_22 hw (fun hw => ?_)
  refine x_nameI hw (fun x2 hw => ?_)
  refine wm_istore_n hC dJ6_bitCount_0f7a4_23 (by decide) (L2 := [(0, vi x2)]) rfl ?_
  refine wm_iload_n hC 0 dJ6_bitCount_0f7a4_24 rfl ?_
  refine wm_iload_n hC 0 dJ6_bitCount_0f7a4_25 rfl ?_
  refine wm_iconst hC dJ6_bitCount_0f7a4_26 (k := ?_)
  refine wm_iushr2 hC dJ6_bitCount_0f7a4_27 ?_
  refine x_iadd hC dJ6_bitCount_0f7a4_28 hw (fun hw => ?_)
  refine wm_ldcw hC (x := 252645135) tc_J6_267 rfl dJ6_bitCount_0f7a4_29 (k := ?_)
  refine wm_iand hC dJ6_bitCount_0f7a4_32 ?_
  refine x_nameI hw (fun x3 hw => ?_)
  refine wm_istore_n hC dJ6_bitCount_0f7a4_33 (by decide) (L2 := [(0, vi x3)]) rfl ?_
  refine wm_iload_n hC 0 dJ6_bitCount_0f7a4_34 rfl ?_
  refine wm_iload_n hC 0 dJ6_bitCount_0f7a4_35 rfl ?_
  refine wm_bipush hC dJ6_bitCount_0f7a4_36 (k := ?_)
  refine wm_iushr2 hC dJ6_bitCount_0f7a4_38 ?_
  refine x_iadd hC dJ6_bitCount_0f7a4_39 hw (fun hw => ?_)
  refine wm_istore_n hC dJ6_bitCount_0f7a4_40 (by decide) (L2 := [(0, vi (x3 + (bUshr x3 8)))]) rfl ?_
  refine wm_iload_n hC 0 dJ6_bitCount_0f7a4_41 rfl ?_
  refine wm_iload_n hC 0 dJ6_bitCount_0f7a4_42 rfl ?_
  refine wm_bipush hC dJ6_bitCount_0f7a4_43 (k := ?_)
  refine wm_iushr2 hC dJ6_bitCount_0f7a4_45 ?_
  refine x_iadd hC dJ6_bitCount_0f7a4_46 hw (fun hw => ?_)
  refine x_nameI hw (fun x4 hw => ?_)
  refine wm_istore_n hC dJ6_bitCount_0f7a4_47 (by decide) (L2 := [(0, vi x4)]) rfl ?_
  refine wm_iload_n hC 0 dJ6_bitCount_0f7a4_48 rfl ?_
  refine wm_bipush hC dJ6_bitCount_0f7a4_49 (k := ?_)
  refine wm_iand hC dJ6_bitCount_0f7a4_51 ?_
  exact wm_ireturn hC hE dJ6_bitCount_0f7a4_52 ⟨⟨rfl, rfl, rfl⟩, hw⟩
def PJ0_isLatin1_aae02 (l0 : Nat)  (Q : Int → Prop) : Prop := (if (1 : Int) = 0 then (Q 0) else (if (0 : Int) = 0 then (Q 1) else (Q 0)))
set_option maxRecDepth 20000 in
theorem CJ0_isLatin1_aae02 {ad : Nat → Nat} {n : Nat} {I J : mI} {R : mR} {Q : Int → Prop}  {l0 : Nat} (hk0 : sK l0) (hw : PJ0_isLatin1_aae02 l0 Q) : wMet yJ0_isLatin1_aae02 cJ0_isLatin1_aae02 1 (some .boolean) 1 12 true ad n I J R [vr l0] (fun r I' J' R' => (I' = I ∧ J' = J ∧ R' = R) ∧ Q r) := by
  refine wMet_of (by decide) (Nat.le_of_ble_eq_true rfl) (fun C hC hRm hE hS => ?_)
  have hStr := hS rfl
  refine (show WM C ad n I J R 0 0 0 [(0, vr l0)] [] from ?_)
  unfold PJ0_isLatin1_aae02 at hw
  refine wm_compact hC hStr sw_J0_38 dJ0_isLatin1_aae02_0 ?_
  refine wm_if_eq (tgt := 17) hC dJ0_isLatin1_aae02_3 (by decide) hw (fun hw => ?_) (fun hw => ?_)
  · refine wm_iconst hC dJ0_isLatin1_aae02_17 (k := ?_)
    exact wm_zreturn hC hE (Or.inl rfl) dJ0_isLatin1_aae02_18 ⟨⟨rfl, rfl, rfl⟩, hw⟩
  · refine wm_aload_n hC 0 dJ0_isLatin1_aae02_6 rfl (s_ne0 hk0) ?_
    refine wm_sgetC hC hStr hk0 sw_J0_15 dJ0_isLatin1_aae02_7 ?_
    refine wm_if_ne (tgt := 17) hC dJ0_isLatin1_aae02_10 (by decide) hw (fun hw => ?_) (fun hw => ?_)
    · refine wm_iconst hC dJ0_isLatin1_aae02_13 (k := ?_)
      refine wm_goto (tgt := 18) hC dJ0_isLatin1_aae02_14 (by decide) ?_
      exact wm_zreturn hC hE (Or.inr rfl) dJ0_isLatin1_aae02_18 ⟨⟨rfl, rfl, rfl⟩, hw⟩
    · refine wm_iconst hC dJ0_isLatin1_aae02_17 (k := ?_)
      exact wm_zreturn hC hE (Or.inl rfl) dJ0_isLatin1_aae02_18 ⟨⟨rfl, rfl, rfl⟩, hw⟩
def PJ0_coder_7d493 (l0 : Nat)  (Q : Int → Prop) : Prop := (if (1 : Int) = 0 then False else (Q 0))
set_option maxRecDepth 20000 in
theorem CJ0_coder_7d493 {ad : Nat → Nat} {n : Nat} {I J : mI} {R : mR} {Q : Int → Prop}  {l0 : Nat} (hk0 : sK l0) (hw : PJ0_coder_7d493 l0 Q) : wMet yJ0_coder_7d493 cJ0_coder_7d493 1 (some .byte) 1 12 true ad n I J R [vr l0] (fun r I' J' R' => (I' = I ∧ J' = J ∧ R' = R) ∧ Q r) := by
  refine wMet_of (by decide) (Nat.le_of_ble_eq_true rfl) (fun C hC hRm hE hS => ?_)
  have hStr := hS rfl
  refine (show WM C ad n I J R 0 0 0 [(0, vr l0)] [] from ?_)
  unfold PJ0_coder_7d493 at hw
  refine wm_compact hC hStr sw_J0_38 dJ0_coder_7d493_0 ?_
  refine wm_if_eq (tgt := 13) hC dJ0_coder_7d493_3 (by decide) hw (fun hw => ?_) (fun hw => ?_)
  · refine wm_iconst hC dJ0_coder_7d493_13 (k := ?_)
    exact hw.elim
  · refine wm_aload_n hC 0 dJ0_coder_7d493_6 rfl (s_ne0 hk0) ?_
    refine wm_sgetC hC hStr hk0 sw_J0_15 dJ0_coder_7d493_7 ?_
    refine wm_goto (tgt := 14) hC dJ0_coder_7d493_10 (by decide) ?_
    exact wm_breturn hC hE dJ0_coder_7d493_14 ⟨⟨rfl, rfl, rfl⟩, hw⟩
def PJ0_length_8abf5 (l0 : Nat)  (Q : Int → Prop) : Prop := (PJ0_coder_7d493 l0 (fun r1 => (Q (bShr (sN (l0 + 10) : Int) r1))))
set_option maxRecDepth 20000 in
theorem CJ0_length_8abf5 {ad : Nat → Nat} {n : Nat} {I J : mI} {R : mR} {Q : Int → Prop}  {l0 : Nat} (hk0 : sK l0) (hw : PJ0_length_8abf5 l0 Q) : wMet yJ0_length_8abf5 cJ0_length_8abf5 1 (some .int) 2 32 true ad n I J R [vr l0] (fun r I' J' R' => (I' = I ∧ J' = J ∧ R' = R) ∧ Q r) := by
  refine wMet_of (by decide) (Nat.le_of_ble_eq_true rfl) (fun C hC hRm hE hS => ?_)
  have hStr := hS rfl
  refine (show WM C ad n I J R 0 0 0 [(0, vr l0)] [] from ?_)
  unfold PJ0_length_8abf5 at hw
  refine wm_aload_n hC 0 dJ0_length_8abf5_0 rfl (s_ne0 hk0) ?_
  refine wm_sgetV hC hStr hk0 sw_J0_9 dJ0_length_8abf5_1 ?_
  refine wm_salen hC hStr (s_arr hk0) dJ0_length_8abf5_4 ?_
  refine wm_aload_n hC 0 dJ0_length_8abf5_5 rfl (s_ne0 hk0) ?_
  refine y_callT hC hRm hStr ml_J0_335 hk0 (CJ0_coder_7d493 hk0 hw) (by decide) (Nat.le_of_ble_eq_true rfl) (Nat.le_of_ble_eq_true rfl) ⟨Nat.zero_le _, Nat.zero_le _⟩ rfl (st := [vi (sN (l0 + 10) : Int)]) rfl (Nat.le_of_ble_eq_true rfl) dJ0_length_8abf5_6 (fun r1 hw => ?_)
  refine wm_ishr hC dJ0_length_8abf5_9 ?_
  exact wm_ireturn hC hE dJ0_length_8abf5_10 ⟨⟨rfl, rfl, rfl⟩, hw⟩
def PJ1_canEncode_9a6ad (l0 : Int)  (Q : Int → Prop) : Prop := (if l0 < 0 then (Q 0) else (if (255 : Int) < l0 then (Q 0) else (Q 1)))
set_option maxRecDepth 20000 in
theorem CJ1_canEncode_9a6ad {ad : Nat → Nat} {n : Nat} {I J : mI} {R : mR} {Q : Int → Prop}  {l0 : Int}  (hw : PJ1_canEncode_9a6ad l0 Q) : wMet yJ1_canEncode_9a6ad cJ1_canEncode_9a6ad 1 (some .boolean) 1 12 false ad n I J R [vi l0] (fun r I' J' R' => (I' = I ∧ J' = J ∧ R' = R) ∧ Q r) := by
  refine wMet_of (by decide) (Nat.le_of_ble_eq_true rfl) (fun C hC hRm hE hS => ?_)
  refine (show WM C ad n I J R 0 0 0 [(0, vi l0)] [] from ?_)
  unfold PJ1_canEncode_9a6ad at hw
  refine wm_iload_n hC 0 dJ1_canEncode_9a6ad_0 rfl ?_
  refine wm_if_lt (tgt := 15) hC dJ1_canEncode_9a6ad_1 (by decide) hw (fun hw => ?_) (fun hw => ?_)
  · refine wm_iconst hC dJ1_canEncode_9a6ad_15 (k := ?_)
    exact wm_zreturn hC hE (Or.inl rfl) dJ1_canEncode_9a6ad_16 ⟨⟨rfl, rfl, rfl⟩, hw⟩
  · refine wm_iload_n hC 0 dJ1_canEncode_9a6ad_4 rfl ?_
    refine wm_sipush hC dJ1_canEncode_9a6ad_5 (k := ?_)
    refine wm_icmp_gt (tgt := 15) hC dJ1_canEncode_9a6ad_8 (by decide) hw (fun hw => ?_) (fun hw => ?_)
    · refine wm_iconst hC dJ1_canEncode_9a6ad_15 (k := ?_)
      exact wm_zreturn hC hE (Or.inl rfl) dJ1_canEncode_9a6ad_16 ⟨⟨rfl, rfl, rfl⟩, hw⟩
    · refine wm_iconst hC dJ1_canEncode_9a6ad_11 (k := ?_)
      refine wm_goto (tgt := 16) hC dJ1_canEncode_9a6ad_12 (by decide) ?_
      exact wm_zreturn hC hE (Or.inr rfl) dJ1_canEncode_9a6ad_16 ⟨⟨rfl, rfl, rfl⟩, hw⟩
def PJ1_indexOfChar_4cfef_b7_body (l0 : Nat) (l3 : Int) (l4 : Int) (Q : Int → Prop) (k7 : Int → Prop) (l5 : Int) : Prop := (if l3 ≤ l5 then (Q (-1)) else (((0 : Int) ≤ l5 ∧ l5 < (sN l0 : Int)) ∧ (if (sB l0 l5) = l4 then (Q l5) else (rg (l5 + 1) ∧ (k7 (l5 + 1))))))
def PJ1_indexOfChar_4cfef_b7 (l0 : Nat) (l3 : Int) (l4 : Int) (Q : Int → Prop) : Nat → Int → Prop
  | 0 => fun _ => False
  | f + 1 => fun l5 => PJ1_indexOfChar_4cfef_b7_body l0 l3 l4 Q (PJ1_indexOfChar_4cfef_b7 l0 l3 l4 Q f) l5
set_option maxRecDepth 20000 in
theorem WJ1_indexOfChar_4cfef_b7_body {C : wX} {ad : Nat → Nat} {n : Nat} {I J : mI} {R : mR} {Q : Int → Prop} (hC : wOK C cJ1_indexOfChar_4cfef 6 RJ1) (hRm : wRm C 1 12 0 0) (hE : wEnd C (some .int) ad n (fun r I' J' R' => (I' = I ∧ J' = J ∧ R' = R) ∧ Q r)) (hStr : wStrC C ad) {l0 : Nat} {l3 : Int} {l4 : Int} {l5 : Int}   (hk0 : sA l0)  {k7 : Int → Prop} (kk7 : ∀ (y5 : Int), k7 y5 → WM C ad n I J R 0 0 7 [(0, vr l0), (3, vi l3), (4, vi l4), (5, vi y5)] []) (hw : PJ1_indexOfChar_4cfef_b7_body l0 l3 l4 Q k7 l5) : WM C ad n I J R 0 0 7 [(0, vr l0), (3, vi l3), (4, vi l4), (5, vi l5)] [] := by
  unfold PJ1_indexOfChar_4cfef_b7_body at hw
  refine wm_iload hC 3 dJ1_indexOfChar_4cfef_7 rfl ?_
  refine wm_iload_n hC 1 dJ1_indexOfChar_4cfef_9 rfl ?_
  refine wm_icmp_ge (tgt := 31) hC dJ1_indexOfChar_4cfef_10 (by decide) hw (fun hw => ?_) (fun hw => ?_)
  · refine wm_iconst hC dJ1_indexOfChar_4cfef_31 (k := ?_)
    exact wm_ireturn hC hE dJ1_indexOfChar_4cfef_32 ⟨⟨rfl, rfl, rfl⟩, hw⟩
  · refine wm_aload_n hC 0 dJ1_indexOfChar_4cfef_13 rfl (a_ne0 hk0) ?_
    refine wm_iload hC 3 dJ1_indexOfChar_4cfef_14 rfl ?_
    refine wm_sbald hC hStr hk0 dJ1_indexOfChar_4cfef_16 hw (fun hw => ?_)
    refine wm_iload hC 2 dJ1_indexOfChar_4cfef_17 rfl ?_
    refine wm_icmp_ne (tgt := 25) hC dJ1_indexOfChar_4cfef_19 (by decide) hw (fun hw => ?_) (fun hw => ?_)
    · refine wm_iload hC 3 dJ1_indexOfChar_4cfef_22 rfl ?_
      exact wm_ireturn hC hE dJ1_indexOfChar_4cfef_24 ⟨⟨rfl, rfl, rfl⟩, hw⟩
    · refine x_iinc hC 3 dJ1_indexOfChar_4cfef_25 rfl (by decide) (L2 := [(5, vi (l5 + 1)), (0, vr l0), (3, vi l3), (4, vi l4)]) rfl hw (fun hw => ?_)
      refine wm_goto (tgt := 7) hC dJ1_indexOfChar_4cfef_28 (by decide) ?_
      refine wm_sub [1, 2, 3, 0] (L2 := [(0, vr l0), (3, vi l3), (4, vi l4), (5, vi (l5 + 1))]) rfl ?_
      exact kk7 _ hw
set_option maxRecDepth 20000 in
theorem WJ1_indexOfChar_4cfef_b7 {C : wX} {ad : Nat → Nat} {n : Nat} {I J : mI} {R : mR} {Q : Int → Prop} (hC : wOK C cJ1_indexOfChar_4cfef 6 RJ1) (hRm : wRm C 1 12 0 0) (hE : wEnd C (some .int) ad n (fun r I' J' R' => (I' = I ∧ J' = J ∧ R' = R) ∧ Q r)) (hStr : wStrC C ad) {l0 : Nat} {l3 : Int} {l4 : Int}   (hk0 : sA l0)  : ∀ (f : Nat) (l5 : Int), PJ1_indexOfChar_4cfef_b7 l0 l3 l4 Q f l5 → WM C ad n I J R 0 0 7 [(0, vr l0), (3, vi l3), (4, vi l4), (5, vi l5)] [] := by
  intro f
  induction f with
  | zero => intro l5 hw; exact hw.elim
  | succ f ih => intro l5 hw; exact WJ1_indexOfChar_4cfef_b7_body hC hRm hE hStr hk0 (fun a0 hw => ih a0 hw) hw
def PJ1_indexOfChar_4cfef (l0 : Nat) (l1 : Int) (l2 : Int) (l3 : Int)  (Q : Int → Prop) : Prop := (∃ f, PJ1_indexOfChar_4cfef_b7 l0 l3 (nB l1) Q f l2)
set_option maxRecDepth 20000 in
theorem CJ1_indexOfChar_4cfef {ad : Nat → Nat} {n : Nat} {I J : mI} {R : mR} {Q : Int → Prop}  {l0 : Nat} {l1 : Int} {l2 : Int} {l3 : Int} (hk0 : sA l0) (hw : PJ1_indexOfChar_4cfef l0 l1 l2 l3 Q) : wMet yJ1_indexOfChar_4cfef cJ1_indexOfChar_4cfef 6 (some .int) 1 12 true ad n I J R [vr l0, vi l1, vi l2, vi l3] (fun r I' J' R' => (I' = I ∧ J' = J ∧ R' = R) ∧ Q r) := by
  refine wMet_of (by decide) (Nat.le_of_ble_eq_true rfl) (fun C hC hRm hE hS => ?_)
  have hStr := hS rfl
  refine (show WM C ad n I J R 0 0 0 [(0, vr l0), (1, vi l1), (2, vi l2), (3, vi l3)] [] from ?_)
  unfold PJ1_indexOfChar_4cfef at hw
  refine wm_iload_n hC 1 dJ1_indexOfChar_4cfef_0 rfl ?_
  refine wm_i2b hC dJ1_indexOfChar_4cfef_1 ?_
  refine wm_istore hC dJ1_indexOfChar_4cfef_2 (by decide) (L2 := [(4, vi (nB l1)), (0, vr l0), (1, vi l1), (2, vi l2), (3, vi l3)]) rfl ?_
  refine wm_iload_n hC 3 dJ1_indexOfChar_4cfef_4 rfl ?_
  refine wm_istore hC dJ1_indexOfChar_4cfef_5 (by decide) (L2 := [(5, vi l2), (4, vi (nB l1)), (0, vr l0), (1, vi l1), (2, vi l2), (3, vi l3)]) rfl ?_
  obtain ⟨f, hw⟩ := hw
  refine wm_sub [2, 5, 1, 0] (L2 := [(0, vr l0), (3, vi l3), (4, vi (nB l1)), (5, vi l2)]) rfl ?_
  exact WJ1_indexOfChar_4cfef_b7 hC hRm hE hStr hk0 f _ hw
def PJ1_indexOf_4cfef (l0 : Nat) (l1 : Int) (l2 : Int) (l3 : Int)  (Q : Int → Prop) : Prop := (PJ1_canEncode_9a6ad l1 (fun r1 => (if r1 = 0 then (Q (-1)) else (wLet (if l2 < 0 then 0 else l2) (fun x1 => (wLet (if (sN l0 : Int) < l3 then (sN l0 : Int) else l3) (fun x2 => (if x1 < x2 then (PJ1_indexOfChar_4cfef l0 l1 x1 x2 (fun r2 => (Q r2))) else (Q (-1))))))))))
set_option maxRecDepth 20000 in
theorem CJ1_indexOf_4cfef {ad : Nat → Nat} {n : Nat} {I J : mI} {R : mR} {Q : Int → Prop}  {l0 : Nat} {l1 : Int} {l2 : Int} {l3 : Int} (hk0 : sA l0) (hw : PJ1_indexOf_4cfef l0 l1 l2 l3 Q) : wMet yJ1_indexOf_4cfef cJ1_indexOf_4cfef 4 (some .int) 2 37 true ad n I J R [vr l0, vi l1, vi l2, vi l3] (fun r I' J' R' => (I' = I ∧ J' = J ∧ R' = R) ∧ Q r) := by
  refine wMet_of (by decide) (Nat.le_of_ble_eq_true rfl) (fun C hC hRm hE hS => ?_)
  have hStr := hS rfl
  refine (show WM C ad n I J R 0 0 0 [(0, vr l0), (1, vi l1), (2, vi l2), (3, vi l3)] [] from ?_)
  unfold PJ1_indexOf_4cfef at hw
  refine wm_iload_n hC 1 dJ1_indexOf_4cfef_0 rfl ?_
  refine y_callS_z_n hC hRm noS ml_J1_88 (CJ1_canEncode_9a6ad  hw) (Nat.le_of_ble_eq_true rfl) (Nat.le_of_ble_eq_true rfl) ⟨Nat.zero_le _, Nat.zero_le _⟩ rfl (st := []) rfl (Nat.le_of_ble_eq_true rfl) dJ1_indexOf_4cfef_1 (fun r1 hw => ?_)
  refine wm_if_ne (tgt := 9) hC dJ1_indexOf_4cfef_4 (by decide) hw (fun hw => ?_) (fun hw => ?_)
  · refine wm_iconst hC dJ1_indexOf_4cfef_7 (k := ?_)
    exact wm_ireturn hC hE dJ1_indexOf_4cfef_8 ⟨⟨rfl, rfl, rfl⟩, hw⟩
  · refine wm_iload_n hC 2 dJ1_indexOf_4cfef_9 rfl ?_
    refine wm_iconst hC dJ1_indexOf_4cfef_10 (k := ?_)
    refine x_mmax hC hRm (st := []) ml_J1_92 (Nat.le_of_ble_eq_true rfl) (Nat.le_of_ble_eq_true rfl) (Nat.le_of_ble_eq_true rfl) dJ1_indexOf_4cfef_11 hw (fun x1 hw => ?_)
    refine wm_istore_n hC dJ1_indexOf_4cfef_14 (by decide) (L2 := [(2, vi x1), (0, vr l0), (1, vi l1), (3, vi l3)]) rfl ?_
    refine wm_iload_n hC 3 dJ1_indexOf_4cfef_15 rfl ?_
    refine wm_aload_n hC 1 dJ1_indexOf_4cfef_16 rfl (a_ne0 hk0) ?_
    refine wm_salen hC hStr hk0 dJ1_indexOf_4cfef_17 ?_
    refine x_mmin hC hRm (st := []) ml_J1_38 (Nat.le_of_ble_eq_true rfl) (Nat.le_of_ble_eq_true rfl) (Nat.le_of_ble_eq_true rfl) dJ1_indexOf_4cfef_18 hw (fun x2 hw => ?_)
    refine wm_istore_n hC dJ1_indexOf_4cfef_21 (by decide) (L2 := [(3, vi x2), (2, vi x1), (0, vr l0), (1, vi l1)]) rfl ?_
    refine wm_iload_n hC 1 dJ1_indexOf_4cfef_22 rfl ?_
    refine wm_iload_n hC 0 dJ1_indexOf_4cfef_23 rfl ?_
    refine wm_icmp_lt (tgt := 29) hC dJ1_indexOf_4cfef_24 (by decide) hw (fun hw => ?_) (fun hw => ?_)
    · refine wm_aload_n hC 2 dJ1_indexOf_4cfef_29 rfl (a_ne0 hk0) ?_
      refine wm_iload_n hC 3 dJ1_indexOf_4cfef_30 rfl ?_
      refine wm_iload_n hC 1 dJ1_indexOf_4cfef_31 rfl ?_
      refine wm_iload_n hC 0 dJ1_indexOf_4cfef_32 rfl ?_
      refine y_callS_i_n hC hRm (fun _ => hStr) ml_J1_95 (CJ1_indexOfChar_4cfef hk0 hw) (Nat.le_of_ble_eq_true rfl) (Nat.le_of_ble_eq_true rfl) ⟨Nat.zero_le _, Nat.zero_le _⟩ rfl (st := []) rfl (Nat.le_of_ble_eq_true rfl) dJ1_indexOf_4cfef_33 (fun r2 hw => ?_)
      exact wm_ireturn hC hE dJ1_indexOf_4cfef_36 ⟨⟨rfl, rfl, rfl⟩, hw⟩
    · refine wm_iconst hC dJ1_indexOf_4cfef_27 (k := ?_)
      exact wm_ireturn hC hE dJ1_indexOf_4cfef_28 ⟨⟨rfl, rfl, rfl⟩, hw⟩
def PJ0_indexOf_7cf53 (l0 : Nat) (l1 : Int) (l2 : Int)  (Q : Int → Prop) : Prop := (PJ0_isLatin1_aae02 l0 (fun r1 => (if r1 = 0 then False else (PJ0_length_8abf5 l0 (fun r2 => (PJ1_indexOf_4cfef (l0 + 10) l1 l2 r2 (fun r3 => (Q r3))))))))
set_option maxRecDepth 20000 in
theorem CJ0_indexOf_7cf53 {ad : Nat → Nat} {n : Nat} {I J : mI} {R : mR} {Q : Int → Prop}  {l0 : Nat} {l1 : Int} {l2 : Int} (hk0 : sK l0) (hw : PJ0_indexOf_7cf53 l0 l1 l2 Q) : wMet yJ0_indexOf_7cf53 cJ0_indexOf_7cf53 3 (some .int) 3 60 true ad n I J R [vr l0, vi l1, vi l2] (fun r I' J' R' => (I' = I ∧ J' = J ∧ R' = R) ∧ Q r) := by
  refine wMet_of (by decide) (Nat.le_of_ble_eq_true rfl) (fun C hC hRm hE hS => ?_)
  have hStr := hS rfl
  refine (show WM C ad n I J R 0 0 0 [(0, vr l0), (1, vi l1), (2, vi l2)] [] from ?_)
  unfold PJ0_indexOf_7cf53 at hw
  refine wm_aload_n hC 0 dJ0_indexOf_7cf53_0 rfl (s_ne0 hk0) ?_
  refine y_callT hC hRm hStr ml_J0_492 hk0 (CJ0_isLatin1_aae02 hk0 hw) (by decide) (Nat.le_of_ble_eq_true rfl) (Nat.le_of_ble_eq_true rfl) ⟨Nat.zero_le _, Nat.zero_le _⟩ rfl (st := []) rfl (Nat.le_of_ble_eq_true rfl) dJ0_indexOf_7cf53_1 (fun r1 hw => ?_)
  refine wm_if_eq (tgt := 23) hC dJ0_indexOf_7cf53_4 (by decide) hw (fun hw => ?_) (fun hw => ?_)
  · exact hw.elim
  · refine wm_aload_n hC 0 dJ0_indexOf_7cf53_7 rfl (s_ne0 hk0) ?_
    refine wm_sgetV hC hStr hk0 sw_J0_9 dJ0_indexOf_7cf53_8 ?_
    refine wm_iload_n hC 1 dJ0_indexOf_7cf53_11 rfl ?_
    refine wm_iload_n hC 2 dJ0_indexOf_7cf53_12 rfl ?_
    refine wm_aload_n hC 0 dJ0_indexOf_7cf53_13 rfl (s_ne0 hk0) ?_
    refine y_callT hC hRm hStr ml_J0_505 hk0 (CJ0_length_8abf5 hk0 hw) (by decide) (Nat.le_of_ble_eq_true rfl) (Nat.le_of_ble_eq_true rfl) ⟨Nat.zero_le _, Nat.zero_le _⟩ rfl (st := [vi l2, vi l1, vr (l0 + 10)]) rfl (Nat.le_of_ble_eq_true rfl) dJ0_indexOf_7cf53_14 (fun r2 hw => ?_)
    refine y_callS_i_n hC hRm (fun _ => hStr) ml_J0_637 (CJ1_indexOf_4cfef (s_arr hk0) hw) (Nat.le_of_ble_eq_true rfl) (Nat.le_of_ble_eq_true rfl) ⟨Nat.zero_le _, Nat.zero_le _⟩ rfl (st := []) rfl (Nat.le_of_ble_eq_true rfl) dJ0_indexOf_7cf53_17 (fun r3 hw => ?_)
    refine wm_goto (tgt := 36) hC dJ0_indexOf_7cf53_20 (by decide) ?_
    exact wm_ireturn hC hE dJ0_indexOf_7cf53_36 ⟨⟨rfl, rfl, rfl⟩, hw⟩
def PJ0_indexOf_0f7a4 (l0 : Nat) (l1 : Int)  (Q : Int → Prop) : Prop := (PJ0_indexOf_7cf53 l0 l1 0 (fun r1 => (Q r1)))
set_option maxRecDepth 20000 in
theorem CJ0_indexOf_0f7a4 {ad : Nat → Nat} {n : Nat} {I J : mI} {R : mR} {Q : Int → Prop}  {l0 : Nat} {l1 : Int} (hk0 : sK l0) (hw : PJ0_indexOf_0f7a4 l0 l1 Q) : wMet yJ0_indexOf_0f7a4 cJ0_indexOf_0f7a4 2 (some .int) 4 82 true ad n I J R [vr l0, vi l1] (fun r I' J' R' => (I' = I ∧ J' = J ∧ R' = R) ∧ Q r) := by
  refine wMet_of (by decide) (Nat.le_of_ble_eq_true rfl) (fun C hC hRm hE hS => ?_)
  have hStr := hS rfl
  refine (show WM C ad n I J R 0 0 0 [(0, vr l0), (1, vi l1)] [] from ?_)
  unfold PJ0_indexOf_0f7a4 at hw
  refine wm_aload_n hC 0 dJ0_indexOf_0f7a4_0 rfl (s_ne0 hk0) ?_
  refine wm_iload_n hC 1 dJ0_indexOf_0f7a4_1 rfl ?_
  refine wm_iconst hC dJ0_indexOf_0f7a4_2 (k := ?_)
  refine y_callT hC hRm hStr ml_J0_633 hk0 (CJ0_indexOf_7cf53 hk0 hw) (by decide) (Nat.le_of_ble_eq_true rfl) (Nat.le_of_ble_eq_true rfl) ⟨Nat.zero_le _, Nat.zero_le _⟩ rfl (st := []) rfl (Nat.le_of_ble_eq_true rfl) dJ0_indexOf_0f7a4_3 (fun r1 hw => ?_)
  exact wm_ireturn hC hE dJ0_indexOf_0f7a4_6 ⟨⟨rfl, rfl, rfl⟩, hw⟩
def PJ3_checkIndex_8e157 (l0 : Int) (l1 : Int) (l2 : Nat)  (Q : Int → Prop) : Prop := (if l0 < 0 then False else (if l0 < l1 then (Q l0) else False))
set_option maxRecDepth 20000 in
theorem CJ3_checkIndex_8e157 {ad : Nat → Nat} {n : Nat} {I J : mI} {R : mR} {Q : Int → Prop}  {l0 : Int} {l1 : Int} {l2 : Nat}  (hw : PJ3_checkIndex_8e157 l0 l1 l2 Q) : wMet yJ3_checkIndex_8e157 cJ3_checkIndex_8e157 3 (some .int) 1 12 false ad n I J R [vi l0, vi l1, vr l2] (fun r I' J' R' => (I' = I ∧ J' = J ∧ R' = R) ∧ Q r) := by
  refine wMet_of (by decide) (Nat.le_of_ble_eq_true rfl) (fun C hC hRm hE hS => ?_)
  refine (show WM C ad n I J R 0 0 0 [(0, vi l0), (1, vi l1), (2, vr l2)] [] from ?_)
  unfold PJ3_checkIndex_8e157 at hw
  refine wm_iload_n hC 0 dJ3_checkIndex_8e157_0 rfl ?_
  refine wm_if_lt (tgt := 9) hC dJ3_checkIndex_8e157_1 (by decide) hw (fun hw => ?_) (fun hw => ?_)
  · exact hw.elim
  · refine wm_iload_n hC 0 dJ3_checkIndex_8e157_4 rfl ?_
    refine wm_iload_n hC 1 dJ3_checkIndex_8e157_5 rfl ?_
    refine wm_icmp_lt (tgt := 16) hC dJ3_checkIndex_8e157_6 (by decide) hw (fun hw => ?_) (fun hw => ?_)
    · refine wm_iload_n hC 0 dJ3_checkIndex_8e157_16 rfl ?_
      exact wm_ireturn hC hE dJ3_checkIndex_8e157_17 ⟨⟨rfl, rfl, rfl⟩, hw⟩
    · exact hw.elim
def PJ0_checkIndex_df160 (l0 : Int) (l1 : Int)  (Q : Prop) : Prop := (∀ a1 : Nat, (PJ3_checkIndex_8e157 l0 l1 a1 (fun r1 => Q)))
set_option maxRecDepth 20000 in
theorem CJ0_checkIndex_df160 {ad : Nat → Nat} {n : Nat} {I J : mI} {R : mR} {Q : Prop}  {l0 : Int} {l1 : Int}  (hw : PJ0_checkIndex_df160 l0 l1 Q) : wMet yJ0_checkIndex_df160 cJ0_checkIndex_df160 2 none 2 34 true ad n I J R [vi l0, vi l1] (fun _ I' J' R' => (I' = I ∧ J' = J ∧ R' = R) ∧ Q) := by
  refine wMet_of (by decide) (Nat.le_of_ble_eq_true rfl) (fun C hC hRm hE hS => ?_)
  have hStr := hS rfl
  refine (show WM C ad n I J R 0 0 0 [(0, vi l0), (1, vi l1)] [] from ?_)
  unfold PJ0_checkIndex_df160 at hw
  refine wm_iload_n hC 0 dJ0_checkIndex_df160_0 rfl ?_
  refine wm_iload_n hC 1 dJ0_checkIndex_df160_1 rfl ?_
  refine wm_formatter hC hStr sw_J0_1053 dJ0_checkIndex_df160_2 (fun a1 => ?_)
  replace hw := hw a1
  refine y_callS_i_n hC hRm noS ml_J0_1059 (CJ3_checkIndex_8e157  hw) (Nat.le_of_ble_eq_true rfl) (Nat.le_of_ble_eq_true rfl) ⟨Nat.zero_le _, Nat.zero_le _⟩ rfl (st := []) rfl (Nat.le_of_ble_eq_true rfl) dJ0_checkIndex_df160_5 (fun r1 hw => ?_)
  refine wm_pop hC dJ0_checkIndex_df160_8 (k := ?_)
  exact wm_return hC hE dJ0_checkIndex_df160_9 ⟨⟨rfl, rfl, rfl⟩, hw⟩
def PJ1_charAt_3b067 (l0 : Nat) (l1 : Int)  (Q : Int → Prop) : Prop := (PJ0_checkIndex_df160 l1 (sN l0 : Int) ((((0 : Int) ≤ l1 ∧ l1 < (sN l0 : Int)) ∧ (((0 : Int) ≤ (nC (bAnd (sB l0 l1) 255)) ∧ (nC (bAnd (sB l0 l1) 255)) < 65536) ∧ (Q (nC (bAnd (sB l0 l1) 255)))))))
set_option maxRecDepth 20000 in
theorem CJ1_charAt_3b067 {ad : Nat → Nat} {n : Nat} {I J : mI} {R : mR} {Q : Int → Prop}  {l0 : Nat} {l1 : Int} (hk0 : sA l0) (hw : PJ1_charAt_3b067 l0 l1 Q) : wMet yJ1_charAt_3b067 cJ1_charAt_3b067 2 (some .char) 3 55 true ad n I J R [vr l0, vi l1] (fun r I' J' R' => (I' = I ∧ J' = J ∧ R' = R) ∧ Q r) := by
  refine wMet_of (by decide) (Nat.le_of_ble_eq_true rfl) (fun C hC hRm hE hS => ?_)
  have hStr := hS rfl
  refine (show WM C ad n I J R 0 0 0 [(0, vr l0), (1, vi l1)] [] from ?_)
  unfold PJ1_charAt_3b067 at hw
  refine wm_iload_n hC 1 dJ1_charAt_3b067_0 rfl ?_
  refine wm_aload_n hC 0 dJ1_charAt_3b067_1 rfl (a_ne0 hk0) ?_
  refine wm_salen hC hStr hk0 dJ1_charAt_3b067_2 ?_
  refine y_callS_v_n hC hRm (fun _ => hStr) ml_J1_9 (CJ0_checkIndex_df160  hw) (Nat.le_of_ble_eq_true rfl) (Nat.le_of_ble_eq_true rfl) ⟨Nat.zero_le _, Nat.zero_le _⟩ rfl (st := []) rfl (Nat.le_of_ble_eq_true rfl) dJ1_charAt_3b067_3 (fun hw => ?_)
  refine wm_aload_n hC 0 dJ1_charAt_3b067_6 rfl (a_ne0 hk0) ?_
  refine wm_iload_n hC 1 dJ1_charAt_3b067_7 rfl ?_
  refine wm_sbald hC hStr hk0 dJ1_charAt_3b067_8 hw (fun hw => ?_)
  refine wm_sipush hC dJ1_charAt_3b067_9 (k := ?_)
  refine wm_iand hC dJ1_charAt_3b067_12 ?_
  refine wm_i2c hC dJ1_charAt_3b067_13 ?_
  obtain ⟨⟨c0, c1⟩, hw⟩ := hw
  exact wm_creturn hC hE c0 c1 dJ1_charAt_3b067_14 ⟨⟨rfl, rfl, rfl⟩, hw⟩
def PJ0_charAt_5068e (l0 : Nat) (l1 : Int)  (Q : Int → Prop) : Prop := (PJ0_isLatin1_aae02 l0 (fun r1 => (if r1 = 0 then False else (PJ1_charAt_3b067 (l0 + 10) l1 (fun r2 => (((0 : Int) ≤ r2 ∧ r2 < 65536) ∧ (Q r2)))))))
set_option maxRecDepth 20000 in
theorem CJ0_charAt_5068e {ad : Nat → Nat} {n : Nat} {I J : mI} {R : mR} {Q : Int → Prop}  {l0 : Nat} {l1 : Int} (hk0 : sK l0) (hw : PJ0_charAt_5068e l0 l1 Q) : wMet yJ0_charAt_5068e cJ0_charAt_5068e 2 (some .char) 4 76 true ad n I J R [vr l0, vi l1] (fun r I' J' R' => (I' = I ∧ J' = J ∧ R' = R) ∧ Q r) := by
  refine wMet_of (by decide) (Nat.le_of_ble_eq_true rfl) (fun C hC hRm hE hS => ?_)
  have hStr := hS rfl
  refine (show WM C ad n I J R 0 0 0 [(0, vr l0), (1, vi l1)] [] from ?_)
  unfold PJ0_charAt_5068e at hw
  refine wm_aload_n hC 0 dJ0_charAt_5068e_0 rfl (s_ne0 hk0) ?_
  refine y_callT hC hRm hStr ml_J0_492 hk0 (CJ0_isLatin1_aae02 hk0 hw) (by decide) (Nat.le_of_ble_eq_true rfl) (Nat.le_of_ble_eq_true rfl) ⟨Nat.zero_le _, Nat.zero_le _⟩ rfl (st := []) rfl (Nat.le_of_ble_eq_true rfl) dJ0_charAt_5068e_1 (fun r1 hw => ?_)
  refine wm_if_eq (tgt := 16) hC dJ0_charAt_5068e_4 (by decide) hw (fun hw => ?_) (fun hw => ?_)
  · exact hw.elim
  · refine wm_aload_n hC 0 dJ0_charAt_5068e_7 rfl (s_ne0 hk0) ?_
    refine wm_sgetV hC hStr hk0 sw_J0_9 dJ0_charAt_5068e_8 ?_
    refine wm_iload_n hC 1 dJ0_charAt_5068e_11 rfl ?_
    refine y_callS_c_n hC hRm (fun _ => hStr) ml_J0_495 (CJ1_charAt_3b067 (s_arr hk0) hw) (Nat.le_of_ble_eq_true rfl) (Nat.le_of_ble_eq_true rfl) ⟨Nat.zero_le _, Nat.zero_le _⟩ rfl (st := []) rfl (Nat.le_of_ble_eq_true rfl) dJ0_charAt_5068e_12 (fun r2 hw => ?_)
    obtain ⟨⟨c0, c1⟩, hw⟩ := hw
    exact wm_creturn hC hE c0 c1 dJ0_charAt_5068e_15 ⟨⟨rfl, rfl, rfl⟩, hw⟩
def P7_begin_b20_body (l0 : Nat) (l1 : Nat) (R : mR) (Q : mI → Prop) (k20 : Int → mI → Prop) (l2 : Int) (I : mI) : Prop := (if (6 : Int) ≤ l2 then (Q I) else (kK (R l0 3) = 21 ∧ (((0 : Int) ≤ l2 ∧ l2 < (kN (R l0 3) : Int)) ∧ wLet (up I (R l0 3) l2 l2) (fun I4 => (kK (R l0 4) = 21 ∧ (((0 : Int) ≤ l2 ∧ l2 < (kN (R l0 4) : Int)) ∧ wLet (up I4 (R l0 4) l2 5) (fun I5 => (kK (R l0 5) = 21 ∧ (kK (R l1 4) = 21 ∧ (((0 : Int) ≤ l2 ∧ l2 < (kN (R l1 4) : Int)) ∧ (((0 : Int) ≤ l2 ∧ l2 < (kN (R l0 5) : Int)) ∧ wLet (up I5 (R l0 5) l2 (I5 (R l1 4) l2)) (fun I6 => (rg (l2 + 1) ∧ (k20 (l2 + 1) I6))))))))))))))
def P7_begin_b20 (l0 : Nat) (l1 : Nat) (R : mR) (Q : mI → Prop) : Nat → Int → mI → Prop
  | 0 => fun _ _ => False
  | f + 1 => fun l2 I => P7_begin_b20_body l0 l1 R Q (P7_begin_b20 l0 l1 R Q f) l2 I
set_option maxRecDepth 20000 in
theorem W7_begin_b20_body {C : wX} {ad : Nat → Nat} {n : Nat} {I J : mI} {R : mR} {Q : mI → Prop} (hC : wOK C cX7_begin 3 RX7) (hRm : wRm C 1 12 0 0) (hE : wEnd C none ad n (fun _ I' J' R' => (J' = J ∧ R' = R) ∧ Q I')) {l0 : Nat} {l1 : Nat} {l2 : Int}   (hk0 : kK l0 = 7) (hk1 : kK l1 = 3)  {k20 : Int → mI → Prop} (kk20 : ∀ (y2 : Int) (I' : mI), k20 y2 I' → WM C ad n I' J R 0 0 20 [(0, vr l0), (1, vr l1), (2, vi y2)] []) (hw : P7_begin_b20_body l0 l1 R Q k20 l2 I) : WM C ad n I J R 0 0 20 [(0, vr l0), (1, vr l1), (2, vi l2)] [] := by
  unfold P7_begin_b20_body at hw
  refine wm_iload_n hC 2 dX7_begin_20 rfl ?_
  refine wm_bipush hC dX7_begin_21 (k := ?_)
  refine wm_icmp_ge (tgt := 58) hC dX7_begin_23 (by decide) hw (fun hw => ?_) (fun hw => ?_)
  · exact wm_return hC hE dX7_begin_58 ⟨⟨rfl, rfl⟩, hw⟩
  · refine wm_aload_n hC 0 dX7_begin_26 rfl (k_ne0 hk0 (by decide)) ?_
    refine x_getR2 hC 3 fl_X7_21 rfl hk0 dX7_begin_27 hw (fun g1 hw => ?_)
    refine wm_iload_n hC 2 dX7_begin_30 rfl ?_
    refine wm_iload_n hC 2 dX7_begin_31 rfl ?_
    refine x_iast hC g1 dX7_begin_32 hw (fun I4 hw => ?_)
    refine wm_aload_n hC 0 dX7_begin_33 rfl (k_ne0 hk0 (by decide)) ?_
    refine x_getR2 hC 4 fl_X7_25 rfl hk0 dX7_begin_34 hw (fun g2 hw => ?_)
    refine wm_iload_n hC 2 dX7_begin_37 rfl ?_
    refine wm_iconst hC dX7_begin_38 (k := ?_)
    refine x_iast hC g2 dX7_begin_39 hw (fun I5 hw => ?_)
    refine wm_aload_n hC 0 dX7_begin_40 rfl (k_ne0 hk0 (by decide)) ?_
    refine x_getR2 hC 5 fl_X7_28 rfl hk0 dX7_begin_41 hw (fun g3 hw => ?_)
    refine wm_iload_n hC 2 dX7_begin_44 rfl ?_
    refine wm_aload_n hC 1 dX7_begin_45 rfl (k_ne0 hk1 (by decide)) ?_
    refine x_getR2 hC 4 fl_X7_39 rfl hk1 dX7_begin_46 hw (fun g4 hw => ?_)
    refine wm_iload_n hC 2 dX7_begin_49 rfl ?_
    refine x_iald hC g4 dX7_begin_50 hw (fun hw => ?_)
    refine x_iast hC g3 dX7_begin_51 hw (fun I6 hw => ?_)
    refine x_iinc hC 2 dX7_begin_52 rfl (by decide) (L2 := [(2, vi (l2 + 1)), (0, vr l0), (1, vr l1)]) rfl hw (fun hw => ?_)
    refine wm_goto (tgt := 20) hC dX7_begin_55 (by decide) ?_
    refine wm_sub [1, 2, 0] (L2 := [(0, vr l0), (1, vr l1), (2, vi (l2 + 1))]) rfl ?_
    exact kk20 _ _ hw
set_option maxRecDepth 20000 in
theorem W7_begin_b20 {C : wX} {ad : Nat → Nat} {n : Nat} {J : mI} {R : mR} {Q : mI → Prop} (hC : wOK C cX7_begin 3 RX7) (hRm : wRm C 1 12 0 0) (hE : wEnd C none ad n (fun _ I' J' R' => (J' = J ∧ R' = R) ∧ Q I')) {l0 : Nat} {l1 : Nat}   (hk0 : kK l0 = 7) (hk1 : kK l1 = 3)  : ∀ (f : Nat) (l2 : Int) (I : mI), P7_begin_b20 l0 l1 R Q f l2 I → WM C ad n I J R 0 0 20 [(0, vr l0), (1, vr l1), (2, vi l2)] [] := by
  intro f
  induction f with
  | zero => intro l2 I hw; exact hw.elim
  | succ f ih => intro l2 I hw; exact W7_begin_b20_body hC hRm hE hk0 hk1 (fun a0 a1 hw => ih a0 a1 hw) hw
def P7_begin (l0 : Nat) (l1 : Nat) (I : mI) (R : mR) (Q : mI → Prop) : Prop := (wLet (up I l0 0 0) (fun I1 => (wLet (up I1 l0 1 (I1 l1 10)) (fun I2 => (wLet (up I2 l0 2 0) (fun I3 => (∃ f, P7_begin_b20 l0 l1 R Q f 0 I3)))))))
set_option maxRecDepth 20000 in
theorem C7_begin {ad : Nat → Nat} {n : Nat} {I J : mI} {R : mR} {Q : mI → Prop}  {l0 : Nat} {l1 : Nat} (hk0 : kK l0 = 7) (hk1 : kK l1 = 3) (hw : P7_begin l0 l1 I R Q) : wMet yX7_begin cX7_begin 3 none 1 12 false ad n I J R [vr l0, vr l1] (fun _ I' J' R' => (J' = J ∧ R' = R) ∧ Q I') := by
  refine wMet_of (by decide) (Nat.le_of_ble_eq_true rfl) (fun C hC hRm hE hS => ?_)
  refine (show WM C ad n I J R 0 0 0 [(0, vr l0), (1, vr l1)] [] from ?_)
  unfold P7_begin at hw
  refine wm_aload_n hC 0 dX7_begin_0 rfl (k_ne0 hk0 (by decide)) ?_
  refine wm_iconst hC dX7_begin_1 (k := ?_)
  refine x_putI hC 0 fl_X7_9 rfl hk0 dX7_begin_2 hw (fun I1 hw => ?_)
  refine wm_aload_n hC 0 dX7_begin_5 rfl (k_ne0 hk0 (by decide)) ?_
  refine wm_aload_n hC 1 dX7_begin_6 rfl (k_ne0 hk1 (by decide)) ?_
  refine x_getI hC 10 fl_X7_34 rfl hk1 dX7_begin_7 ?_
  refine x_putI hC 1 fl_X7_15 rfl hk0 dX7_begin_10 hw (fun I2 hw => ?_)
  refine wm_aload_n hC 0 dX7_begin_13 rfl (k_ne0 hk0 (by decide)) ?_
  refine wm_iconst hC dX7_begin_14 (k := ?_)
  refine x_putI hC 2 fl_X7_18 rfl hk0 dX7_begin_15 hw (fun I3 hw => ?_)
  refine wm_iconst hC dX7_begin_18 (k := ?_)
  refine wm_istore_n hC dX7_begin_19 (by decide) (L2 := [(2, vi 0), (0, vr l0), (1, vr l1)]) rfl ?_
  obtain ⟨f, hw⟩ := hw
  refine wm_sub [1, 2, 0] (L2 := [(0, vr l0), (1, vr l1), (2, vi 0)]) rfl ?_
  exact W7_begin_b20 hC hRm hE hk0 hk1 f _ _ hw
