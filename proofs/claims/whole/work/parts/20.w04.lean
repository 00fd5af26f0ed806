def P10_isLetter (l0 : Int)  (Q : Int → Prop) : Prop := (if l0 < 97 then (Q 0) else (if (122 : Int) < l0 then (Q 0) else (Q 1)))
set_option maxRecDepth 20000 in
theorem C10_isLetter {ad : Nat → Nat} {n : Nat} {I J : mI} {R : mR} {Q : Int → Prop}  {l0 : Int}  (hw : P10_isLetter l0 Q) : wMet yX10_isLetter cX10_isLetter 1 (some .boolean) 1 12 false ad n I J R [vi l0] (fun r I' J' R' => (I' = I ∧ J' = J ∧ R' = R) ∧ Q r) := by
  refine wMet_of (by decide) (Nat.le_of_ble_eq_true rfl) (fun C hC hRm hE hS => ?_)
  refine (show WM C ad n I J R 0 0 0 [(0, vi l0)] [] from ?_)
  unfold P10_isLetter at hw
  refine wm_iload_n hC 0 dX10_isLetter_0 rfl ?_
  refine wm_bipush hC dX10_isLetter_1 (k := ?_)
  refine wm_icmp_lt (tgt := 16) hC dX10_isLetter_3 (by decide) hw (fun hw => ?_) (fun hw => ?_)
  · refine wm_iconst hC dX10_isLetter_16 (k := ?_)
    exact wm_zreturn hC hE (Or.inl rfl) dX10_isLetter_17 ⟨⟨rfl, rfl, rfl⟩, hw⟩
  · refine wm_iload_n hC 0 dX10_isLetter_6 rfl ?_
    refine wm_bipush hC dX10_isLetter_7 (k := ?_)
    refine wm_icmp_gt (tgt := 16) hC dX10_isLetter_9 (by decide) hw (fun hw => ?_) (fun hw => ?_)
    · refine wm_iconst hC dX10_isLetter_16 (k := ?_)
      exact wm_zreturn hC hE (Or.inl rfl) dX10_isLetter_17 ⟨⟨rfl, rfl, rfl⟩, hw⟩
    · refine wm_iconst hC dX10_isLetter_12 (k := ?_)
      refine wm_goto (tgt := 17) hC dX10_isLetter_13 (by decide) ?_
      exact wm_zreturn hC hE (Or.inr rfl) dX10_isLetter_17 ⟨⟨rfl, rfl, rfl⟩, hw⟩
def PJ3_checkIndex_8e157 (l0 : Int) (l1 : Int) (l2 : Nat)  (Q : Int → Prop) : Prop := (if l0 < 0 then False else (if l0 < l1 then (Q l0) else False))
set_option maxRecDepth 20000 in
theorem CJ3_checkIndex_8e157 {ad : Nat → Nat} {n : Nat} {I J : mI} {R : mR} {Q : Int → Prop}  {l0 : Int} {l1 : Int} {l2 : Nat}  (hw : PJ3_checkIndex_8e157 l0 l1 l2 Q) : wMet yJ3_checkIndex_8e157 cJ3_checkIndex_8e157 3 (some .int) 1 12 false ad n I J R [vi l0, vi l1, vr l2] (fun r I' J' R' => (I' = I ∧ J' = J ∧ R' = R) ∧ Q r) := by
  refine wMet_of (by decide) (Nat.le_of_ble_eq_true rfl) (fun C hC hRm hE hS => ?_)
  refine (show WM C ad n I J R 0 0 0 [(0, vi l0), (1, vi l1), (2, vr l2)] [] from ?_)
  unfold PJ3_checkIndex_8e157 at hw
  refine wm_iload_n hC 0 dJ3_checkIndex_8e157_0 rfl ?_
  refine wm_if_lt (tgt := 9) hC dJ3_checkIndex_8e157_1 (by decide) hw (fun hw => ?_) (fun hw => ?_)
  · exact hw.elim
  · refine wm_iload_n hC 0 dJ3_checkIndex_8e157_4 rfl ?_
    refine wm_iload_n hC 1 dJ3_checkIndex_8e157_5 rfl ?_
    refine wm_icmp_lt (tgt := 16) hC dJ3_checkIndex_8e157_6 (by decide) hw (fun hw => ?_) (fun hw => ?_)
    · refine wm_iload_n hC 0 dJ3_checkIndex_8e157_16 rfl ?_
      exact wm_ireturn hC hE dJ3_checkIndex_8e157_17 ⟨⟨rfl, rfl, rfl⟩, hw⟩
    · exact hw.elim
def PJ0_checkIndex_df160 (l0 : Int) (l1 : Int)  (Q : Prop) : Prop := (∀ a1 : Nat, (PJ3_checkIndex_8e157 l0 l1 a1 (fun r1 => Q)))
set_option maxRecDepth 20000 in
theorem CJ0_checkIndex_df160 {ad : Nat → Nat} {n : Nat} {I J : mI} {R : mR} {Q : Prop}  {l0 : Int} {l1 : Int}  (hw : PJ0_checkIndex_df160 l0 l1 Q) : wMet yJ0_checkIndex_df160 cJ0_checkIndex_df160 2 none 2 34 true ad n I J R [vi l0, vi l1] (fun _ I' J' R' => (I' = I ∧ J' = J ∧ R' = R) ∧ Q) := by
  refine wMet_of (by decide) (Nat.le_of_ble_eq_true rfl) (fun C hC hRm hE hS => ?_)
  have hStr := hS rfl
  refine (show WM C ad n I J R 0 0 0 [(0, vi l0), (1, vi l1)] [] from ?_)
  unfold PJ0_checkIndex_df160 at hw
  refine wm_iload_n hC 0 dJ0_checkIndex_df160_0 rfl ?_
  refine wm_iload_n hC 1 dJ0_checkIndex_df160_1 rfl ?_
  refine wm_formatter hC hStr sw_J0_1053 dJ0_checkIndex_df160_2 (fun a1 => ?_)
  replace hw := hw a1
  refine y_callS_i_n hC hRm noS ml_J0_1059 (CJ3_checkIndex_8e157  hw) (Nat.le_of_ble_eq_true rfl) (Nat.le_of_ble_eq_true rfl) ⟨Nat.zero_le _, Nat.zero_le _⟩ rfl (st := []) rfl (Nat.le_of_ble_eq_true rfl) dJ0_checkIndex_df160_5 (fun r1 hw => ?_)
  refine wm_pop hC dJ0_checkIndex_df160_8 (k := ?_)
  exact wm_return hC hE dJ0_checkIndex_df160_9 ⟨⟨rfl, rfl, rfl⟩, hw⟩
def PJ1_charAt_3b067 (l0 : Nat) (l1 : Int)  (Q : Int → Prop) : Prop := (PJ0_checkIndex_df160 l1 (sN l0 : Int) ((((0 : Int) ≤ l1 ∧ l1 < (sN l0 : Int)) ∧ (((0 : Int) ≤ (nC (bAnd (sB l0 l1) 255)) ∧ (nC (bAnd (sB l0 l1) 255)) < 65536) ∧ (Q (nC (bAnd (sB l0 l1) 255)))))))
set_option maxRecDepth 20000 in
theorem CJ1_charAt_3b067 {ad : Nat → Nat} {n : Nat} {I J : mI} {R : mR} {Q : Int → Prop}  {l0 : Nat} {l1 : Int} (hk0 : sA l0) (hw : PJ1_charAt_3b067 l0 l1 Q) : wMet yJ1_charAt_3b067 cJ1_charAt_3b067 2 (some .char) 3 55 true ad n I J R [vr l0, vi l1] (fun r I' J' R' => (I' = I ∧ J' = J ∧ R' = R) ∧ Q r) := by
  refine wMet_of (by decide) (Nat.le_of_ble_eq_true rfl) (fun C hC hRm hE hS => ?_)
  have hStr := hS rfl
  refine (show WM C ad n I J R 0 0 0 [(0, vr l0), (1, vi l1)] [] from ?_)
  unfold PJ1_charAt_3b067 at hw
  refine wm_iload_n hC 1 dJ1_charAt_3b067_0 rfl ?_
  refine wm_aload_n hC 0 dJ1_charAt_3b067_1 rfl (a_ne0 hk0) ?_
  refine wm_salen hC hStr hk0 dJ1_charAt_3b067_2 ?_
  refine y_callS_v_n hC hRm (fun _ => hStr) ml_J1_9 (CJ0_checkIndex_df160  hw) (Nat.le_of_ble_eq_true rfl) (Nat.le_of_ble_eq_true rfl) ⟨Nat.zero_le _, Nat.zero_le _⟩ rfl (st := []) rfl (Nat.le_of_ble_eq_true rfl) dJ1_charAt_3b067_3 (fun hw => ?_)
  refine wm_aload_n hC 0 dJ1_charAt_3b067_6 rfl (a_ne0 hk0) ?_
  refine wm_iload_n hC 1 dJ1_charAt_3b067_7 rfl ?_
  refine wm_sbald hC hStr hk0 dJ1_charAt_3b067_8 hw (fun hw => ?_)
  refine wm_sipush hC dJ1_charAt_3b067_9 (k := ?_)
  refine wm_iand hC dJ1_charAt_3b067_12 ?_
  refine wm_i2c hC dJ1_charAt_3b067_13 ?_
  obtain ⟨⟨c0, c1⟩, hw⟩ := hw
  exact wm_creturn hC hE c0 c1 dJ1_charAt_3b067_14 ⟨⟨rfl, rfl, rfl⟩, hw⟩
def PJ0_charAt_5068e (l0 : Nat) (l1 : Int)  (Q : Int → Prop) : Prop := (PJ0_isLatin1_aae02 l0 (fun r1 => (if r1 = 0 then False else (PJ1_charAt_3b067 (l0 + 10) l1 (fun r2 => (((0 : Int) ≤ r2 ∧ r2 < 65536) ∧ (Q r2)))))))
set_option maxRecDepth 20000 in
theorem CJ0_charAt_5068e {ad : Nat → Nat} {n : Nat} {I J : mI} {R : mR} {Q : Int → Prop}  {l0 : Nat} {l1 : Int} (hk0 : sK l0) (hw : PJ0_charAt_5068e l0 l1 Q) : wMet yJ0_charAt_5068e cJ0_charAt_5068e 2 (some .char) 4 76 true ad n I J R [vr l0, vi l1] (fun r I' J' R' => (I' = I ∧ J' = J ∧ R' = R) ∧ Q r) := by
  refine wMet_of (by decide) (Nat.le_of_ble_eq_true rfl) (fun C hC hRm hE hS => ?_)
  have hStr := hS rfl
  refine (show WM C ad n I J R 0 0 0 [(0, vr l0), (1, vi l1)] [] from ?_)
  unfold PJ0_charAt_5068e at hw
  refine wm_aload_n hC 0 dJ0_charAt_5068e_0 rfl (s_ne0 hk0) ?_
  refine y_callT hC hRm hStr ml_J0_492 hk0 (CJ0_isLatin1_aae02 hk0 hw) (by decide) (Nat.le_of_ble_eq_true rfl) (Nat.le_of_ble_eq_true rfl) ⟨Nat.zero_le _, Nat.zero_le _⟩ rfl (st := []) rfl (Nat.le_of_ble_eq_true rfl) dJ0_charAt_5068e_1 (fun r1 hw => ?_)
  refine wm_if_eq (tgt := 16) hC dJ0_charAt_5068e_4 (by decide) hw (fun hw => ?_) (fun hw => ?_)
  · exact hw.elim
  · refine wm_aload_n hC 0 dJ0_charAt_5068e_7 rfl (s_ne0 hk0) ?_
    refine wm_sgetV hC hStr hk0 sw_J0_9 dJ0_charAt_5068e_8 ?_
    refine wm_iload_n hC 1 dJ0_charAt_5068e_11 rfl ?_
    refine y_callS_c_n hC hRm (fun _ => hStr) ml_J0_495 (CJ1_charAt_3b067 (s_arr hk0) hw) (Nat.le_of_ble_eq_true rfl) (Nat.le_of_ble_eq_true rfl) ⟨Nat.zero_le _, Nat.zero_le _⟩ rfl (st := []) rfl (Nat.le_of_ble_eq_true rfl) dJ0_charAt_5068e_12 (fun r2 hw => ?_)
    obtain ⟨⟨c0, c1⟩, hw⟩ := hw
    exact wm_creturn hC hE c0 c1 dJ0_charAt_5068e_15 ⟨⟨rfl, rfl, rfl⟩, hw⟩
def P6_ownNumber_b6_body (l0 : Int) (Q : Int → Prop) (k6 : Int → Int → Int → Prop) (l1 : Int) (l2 : Int) (l3 : Int) : Prop := (PJ0_length_8abf5 901 (fun r1 => (if r1 ≤ l3 then (Q (-1)) else (PJ0_charAt_5068e 901 l3 (fun r2 => (if r2 = 32 then (if l1 = l0 then (Q l2) else (rg (l2 + 1) ∧ (rg (l3 + 1) ∧ (k6 0 (l2 + 1) (l3 + 1))))) else (rg (l1 * 27) ∧ (rg (r2 - 97) ∧ (rg ((r2 - 97) + 1) ∧ (rg ((l1 * 27) + ((r2 - 97) + 1)) ∧ (wLet ((l1 * 27) + ((r2 - 97) + 1)) (fun x1 => (rg (l3 + 1) ∧ (k6 x1 l2 (l3 + 1)))))))))))))))
def P6_ownNumber_b6 (l0 : Int) (Q : Int → Prop) : Nat → Int → Int → Int → Prop
  | 0 => fun _ _ _ => False
  | f + 1 => fun l1 l2 l3 => P6_ownNumber_b6_body l0 Q (P6_ownNumber_b6 l0 Q f) l1 l2 l3
set_option maxRecDepth 20000 in
theorem W6_ownNumber_b6_body {C : wX} {ad : Nat → Nat} {n : Nat} {I J : mI} {R : mR} {Q : Int → Prop} (hC : wOK C cX6_ownNumber 5 RX6) (hRm : wRm C 5 97 0 0) (hE : wEnd C (some .int) ad n (fun r I' J' R' => (I' = I ∧ J' = J ∧ R' = R) ∧ Q r)) (hStr : wStrC C ad) {l0 : Int} {l1 : Int} {l2 : Int} {l3 : Int}     {k6 : Int → Int → Int → Prop} (kk6 : ∀ (y1 : Int) (y2 : Int) (y3 : Int), k6 y1 y2 y3 → WM C ad n I J R 0 0 6 [(0, vi l0), (1, vi y1), (2, vi y2), (3, vi y3)] []) (hw : P6_ownNumber_b6_body l0 Q k6 l1 l2 l3) : WM C ad n I J R 0 0 6 [(0, vi l0), (1, vi l1), (2, vi l2), (3, vi l3)] [] := by
  unfold P6_ownNumber_b6_body at hw
  refine wm_iload_n hC 3 dX6_ownNumber_6 rfl ?_
  refine wm_ldcW hC hStr dX6_ownNumber_7 (k := ?_)
  refine y_callT hC hRm hStr ml_X6_69 (Or.inl rfl) (CJ0_length_8abf5 (Or.inl rfl) hw) (by decide) (Nat.le_of_ble_eq_true rfl) (Nat.le_of_ble_eq_true rfl) ⟨Nat.zero_le _, Nat.zero_le _⟩ rfl (st := [vi l3]) rfl (Nat.le_of_ble_eq_true rfl) dX6_ownNumber_9 (fun r1 hw => ?_)
  refine wm_icmp_ge (tgt := 64) hC dX6_ownNumber_12 (by decide) hw (fun hw => ?_) (fun hw => ?_)
  · refine wm_iconst hC dX6_ownNumber_64 (k := ?_)
    exact wm_ireturn hC hE dX6_ownNumber_65 ⟨⟨rfl, rfl, rfl⟩, hw⟩
  · refine wm_ldcW hC hStr dX6_ownNumber_15 (k := ?_)
    refine wm_iload_n hC 3 dX6_ownNumber_17 rfl ?_
    refine y_callT hC hRm hStr ml_X6_74 (Or.inl rfl) (CJ0_charAt_5068e (Or.inl rfl) hw) (by decide) (Nat.le_of_ble_eq_true rfl) (Nat.le_of_ble_eq_true rfl) ⟨Nat.zero_le _, Nat.zero_le _⟩ rfl (st := []) rfl (Nat.le_of_ble_eq_true rfl) dX6_ownNumber_18 (fun r2 hw => ?_)
    refine wm_istore hC dX6_ownNumber_21 (by decide) (L2 := [(4, vi r2), (0, vi l0), (1, vi l1), (2, vi l2), (3, vi l3)]) rfl ?_
    refine wm_iload hC 0 dX6_ownNumber_23 rfl ?_
    refine wm_bipush hC dX6_ownNumber_25 (k := ?_)
    refine wm_icmp_eq (tgt := 46) hC dX6_ownNumber_27 (by decide) hw (fun hw => ?_) (fun hw => ?_)
    · refine wm_iload_n hC 2 dX6_ownNumber_46 rfl ?_
      refine wm_iload_n hC 1 dX6_ownNumber_47 rfl ?_
      refine wm_icmp_ne (tgt := 53) hC dX6_ownNumber_48 (by decide) hw (fun hw => ?_) (fun hw => ?_)
      · refine wm_iload_n hC 3 dX6_ownNumber_51 rfl ?_
        exact wm_ireturn hC hE dX6_ownNumber_52 ⟨⟨rfl, rfl, rfl⟩, hw⟩
      · refine wm_iconst hC dX6_ownNumber_53 (k := ?_)
        refine wm_istore_n hC dX6_ownNumber_54 (by decide) (L2 := [(1, vi 0), (4, vi r2), (0, vi l0), (2, vi l2), (3, vi l3)]) rfl ?_
        refine x_iinc hC 3 dX6_ownNumber_55 rfl (by decide) (L2 := [(2, vi (l2 + 1)), (1, vi 0), (4, vi r2), (0, vi l0), (3, vi l3)]) rfl hw (fun hw => ?_)
        refine x_iinc hC 4 dX6_ownNumber_58 rfl (by decide) (L2 := [(3, vi (l3 + 1)), (2, vi (l2 + 1)), (1, vi 0), (4, vi r2), (0, vi l0)]) rfl hw (fun hw => ?_)
        refine wm_goto (tgt := 6) hC dX6_ownNumber_61 (by decide) ?_
        refine wm_sub [4, 2, 1, 0] (L2 := [(0, vi l0), (1, vi 0), (2, vi (l2 + 1)), (3, vi (l3 + 1))]) rfl ?_
        exact kk6 _ _ _ hw
    · refine wm_iload_n hC 2 dX6_ownNumber_30 rfl ?_
      refine wm_bipush hC dX6_ownNumber_31 (k := ?_)
      refine x_imul hC dX6_ownNumber_33 hw (fun hw => ?_)
      refine wm_iload hC 0 dX6_ownNumber_34 rfl ?_
      refine wm_bipush hC dX6_ownNumber_36 (k := ?_)
      refine x_isub hC dX6_ownNumber_38 hw (fun hw => ?_)
      refine wm_iconst hC dX6_ownNumber_39 (k := ?_)
      refine x_iadd hC dX6_ownNumber_40 hw (fun hw => ?_)
      refine x_iadd hC dX6_ownNumber_41 hw (fun hw => ?_)
      refine x_nameI hw (fun x1 hw => ?_)
      refine wm_istore_n hC dX6_ownNumber_42 (by decide) (L2 := [(1, vi x1), (4, vi r2), (0, vi l0), (2, vi l2), (3, vi l3)]) rfl ?_
      refine wm_goto (tgt := 58) hC dX6_ownNumber_43 (by decide) ?_
      refine x_iinc hC 4 dX6_ownNumber_58 rfl (by decide) (L2 := [(3, vi (l3 + 1)), (1, vi x1), (4, vi r2), (0, vi l0), (2, vi l2)]) rfl hw (fun hw => ?_)
      refine wm_goto (tgt := 6) hC dX6_ownNumber_61 (by decide) ?_
      refine wm_sub [3, 1, 4, 0] (L2 := [(0, vi l0), (1, vi x1), (2, vi l2), (3, vi (l3 + 1))]) rfl ?_
      exact kk6 _ _ _ hw
set_option maxRecDepth 20000 in
theorem W6_ownNumber_b6 {C : wX} {ad : Nat → Nat} {n : Nat} {I J : mI} {R : mR} {Q : Int → Prop} (hC : wOK C cX6_ownNumber 5 RX6) (hRm : wRm C 5 97 0 0) (hE : wEnd C (some .int) ad n (fun r I' J' R' => (I' = I ∧ J' = J ∧ R' = R) ∧ Q r)) (hStr : wStrC C ad) {l0 : Int}     : ∀ (f : Nat) (l1 : Int) (l2 : Int) (l3 : Int), P6_ownNumber_b6 l0 Q f l1 l2 l3 → WM C ad n I J R 0 0 6 [(0, vi l0), (1, vi l1), (2, vi l2), (3, vi l3)] [] := by
  intro f
  induction f with
  | zero => intro l1 l2 l3 hw; exact hw.elim
  | succ f ih => intro l1 l2 l3 hw; exact W6_ownNumber_b6_body hC hRm hE hStr  (fun a0 a1 a2 hw => ih a0 a1 a2 hw) hw
def P6_ownNumber (l0 : Int)  (Q : Int → Prop) : Prop := (∃ f, P6_ownNumber_b6 l0 Q f 0 0 0)
set_option maxRecDepth 20000 in
theorem C6_ownNumber {ad : Nat → Nat} {n : Nat} {I J : mI} {R : mR} {Q : Int → Prop}  {l0 : Int}  (hw : P6_ownNumber l0 Q) : wMet yX6_ownNumber cX6_ownNumber 5 (some .int) 5 97 true ad n I J R [vi l0] (fun r I' J' R' => (I' = I ∧ J' = J ∧ R' = R) ∧ Q r) := by
  refine wMet_of (by decide) (Nat.le_of_ble_eq_true rfl) (fun C hC hRm hE hS => ?_)
  have hStr := hS rfl
  refine (show WM C ad n I J R 0 0 0 [(0, vi l0)] [] from ?_)
  unfold P6_ownNumber at hw
  refine wm_iconst hC dX6_ownNumber_0 (k := ?_)
  refine wm_istore_n hC dX6_ownNumber_1 (by decide) (L2 := [(1, vi 0), (0, vi l0)]) rfl ?_
  refine wm_iconst hC dX6_ownNumber_2 (k := ?_)
  refine wm_istore_n hC dX6_ownNumber_3 (by decide) (L2 := [(2, vi 0), (1, vi 0), (0, vi l0)]) rfl ?_
  refine wm_iconst hC dX6_ownNumber_4 (k := ?_)
  refine wm_istore_n hC dX6_ownNumber_5 (by decide) (L2 := [(3, vi 0), (2, vi 0), (1, vi 0), (0, vi l0)]) rfl ?_
  obtain ⟨f, hw⟩ := hw
  refine wm_sub [3, 2, 1, 0] (L2 := [(0, vi l0), (1, vi 0), (2, vi 0), (3, vi 0)]) rfl ?_
  exact W6_ownNumber_b6 hC hRm hE hStr  f _ _ _ hw
def P10_cutWord_b64 (l0 : Nat) (l1 : Nat) (l2 : Int) (l3 : Int) (I : mI) (R : mR) (Q : Int → mI → Prop) : Prop := (P9_byteAt l1 (I l0 4) I R (fun r4 => (P10_isLetter r4 (fun r5 => (if r5 = 0 then (P6_ownNumber l3 (fun r6 => (if r6 = (-1) then (P10_add l0 2 l3 l2 I R (fun r8 I3 => (Q r8 I3))) else (P10_add l0 1 r6 l2 I R (fun r7 I2 => (Q r7 I2)))))) else (P10_add l0 5 l2 (I l0 4) I R (fun r9 I4 => (Q r9 I4))))))))
set_option maxRecDepth 20000 in
theorem W10_cutWord_b64 {C : wX} {ad : Nat → Nat} {n : Nat} {I J : mI} {R : mR} {Q : Int → mI → Prop} (hC : wOK C cX10_cutWord 5 RX10) (hRm : wRm C 6 121 0 0) (hE : wEnd C (some .int) ad n (fun r I' J' R' => (J' = J ∧ R' = R) ∧ Q r I')) (hStr : wStrC C ad) {l0 : Nat} {l1 : Nat} {l2 : Int} {l3 : Int}   (hk0 : kK l0 = 10) (hk1 : kK l1 = 9)  (hw : P10_cutWord_b64 l0 l1 l2 l3 I R Q) : WM C ad n I J R 0 0 64 [(0, vr l0), (1, vr l1), (2, vi l2), (3, vi l3)] [] := by
  unfold P10_cutWord_b64 at hw
  refine wm_aload_n hC 1 dX10_cutWord_64 rfl (k_ne0 hk1 (by decide)) ?_
  refine wm_aload_n hC 0 dX10_cutWord_65 rfl (k_ne0 hk0 (by decide)) ?_
  refine x_getI hC 4 fl_X10_25 rfl hk0 dX10_cutWord_66 ?_
  refine y_callV_i_n hC hRm noS ml_X10_36 hk1 (C9_byteAt hk1 hw) (Nat.le_of_ble_eq_true rfl) (Nat.le_of_ble_eq_true rfl) ⟨Nat.zero_le _, Nat.zero_le _⟩ rfl (st := []) rfl (Nat.le_of_ble_eq_true rfl) dX10_cutWord_69 (fun r4 hw => ?_)
  refine y_callS_z_n hC hRm noS ml_X10_52 (C10_isLetter  hw) (Nat.le_of_ble_eq_true rfl) (Nat.le_of_ble_eq_true rfl) ⟨Nat.zero_le _, Nat.zero_le _⟩ rfl (st := []) rfl (Nat.le_of_ble_eq_true rfl) dX10_cutWord_72 (fun r5 hw => ?_)
  refine wm_if_eq (tgt := 89) hC dX10_cutWord_75 (by decide) hw (fun hw => ?_) (fun hw => ?_)
  · refine wm_iload_n hC 3 dX10_cutWord_89 rfl ?_
    refine y_callS_i_n hC hRm (fun _ => hStr) ml_X10_72 (C6_ownNumber  hw) (Nat.le_of_ble_eq_true rfl) (Nat.le_of_ble_eq_true rfl) ⟨Nat.zero_le _, Nat.zero_le _⟩ rfl (st := []) rfl (Nat.le_of_ble_eq_true rfl) dX10_cutWord_90 (fun r6 hw => ?_)
    refine wm_istore hC dX10_cutWord_93 (by decide) (L2 := [(4, vi r6), (0, vr l0), (1, vr l1), (2, vi l2), (3, vi l3)]) rfl ?_
    refine wm_iload hC 0 dX10_cutWord_95 rfl ?_
    refine wm_iconst hC dX10_cutWord_97 (k := ?_)
    refine wm_icmp_ne (tgt := 111) hC dX10_cutWord_98 (by decide) hw (fun hw => ?_) (fun hw => ?_)
    · refine wm_aload_n hC 1 dX10_cutWord_101 rfl (k_ne0 hk0 (by decide)) ?_
      refine wm_iconst hC dX10_cutWord_102 (k := ?_)
      refine wm_iload_n hC 4 dX10_cutWord_103 rfl ?_
      refine wm_iload_n hC 3 dX10_cutWord_104 rfl ?_
      refine y_callV_i_I hC hRm noS ml_X10_48 hk0 (C10_add hk0 hw) (Nat.le_of_ble_eq_true rfl) (Nat.le_of_ble_eq_true rfl) ⟨Nat.zero_le _, Nat.zero_le _⟩ rfl (st := []) rfl (Nat.le_of_ble_eq_true rfl) dX10_cutWord_105 (fun r8 I3 hw => ?_)
      refine wm_goto (tgt := 119) hC dX10_cutWord_108 (by decide) ?_
      exact wm_ireturn hC hE dX10_cutWord_119 ⟨⟨rfl, rfl⟩, hw⟩
    · refine wm_aload_n hC 1 dX10_cutWord_111 rfl (k_ne0 hk0 (by decide)) ?_
      refine wm_iconst hC dX10_cutWord_112 (k := ?_)
      refine wm_iload hC 0 dX10_cutWord_113 rfl ?_
      refine wm_iload_n hC 3 dX10_cutWord_115 rfl ?_
      refine y_callV_i_I hC hRm noS ml_X10_48 hk0 (C10_add hk0 hw) (Nat.le_of_ble_eq_true rfl) (Nat.le_of_ble_eq_true rfl) ⟨Nat.zero_le _, Nat.zero_le _⟩ rfl (st := []) rfl (Nat.le_of_ble_eq_true rfl) dX10_cutWord_116 (fun r7 I2 hw => ?_)
      exact wm_ireturn hC hE dX10_cutWord_119 ⟨⟨rfl, rfl⟩, hw⟩
  · refine wm_aload_n hC 0 dX10_cutWord_78 rfl (k_ne0 hk0 (by decide)) ?_
    refine wm_iconst hC dX10_cutWord_79 (k := ?_)
    refine wm_iload_n hC 2 dX10_cutWord_80 rfl ?_
    refine wm_aload_n hC 0 dX10_cutWord_81 rfl (k_ne0 hk0 (by decide)) ?_
    refine x_getI hC 4 fl_X10_25 rfl hk0 dX10_cutWord_82 ?_
    refine y_callV_i_I hC hRm noS ml_X10_48 hk0 (C10_add hk0 hw) (Nat.le_of_ble_eq_true rfl) (Nat.le_of_ble_eq_true rfl) ⟨Nat.zero_le _, Nat.zero_le _⟩ rfl (st := []) rfl (Nat.le_of_ble_eq_true rfl) dX10_cutWord_85 (fun r9 I4 hw => ?_)
    exact wm_ireturn hC hE dX10_cutWord_88 ⟨⟨rfl, rfl⟩, hw⟩
def P10_cutWord_b7_body (l0 : Nat) (l1 : Nat) (l2 : Int) (R : mR) (Q : Int → mI → Prop) (k7 : Int → mI → Prop) (l3 : Int) (I : mI) : Prop := (rg (l2 + 6) ∧ (if (l2 + 6) ≤ (I l0 4) then (P10_cutWord_b64 l0 l1 l2 l3 I R Q) else (P9_byteAt l1 (I l0 4) I R (fun r1 => (P10_isLetter r1 (fun r2 => (if r2 = 0 then (P10_cutWord_b64 l0 l1 l2 l3 I R Q) else (rg (l3 * 27) ∧ (P9_byteAt l1 (I l0 4) I R (fun r3 => (rg (r3 - 97) ∧ (rg ((r3 - 97) + 1) ∧ (rg ((l3 * 27) + ((r3 - 97) + 1)) ∧ (wLet ((l3 * 27) + ((r3 - 97) + 1)) (fun x1 => (rg ((I l0 4) + 1) ∧ (wLet (up I l0 4 ((I l0 4) + 1)) (fun I1 => (k7 x1 I1)))))))))))))))))))
def P10_cutWord_b7 (l0 : Nat) (l1 : Nat) (l2 : Int) (R : mR) (Q : Int → mI → Prop) : Nat → Int → mI → Prop
  | 0 => fun _ _ => False
  | f + 1 => fun l3 I => P10_cutWord_b7_body l0 l1 l2 R Q (P10_cutWord_b7 l0 l1 l2 R Q f) l3 I
set_option maxRecDepth 20000 in
theorem W10_cutWord_b7_body {C : wX} {ad : Nat → Nat} {n : Nat} {I J : mI} {R : mR} {Q : Int → mI → Prop} (hC : wOK C cX10_cutWord 5 RX10) (hRm : wRm C 6 121 0 0) (hE : wEnd C (some .int) ad n (fun r I' J' R' => (J' = J ∧ R' = R) ∧ Q r I')) (hStr : wStrC C ad) {l0 : Nat} {l1 : Nat} {l2 : Int} {l3 : Int}   (hk0 : kK l0 = 10) (hk1 : kK l1 = 9)  {k7 : Int → mI → Prop} (kk7 : ∀ (y3 : Int) (I' : mI), k7 y3 I' → WM C ad n I' J R 0 0 7 [(0, vr l0), (1, vr l1), (2, vi l2), (3, vi y3)] []) (hw : P10_cutWord_b7_body l0 l1 l2 R Q k7 l3 I) : WM C ad n I J R 0 0 7 [(0, vr l0), (1, vr l1), (2, vi l2), (3, vi l3)] [] := by
  unfold P10_cutWord_b7_body at hw
  refine wm_aload_n hC 0 dX10_cutWord_7 rfl (k_ne0 hk0 (by decide)) ?_
  refine x_getI hC 4 fl_X10_25 rfl hk0 dX10_cutWord_8 ?_
  refine wm_iload_n hC 2 dX10_cutWord_11 rfl ?_
  refine wm_bipush hC dX10_cutWord_12 (k := ?_)
  refine x_iadd hC dX10_cutWord_14 hw (fun hw => ?_)
  refine wm_icmp_ge (tgt := 64) hC dX10_cutWord_15 (by decide) hw (fun hw => ?_) (fun hw => ?_)
  · exact W10_cutWord_b64 hC hRm hE hStr hk0 hk1 hw
  · refine wm_aload_n hC 1 dX10_cutWord_18 rfl (k_ne0 hk1 (by decide)) ?_
    refine wm_aload_n hC 0 dX10_cutWord_19 rfl (k_ne0 hk0 (by decide)) ?_
    refine x_getI hC 4 fl_X10_25 rfl hk0 dX10_cutWord_20 ?_
    refine y_callV_i_n hC hRm noS ml_X10_36 hk1 (C9_byteAt hk1 hw) (Nat.le_of_ble_eq_true rfl) (Nat.le_of_ble_eq_true rfl) ⟨Nat.zero_le _, Nat.zero_le _⟩ rfl (st := []) rfl (Nat.le_of_ble_eq_true rfl) dX10_cutWord_23 (fun r1 hw => ?_)
    refine y_callS_z_n hC hRm noS ml_X10_52 (C10_isLetter  hw) (Nat.le_of_ble_eq_true rfl) (Nat.le_of_ble_eq_true rfl) ⟨Nat.zero_le _, Nat.zero_le _⟩ rfl (st := []) rfl (Nat.le_of_ble_eq_true rfl) dX10_cutWord_26 (fun r2 hw => ?_)
    refine wm_if_eq (tgt := 64) hC dX10_cutWord_29 (by decide) hw (fun hw => ?_) (fun hw => ?_)
    · exact W10_cutWord_b64 hC hRm hE hStr hk0 hk1 hw
    · refine wm_iload_n hC 3 dX10_cutWord_32 rfl ?_
      refine wm_bipush hC dX10_cutWord_33 (k := ?_)
      refine x_imul hC dX10_cutWord_35 hw (fun hw => ?_)
      refine wm_aload_n hC 1 dX10_cutWord_36 rfl (k_ne0 hk1 (by decide)) ?_
      refine wm_aload_n hC 0 dX10_cutWord_37 rfl (k_ne0 hk0 (by decide)) ?_
      refine x_getI hC 4 fl_X10_25 rfl hk0 dX10_cutWord_38 ?_
      refine y_callV_i_n hC hRm noS ml_X10_36 hk1 (C9_byteAt hk1 hw) (Nat.le_of_ble_eq_true rfl) (Nat.le_of_ble_eq_true rfl) ⟨Nat.zero_le _, Nat.zero_le _⟩ rfl (st := [vi (l3 * 27)]) rfl (Nat.le_of_ble_eq_true rfl) dX10_cutWord_41 (fun r3 hw => ?_)
      refine wm_bipush hC dX10_cutWord_44 (k := ?_)
      refine x_isub hC dX10_cutWord_46 hw (fun hw => ?_)
      refine wm_iconst hC dX10_cutWord_47 (k := ?_)
      refine x_iadd hC dX10_cutWord_48 hw (fun hw => ?_)
      refine x_iadd hC dX10_cutWord_49 hw (fun hw => ?_)
      refine x_nameI hw (fun x1 hw => ?_)
      refine wm_istore_n hC dX10_cutWord_50 (by decide) (L2 := [(3, vi x1), (0, vr l0), (1, vr l1), (2, vi l2)]) rfl ?_
      refine wm_aload_n hC 1 dX10_cutWord_51 rfl (k_ne0 hk0 (by decide)) ?_
      refine wm_dup hC dX10_cutWord_52 (k := ?_)
      refine x_getI hC 4 fl_X10_25 rfl hk0 dX10_cutWord_53 ?_
      refine wm_iconst hC dX10_cutWord_56 (k := ?_)
      refine x_iadd hC dX10_cutWord_57 hw (fun hw => ?_)
      refine x_putI hC 4 fl_X10_25 rfl hk0 dX10_cutWord_58 hw (fun I1 hw => ?_)
      refine wm_goto (tgt := 7) hC dX10_cutWord_61 (by decide) ?_
      refine wm_sub [1, 2, 3, 0] (L2 := [(0, vr l0), (1, vr l1), (2, vi l2), (3, vi x1)]) rfl ?_
      exact kk7 _ _ hw
set_option maxRecDepth 20000 in
theorem W10_cutWord_b7 {C : wX} {ad : Nat → Nat} {n : Nat} {J : mI} {R : mR} {Q : Int → mI → Prop} (hC : wOK C cX10_cutWord 5 RX10) (hRm : wRm C 6 121 0 0) (hE : wEnd C (some .int) ad n (fun r I' J' R' => (J' = J ∧ R' = R) ∧ Q r I')) (hStr : wStrC C ad) {l0 : Nat} {l1 : Nat} {l2 : Int}   (hk0 : kK l0 = 10) (hk1 : kK l1 = 9)  : ∀ (f : Nat) (l3 : Int) (I : mI), P10_cutWord_b7 l0 l1 l2 R Q f l3 I → WM C ad n I J R 0 0 7 [(0, vr l0), (1, vr l1), (2, vi l2), (3, vi l3)] [] := by
  intro f
  induction f with
  | zero => intro l3 I hw; exact hw.elim
  | succ f ih => intro l3 I hw; exact W10_cutWord_b7_body hC hRm hE hStr hk0 hk1 (fun a0 a1 hw => ih a0 a1 hw) hw
def P10_cutWord (l0 : Nat) (l1 : Nat) (I : mI) (R : mR) (Q : Int → mI → Prop) : Prop := (∃ f, P10_cutWord_b7 l0 l1 (I l0 4) R Q f 0 I)
set_option maxRecDepth 20000 in
theorem C10_cutWord {ad : Nat → Nat} {n : Nat} {I J : mI} {R : mR} {Q : Int → mI → Prop}  {l0 : Nat} {l1 : Nat} (hk0 : kK l0 = 10) (hk1 : kK l1 = 9) (hw : P10_cutWord l0 l1 I R Q) : wMet yX10_cutWord cX10_cutWord 5 (some .int) 6 121 true ad n I J R [vr l0, vr l1] (fun r I' J' R' => (J' = J ∧ R' = R) ∧ Q r I') := by
  refine wMet_of (by decide) (Nat.le_of_ble_eq_true rfl) (fun C hC hRm hE hS => ?_)
  have hStr := hS rfl
  refine (show WM C ad n I J R 0 0 0 [(0, vr l0), (1, vr l1)] [] from ?_)
  unfold P10_cutWord at hw
  refine wm_aload_n hC 0 dX10_cutWord_0 rfl (k_ne0 hk0 (by decide)) ?_
  refine x_getI hC 4 fl_X10_25 rfl hk0 dX10_cutWord_1 ?_
  refine wm_istore_n hC dX10_cutWord_4 (by decide) (L2 := [(2, vi (I l0 4)), (0, vr l0), (1, vr l1)]) rfl ?_
  refine wm_iconst hC dX10_cutWord_5 (k := ?_)
  refine wm_istore_n hC dX10_cutWord_6 (by decide) (L2 := [(3, vi 0), (2, vi (I l0 4)), (0, vr l0), (1, vr l1)]) rfl ?_
  obtain ⟨f, hw⟩ := hw
  refine wm_sub [2, 3, 1, 0] (L2 := [(0, vr l0), (1, vr l1), (2, vi (I l0 4)), (3, vi 0)]) rfl ?_
  exact W10_cutWord_b7 hC hRm hE hStr hk0 hk1 f _ _ hw
def P10_cutOne_b59 (l0 : Nat) (l3 : Int) (I : mI) (R : mR) (Q : Int → mI → Prop) : Prop := (PJ0_indexOf_0f7a4 902 (nC l3) (fun r7 => (if (0 : Int) ≤ r7 then (rg ((I l0 4) + 1) ∧ (wLet (up I l0 4 ((I l0 4) + 1)) (fun I4 => (rg ((I4 l0 4) - 1) ∧ (P10_add l0 4 l3 ((I4 l0 4) - 1) I4 R (fun r8 I5 => (Q r8 I5))))))) else (P10_add l0 5 (I l0 4) (I l0 4) I R (fun r9 I6 => (Q r9 I6))))))
set_option maxRecDepth 20000 in
theorem W10_cutOne_b59 {C : wX} {ad : Nat → Nat} {n : Nat} {I J : mI} {R : mR} {Q : Int → mI → Prop} (hC : wOK C cX10_cutOne 4 RX10) (hRm : wRm C 7 145 0 0) (hE : wEnd C (some .int) ad n (fun r I' J' R' => (J' = J ∧ R' = R) ∧ Q r I')) (hStr : wStrC C ad) {l0 : Nat} {l3 : Int}   (hk0 : kK l0 = 10)  (hw : P10_cutOne_b59 l0 l3 I R Q) : WM C ad n I J R 0 0 59 [(0, vr l0), (3, vi l3)] [] := by
  unfold P10_cutOne_b59 at hw
  refine wm_ldcG hC hStr dX10_cutOne_59 (k := ?_)
  refine wm_iload_n hC 1 dX10_cutOne_61 rfl ?_
  refine wm_i2c hC dX10_cutOne_62 ?_
  refine y_callT hC hRm hStr ml_X10_67 (Or.inr rfl) (CJ0_indexOf_0f7a4 (Or.inr rfl) hw) (by decide) (Nat.le_of_ble_eq_true rfl) (Nat.le_of_ble_eq_true rfl) ⟨Nat.zero_le _, Nat.zero_le _⟩ rfl (st := []) rfl (Nat.le_of_ble_eq_true rfl) dX10_cutOne_63 (fun r7 hw => ?_)
  refine wm_if_ge (tgt := 83) hC dX10_cutOne_66 (by decide) hw (fun hw => ?_) (fun hw => ?_)
  · refine wm_aload_n hC 0 dX10_cutOne_83 rfl (k_ne0 hk0 (by decide)) ?_
    refine wm_dup hC dX10_cutOne_84 (k := ?_)
    refine x_getI hC 4 fl_X10_25 rfl hk0 dX10_cutOne_85 ?_
    refine wm_iconst hC dX10_cutOne_88 (k := ?_)
    refine x_iadd hC dX10_cutOne_89 hw (fun hw => ?_)
    refine x_putI hC 4 fl_X10_25 rfl hk0 dX10_cutOne_90 hw (fun I4 hw => ?_)
    refine wm_aload_n hC 0 dX10_cutOne_93 rfl (k_ne0 hk0 (by decide)) ?_
    refine wm_iconst hC dX10_cutOne_94 (k := ?_)
    refine wm_iload_n hC 1 dX10_cutOne_95 rfl ?_
    refine wm_aload_n hC 0 dX10_cutOne_96 rfl (k_ne0 hk0 (by decide)) ?_
    refine x_getI hC 4 fl_X10_25 rfl hk0 dX10_cutOne_97 ?_
    refine wm_iconst hC dX10_cutOne_100 (k := ?_)
    refine x_isub hC dX10_cutOne_101 hw (fun hw => ?_)
    refine y_callV_i_I hC hRm noS ml_X10_48 hk0 (C10_add hk0 hw) (Nat.le_of_ble_eq_true rfl) (Nat.le_of_ble_eq_true rfl) ⟨Nat.zero_le _, Nat.zero_le _⟩ rfl (st := []) rfl (Nat.le_of_ble_eq_true rfl) dX10_cutOne_102 (fun r8 I5 hw => ?_)
    exact wm_ireturn hC hE dX10_cutOne_105 ⟨⟨rfl, rfl⟩, hw⟩
  · refine wm_aload_n hC 0 dX10_cutOne_69 rfl (k_ne0 hk0 (by decide)) ?_
    refine wm_iconst hC dX10_cutOne_70 (k := ?_)
    refine wm_aload_n hC 0 dX10_cutOne_71 rfl (k_ne0 hk0 (by decide)) ?_
    refine x_getI hC 4 fl_X10_25 rfl hk0 dX10_cutOne_72 ?_
    refine wm_aload_n hC 0 dX10_cutOne_75 rfl (k_ne0 hk0 (by decide)) ?_
    refine x_getI hC 4 fl_X10_25 rfl hk0 dX10_cutOne_76 ?_
    refine y_callV_i_I hC hRm noS ml_X10_48 hk0 (C10_add hk0 hw) (Nat.le_of_ble_eq_true rfl) (Nat.le_of_ble_eq_true rfl) ⟨Nat.zero_le _, Nat.zero_le _⟩ rfl (st := []) rfl (Nat.le_of_ble_eq_true rfl) dX10_cutOne_79 (fun r9 I6 hw => ?_)
    exact wm_ireturn hC hE dX10_cutOne_82 ⟨⟨rfl, rfl⟩, hw⟩
def P10_cutOne_b42 (l0 : Nat) (l1 : Nat) (l2 : Int) (l3 : Int) (I : mI) (R : mR) (Q : Int → mI → Prop) : Prop := (P10_isDigit l3 (fun r5 => (if r5 = 0 then (P10_cutOne_b59 l0 l3 I R Q) else (if l2 = 0 then (P10_cutNumber l0 l1 I R (fun r6 I3 => (Q r6 I3))) else (P10_cutOne_b59 l0 l3 I R Q)))))
set_option maxRecDepth 20000 in
theorem W10_cutOne_b42 {C : wX} {ad : Nat → Nat} {n : Nat} {I J : mI} {R : mR} {Q : Int → mI → Prop} (hC : wOK C cX10_cutOne 4 RX10) (hRm : wRm C 7 145 0 0) (hE : wEnd C (some .int) ad n (fun r I' J' R' => (J' = J ∧ R' = R) ∧ Q r I')) (hStr : wStrC C ad) {l0 : Nat} {l1 : Nat} {l2 : Int} {l3 : Int}   (hk0 : kK l0 = 10) (hk1 : kK l1 = 9)  (hw : P10_cutOne_b42 l0 l1 l2 l3 I R Q) : WM C ad n I J R 0 0 42 [(0, vr l0), (1, vr l1), (2, vi l2), (3, vi l3)] [] := by
  unfold P10_cutOne_b42 at hw
  refine wm_iload_n hC 3 dX10_cutOne_42 rfl ?_
  refine y_callS_z_n hC hRm noS ml_X10_59 (C10_isDigit  hw) (Nat.le_of_ble_eq_true rfl) (Nat.le_of_ble_eq_true rfl) ⟨Nat.zero_le _, Nat.zero_le _⟩ rfl (st := []) rfl (Nat.le_of_ble_eq_true rfl) dX10_cutOne_43 (fun r5 hw => ?_)
  refine wm_if_eq (tgt := 59) hC dX10_cutOne_46 (by decide) hw (fun hw => ?_) (fun hw => ?_)
  · refine wm_sub [0, 3] (L2 := [(0, vr l0), (3, vi l3)]) rfl ?_
    exact W10_cutOne_b59 hC hRm hE hStr hk0 hw
  · refine wm_iload_n hC 2 dX10_cutOne_49 rfl ?_
    refine wm_if_ne (tgt := 59) hC dX10_cutOne_50 (by decide) hw (fun hw => ?_) (fun hw => ?_)
    · refine wm_aload_n hC 0 dX10_cutOne_53 rfl (k_ne0 hk0 (by decide)) ?_
      refine wm_aload_n hC 1 dX10_cutOne_54 rfl (k_ne0 hk1 (by decide)) ?_
      refine y_callV_i_I hC hRm noS ml_X10_62 hk0 (C10_cutNumber hk0 hk1 hw) (Nat.le_of_ble_eq_true rfl) (Nat.le_of_ble_eq_true rfl) ⟨Nat.zero_le _, Nat.zero_le _⟩ rfl (st := []) rfl (Nat.le_of_ble_eq_true rfl) dX10_cutOne_55 (fun r6 I3 hw => ?_)
      exact wm_ireturn hC hE dX10_cutOne_58 ⟨⟨rfl, rfl⟩, hw⟩
    · refine wm_sub [0, 3] (L2 := [(0, vr l0), (3, vi l3)]) rfl ?_
      exact W10_cutOne_b59 hC hRm hE hStr hk0 hw
def P10_cutOne (l0 : Nat) (l1 : Nat) (l2 : Int) (I : mI) (R : mR) (Q : Int → mI → Prop) : Prop := (P9_byteAt l1 (I l0 4) I R (fun r1 => (if r1 = (-1) then (P10_add l0 0 0 (I l0 4) I R (fun r4 I2 => (Q r4 I2))) else (P10_isLetter r1 (fun r2 => (if r2 = 0 then (P10_cutOne_b42 l0 l1 l2 r1 I R Q) else (if l2 = 0 then (P10_cutWord l0 l1 I R (fun r3 I1 => (Q r3 I1))) else (P10_cutOne_b42 l0 l1 l2 r1 I R Q))))))))
set_option maxRecDepth 20000 in
theorem C10_cutOne {ad : Nat → Nat} {n : Nat} {I J : mI} {R : mR} {Q : Int → mI → Prop}  {l0 : Nat} {l1 : Nat} {l2 : Int} (hk0 : kK l0 = 10) (hk1 : kK l1 = 9) (hw : P10_cutOne l0 l1 l2 I R Q) : wMet yX10_cutOne cX10_cutOne 4 (some .int) 7 145 true ad n I J R [vr l0, vr l1, vi l2] (fun r I' J' R' => (J' = J ∧ R' = R) ∧ Q r I') := by
  refine wMet_of (by decide) (Nat.le_of_ble_eq_true rfl) (fun C hC hRm hE hS => ?_)
  have hStr := hS rfl
  refine (show WM C ad n I J R 0 0 0 [(0, vr l0), (1, vr l1), (2, vi l2)] [] from ?_)
  unfold P10_cutOne at hw
  refine wm_aload_n hC 1 dX10_cutOne_0 rfl (k_ne0 hk1 (by decide)) ?_
  refine wm_aload_n hC 0 dX10_cutOne_1 rfl (k_ne0 hk0 (by decide)) ?_
  refine x_getI hC 4 fl_X10_25 rfl hk0 dX10_cutOne_2 ?_
  refine y_callV_i_n hC hRm noS ml_X10_36 hk1 (C9_byteAt hk1 hw) (Nat.le_of_ble_eq_true rfl) (Nat.le_of_ble_eq_true rfl) ⟨Nat.zero_le _, Nat.zero_le _⟩ rfl (st := []) rfl (Nat.le_of_ble_eq_true rfl) dX10_cutOne_5 (fun r1 hw => ?_)
  refine wm_istore_n hC dX10_cutOne_8 (by decide) (L2 := [(3, vi r1), (0, vr l0), (1, vr l1), (2, vi l2)]) rfl ?_
  refine wm_iload_n hC 0 dX10_cutOne_9 rfl ?_
  refine wm_iconst hC dX10_cutOne_10 (k := ?_)
  refine wm_icmp_ne (tgt := 25) hC dX10_cutOne_11 (by decide) hw (fun hw => ?_) (fun hw => ?_)
  · refine wm_aload_n hC 1 dX10_cutOne_14 rfl (k_ne0 hk0 (by decide)) ?_
    refine wm_iconst hC dX10_cutOne_15 (k := ?_)
    refine wm_iconst hC dX10_cutOne_16 (k := ?_)
    refine wm_aload_n hC 1 dX10_cutOne_17 rfl (k_ne0 hk0 (by decide)) ?_
    refine x_getI hC 4 fl_X10_25 rfl hk0 dX10_cutOne_18 ?_
    refine y_callV_i_I hC hRm noS ml_X10_48 hk0 (C10_add hk0 hw) (Nat.le_of_ble_eq_true rfl) (Nat.le_of_ble_eq_true rfl) ⟨Nat.zero_le _, Nat.zero_le _⟩ rfl (st := []) rfl (Nat.le_of_ble_eq_true rfl) dX10_cutOne_21 (fun r4 I2 hw => ?_)
    exact wm_ireturn hC hE dX10_cutOne_24 ⟨⟨rfl, rfl⟩, hw⟩
  · refine wm_iload_n hC 0 dX10_cutOne_25 rfl ?_
    refine y_callS_z_n hC hRm noS ml_X10_52 (C10_isLetter  hw) (Nat.le_of_ble_eq_true rfl) (Nat.le_of_ble_eq_true rfl) ⟨Nat.zero_le _, Nat.zero_le _⟩ rfl (st := []) rfl (Nat.le_of_ble_eq_true rfl) dX10_cutOne_26 (fun r2 hw => ?_)
    refine wm_if_eq (tgt := 42) hC dX10_cutOne_29 (by decide) hw (fun hw => ?_) (fun hw => ?_)
    · refine wm_sub [1, 2, 3, 0] (L2 := [(0, vr l0), (1, vr l1), (2, vi l2), (3, vi r1)]) rfl ?_
      exact W10_cutOne_b42 hC hRm hE hStr hk0 hk1 hw
    · refine wm_iload_n hC 3 dX10_cutOne_32 rfl ?_
      refine wm_if_ne (tgt := 42) hC dX10_cutOne_33 (by decide) hw (fun hw => ?_) (fun hw => ?_)
      · refine wm_aload_n hC 1 dX10_cutOne_36 rfl (k_ne0 hk0 (by decide)) ?_
        refine wm_aload_n hC 2 dX10_cutOne_37 rfl (k_ne0 hk1 (by decide)) ?_
        refine y_callV_i_I hC hRm (fun _ => hStr) ml_X10_55 hk0 (C10_cutWord hk0 hk1 hw) (Nat.le_of_ble_eq_true rfl) (Nat.le_of_ble_eq_true rfl) ⟨Nat.zero_le _, Nat.zero_le _⟩ rfl (st := []) rfl (Nat.le_of_ble_eq_true rfl) dX10_cutOne_38 (fun r3 I1 hw => ?_)
        exact wm_ireturn hC hE dX10_cutOne_41 ⟨⟨rfl, rfl⟩, hw⟩
      · refine wm_sub [1, 2, 3, 0] (L2 := [(0, vr l0), (1, vr l1), (2, vi l2), (3, vi r1)]) rfl ?_
        exact W10_cutOne_b42 hC hRm hE hStr hk0 hk1 hw
def P10_isBlank (l0 : Int)  (Q : Int → Prop) : Prop := (if l0 = 32 then (Q 1) else (if l0 = 10 then (Q 1) else (Q 0)))
set_option maxRecDepth 20000 in
theorem C10_isBlank {ad : Nat → Nat} {n : Nat} {I J : mI} {R : mR} {Q : Int → Prop}  {l0 : Int}  (hw : P10_isBlank l0 Q) : wMet yX10_isBlank cX10_isBlank 1 (some .boolean) 1 12 false ad n I J R [vi l0] (fun r I' J' R' => (I' = I ∧ J' = J ∧ R' = R) ∧ Q r) := by
  refine wMet_of (by decide) (Nat.le_of_ble_eq_true rfl) (fun C hC hRm hE hS => ?_)
  refine (show WM C ad n I J R 0 0 0 [(0, vi l0)] [] from ?_)
  unfold P10_isBlank at hw
  refine wm_iload_n hC 0 dX10_isBlank_0 rfl ?_
  refine wm_bipush hC dX10_isBlank_1 (k := ?_)
  refine wm_icmp_eq (tgt := 12) hC dX10_isBlank_3 (by decide) hw (fun hw => ?_) (fun hw => ?_)
  · refine wm_iconst hC dX10_isBlank_12 (k := ?_)
    refine wm_goto (tgt := 17) hC dX10_isBlank_13 (by decide) ?_
    exact wm_zreturn hC hE (Or.inr rfl) dX10_isBlank_17 ⟨⟨rfl, rfl, rfl⟩, hw⟩
  · refine wm_iload_n hC 0 dX10_isBlank_6 rfl ?_
    refine wm_bipush hC dX10_isBlank_7 (k := ?_)
    refine wm_icmp_ne (tgt := 16) hC dX10_isBlank_9 (by decide) hw (fun hw => ?_) (fun hw => ?_)
    · refine wm_iconst hC dX10_isBlank_12 (k := ?_)
      refine wm_goto (tgt := 17) hC dX10_isBlank_13 (by decide) ?_
      exact wm_zreturn hC hE (Or.inr rfl) dX10_isBlank_17 ⟨⟨rfl, rfl, rfl⟩, hw⟩
    · refine wm_iconst hC dX10_isBlank_16 (k := ?_)
      exact wm_zreturn hC hE (Or.inl rfl) dX10_isBlank_17 ⟨⟨rfl, rfl, rfl⟩, hw⟩
def P10_cut_b100 (l0 : Nat) (l1 : Nat) (l3 : Int) (s0 : Int) (I : mI) (R : mR) (k19 : Int → Int → mI → Prop) (Q : mI → Prop) : Prop := (P10_cutOne l0 l1 s0 I R (fun r3 I5 => (rg (l3 + 1) ∧ (k19 r3 (l3 + 1) I5))))
set_option maxRecDepth 20000 in
theorem W10_cut_b100 {C : wX} {ad : Nat → Nat} {n : Nat} {I J : mI} {R : mR} {Q : mI → Prop} (hC : wOK C cX10_cut 6 RX10) (hRm : wRm C 8 168 0 0) (hE : wEnd C none ad n (fun _ I' J' R' => (J' = J ∧ R' = R) ∧ Q I')) (hStr : wStrC C ad) {l0 : Nat} {l1 : Nat} {l3 : Int} {s0 : Int}  {k19 : Int → Int → mI → Prop} (hk0 : kK l0 = 10) (hk1 : kK l1 = 9) (kk19 : ∀ (y2 : Int) (y3 : Int) (I' : mI), k19 y2 y3 I' → WM C ad n I' J R 0 0 19 [(0, vr l0), (1, vr l1), (2, vi y2), (3, vi y3)] []) (hw : P10_cut_b100 l0 l1 l3 s0 I R k19 Q) : WM C ad n I J R 0 0 100 [(0, vr l0), (1, vr l1), (3, vi l3)] [vi s0] := by
  unfold P10_cut_b100 at hw
  refine wm_istore hC dX10_cut_100 (by decide) (L2 := [(5, vi s0), (0, vr l0), (1, vr l1), (3, vi l3)]) rfl ?_
  refine wm_aload_n hC 1 dX10_cut_102 rfl (k_ne0 hk0 (by decide)) ?_
  refine wm_aload_n hC 2 dX10_cut_103 rfl (k_ne0 hk1 (by decide)) ?_
  refine wm_iload hC 0 dX10_cut_104 rfl ?_
  refine y_callV_i_I hC hRm (fun _ => hStr) ml_X10_44 hk0 (C10_cutOne hk0 hk1 hw) (Nat.le_of_ble_eq_true rfl) (Nat.le_of_ble_eq_true rfl) ⟨Nat.zero_le _, Nat.zero_le _⟩ rfl (st := []) rfl (Nat.le_of_ble_eq_true rfl) dX10_cut_106 (fun r3 I5 hw => ?_)
  refine wm_istore_n hC dX10_cut_109 (by decide) (L2 := [(2, vi r3), (5, vi s0), (0, vr l0), (1, vr l1), (3, vi l3)]) rfl ?_
  refine x_iinc hC 4 dX10_cut_110 rfl (by decide) (L2 := [(3, vi (l3 + 1)), (2, vi r3), (5, vi s0), (0, vr l0), (1, vr l1)]) rfl hw (fun hw => ?_)
  refine wm_goto (tgt := 19) hC dX10_cut_113 (by decide) ?_
  refine wm_sub [3, 4, 1, 0] (L2 := [(0, vr l0), (1, vr l1), (2, vi r3), (3, vi (l3 + 1))]) rfl ?_
  exact kk19 _ _ _ hw
def P10_cut_b99 (l0 : Nat) (l1 : Nat) (l3 : Int) (I : mI) (R : mR) (k19 : Int → Int → mI → Prop) (Q : mI → Prop) : Prop := (P10_cut_b100 l0 l1 l3 0 I R k19 Q)
set_option maxRecDepth 20000 in
theorem W10_cut_b99 {C : wX} {ad : Nat → Nat} {n : Nat} {I J : mI} {R : mR} {Q : mI → Prop} (hC : wOK C cX10_cut 6 RX10) (hRm : wRm C 8 168 0 0) (hE : wEnd C none ad n (fun _ I' J' R' => (J' = J ∧ R' = R) ∧ Q I')) (hStr : wStrC C ad) {l0 : Nat} {l1 : Nat} {l3 : Int}  {k19 : Int → Int → mI → Prop} (hk0 : kK l0 = 10) (hk1 : kK l1 = 9) (kk19 : ∀ (y2 : Int) (y3 : Int) (I' : mI), k19 y2 y3 I' → WM C ad n I' J R 0 0 19 [(0, vr l0), (1, vr l1), (2, vi y2), (3, vi y3)] []) (hw : P10_cut_b99 l0 l1 l3 I R k19 Q) : WM C ad n I J R 0 0 99 [(0, vr l0), (1, vr l1), (3, vi l3)] [] := by
  unfold P10_cut_b99 at hw
  refine wm_iconst hC dX10_cut_99 (k := ?_)
  exact W10_cut_b100 hC hRm hE hStr hk0 hk1 kk19 hw
def P10_cut_b81 (l0 : Nat) (l1 : Nat) (l2 : Int) (l3 : Int) (l4 : Int) (I : mI) (R : mR) (k19 : Int → Int → mI → Prop) (Q : mI → Prop) : Prop := (if (I l0 4) = l4 then (if l2 = 4 then (P10_cut_b99 l0 l1 l3 I R k19 Q) else (P10_cut_b100 l0 l1 l3 1 I R k19 Q)) else (P10_cut_b99 l0 l1 l3 I R k19 Q))
set_option maxRecDepth 20000 in
theorem W10_cut_b81 {C : wX} {ad : Nat → Nat} {n : Nat} {I J : mI} {R : mR} {Q : mI → Prop} (hC : wOK C cX10_cut 6 RX10) (hRm : wRm C 8 168 0 0) (hE : wEnd C none ad n (fun _ I' J' R' => (J' = J ∧ R' = R) ∧ Q I')) (hStr : wStrC C ad) {l0 : Nat} {l1 : Nat} {l2 : Int} {l3 : Int} {l4 : Int}  {k19 : Int → Int → mI → Prop} (hk0 : kK l0 = 10) (hk1 : kK l1 = 9) (kk19 : ∀ (y2 : Int) (y3 : Int) (I' : mI), k19 y2 y3 I' → WM C ad n I' J R 0 0 19 [(0, vr l0), (1, vr l1), (2, vi y2), (3, vi y3)] []) (hw : P10_cut_b81 l0 l1 l2 l3 l4 I R k19 Q) : WM C ad n I J R 0 0 81 [(0, vr l0), (1, vr l1), (2, vi l2), (3, vi l3), (4, vi l4)] [] := by
  unfold P10_cut_b81 at hw
  refine wm_aload_n hC 0 dX10_cut_81 rfl (k_ne0 hk0 (by decide)) ?_
  refine x_getI hC 4 fl_X10_25 rfl hk0 dX10_cut_82 ?_
  refine wm_iload hC 4 dX10_cut_85 rfl ?_
  refine wm_icmp_ne (tgt := 99) hC dX10_cut_87 (by decide) hw (fun hw => ?_) (fun hw => ?_)
  · refine wm_iload_n hC 2 dX10_cut_90 rfl ?_
    refine wm_iconst hC dX10_cut_91 (k := ?_)
    refine wm_icmp_eq (tgt := 99) hC dX10_cut_92 (by decide) hw (fun hw => ?_) (fun hw => ?_)
    · refine wm_sub [0, 1, 3] (L2 := [(0, vr l0), (1, vr l1), (3, vi l3)]) rfl ?_
      exact W10_cut_b99 hC hRm hE hStr hk0 hk1 kk19 hw
    · refine wm_iconst hC dX10_cut_95 (k := ?_)
      refine wm_goto (tgt := 100) hC dX10_cut_96 (by decide) ?_
      refine wm_sub [0, 1, 3] (L2 := [(0, vr l0), (1, vr l1), (3, vi l3)]) rfl ?_
      exact W10_cut_b100 hC hRm hE hStr hk0 hk1 kk19 hw
  · refine wm_sub [0, 1, 3] (L2 := [(0, vr l0), (1, vr l1), (3, vi l3)]) rfl ?_
    exact W10_cut_b99 hC hRm hE hStr hk0 hk1 kk19 hw
def P10_cut_b43_body (l0 : Nat) (l1 : Nat) (l2 : Int) (l3 : Int) (l4 : Int) (R : mR) (k19 : Int → Int → mI → Prop) (Q : mI → Prop) (k43 : mI → Prop) (I : mI) : Prop := (if (I l1 1) ≤ (I l0 4) then (P10_cut_b81 l0 l1 l2 l3 l4 I R k19 Q) else (P9_byteAt l1 (I l0 4) I R (fun r1 => (P10_isBlank r1 (fun r2 => (if r2 = 0 then (P10_cut_b81 l0 l1 l2 l3 l4 I R k19 Q) else (rg ((I l0 4) + 1) ∧ (wLet (up I l0 4 ((I l0 4) + 1)) (fun I4 => (k43 I4))))))))))
def P10_cut_b43 (l0 : Nat) (l1 : Nat) (l2 : Int) (l3 : Int) (l4 : Int) (R : mR) (k19 : Int → Int → mI → Prop) (Q : mI → Prop) : Nat → mI → Prop
  | 0 => fun _ => False
  | f + 1 => fun I => P10_cut_b43_body l0 l1 l2 l3 l4 R k19 Q (P10_cut_b43 l0 l1 l2 l3 l4 R k19 Q f) I
set_option maxRecDepth 20000 in
theorem W10_cut_b43_body {C : wX} {ad : Nat → Nat} {n : Nat} {I J : mI} {R : mR} {Q : mI → Prop} (hC : wOK C cX10_cut 6 RX10) (hRm : wRm C 8 168 0 0) (hE : wEnd C none ad n (fun _ I' J' R' => (J' = J ∧ R' = R) ∧ Q I')) (hStr : wStrC C ad) {l0 : Nat} {l1 : Nat} {l2 : Int} {l3 : Int} {l4 : Int}   {k19 : Int → Int → mI → Prop} (hk0 : kK l0 = 10) (hk1 : kK l1 = 9) (kk19 : ∀ (y2 : Int) (y3 : Int) (I' : mI), k19 y2 y3 I' → WM C ad n I' J R 0 0 19 [(0, vr l0), (1, vr l1), (2, vi y2), (3, vi y3)] []) {k43 : mI → Prop} (kk43 : ∀ (I' : mI), k43 I' → WM C ad n I' J R 0 0 43 [(0, vr l0), (1, vr l1), (2, vi l2), (3, vi l3), (4, vi l4)] []) (hw : P10_cut_b43_body l0 l1 l2 l3 l4 R k19 Q k43 I) : WM C ad n I J R 0 0 43 [(0, vr l0), (1, vr l1), (2, vi l2), (3, vi l3), (4, vi l4)] [] := by
  unfold P10_cut_b43_body at hw
  refine wm_aload_n hC 0 dX10_cut_43 rfl (k_ne0 hk0 (by decide)) ?_
  refine x_getI hC 4 fl_X10_25 rfl hk0 dX10_cut_44 ?_
  refine wm_aload_n hC 1 dX10_cut_47 rfl (k_ne0 hk1 (by decide)) ?_
  refine x_getI hC 1 fl_X10_31 rfl hk1 dX10_cut_48 ?_
  refine wm_icmp_ge (tgt := 81) hC dX10_cut_51 (by decide) hw (fun hw => ?_) (fun hw => ?_)
  · exact W10_cut_b81 hC hRm hE hStr hk0 hk1 kk19 hw
  · refine wm_aload_n hC 1 dX10_cut_54 rfl (k_ne0 hk1 (by decide)) ?_
    refine wm_aload_n hC 0 dX10_cut_55 rfl (k_ne0 hk0 (by decide)) ?_
    refine x_getI hC 4 fl_X10_25 rfl hk0 dX10_cut_56 ?_
    refine y_callV_i_n hC hRm noS ml_X10_36 hk1 (C9_byteAt hk1 hw) (Nat.le_of_ble_eq_true rfl) (Nat.le_of_ble_eq_true rfl) ⟨Nat.zero_le _, Nat.zero_le _⟩ rfl (st := []) rfl (Nat.le_of_ble_eq_true rfl) dX10_cut_59 (fun r1 hw => ?_)
    refine y_callS_z_n hC hRm noS ml_X10_40 (C10_isBlank  hw) (Nat.le_of_ble_eq_true rfl) (Nat.le_of_ble_eq_true rfl) ⟨Nat.zero_le _, Nat.zero_le _⟩ rfl (st := []) rfl (Nat.le_of_ble_eq_true rfl) dX10_cut_62 (fun r2 hw => ?_)
    refine wm_if_eq (tgt := 81) hC dX10_cut_65 (by decide) hw (fun hw => ?_) (fun hw => ?_)
    · exact W10_cut_b81 hC hRm hE hStr hk0 hk1 kk19 hw
    · refine wm_aload_n hC 0 dX10_cut_68 rfl (k_ne0 hk0 (by decide)) ?_
      refine wm_dup hC dX10_cut_69 (k := ?_)
      refine x_getI hC 4 fl_X10_25 rfl hk0 dX10_cut_70 ?_
      refine wm_iconst hC dX10_cut_73 (k := ?_)
      refine x_iadd hC dX10_cut_74 hw (fun hw => ?_)
      refine x_putI hC 4 fl_X10_25 rfl hk0 dX10_cut_75 hw (fun I4 hw => ?_)
      refine wm_goto (tgt := 43) hC dX10_cut_78 (by decide) ?_
      exact kk43 _ hw
set_option maxRecDepth 20000 in
theorem W10_cut_b43 {C : wX} {ad : Nat → Nat} {n : Nat} {J : mI} {R : mR} {Q : mI → Prop} (hC : wOK C cX10_cut 6 RX10) (hRm : wRm C 8 168 0 0) (hE : wEnd C none ad n (fun _ I' J' R' => (J' = J ∧ R' = R) ∧ Q I')) (hStr : wStrC C ad) {l0 : Nat} {l1 : Nat} {l2 : Int} {l3 : Int} {l4 : Int}  {k19 : Int → Int → mI → Prop} (hk0 : kK l0 = 10) (hk1 : kK l1 = 9) (kk19 : ∀ (y2 : Int) (y3 : Int) (I' : mI), k19 y2 y3 I' → WM C ad n I' J R 0 0 19 [(0, vr l0), (1, vr l1), (2, vi y2), (3, vi y3)] []) : ∀ (f : Nat) (I : mI), P10_cut_b43 l0 l1 l2 l3 l4 R k19 Q f I → WM C ad n I J R 0 0 43 [(0, vr l0), (1, vr l1), (2, vi l2), (3, vi l3), (4, vi l4)] [] := by
  intro f
  induction f with
  | zero => intro I hw; exact hw.elim
  | succ f ih => intro I hw; exact W10_cut_b43_body hC hRm hE hStr hk0 hk1 kk19 (fun a0 hw => ih a0 hw) hw
def P10_cut_b19_body (l0 : Nat) (l1 : Nat) (R : mR) (Q : mI → Prop) (k19 : Int → Int → mI → Prop) (l2 : Int) (l3 : Int) (I : mI) : Prop := (kK (R l0 0) = 21 ∧ (if (kN (R l0 0) : Int) ≤ l3 then (Q I) else (if l2 = 5 then (Q I) else (if l2 = 0 then (Q I) else (∃ f, P10_cut_b43 l0 l1 l2 l3 (I l0 4) R k19 Q f I)))))
def P10_cut_b19 (l0 : Nat) (l1 : Nat) (R : mR) (Q : mI → Prop) : Nat → Int → Int → mI → Prop
  | 0 => fun _ _ _ => False
  | f + 1 => fun l2 l3 I => P10_cut_b19_body l0 l1 R Q (P10_cut_b19 l0 l1 R Q f) l2 l3 I
set_option maxRecDepth 20000 in
theorem W10_cut_b19_body {C : wX} {ad : Nat → Nat} {n : Nat} {I J : mI} {R : mR} {Q : mI → Prop} (hC : wOK C cX10_cut 6 RX10) (hRm : wRm C 8 168 0 0) (hE : wEnd C none ad n (fun _ I' J' R' => (J' = J ∧ R' = R) ∧ Q I')) (hStr : wStrC C ad) {l0 : Nat} {l1 : Nat} {l2 : Int} {l3 : Int}   (hk0 : kK l0 = 10) (hk1 : kK l1 = 9)  {k19 : Int → Int → mI → Prop} (kk19 : ∀ (y2 : Int) (y3 : Int) (I' : mI), k19 y2 y3 I' → WM C ad n I' J R 0 0 19 [(0, vr l0), (1, vr l1), (2, vi y2), (3, vi y3)] []) (hw : P10_cut_b19_body l0 l1 R Q k19 l2 l3 I) : WM C ad n I J R 0 0 19 [(0, vr l0), (1, vr l1), (2, vi l2), (3, vi l3)] [] := by
  unfold P10_cut_b19_body at hw
  refine wm_iload_n hC 3 dX10_cut_19 rfl ?_
  refine wm_aload_n hC 0 dX10_cut_20 rfl (k_ne0 hk0 (by decide)) ?_
  refine x_getR2 hC 0 fl_X10_9 rfl hk0 dX10_cut_21 hw (fun g1 hw => ?_)
  refine x_alen hC g1 (by decide) dX10_cut_24 ?_
  refine wm_icmp_ge (tgt := 116) hC dX10_cut_25 (by decide) hw (fun hw => ?_) (fun hw => ?_)
  · exact wm_return hC hE dX10_cut_116 ⟨⟨rfl, rfl⟩, hw⟩
  · refine wm_iload_n hC 2 dX10_cut_28 rfl ?_
    refine wm_iconst hC dX10_cut_29 (k := ?_)
    refine wm_icmp_eq (tgt := 116) hC dX10_cut_30 (by decide) hw (fun hw => ?_) (fun hw => ?_)
    · exact wm_return hC hE dX10_cut_116 ⟨⟨rfl, rfl⟩, hw⟩
    · refine wm_iload_n hC 2 dX10_cut_33 rfl ?_
      refine wm_if_eq (tgt := 116) hC dX10_cut_34 (by decide) hw (fun hw => ?_) (fun hw => ?_)
      · exact wm_return hC hE dX10_cut_116 ⟨⟨rfl, rfl⟩, hw⟩
      · refine wm_aload_n hC 0 dX10_cut_37 rfl (k_ne0 hk0 (by decide)) ?_
        refine x_getI hC 4 fl_X10_25 rfl hk0 dX10_cut_38 ?_
        refine wm_istore hC dX10_cut_41 (by decide) (L2 := [(4, vi (I l0 4)), (0, vr l0), (1, vr l1), (2, vi l2), (3, vi l3)]) rfl ?_
        obtain ⟨f, hw⟩ := hw
        refine wm_sub [1, 2, 3, 4, 0] (L2 := [(0, vr l0), (1, vr l1), (2, vi l2), (3, vi l3), (4, vi (I l0 4))]) rfl ?_
        exact W10_cut_b43 hC hRm hE hStr hk0 hk1 kk19 f _ hw
set_option maxRecDepth 20000 in
theorem W10_cut_b19 {C : wX} {ad : Nat → Nat} {n : Nat} {J : mI} {R : mR} {Q : mI → Prop} (hC : wOK C cX10_cut 6 RX10) (hRm : wRm C 8 168 0 0) (hE : wEnd C none ad n (fun _ I' J' R' => (J' = J ∧ R' = R) ∧ Q I')) (hStr : wStrC C ad) {l0 : Nat} {l1 : Nat}   (hk0 : kK l0 = 10) (hk1 : kK l1 = 9)  : ∀ (f : Nat) (l2 : Int) (l3 : Int) (I : mI), P10_cut_b19 l0 l1 R Q f l2 l3 I → WM C ad n I J R 0 0 19 [(0, vr l0), (1, vr l1), (2, vi l2), (3, vi l3)] [] := by
  intro f
  induction f with
  | zero => intro l2 l3 I hw; exact hw.elim
  | succ f ih => intro l2 l3 I hw; exact W10_cut_b19_body hC hRm hE hStr hk0 hk1 (fun a0 a1 a2 hw => ih a0 a1 a2 hw) hw
def P10_cut (l0 : Nat) (l1 : Nat) (I : mI) (R : mR) (Q : mI → Prop) : Prop := (wLet (up I l0 5 0) (fun I1 => (wLet (up I1 l0 3 0) (fun I2 => (wLet (up I2 l0 4 0) (fun I3 => (∃ f, P10_cut_b19 l0 l1 R Q f 4 0 I3)))))))
set_option maxRecDepth 20000 in
theorem C10_cut {ad : Nat → Nat} {n : Nat} {I J : mI} {R : mR} {Q : mI → Prop}  {l0 : Nat} {l1 : Nat} (hk0 : kK l0 = 10) (hk1 : kK l1 = 9) (hw : P10_cut l0 l1 I R Q) : wMet yX10_cut cX10_cut 6 none 8 168 true ad n I J R [vr l0, vr l1] (fun _ I' J' R' => (J' = J ∧ R' = R) ∧ Q I') := by
  refine wMet_of (by decide) (Nat.le_of_ble_eq_true rfl) (fun C hC hRm hE hS => ?_)
  have hStr := hS rfl
  refine (show WM C ad n I J R 0 0 0 [(0, vr l0), (1, vr l1)] [] from ?_)
  unfold P10_cut at hw
  refine wm_aload_n hC 0 dX10_cut_0 rfl (k_ne0 hk0 (by decide)) ?_
  refine wm_iconst hC dX10_cut_1 (k := ?_)
  refine x_putI hC 5 fl_X10_28 rfl hk0 dX10_cut_2 hw (fun I1 hw => ?_)
  refine wm_aload_n hC 0 dX10_cut_5 rfl (k_ne0 hk0 (by decide)) ?_
  refine wm_iconst hC dX10_cut_6 (k := ?_)
  refine x_putI hC 3 fl_X10_21 rfl hk0 dX10_cut_7 hw (fun I2 hw => ?_)
  refine wm_aload_n hC 0 dX10_cut_10 rfl (k_ne0 hk0 (by decide)) ?_
  refine wm_iconst hC dX10_cut_11 (k := ?_)
  refine x_putI hC 4 fl_X10_25 rfl hk0 dX10_cut_12 hw (fun I3 hw => ?_)
  refine wm_iconst hC dX10_cut_15 (k := ?_)
  refine wm_istore_n hC dX10_cut_16 (by decide) (L2 := [(2, vi 4), (0, vr l0), (1, vr l1)]) rfl ?_
  refine wm_iconst hC dX10_cut_17 (k := ?_)
  refine wm_istore_n hC dX10_cut_18 (by decide) (L2 := [(3, vi 0), (2, vi 4), (0, vr l0), (1, vr l1)]) rfl ?_
  obtain ⟨f, hw⟩ := hw
  refine wm_sub [2, 3, 1, 0] (L2 := [(0, vr l0), (1, vr l1), (2, vi 4), (3, vi 0)]) rfl ?_
  exact W10_cut_b19 hC hRm hE hStr hk0 hk1 f _ _ _ hw
def P10_sortHere (l0 : Nat) (I : mI) (R : mR) (Q : Int → Prop) : Prop := (if (I l0 5) < 0 then (Q 5) else (if (I l0 3) ≤ (I l0 5) then (Q 5) else (kK (R l0 0) = 21 ∧ (if (kN (R l0 0) : Int) ≤ (I l0 5) then (Q 5) else (kK (R l0 0) = 21 ∧ (((0 : Int) ≤ (I l0 5) ∧ (I l0 5) < (kN (R l0 0) : Int)) ∧ (Q (I (R l0 0) (I l0 5)))))))))
set_option maxRecDepth 20000 in
theorem C10_sortHere {ad : Nat → Nat} {n : Nat} {I J : mI} {R : mR} {Q : Int → Prop}  {l0 : Nat} (hk0 : kK l0 = 10) (hw : P10_sortHere l0 I R Q) : wMet yX10_sortHere cX10_sortHere 1 (some .int) 1 12 false ad n I J R [vr l0] (fun r I' J' R' => (I' = I ∧ J' = J ∧ R' = R) ∧ Q r) := by
  refine wMet_of (by decide) (Nat.le_of_ble_eq_true rfl) (fun C hC hRm hE hS => ?_)
  refine (show WM C ad n I J R 0 0 0 [(0, vr l0)] [] from ?_)
  unfold P10_sortHere at hw
  refine wm_aload_n hC 0 dX10_sortHere_0 rfl (k_ne0 hk0 (by decide)) ?_
  refine x_getI hC 5 fl_X10_28 rfl hk0 dX10_sortHere_1 ?_
  refine wm_if_lt (tgt := 42) hC dX10_sortHere_4 (by decide) hw (fun hw => ?_) (fun hw => ?_)
  · refine wm_iconst hC dX10_sortHere_42 (k := ?_)
    exact wm_ireturn hC hE dX10_sortHere_43 ⟨⟨rfl, rfl, rfl⟩, hw⟩
  · refine wm_aload_n hC 0 dX10_sortHere_7 rfl (k_ne0 hk0 (by decide)) ?_
    refine x_getI hC 5 fl_X10_28 rfl hk0 dX10_sortHere_8 ?_
    refine wm_aload_n hC 0 dX10_sortHere_11 rfl (k_ne0 hk0 (by decide)) ?_
    refine x_getI hC 3 fl_X10_21 rfl hk0 dX10_sortHere_12 ?_
    refine wm_icmp_ge (tgt := 42) hC dX10_sortHere_15 (by decide) hw (fun hw => ?_) (fun hw => ?_)
    · refine wm_iconst hC dX10_sortHere_42 (k := ?_)
      exact wm_ireturn hC hE dX10_sortHere_43 ⟨⟨rfl, rfl, rfl⟩, hw⟩
    · refine wm_aload_n hC 0 dX10_sortHere_18 rfl (k_ne0 hk0 (by decide)) ?_
      refine x_getI hC 5 fl_X10_28 rfl hk0 dX10_sortHere_19 ?_
      refine wm_aload_n hC 0 dX10_sortHere_22 rfl (k_ne0 hk0 (by decide)) ?_
      refine x_getR2 hC 0 fl_X10_9 rfl hk0 dX10_sortHere_23 hw (fun g1 hw => ?_)
      refine x_alen hC g1 (by decide) dX10_sortHere_26 ?_
      refine wm_icmp_ge (tgt := 42) hC dX10_sortHere_27 (by decide) hw (fun hw => ?_) (fun hw => ?_)
      · refine wm_iconst hC dX10_sortHere_42 (k := ?_)
        exact wm_ireturn hC hE dX10_sortHere_43 ⟨⟨rfl, rfl, rfl⟩, hw⟩
      · refine wm_aload_n hC 0 dX10_sortHere_30 rfl (k_ne0 hk0 (by decide)) ?_
        refine x_getR2 hC 0 fl_X10_9 rfl hk0 dX10_sortHere_31 hw (fun g2 hw => ?_)
        refine wm_aload_n hC 0 dX10_sortHere_34 rfl (k_ne0 hk0 (by decide)) ?_
        refine x_getI hC 5 fl_X10_28 rfl hk0 dX10_sortHere_35 ?_
        refine x_iald hC g2 dX10_sortHere_38 hw (fun hw => ?_)
        refine wm_goto (tgt := 43) hC dX10_sortHere_39 (by decide) ?_
        exact wm_ireturn hC hE dX10_sortHere_43 ⟨⟨rfl, rfl, rfl⟩, hw⟩
def P10_step (l0 : Nat) (I : mI) (Q : mI → Prop) : Prop := (if (I l0 3) ≤ (I l0 5) then (wLet (up I l0 5 (I l0 3)) (fun I1 => (Q I1))) else (rg ((I l0 5) + 1) ∧ (wLet (up I l0 5 ((I l0 5) + 1)) (fun I2 => (Q I2)))))
set_option maxRecDepth 20000 in
theorem C10_step {ad : Nat → Nat} {n : Nat} {I J : mI} {R : mR} {Q : mI → Prop}  {l0 : Nat} (hk0 : kK l0 = 10) (hw : P10_step l0 I Q) : wMet yX10_step cX10_step 1 none 1 12 false ad n I J R [vr l0] (fun _ I' J' R' => (J' = J ∧ R' = R) ∧ Q I') := by
  refine wMet_of (by decide) (Nat.le_of_ble_eq_true rfl) (fun C hC hRm hE hS => ?_)
  refine (show WM C ad n I J R 0 0 0 [(0, vr l0)] [] from ?_)
  unfold P10_step at hw
  refine wm_aload_n hC 0 dX10_step_0 rfl (k_ne0 hk0 (by decide)) ?_
  refine wm_aload_n hC 0 dX10_step_1 rfl (k_ne0 hk0 (by decide)) ?_
  refine x_getI hC 5 fl_X10_28 rfl hk0 dX10_step_2 ?_
  refine wm_aload_n hC 0 dX10_step_5 rfl (k_ne0 hk0 (by decide)) ?_
  refine x_getI hC 3 fl_X10_21 rfl hk0 dX10_step_6 ?_
  refine wm_icmp_ge (tgt := 21) hC dX10_step_9 (by decide) hw (fun hw => ?_) (fun hw => ?_)
  · refine wm_aload_n hC 0 dX10_step_21 rfl (k_ne0 hk0 (by decide)) ?_
    refine x_getI hC 3 fl_X10_21 rfl hk0 dX10_step_22 ?_
    refine x_putI hC 5 fl_X10_28 rfl hk0 dX10_step_25 hw (fun I1 hw => ?_)
    exact wm_return hC hE dX10_step_28 ⟨⟨rfl, rfl⟩, hw⟩
  · refine wm_aload_n hC 0 dX10_step_12 rfl (k_ne0 hk0 (by decide)) ?_
    refine x_getI hC 5 fl_X10_28 rfl hk0 dX10_step_13 ?_
    refine wm_iconst hC dX10_step_16 (k := ?_)
    refine x_iadd hC dX10_step_17 hw (fun hw => ?_)
    refine wm_goto (tgt := 25) hC dX10_step_18 (by decide) ?_
    refine x_putI hC 5 fl_X10_28 rfl hk0 dX10_step_25 hw (fun I2 hw => ?_)
    exact wm_return hC hE dX10_step_28 ⟨⟨rfl, rfl⟩, hw⟩
def P10_beginHere (l0 : Nat) (I : mI) (R : mR) (Q : Int → Prop) : Prop := (if (I l0 5) < 0 then (Q 0) else (if (I l0 3) ≤ (I l0 5) then (Q 0) else (kK (R l0 0) = 21 ∧ (if (I l0 5) < (kN (R l0 0) : Int) then (kK (R l0 0) = 21 ∧ (((0 : Int) ≤ (I l0 5) ∧ (I l0 5) < (kN (R l0 0) : Int)) ∧ (if (I (R l0 0) (I l0 5)) = 5 then (kK (R l0 1) = 21 ∧ (((0 : Int) ≤ (I l0 5) ∧ (I l0 5) < (kN (R l0 1) : Int)) ∧ (Q (I (R l0 1) (I l0 5))))) else (kK (R l0 2) = 21 ∧ (((0 : Int) ≤ (I l0 5) ∧ (I l0 5) < (kN (R l0 2) : Int)) ∧ (Q (I (R l0 2) (I l0 5)))))))) else (Q 0)))))
set_option maxRecDepth 20000 in
theorem C10_beginHere {ad : Nat → Nat} {n : Nat} {I J : mI} {R : mR} {Q : Int → Prop}  {l0 : Nat} (hk0 : kK l0 = 10) (hw : P10_beginHere l0 I R Q) : wMet yX10_beginHere cX10_beginHere 1 (some .int) 1 12 false ad n I J R [vr l0] (fun r I' J' R' => (I' = I ∧ J' = J ∧ R' = R) ∧ Q r) := by
  refine wMet_of (by decide) (Nat.le_of_ble_eq_true rfl) (fun C hC hRm hE hS => ?_)
  refine (show WM C ad n I J R 0 0 0 [(0, vr l0)] [] from ?_)
  unfold P10_beginHere at hw
  refine wm_aload_n hC 0 dX10_beginHere_0 rfl (k_ne0 hk0 (by decide)) ?_
  refine x_getI hC 5 fl_X10_28 rfl hk0 dX10_beginHere_1 ?_
  refine wm_if_lt (tgt := 30) hC dX10_beginHere_4 (by decide) hw (fun hw => ?_) (fun hw => ?_)
  · refine wm_iconst hC dX10_beginHere_30 (k := ?_)
    exact wm_ireturn hC hE dX10_beginHere_31 ⟨⟨rfl, rfl, rfl⟩, hw⟩
  · refine wm_aload_n hC 0 dX10_beginHere_7 rfl (k_ne0 hk0 (by decide)) ?_
    refine x_getI hC 5 fl_X10_28 rfl hk0 dX10_beginHere_8 ?_
    refine wm_aload_n hC 0 dX10_beginHere_11 rfl (k_ne0 hk0 (by decide)) ?_
    refine x_getI hC 3 fl_X10_21 rfl hk0 dX10_beginHere_12 ?_
    refine wm_icmp_ge (tgt := 30) hC dX10_beginHere_15 (by decide) hw (fun hw => ?_) (fun hw => ?_)
    · refine wm_iconst hC dX10_beginHere_30 (k := ?_)
      exact wm_ireturn hC hE dX10_beginHere_31 ⟨⟨rfl, rfl, rfl⟩, hw⟩
    · refine wm_aload_n hC 0 dX10_beginHere_18 rfl (k_ne0 hk0 (by decide)) ?_
      refine x_getI hC 5 fl_X10_28 rfl hk0 dX10_beginHere_19 ?_
      refine wm_aload_n hC 0 dX10_beginHere_22 rfl (k_ne0 hk0 (by decide)) ?_
      refine x_getR2 hC 0 fl_X10_9 rfl hk0 dX10_beginHere_23 hw (fun g1 hw => ?_)
      refine x_alen hC g1 (by decide) dX10_beginHere_26 ?_
      refine wm_icmp_lt (tgt := 32) hC dX10_beginHere_27 (by decide) hw (fun hw => ?_) (fun hw => ?_)
      · refine wm_aload_n hC 0 dX10_beginHere_32 rfl (k_ne0 hk0 (by decide)) ?_
        refine x_getR2 hC 0 fl_X10_9 rfl hk0 dX10_beginHere_33 hw (fun g2 hw => ?_)
        refine wm_aload_n hC 0 dX10_beginHere_36 rfl (k_ne0 hk0 (by decide)) ?_
        refine x_getI hC 5 fl_X10_28 rfl hk0 dX10_beginHere_37 ?_
        refine x_iald hC g2 dX10_beginHere_40 hw (fun hw => ?_)
        refine wm_iconst hC dX10_beginHere_41 (k := ?_)
        refine wm_icmp_ne (tgt := 57) hC dX10_beginHere_42 (by decide) hw (fun hw => ?_) (fun hw => ?_)
        · refine wm_aload_n hC 0 dX10_beginHere_45 rfl (k_ne0 hk0 (by decide)) ?_
          refine x_getR2 hC 1 fl_X10_15 rfl hk0 dX10_beginHere_46 hw (fun g4 hw => ?_)
          refine wm_aload_n hC 0 dX10_beginHere_49 rfl (k_ne0 hk0 (by decide)) ?_
          refine x_getI hC 5 fl_X10_28 rfl hk0 dX10_beginHere_50 ?_
          refine x_iald hC g4 dX10_beginHere_53 hw (fun hw => ?_)
          refine wm_goto (tgt := 66) hC dX10_beginHere_54 (by decide) ?_
          exact wm_ireturn hC hE dX10_beginHere_66 ⟨⟨rfl, rfl, rfl⟩, hw⟩
        · refine wm_aload_n hC 0 dX10_beginHere_57 rfl (k_ne0 hk0 (by decide)) ?_
          refine x_getR2 hC 2 fl_X10_18 rfl hk0 dX10_beginHere_58 hw (fun g3 hw => ?_)
          refine wm_aload_n hC 0 dX10_beginHere_61 rfl (k_ne0 hk0 (by decide)) ?_
          refine x_getI hC 5 fl_X10_28 rfl hk0 dX10_beginHere_62 ?_
          refine x_iald hC g3 dX10_beginHere_65 hw (fun hw => ?_)
          exact wm_ireturn hC hE dX10_beginHere_66 ⟨⟨rfl, rfl, rfl⟩, hw⟩
      · refine wm_iconst hC dX10_beginHere_30 (k := ?_)
        exact wm_ireturn hC hE dX10_beginHere_31 ⟨⟨rfl, rfl, rfl⟩, hw⟩
def P10_placeHere (l0 : Nat) (I : mI) (R : mR) (Q : Int → Prop) : Prop := (if (I l0 5) < 0 then (Q 0) else (if (I l0 3) ≤ (I l0 5) then (Q 0) else (kK (R l0 2) = 21 ∧ (if (kN (R l0 2) : Int) ≤ (I l0 5) then (Q 0) else (kK (R l0 2) = 21 ∧ (((0 : Int) ≤ (I l0 5) ∧ (I l0 5) < (kN (R l0 2) : Int)) ∧ (Q (I (R l0 2) (I l0 5)))))))))
set_option maxRecDepth 20000 in
theorem C10_placeHere {ad : Nat → Nat} {n : Nat} {I J : mI} {R : mR} {Q : Int → Prop}  {l0 : Nat} (hk0 : kK l0 = 10) (hw : P10_placeHere l0 I R Q) : wMet yX10_placeHere cX10_placeHere 1 (some .int) 1 12 false ad n I J R [vr l0] (fun r I' J' R' => (I' = I ∧ J' = J ∧ R' = R) ∧ Q r) := by
  refine wMet_of (by decide) (Nat.le_of_ble_eq_true rfl) (fun C hC hRm hE hS => ?_)
  refine (show WM C ad n I J R 0 0 0 [(0, vr l0)] [] from ?_)
  unfold P10_placeHere at hw
  refine wm_aload_n hC 0 dX10_placeHere_0 rfl (k_ne0 hk0 (by decide)) ?_
  refine x_getI hC 5 fl_X10_28 rfl hk0 dX10_placeHere_1 ?_
  refine wm_if_lt (tgt := 42) hC dX10_placeHere_4 (by decide) hw (fun hw => ?_) (fun hw => ?_)
  · refine wm_iconst hC dX10_placeHere_42 (k := ?_)
    exact wm_ireturn hC hE dX10_placeHere_43 ⟨⟨rfl, rfl, rfl⟩, hw⟩
  · refine wm_aload_n hC 0 dX10_placeHere_7 rfl (k_ne0 hk0 (by decide)) ?_
    refine x_getI hC 5 fl_X10_28 rfl hk0 dX10_placeHere_8 ?_
    refine wm_aload_n hC 0 dX10_placeHere_11 rfl (k_ne0 hk0 (by decide)) ?_
    refine x_getI hC 3 fl_X10_21 rfl hk0 dX10_placeHere_12 ?_
    refine wm_icmp_ge (tgt := 42) hC dX10_placeHere_15 (by decide) hw (fun hw => ?_) (fun hw => ?_)
    · refine wm_iconst hC dX10_placeHere_42 (k := ?_)
      exact wm_ireturn hC hE dX10_placeHere_43 ⟨⟨rfl, rfl, rfl⟩, hw⟩
    · refine wm_aload_n hC 0 dX10_placeHere_18 rfl (k_ne0 hk0 (by decide)) ?_
      refine x_getI hC 5 fl_X10_28 rfl hk0 dX10_placeHere_19 ?_
      refine wm_aload_n hC 0 dX10_placeHere_22 rfl (k_ne0 hk0 (by decide)) ?_
      refine x_getR2 hC 2 fl_X10_18 rfl hk0 dX10_placeHere_23 hw (fun g1 hw => ?_)
      refine x_alen hC g1 (by decide) dX10_placeHere_26 ?_
      refine wm_icmp_ge (tgt := 42) hC dX10_placeHere_27 (by decide) hw (fun hw => ?_) (fun hw => ?_)
      · refine wm_iconst hC dX10_placeHere_42 (k := ?_)
        exact wm_ireturn hC hE dX10_placeHere_43 ⟨⟨rfl, rfl, rfl⟩, hw⟩
      · refine wm_aload_n hC 0 dX10_placeHere_30 rfl (k_ne0 hk0 (by decide)) ?_
        refine x_getR2 hC 2 fl_X10_18 rfl hk0 dX10_placeHere_31 hw (fun g2 hw => ?_)
        refine wm_aload_n hC 0 dX10_placeHere_34 rfl (k_ne0 hk0 (by decide)) ?_
        refine x_getI hC 5 fl_X10_28 rfl hk0 dX10_placeHere_35 ?_
        refine x_iald hC g2 dX10_placeHere_38 hw (fun hw => ?_)
        refine wm_goto (tgt := 43) hC dX10_placeHere_39 (by decide) ?_
        exact wm_ireturn hC hE dX10_placeHere_43 ⟨⟨rfl, rfl, rfl⟩, hw⟩
def P10_stop (l0 : Nat) (I : mI) (Q : mI → Prop) : Prop := (wLet (up I l0 5 (I l0 3)) (fun I1 => (Q I1)))
set_option maxRecDepth 20000 in
theorem C10_stop {ad : Nat → Nat} {n : Nat} {I J : mI} {R : mR} {Q : mI → Prop}  {l0 : Nat} (hk0 : kK l0 = 10) (hw : P10_stop l0 I Q) : wMet yX10_stop cX10_stop 1 none 1 12 false ad n I J R [vr l0] (fun _ I' J' R' => (J' = J ∧ R' = R) ∧ Q I') := by
  refine wMet_of (by decide) (Nat.le_of_ble_eq_true rfl) (fun C hC hRm hE hS => ?_)
  refine (show WM C ad n I J R 0 0 0 [(0, vr l0)] [] from ?_)
  unfold P10_stop at hw
  refine wm_aload_n hC 0 dX10_stop_0 rfl (k_ne0 hk0 (by decide)) ?_
  refine wm_aload_n hC 0 dX10_stop_1 rfl (k_ne0 hk0 (by decide)) ?_
  refine x_getI hC 3 fl_X10_21 rfl hk0 dX10_stop_2 ?_
  refine x_putI hC 5 fl_X10_28 rfl hk0 dX10_stop_5 hw (fun I1 hw => ?_)
  exact wm_return hC hE dX10_stop_8 ⟨⟨rfl, rfl⟩, hw⟩
def P6_fail (l0 : Nat) (l1 : Int) (I : mI) (R : mR) (Q : mI → Prop) : Prop := (if (I l0 6) = 0 then (wLet (up I l0 6 l1) (fun I2 => (if l1 = 6 then (kK (R l0 1) = 10 ∧ (P10_beginHere (R l0 1) I2 R (fun r2 => (wLet (up I2 l0 7 r2) (fun I5 => (kK (R l0 1) = 10 ∧ (P10_stop (R l0 1) I5 (fun I6 => (Q I6))))))))) else (kK (R l0 1) = 10 ∧ (P10_placeHere (R l0 1) I2 R (fun r1 => (wLet (up I2 l0 7 r1) (fun I3 => (kK (R l0 1) = 10 ∧ (P10_stop (R l0 1) I3 (fun I4 => (Q I4)))))))))))) else (kK (R l0 1) = 10 ∧ (P10_stop (R l0 1) I (fun I1 => (Q I1)))))
set_option maxRecDepth 20000 in
theorem C6_fail {ad : Nat → Nat} {n : Nat} {I J : mI} {R : mR} {Q : mI → Prop}  {l0 : Nat} {l1 : Int} (hk0 : kK l0 = 6) (hw : P6_fail l0 l1 I R Q) : wMet yX6_fail cX6_fail 2 none 2 32 false ad n I J R [vr l0, vi l1] (fun _ I' J' R' => (J' = J ∧ R' = R) ∧ Q I') := by
  refine wMet_of (by decide) (Nat.le_of_ble_eq_true rfl) (fun C hC hRm hE hS => ?_)
  refine (show WM C ad n I J R 0 0 0 [(0, vr l0), (1, vi l1)] [] from ?_)
  unfold P6_fail at hw
  refine wm_aload_n hC 0 dX6_fail_0 rfl (k_ne0 hk0 (by decide)) ?_
  refine x_getI hC 6 fl_X6_28 rfl hk0 dX6_fail_1 ?_
  refine wm_if_ne (tgt := 39) hC dX6_fail_4 (by decide) hw (fun hw => ?_) (fun hw => ?_)
  · refine wm_aload_n hC 0 dX6_fail_7 rfl (k_ne0 hk0 (by decide)) ?_
    refine wm_iload_n hC 1 dX6_fail_8 rfl ?_
    refine x_putI hC 6 fl_X6_28 rfl hk0 dX6_fail_9 hw (fun I2 hw => ?_)
    refine wm_aload_n hC 0 dX6_fail_12 rfl (k_ne0 hk0 (by decide)) ?_
    refine wm_iload_n hC 1 dX6_fail_13 rfl ?_
    refine wm_bipush hC dX6_fail_14 (k := ?_)
    refine wm_icmp_ne (tgt := 29) hC dX6_fail_16 (by decide) hw (fun hw => ?_) (fun hw => ?_)
    · refine wm_aload_n hC 0 dX6_fail_19 rfl (k_ne0 hk0 (by decide)) ?_
      refine x_getR2 hC 1 fl_X6_12 rfl hk0 dX6_fail_20 hw (fun g4 hw => ?_)
      refine y_callV_i_n hC hRm noS ml_X6_58 g4 (C10_beginHere g4 hw) (Nat.le_of_ble_eq_true rfl) (Nat.le_of_ble_eq_true rfl) ⟨Nat.zero_le _, Nat.zero_le _⟩ rfl (st := [vr l0]) rfl (Nat.le_of_ble_eq_true rfl) dX6_fail_23 (fun r2 hw => ?_)
      refine wm_goto (tgt := 36) hC dX6_fail_26 (by decide) ?_
      refine x_putI hC 7 fl_X6_31 rfl hk0 dX6_fail_36 hw (fun I5 hw => ?_)
      refine wm_aload_n hC 0 dX6_fail_39 rfl (k_ne0 hk0 (by decide)) ?_
      refine x_getR2 hC 1 fl_X6_12 rfl hk0 dX6_fail_40 hw (fun g5 hw => ?_)
      refine y_callV_v_I hC hRm noS ml_X6_64 g5 (C10_stop g5 hw) (Nat.le_of_ble_eq_true rfl) (Nat.le_of_ble_eq_true rfl) ⟨Nat.zero_le _, Nat.zero_le _⟩ rfl (st := []) rfl (Nat.le_of_ble_eq_true rfl) dX6_fail_43 (fun I6 hw => ?_)
      exact wm_return hC hE dX6_fail_46 ⟨⟨rfl, rfl⟩, hw⟩
    · refine wm_aload_n hC 0 dX6_fail_29 rfl (k_ne0 hk0 (by decide)) ?_
      refine x_getR2 hC 1 fl_X6_12 rfl hk0 dX6_fail_30 hw (fun g2 hw => ?_)
      refine y_callV_i_n hC hRm noS ml_X6_61 g2 (C10_placeHere g2 hw) (Nat.le_of_ble_eq_true rfl) (Nat.le_of_ble_eq_true rfl) ⟨Nat.zero_le _, Nat.zero_le _⟩ rfl (st := [vr l0]) rfl (Nat.le_of_ble_eq_true rfl) dX6_fail_33 (fun r1 hw => ?_)
      refine x_putI hC 7 fl_X6_31 rfl hk0 dX6_fail_36 hw (fun I3 hw => ?_)
      refine wm_aload_n hC 0 dX6_fail_39 rfl (k_ne0 hk0 (by decide)) ?_
      refine x_getR2 hC 1 fl_X6_12 rfl hk0 dX6_fail_40 hw (fun g3 hw => ?_)
      refine y_callV_v_I hC hRm noS ml_X6_64 g3 (C10_stop g3 hw) (Nat.le_of_ble_eq_true rfl) (Nat.le_of_ble_eq_true rfl) ⟨Nat.zero_le _, Nat.zero_le _⟩ rfl (st := []) rfl (Nat.le_of_ble_eq_true rfl) dX6_fail_43 (fun I4 hw => ?_)
      exact wm_return hC hE dX6_fail_46 ⟨⟨rfl, rfl⟩, hw⟩
  · refine wm_aload_n hC 0 dX6_fail_39 rfl (k_ne0 hk0 (by decide)) ?_
    refine x_getR2 hC 1 fl_X6_12 rfl hk0 dX6_fail_40 hw (fun g1 hw => ?_)
    refine y_callV_v_I hC hRm noS ml_X6_64 g1 (C10_stop g1 hw) (Nat.le_of_ble_eq_true rfl) (Nat.le_of_ble_eq_true rfl) ⟨Nat.zero_le _, Nat.zero_le _⟩ rfl (st := []) rfl (Nat.le_of_ble_eq_true rfl) dX6_fail_43 (fun I1 hw => ?_)
    exact wm_return hC hE dX6_fail_46 ⟨⟨rfl, rfl⟩, hw⟩
def P10_isHere (l0 : Nat) (l1 : Int) (l2 : Int) (I : mI) (R : mR) (Q : Int → Prop) : Prop := (if (I l0 5) < 0 then (Q 0) else (if (I l0 3) ≤ (I l0 5) then (Q 0) else (kK (R l0 0) = 21 ∧ (if (kN (R l0 0) : Int) ≤ (I l0 5) then (Q 0) else (kK (R l0 0) = 21 ∧ (((0 : Int) ≤ (I l0 5) ∧ (I l0 5) < (kN (R l0 0) : Int)) ∧ (if (I (R l0 0) (I l0 5)) = l1 then (kK (R l0 1) = 21 ∧ (((0 : Int) ≤ (I l0 5) ∧ (I l0 5) < (kN (R l0 1) : Int)) ∧ (if (I (R l0 1) (I l0 5)) = l2 then (Q 1) else (Q 0)))) else (Q 0))))))))
set_option maxRecDepth 20000 in
theorem C10_isHere {ad : Nat → Nat} {n : Nat} {I J : mI} {R : mR} {Q : Int → Prop}  {l0 : Nat} {l1 : Int} {l2 : Int} (hk0 : kK l0 = 10) (hw : P10_isHere l0 l1 l2 I R Q) : wMet yX10_isHere cX10_isHere 3 (some .boolean) 1 12 false ad n I J R [vr l0, vi l1, vi l2] (fun r I' J' R' => (I' = I ∧ J' = J ∧ R' = R) ∧ Q r) := by
  refine wMet_of (by decide) (Nat.le_of_ble_eq_true rfl) (fun C hC hRm hE hS => ?_)
  refine (show WM C ad n I J R 0 0 0 [(0, vr l0), (1, vi l1), (2, vi l2)] [] from ?_)
  unfold P10_isHere at hw
  refine wm_aload_n hC 0 dX10_isHere_0 rfl (k_ne0 hk0 (by decide)) ?_
  refine x_getI hC 5 fl_X10_28 rfl hk0 dX10_isHere_1 ?_
  refine wm_if_lt (tgt := 60) hC dX10_isHere_4 (by decide) hw (fun hw => ?_) (fun hw => ?_)
  · refine wm_iconst hC dX10_isHere_60 (k := ?_)
    exact wm_zreturn hC hE (Or.inl rfl) dX10_isHere_61 ⟨⟨rfl, rfl, rfl⟩, hw⟩
  · refine wm_aload_n hC 0 dX10_isHere_7 rfl (k_ne0 hk0 (by decide)) ?_
    refine x_getI hC 5 fl_X10_28 rfl hk0 dX10_isHere_8 ?_
    refine wm_aload_n hC 0 dX10_isHere_11 rfl (k_ne0 hk0 (by decide)) ?_
    refine x_getI hC 3 fl_X10_21 rfl hk0 dX10_isHere_12 ?_
    refine wm_icmp_ge (tgt := 60) hC dX10_isHere_15 (by decide) hw (fun hw => ?_) (fun hw => ?_)
    · refine wm_iconst hC dX10_isHere_60 (k := ?_)
      exact wm_zreturn hC hE (Or.inl rfl) dX10_isHere_61 ⟨⟨rfl, rfl, rfl⟩, hw⟩
    · refine wm_aload_n hC 0 dX10_isHere_18 rfl (k_ne0 hk0 (by decide)) ?_
      refine x_getI hC 5 fl_X10_28 rfl hk0 dX10_isHere_19 ?_
      refine wm_aload_n hC 0 dX10_isHere_22 rfl (k_ne0 hk0 (by decide)) ?_
      refine x_getR2 hC 0 fl_X10_9 rfl hk0 dX10_isHere_23 hw (fun g1 hw => ?_)
      refine x_alen hC g1 (by decide) dX10_isHere_26 ?_
      refine wm_icmp_ge (tgt := 60) hC dX10_isHere_27 (by decide) hw (fun hw => ?_) (fun hw => ?_)
      · refine wm_iconst hC dX10_isHere_60 (k := ?_)
        exact wm_zreturn hC hE (Or.inl rfl) dX10_isHere_61 ⟨⟨rfl, rfl, rfl⟩, hw⟩
      · refine wm_aload_n hC 0 dX10_isHere_30 rfl (k_ne0 hk0 (by decide)) ?_
        refine x_getR2 hC 0 fl_X10_9 rfl hk0 dX10_isHere_31 hw (fun g2 hw => ?_)
        refine wm_aload_n hC 0 dX10_isHere_34 rfl (k_ne0 hk0 (by decide)) ?_
        refine x_getI hC 5 fl_X10_28 rfl hk0 dX10_isHere_35 ?_
        refine x_iald hC g2 dX10_isHere_38 hw (fun hw => ?_)
        refine wm_iload_n hC 1 dX10_isHere_39 rfl ?_
        refine wm_icmp_ne (tgt := 60) hC dX10_isHere_40 (by decide) hw (fun hw => ?_) (fun hw => ?_)
        · refine wm_aload_n hC 0 dX10_isHere_43 rfl (k_ne0 hk0 (by decide)) ?_
          refine x_getR2 hC 1 fl_X10_15 rfl hk0 dX10_isHere_44 hw (fun g3 hw => ?_)
          refine wm_aload_n hC 0 dX10_isHere_47 rfl (k_ne0 hk0 (by decide)) ?_
          refine x_getI hC 5 fl_X10_28 rfl hk0 dX10_isHere_48 ?_
          refine x_iald hC g3 dX10_isHere_51 hw (fun hw => ?_)
          refine wm_iload_n hC 2 dX10_isHere_52 rfl ?_
          refine wm_icmp_ne (tgt := 60) hC dX10_isHere_53 (by decide) hw (fun hw => ?_) (fun hw => ?_)
          · refine wm_iconst hC dX10_isHere_56 (k := ?_)
            refine wm_goto (tgt := 61) hC dX10_isHere_57 (by decide) ?_
            exact wm_zreturn hC hE (Or.inr rfl) dX10_isHere_61 ⟨⟨rfl, rfl, rfl⟩, hw⟩
          · refine wm_iconst hC dX10_isHere_60 (k := ?_)
            exact wm_zreturn hC hE (Or.inl rfl) dX10_isHere_61 ⟨⟨rfl, rfl, rfl⟩, hw⟩
        · refine wm_iconst hC dX10_isHere_60 (k := ?_)
          exact wm_zreturn hC hE (Or.inl rfl) dX10_isHere_61 ⟨⟨rfl, rfl, rfl⟩, hw⟩
def P6_isSign (l0 : Nat) (l1 : Int) (I : mI) (R : mR) (Q : Int → Prop) : Prop := (kK (R l0 1) = 10 ∧ (P10_isHere (R l0 1) 4 l1 I R (fun r1 => ((r1 = 0 ∨ r1 = 1) ∧ (Q r1)))))
set_option maxRecDepth 20000 in
theorem C6_isSign {ad : Nat → Nat} {n : Nat} {I J : mI} {R : mR} {Q : Int → Prop}  {l0 : Nat} {l1 : Int} (hk0 : kK l0 = 6) (hw : P6_isSign l0 l1 I R Q) : wMet yX6_isSign cX6_isSign 2 (some .boolean) 2 34 false ad n I J R [vr l0, vi l1] (fun r I' J' R' => (I' = I ∧ J' = J ∧ R' = R) ∧ Q r) := by
  refine wMet_of (by decide) (Nat.le_of_ble_eq_true rfl) (fun C hC hRm hE hS => ?_)
  refine (show WM C ad n I J R 0 0 0 [(0, vr l0), (1, vi l1)] [] from ?_)
  unfold P6_isSign at hw
  refine wm_aload_n hC 0 dX6_isSign_0 rfl (k_ne0 hk0 (by decide)) ?_
  refine x_getR2 hC 1 fl_X6_12 rfl hk0 dX6_isSign_1 hw (fun g1 hw => ?_)
  refine wm_iconst hC dX6_isSign_4 (k := ?_)
  refine wm_iload_n hC 1 dX6_isSign_5 rfl ?_
  refine y_callV_z_n hC hRm noS ml_X6_81 g1 (C10_isHere g1 hw) (Nat.le_of_ble_eq_true rfl) (Nat.le_of_ble_eq_true rfl) ⟨Nat.zero_le _, Nat.zero_le _⟩ rfl (st := []) rfl (Nat.le_of_ble_eq_true rfl) dX6_isSign_6 (fun r1 hw => ?_)
  obtain ⟨z01, hw⟩ := hw
  exact wm_zreturn hC hE z01 dX6_isSign_9 ⟨⟨rfl, rfl, rfl⟩, hw⟩
def P6_expect (l0 : Nat) (l1 : Int) (I : mI) (R : mR) (Q : mI → Prop) : Prop := (P6_isSign l0 l1 I R (fun r1 => (if r1 = 0 then (P6_fail l0 1 I R (fun I1 => (Q I1))) else (kK (R l0 1) = 10 ∧ (P10_step (R l0 1) I (fun I2 => (Q I2)))))))
set_option maxRecDepth 20000 in
theorem C6_expect {ad : Nat → Nat} {n : Nat} {I J : mI} {R : mR} {Q : mI → Prop}  {l0 : Nat} {l1 : Int} (hk0 : kK l0 = 6) (hw : P6_expect l0 l1 I R Q) : wMet yX6_expect cX6_expect 2 none 3 55 false ad n I J R [vr l0, vi l1] (fun _ I' J' R' => (J' = J ∧ R' = R) ∧ Q I') := by
  refine wMet_of (by decide) (Nat.le_of_ble_eq_true rfl) (fun C hC hRm hE hS => ?_)
  refine (show WM C ad n I J R 0 0 0 [(0, vr l0), (1, vi l1)] [] from ?_)
  unfold P6_expect at hw
  refine wm_aload_n hC 0 dX6_expect_0 rfl (k_ne0 hk0 (by decide)) ?_
  refine wm_iload_n hC 1 dX6_expect_1 rfl ?_
  refine y_callV_z_n hC hRm noS ml_X6_85 hk0 (C6_isSign hk0 hw) (Nat.le_of_ble_eq_true rfl) (Nat.le_of_ble_eq_true rfl) ⟨Nat.zero_le _, Nat.zero_le _⟩ rfl (st := []) rfl (Nat.le_of_ble_eq_true rfl) dX6_expect_2 (fun r1 hw => ?_)
  refine wm_if_eq (tgt := 18) hC dX6_expect_5 (by decide) hw (fun hw => ?_) (fun hw => ?_)
  · refine wm_aload_n hC 0 dX6_expect_18 rfl (k_ne0 hk0 (by decide)) ?_
    refine wm_iconst hC dX6_expect_19 (k := ?_)
    refine y_callV_v_I hC hRm noS ml_X6_92 hk0 (C6_fail hk0 hw) (Nat.le_of_ble_eq_true rfl) (Nat.le_of_ble_eq_true rfl) ⟨Nat.zero_le _, Nat.zero_le _⟩ rfl (st := []) rfl (Nat.le_of_ble_eq_true rfl) dX6_expect_20 (fun I1 hw => ?_)
    exact wm_return hC hE dX6_expect_23 ⟨⟨rfl, rfl⟩, hw⟩
  · refine wm_aload_n hC 0 dX6_expect_8 rfl (k_ne0 hk0 (by decide)) ?_
    refine x_getR2 hC 1 fl_X6_12 rfl hk0 dX6_expect_9 hw (fun g1 hw => ?_)
    refine y_callV_v_I hC hRm noS ml_X6_89 g1 (C10_step g1 hw) (Nat.le_of_ble_eq_true rfl) (Nat.le_of_ble_eq_true rfl) ⟨Nat.zero_le _, Nat.zero_le _⟩ rfl (st := []) rfl (Nat.le_of_ble_eq_true rfl) dX6_expect_12 (fun I2 hw => ?_)
    refine wm_goto (tgt := 23) hC dX6_expect_15 (by decide) ?_
    exact wm_return hC hE dX6_expect_23 ⟨⟨rfl, rfl⟩, hw⟩
def P6_isFull (l0 : Nat) (l1 : Int) (I : mI) (R : mR) (Q : Int → Prop) : Prop := (if (2 : Int) < l1 then (if l1 < 8 then (Q 0) else (kK (R l0 2) = 3 ∧ (rg (l1 - 8) ∧ (P3_hasCode (R l0 2) (l1 - 8) I R (fun r1 => (if r1 = 0 then (Q 0) else (Q 1))))))) else (kK (R l0 2) = 3 ∧ (kK (R (R l0 2) 0) = 21 ∧ (((0 : Int) ≤ l1 ∧ l1 < (kN (R (R l0 2) 0) : Int)) ∧ (if (I (R (R l0 2) 0) l1) < 6 then (Q 0) else (Q 1))))))
set_option maxRecDepth 20000 in
theorem C6_isFull {ad : Nat → Nat} {n : Nat} {I J : mI} {R : mR} {Q : Int → Prop}  {l0 : Nat} {l1 : Int} (hk0 : kK l0 = 6) (hw : P6_isFull l0 l1 I R Q) : wMet yX6_isFull cX6_isFull 2 (some .boolean) 2 33 false ad n I J R [vr l0, vi l1] (fun r I' J' R' => (I' = I ∧ J' = J ∧ R' = R) ∧ Q r) := by
  refine wMet_of (by decide) (Nat.le_of_ble_eq_true rfl) (fun C hC hRm hE hS => ?_)
  refine (show WM C ad n I J R 0 0 0 [(0, vr l0), (1, vi l1)] [] from ?_)
  unfold P6_isFull at hw
  refine wm_iload_n hC 1 dX6_isFull_0 rfl ?_
  refine wm_iconst hC dX6_isFull_1 (k := ?_)
  refine wm_icmp_gt (tgt := 25) hC dX6_isFull_2 (by decide) hw (fun hw => ?_) (fun hw => ?_)
  · refine wm_iload_n hC 1 dX6_isFull_25 rfl ?_
    refine wm_bipush hC dX6_isFull_26 (k := ?_)
    refine wm_icmp_lt (tgt := 49) hC dX6_isFull_28 (by decide) hw (fun hw => ?_) (fun hw => ?_)
    · refine wm_iconst hC dX6_isFull_49 (k := ?_)
      exact wm_zreturn hC hE (Or.inl rfl) dX6_isFull_50 ⟨⟨rfl, rfl, rfl⟩, hw⟩
    · refine wm_aload_n hC 0 dX6_isFull_31 rfl (k_ne0 hk0 (by decide)) ?_
      refine x_getR2 hC 2 fl_X6_38 rfl hk0 dX6_isFull_32 hw (fun g1 hw => ?_)
      refine wm_iload_n hC 1 dX6_isFull_35 rfl ?_
      refine wm_bipush hC dX6_isFull_36 (k := ?_)
      refine x_isub hC dX6_isFull_38 hw (fun hw => ?_)
      refine y_callV_z_n hC hRm noS ml_X6_136 g1 (C3_hasCode g1 hw) (Nat.le_of_ble_eq_true rfl) (Nat.le_of_ble_eq_true rfl) ⟨Nat.zero_le _, Nat.zero_le _⟩ rfl (st := []) rfl (Nat.le_of_ble_eq_true rfl) dX6_isFull_39 (fun r1 hw => ?_)
      refine wm_if_eq (tgt := 49) hC dX6_isFull_42 (by decide) hw (fun hw => ?_) (fun hw => ?_)
      · refine wm_iconst hC dX6_isFull_49 (k := ?_)
        exact wm_zreturn hC hE (Or.inl rfl) dX6_isFull_50 ⟨⟨rfl, rfl, rfl⟩, hw⟩
      · refine wm_iconst hC dX6_isFull_45 (k := ?_)
        refine wm_goto (tgt := 50) hC dX6_isFull_46 (by decide) ?_
        exact wm_zreturn hC hE (Or.inr rfl) dX6_isFull_50 ⟨⟨rfl, rfl, rfl⟩, hw⟩
  · refine wm_aload_n hC 0 dX6_isFull_5 rfl (k_ne0 hk0 (by decide)) ?_
    refine x_getR2 hC 2 fl_X6_38 rfl hk0 dX6_isFull_6 hw (fun g2 hw => ?_)
    refine x_getR2 hC 0 fl_X6_132 rfl g2 dX6_isFull_9 hw (fun g3 hw => ?_)
    refine wm_iload_n hC 1 dX6_isFull_12 rfl ?_
    refine x_iald hC g3 dX6_isFull_13 hw (fun hw => ?_)
    refine wm_bipush hC dX6_isFull_14 (k := ?_)
    refine wm_icmp_lt (tgt := 23) hC dX6_isFull_16 (by decide) hw (fun hw => ?_) (fun hw => ?_)
    · refine wm_iconst hC dX6_isFull_23 (k := ?_)
      exact wm_zreturn hC hE (Or.inl rfl) dX6_isFull_24 ⟨⟨rfl, rfl, rfl⟩, hw⟩
    · refine wm_iconst hC dX6_isFull_19 (k := ?_)
      refine wm_goto (tgt := 24) hC dX6_isFull_20 (by decide) ?_
      exact wm_zreturn hC hE (Or.inr rfl) dX6_isFull_24 ⟨⟨rfl, rfl, rfl⟩, hw⟩
def P10_valueHere (l0 : Nat) (I : mI) (R : mR) (Q : Int → Prop) : Prop := (if (I l0 5) < 0 then (Q 0) else (if (I l0 3) ≤ (I l0 5) then (Q 0) else (kK (R l0 1) = 21 ∧ (if (kN (R l0 1) : Int) ≤ (I l0 5) then (Q 0) else (kK (R l0 1) = 21 ∧ (((0 : Int) ≤ (I l0 5) ∧ (I l0 5) < (kN (R l0 1) : Int)) ∧ (Q (I (R l0 1) (I l0 5)))))))))
set_option maxRecDepth 20000 in
theorem C10_valueHere {ad : Nat → Nat} {n : Nat} {I J : mI} {R : mR} {Q : Int → Prop}  {l0 : Nat} (hk0 : kK l0 = 10) (hw : P10_valueHere l0 I R Q) : wMet yX10_valueHere cX10_valueHere 1 (some .int) 1 12 false ad n I J R [vr l0] (fun r I' J' R' => (I' = I ∧ J' = J ∧ R' = R) ∧ Q r) := by
  refine wMet_of (by decide) (Nat.le_of_ble_eq_true rfl) (fun C hC hRm hE hS => ?_)
  refine (show WM C ad n I J R 0 0 0 [(0, vr l0)] [] from ?_)
  unfold P10_valueHere at hw
  refine wm_aload_n hC 0 dX10_valueHere_0 rfl (k_ne0 hk0 (by decide)) ?_
  refine x_getI hC 5 fl_X10_28 rfl hk0 dX10_valueHere_1 ?_
  refine wm_if_lt (tgt := 42) hC dX10_valueHere_4 (by decide) hw (fun hw => ?_) (fun hw => ?_)
  · refine wm_iconst hC dX10_valueHere_42 (k := ?_)
    exact wm_ireturn hC hE dX10_valueHere_43 ⟨⟨rfl, rfl, rfl⟩, hw⟩
  · refine wm_aload_n hC 0 dX10_valueHere_7 rfl (k_ne0 hk0 (by decide)) ?_
    refine x_getI hC 5 fl_X10_28 rfl hk0 dX10_valueHere_8 ?_
    refine wm_aload_n hC 0 dX10_valueHere_11 rfl (k_ne0 hk0 (by decide)) ?_
    refine x_getI hC 3 fl_X10_21 rfl hk0 dX10_valueHere_12 ?_
    refine wm_icmp_ge (tgt := 42) hC dX10_valueHere_15 (by decide) hw (fun hw => ?_) (fun hw => ?_)
    · refine wm_iconst hC dX10_valueHere_42 (k := ?_)
      exact wm_ireturn hC hE dX10_valueHere_43 ⟨⟨rfl, rfl, rfl⟩, hw⟩
    · refine wm_aload_n hC 0 dX10_valueHere_18 rfl (k_ne0 hk0 (by decide)) ?_
      refine x_getI hC 5 fl_X10_28 rfl hk0 dX10_valueHere_19 ?_
      refine wm_aload_n hC 0 dX10_valueHere_22 rfl (k_ne0 hk0 (by decide)) ?_
      refine x_getR2 hC 1 fl_X10_15 rfl hk0 dX10_valueHere_23 hw (fun g1 hw => ?_)
      refine x_alen hC g1 (by decide) dX10_valueHere_26 ?_
      refine wm_icmp_ge (tgt := 42) hC dX10_valueHere_27 (by decide) hw (fun hw => ?_) (fun hw => ?_)
      · refine wm_iconst hC dX10_valueHere_42 (k := ?_)
        exact wm_ireturn hC hE dX10_valueHere_43 ⟨⟨rfl, rfl, rfl⟩, hw⟩
      · refine wm_aload_n hC 0 dX10_valueHere_30 rfl (k_ne0 hk0 (by decide)) ?_
        refine x_getR2 hC 1 fl_X10_15 rfl hk0 dX10_valueHere_31 hw (fun g2 hw => ?_)
        refine wm_aload_n hC 0 dX10_valueHere_34 rfl (k_ne0 hk0 (by decide)) ?_
        refine x_getI hC 5 fl_X10_28 rfl hk0 dX10_valueHere_35 ?_
        refine x_iald hC g2 dX10_valueHere_38 hw (fun hw => ?_)
        refine wm_goto (tgt := 43) hC dX10_valueHere_39 (by decide) ?_
        exact wm_ireturn hC hE dX10_valueHere_43 ⟨⟨rfl, rfl, rfl⟩, hw⟩
def P6_ownHere (l0 : Nat) (I : mI) (R : mR) (Q : Int → Prop) : Prop := (kK (R l0 1) = 10 ∧ (P10_sortHere (R l0 1) I R (fun r1 => (if r1 = 1 then (kK (R l0 1) = 10 ∧ (P10_valueHere (R l0 1) I R (fun r2 => (Q r2)))) else (Q (-1))))))
set_option maxRecDepth 20000 in
theorem C6_ownHere {ad : Nat → Nat} {n : Nat} {I J : mI} {R : mR} {Q : Int → Prop}  {l0 : Nat} (hk0 : kK l0 = 6) (hw : P6_ownHere l0 I R Q) : wMet yX6_ownHere cX6_ownHere 1 (some .int) 2 32 false ad n I J R [vr l0] (fun r I' J' R' => (I' = I ∧ J' = J ∧ R' = R) ∧ Q r) := by
  refine wMet_of (by decide) (Nat.le_of_ble_eq_true rfl) (fun C hC hRm hE hS => ?_)
  refine (show WM C ad n I J R 0 0 0 [(0, vr l0)] [] from ?_)
  unfold P6_ownHere at hw
  refine wm_aload_n hC 0 dX6_ownHere_0 rfl (k_ne0 hk0 (by decide)) ?_
  refine x_getR2 hC 1 fl_X6_12 rfl hk0 dX6_ownHere_1 hw (fun g1 hw => ?_)
  refine y_callV_i_n hC hRm noS ml_X6_51 g1 (C10_sortHere g1 hw) (Nat.le_of_ble_eq_true rfl) (Nat.le_of_ble_eq_true rfl) ⟨Nat.zero_le _, Nat.zero_le _⟩ rfl (st := []) rfl (Nat.le_of_ble_eq_true rfl) dX6_ownHere_4 (fun r1 hw => ?_)
  refine wm_iconst hC dX6_ownHere_7 (k := ?_)
  refine wm_icmp_ne (tgt := 21) hC dX6_ownHere_8 (by decide) hw (fun hw => ?_) (fun hw => ?_)
  · refine wm_aload_n hC 0 dX6_ownHere_11 rfl (k_ne0 hk0 (by decide)) ?_
    refine x_getR2 hC 1 fl_X6_12 rfl hk0 dX6_ownHere_12 hw (fun g2 hw => ?_)
    refine y_callV_i_n hC hRm noS ml_X6_78 g2 (C10_valueHere g2 hw) (Nat.le_of_ble_eq_true rfl) (Nat.le_of_ble_eq_true rfl) ⟨Nat.zero_le _, Nat.zero_le _⟩ rfl (st := []) rfl (Nat.le_of_ble_eq_true rfl) dX6_ownHere_15 (fun r2 hw => ?_)
    refine wm_goto (tgt := 22) hC dX6_ownHere_18 (by decide) ?_
    exact wm_ireturn hC hE dX6_ownHere_22 ⟨⟨rfl, rfl, rfl⟩, hw⟩
  · refine wm_iconst hC dX6_ownHere_21 (k := ?_)
    exact wm_ireturn hC hE dX6_ownHere_22 ⟨⟨rfl, rfl, rfl⟩, hw⟩
def P6_emit (l0 : Nat) (l1 : Int) (I : mI) (R : mR) (Q : mI → Prop) : Prop := (kK (R l0 2) = 3 ∧ (kK (R l0 2) = 3 ∧ (kK (R (R l0 2) 5) = 21 ∧ (if (kN (R (R l0 2) 5) : Int) ≤ (I (R l0 2) 8) then (Q I) else (kK (R l0 2) = 3 ∧ (kK (R (R l0 2) 5) = 21 ∧ (kK (R l0 2) = 3 ∧ (((0 : Int) ≤ (I (R l0 2) 8) ∧ (I (R l0 2) 8) < (kN (R (R l0 2) 5) : Int)) ∧ wLet (up I (R (R l0 2) 5) (I (R l0 2) 8) l1) (fun I1 => (kK (R l0 2) = 3 ∧ (rg ((I1 (R l0 2) 8) + 1) ∧ (wLet (up I1 (R l0 2) 8 ((I1 (R l0 2) 8) + 1)) (fun I2 => (Q I2))))))))))))))
set_option maxRecDepth 20000 in
theorem C6_emit {ad : Nat → Nat} {n : Nat} {I J : mI} {R : mR} {Q : mI → Prop}  {l0 : Nat} {l1 : Int} (hk0 : kK l0 = 6) (hw : P6_emit l0 l1 I R Q) : wMet yX6_emit cX6_emit 2 none 1 12 false ad n I J R [vr l0, vi l1] (fun _ I' J' R' => (J' = J ∧ R' = R) ∧ Q I') := by
  refine wMet_of (by decide) (Nat.le_of_ble_eq_true rfl) (fun C hC hRm hE hS => ?_)
  refine (show WM C ad n I J R 0 0 0 [(0, vr l0), (1, vi l1)] [] from ?_)
  unfold P6_emit at hw
  refine wm_aload_n hC 0 dX6_emit_0 rfl (k_ne0 hk0 (by decide)) ?_
  refine x_getR2 hC 2 fl_X6_38 rfl hk0 dX6_emit_1 hw (fun g1 hw => ?_)
  refine x_getI hC 8 fl_X6_180 rfl g1 dX6_emit_4 ?_
  refine wm_aload_n hC 0 dX6_emit_7 rfl (k_ne0 hk0 (by decide)) ?_
  refine x_getR2 hC 2 fl_X6_38 rfl hk0 dX6_emit_8 hw (fun g2 hw => ?_)
  refine x_getR2 hC 5 fl_X6_192 rfl g2 dX6_emit_11 hw (fun g3 hw => ?_)
  refine x_alen hC g3 (by decide) dX6_emit_14 ?_
  refine wm_icmp_ge (tgt := 47) hC dX6_emit_15 (by decide) hw (fun hw => ?_) (fun hw => ?_)
  · exact wm_return hC hE dX6_emit_47 ⟨⟨rfl, rfl⟩, hw⟩
  · refine wm_aload_n hC 0 dX6_emit_18 rfl (k_ne0 hk0 (by decide)) ?_
    refine x_getR2 hC 2 fl_X6_38 rfl hk0 dX6_emit_19 hw (fun g4 hw => ?_)
    refine x_getR2 hC 5 fl_X6_192 rfl g4 dX6_emit_22 hw (fun g5 hw => ?_)
    refine wm_aload_n hC 0 dX6_emit_25 rfl (k_ne0 hk0 (by decide)) ?_
    refine x_getR2 hC 2 fl_X6_38 rfl hk0 dX6_emit_26 hw (fun g6 hw => ?_)
    refine x_getI hC 8 fl_X6_180 rfl g6 dX6_emit_29 ?_
    refine wm_iload_n hC 1 dX6_emit_32 rfl ?_
    refine x_iast hC g5 dX6_emit_33 hw (fun I1 hw => ?_)
    refine wm_aload_n hC 0 dX6_emit_34 rfl (k_ne0 hk0 (by decide)) ?_
    refine x_getR2 hC 2 fl_X6_38 rfl hk0 dX6_emit_35 hw (fun g7 hw => ?_)
    refine wm_dup hC dX6_emit_38 (k := ?_)
    refine x_getI hC 8 fl_X6_180 rfl g7 dX6_emit_39 ?_
    refine wm_iconst hC dX6_emit_42 (k := ?_)
    refine x_iadd hC dX6_emit_43 hw (fun hw => ?_)
    refine x_putI hC 8 fl_X6_180 rfl g7 dX6_emit_44 hw (fun I2 hw => ?_)
    exact wm_return hC hE dX6_emit_47 ⟨⟨rfl, rfl⟩, hw⟩
def P6_isOwn (l0 : Nat) (l1 : Int) (I : mI) (R : mR) (Q : Int → Prop) : Prop := (kK (R l0 1) = 10 ∧ (P10_isHere (R l0 1) 1 l1 I R (fun r1 => ((r1 = 0 ∨ r1 = 1) ∧ (Q r1)))))
set_option maxRecDepth 20000 in
theorem C6_isOwn {ad : Nat → Nat} {n : Nat} {I J : mI} {R : mR} {Q : Int → Prop}  {l0 : Nat} {l1 : Int} (hk0 : kK l0 = 6) (hw : P6_isOwn l0 l1 I R Q) : wMet yX6_isOwn cX6_isOwn 2 (some .boolean) 2 34 false ad n I J R [vr l0, vi l1] (fun r I' J' R' => (I' = I ∧ J' = J ∧ R' = R) ∧ Q r) := by
  refine wMet_of (by decide) (Nat.le_of_ble_eq_true rfl) (fun C hC hRm hE hS => ?_)
  refine (show WM C ad n I J R 0 0 0 [(0, vr l0), (1, vi l1)] [] from ?_)
  unfold P6_isOwn at hw
  refine wm_aload_n hC 0 dX6_isOwn_0 rfl (k_ne0 hk0 (by decide)) ?_
  refine x_getR2 hC 1 fl_X6_12 rfl hk0 dX6_isOwn_1 hw (fun g1 hw => ?_)
  refine wm_iconst hC dX6_isOwn_4 (k := ?_)
  refine wm_iload_n hC 1 dX6_isOwn_5 rfl ?_
  refine y_callV_z_n hC hRm noS ml_X6_81 g1 (C10_isHere g1 hw) (Nat.le_of_ble_eq_true rfl) (Nat.le_of_ble_eq_true rfl) ⟨Nat.zero_le _, Nat.zero_le _⟩ rfl (st := []) rfl (Nat.le_of_ble_eq_true rfl) dX6_isOwn_6 (fun r1 hw => ?_)
  obtain ⟨z01, hw⟩ := hw
  exact wm_zreturn hC hE z01 dX6_isOwn_9 ⟨⟨rfl, rfl, rfl⟩, hw⟩
def P6_opens (l0 : Nat) (I : mI) (R : mR) (Q : Int → mI → Prop) : Prop := (if (I l0 3) < 7 then (rg ((I l0 3) + 1) ∧ (wLet (up I l0 3 ((I l0 3) + 1)) (fun I1 => (kK (R l0 1) = 10 ∧ (P10_step (R l0 1) I1 (fun I2 => (Q 1 I2))))))) else (P6_fail l0 5 I R (fun I3 => (Q 0 I3))))
set_option maxRecDepth 20000 in
theorem C6_opens {ad : Nat → Nat} {n : Nat} {I J : mI} {R : mR} {Q : Int → mI → Prop}  {l0 : Nat} (hk0 : kK l0 = 6) (hw : P6_opens l0 I R Q) : wMet yX6_opens cX6_opens 1 (some .boolean) 3 53 false ad n I J R [vr l0] (fun r I' J' R' => (J' = J ∧ R' = R) ∧ Q r I') := by
  refine wMet_of (by decide) (Nat.le_of_ble_eq_true rfl) (fun C hC hRm hE hS => ?_)
  refine (show WM C ad n I J R 0 0 0 [(0, vr l0)] [] from ?_)
  unfold P6_opens at hw
  refine wm_aload_n hC 0 dX6_opens_0 rfl (k_ne0 hk0 (by decide)) ?_
  refine x_getI hC 3 fl_X6_18 rfl hk0 dX6_opens_1 ?_
  refine wm_bipush hC dX6_opens_4 (k := ?_)
  refine wm_icmp_lt (tgt := 16) hC dX6_opens_6 (by decide) hw (fun hw => ?_) (fun hw => ?_)
  · refine wm_aload_n hC 0 dX6_opens_16 rfl (k_ne0 hk0 (by decide)) ?_
    refine wm_dup hC dX6_opens_17 (k := ?_)
    refine x_getI hC 3 fl_X6_18 rfl hk0 dX6_opens_18 ?_
    refine wm_iconst hC dX6_opens_21 (k := ?_)
    refine x_iadd hC dX6_opens_22 hw (fun hw => ?_)
    refine x_putI hC 3 fl_X6_18 rfl hk0 dX6_opens_23 hw (fun I1 hw => ?_)
    refine wm_aload_n hC 0 dX6_opens_26 rfl (k_ne0 hk0 (by decide)) ?_
    refine x_getR2 hC 1 fl_X6_12 rfl hk0 dX6_opens_27 hw (fun g1 hw => ?_)
    refine y_callV_v_I hC hRm noS ml_X6_89 g1 (C10_step g1 hw) (Nat.le_of_ble_eq_true rfl) (Nat.le_of_ble_eq_true rfl) ⟨Nat.zero_le _, Nat.zero_le _⟩ rfl (st := []) rfl (Nat.le_of_ble_eq_true rfl) dX6_opens_30 (fun I2 hw => ?_)
    refine wm_iconst hC dX6_opens_33 (k := ?_)
    exact wm_zreturn hC hE (Or.inr rfl) dX6_opens_34 ⟨⟨rfl, rfl⟩, hw⟩
  · refine wm_aload_n hC 0 dX6_opens_9 rfl (k_ne0 hk0 (by decide)) ?_
    refine wm_iconst hC dX6_opens_10 (k := ?_)
    refine y_callV_v_I hC hRm noS ml_X6_92 hk0 (C6_fail hk0 hw) (Nat.le_of_ble_eq_true rfl) (Nat.le_of_ble_eq_true rfl) ⟨Nat.zero_le _, Nat.zero_le _⟩ rfl (st := []) rfl (Nat.le_of_ble_eq_true rfl) dX6_opens_11 (fun I3 hw => ?_)
    refine wm_iconst hC dX6_opens_14 (k := ?_)
    exact wm_zreturn hC hE (Or.inl rfl) dX6_opens_15 ⟨⟨rfl, rfl⟩, hw⟩
def P6_variable (l0 : Nat) (l1 : Int) (I : mI) (Q : Int → Prop) : Prop := (if l1 = 15 then (Q (-1)) else (if (I l0 4) = 2 then (if l1 = 6 then (Q (-8)) else (if l1 = 20 then (Q (-9)) else (Q 0))) else (if l1 = 16 then (Q (-2)) else (if l1 = 3 then (Q (-3)) else (if (I l0 4) = 1 then (Q 0) else (if l1 = 14 then (Q (-7)) else (if l1 = 17 then (Q (-4)) else (if l1 = 18 then (Q (-5)) else (if l1 = 19 then (Q (-6)) else (Q 0))))))))))
set_option maxRecDepth 20000 in
theorem C6_variable {ad : Nat → Nat} {n : Nat} {I J : mI} {R : mR} {Q : Int → Prop}  {l0 : Nat} {l1 : Int} (hk0 : kK l0 = 6) (hw : P6_variable l0 l1 I Q) : wMet yX6_variable cX6_variable 2 (some .int) 1 12 false ad n I J R [vr l0, vi l1] (fun r I' J' R' => (I' = I ∧ J' = J ∧ R' = R) ∧ Q r) := by
  refine wMet_of (by decide) (Nat.le_of_ble_eq_true rfl) (fun C hC hRm hE hS => ?_)
  refine (show WM C ad n I J R 0 0 0 [(0, vr l0), (1, vi l1)] [] from ?_)
  unfold P6_variable at hw
  refine wm_iload_n hC 1 dX6_variable_0 rfl ?_
  refine wm_bipush hC dX6_variable_1 (k := ?_)
  refine wm_icmp_ne (tgt := 8) hC dX6_variable_3 (by decide) hw (fun hw => ?_) (fun hw => ?_)
  · refine wm_iconst hC dX6_variable_6 (k := ?_)
    exact wm_ireturn hC hE dX6_variable_7 ⟨⟨rfl, rfl, rfl⟩, hw⟩
  · refine wm_aload_n hC 0 dX6_variable_8 rfl (k_ne0 hk0 (by decide)) ?_
    refine x_getI hC 4 fl_X6_22 rfl hk0 dX6_variable_9 ?_
    refine wm_iconst hC dX6_variable_12 (k := ?_)
    refine wm_icmp_ne (tgt := 40) hC dX6_variable_13 (by decide) hw (fun hw => ?_) (fun hw => ?_)
    · refine wm_iload_n hC 1 dX6_variable_16 rfl ?_
      refine wm_bipush hC dX6_variable_17 (k := ?_)
      refine wm_icmp_ne (tgt := 27) hC dX6_variable_19 (by decide) hw (fun hw => ?_) (fun hw => ?_)
      · refine wm_bipush hC dX6_variable_22 (k := ?_)
        refine wm_goto (tgt := 39) hC dX6_variable_24 (by decide) ?_
        exact wm_ireturn hC hE dX6_variable_39 ⟨⟨rfl, rfl, rfl⟩, hw⟩
      · refine wm_iload_n hC 1 dX6_variable_27 rfl ?_
        refine wm_bipush hC dX6_variable_28 (k := ?_)
        refine wm_icmp_ne (tgt := 38) hC dX6_variable_30 (by decide) hw (fun hw => ?_) (fun hw => ?_)
        · refine wm_bipush hC dX6_variable_33 (k := ?_)
          refine wm_goto (tgt := 39) hC dX6_variable_35 (by decide) ?_
          exact wm_ireturn hC hE dX6_variable_39 ⟨⟨rfl, rfl, rfl⟩, hw⟩
        · refine wm_iconst hC dX6_variable_38 (k := ?_)
          exact wm_ireturn hC hE dX6_variable_39 ⟨⟨rfl, rfl, rfl⟩, hw⟩
    · refine wm_iload_n hC 1 dX6_variable_40 rfl ?_
      refine wm_bipush hC dX6_variable_41 (k := ?_)
      refine wm_icmp_ne (tgt := 49) hC dX6_variable_43 (by decide) hw (fun hw => ?_) (fun hw => ?_)
      · refine wm_bipush hC dX6_variable_46 (k := ?_)
        exact wm_ireturn hC hE dX6_variable_48 ⟨⟨rfl, rfl, rfl⟩, hw⟩
      · refine wm_iload_n hC 1 dX6_variable_49 rfl ?_
        refine wm_iconst hC dX6_variable_50 (k := ?_)
        refine wm_icmp_ne (tgt := 57) hC dX6_variable_51 (by decide) hw (fun hw => ?_) (fun hw => ?_)
        · refine wm_bipush hC dX6_variable_54 (k := ?_)
          exact wm_ireturn hC hE dX6_variable_56 ⟨⟨rfl, rfl, rfl⟩, hw⟩
        · refine wm_aload_n hC 0 dX6_variable_57 rfl (k_ne0 hk0 (by decide)) ?_
          refine x_getI hC 4 fl_X6_22 rfl hk0 dX6_variable_58 ?_
          refine wm_iconst hC dX6_variable_61 (k := ?_)
          refine wm_icmp_ne (tgt := 67) hC dX6_variable_62 (by decide) hw (fun hw => ?_) (fun hw => ?_)
          · refine wm_iconst hC dX6_variable_65 (k := ?_)
            exact wm_ireturn hC hE dX6_variable_66 ⟨⟨rfl, rfl, rfl⟩, hw⟩
          · refine wm_iload_n hC 1 dX6_variable_67 rfl ?_
            by_cases hc1 : l1 = 14
            · rw [if_pos hc1] at hw
              refine wm_tableIn (v := 14) (tgt := 117) hC dX6_variable_68 hc1 (by decide) (by decide) rfl rfl ?_
              refine wm_bipush hC dX6_variable_117 (k := ?_)
              exact wm_ireturn hC hE dX6_variable_119 ⟨⟨rfl, rfl, rfl⟩, hw⟩
            rw [if_neg hc1] at hw
            by_cases hc2 : l1 = 17
            · rw [if_pos hc2] at hw
              refine wm_tableIn (v := 17) (tgt := 108) hC dX6_variable_68 hc2 (by decide) (by decide) rfl rfl ?_
              refine wm_bipush hC dX6_variable_108 (k := ?_)
              exact wm_ireturn hC hE dX6_variable_110 ⟨⟨rfl, rfl, rfl⟩, hw⟩
            rw [if_neg hc2] at hw
            by_cases hc3 : l1 = 18
            · rw [if_pos hc3] at hw
              refine wm_tableIn (v := 18) (tgt := 111) hC dX6_variable_68 hc3 (by decide) (by decide) rfl rfl ?_
              refine wm_bipush hC dX6_variable_111 (k := ?_)
              exact wm_ireturn hC hE dX6_variable_113 ⟨⟨rfl, rfl, rfl⟩, hw⟩
            rw [if_neg hc3] at hw
            by_cases hc4 : l1 = 19
            · rw [if_pos hc4] at hw
              refine wm_tableIn (v := 19) (tgt := 114) hC dX6_variable_68 hc4 (by decide) (by decide) rfl rfl ?_
              refine wm_bipush hC dX6_variable_114 (k := ?_)
              exact wm_ireturn hC hE dX6_variable_116 ⟨⟨rfl, rfl, rfl⟩, hw⟩
            rw [if_neg hc4] at hw
            refine wm_tableOut (tgt := 120) hC dX6_variable_68 (by omega) rfl ?_
            refine wm_iconst hC dX6_variable_120 (k := ?_)
            exact wm_ireturn hC hE dX6_variable_121 ⟨⟨rfl, rfl, rfl⟩, hw⟩
