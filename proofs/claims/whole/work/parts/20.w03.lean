def p4_add (l1 : Nat) (I : mI) (Q : mI → Prop) : Prop := (((0 : Int) ≤ (I 17 1) ∧ (I 17 1) < (20 : Int)) ∧ (p7_take (19 + 5 * Int.toNat (I 17 1)) l1 I (fun I1 => (rg ((I1 17 1) + 1) ∧ (wLet (up I1 17 1 (Int.tmod ((I1 17 1) + 1) 20)) (fun I2 => (if (20 : Int) ≤ (I2 17 2) then (wLet (up I2 17 2 20) (fun I3 => (Q I3))) else (rg ((I2 17 2) + 1) ∧ (wLet (up I2 17 2 ((I2 17 2) + 1)) (fun I4 => (Q I4)))))))))))
set_option maxRecDepth 20000 in
theorem c4_add {ad : Nat → Nat} {n : Nat} {I J : mI} {R : mR} {Q : mI → Prop}  (hRF : RF R) {l1 : Nat}  (h1 : isSt l1) (hw : p4_add l1 I Q) : wMet yX4_add cX4_add 2 none 2 81 false ad n I J R [vr 17, vr l1] (fun _ I' J' R' => (J' = J ∧ R' = R) ∧ Q I') := by
  refine wMet_of (by decide) (Nat.le_of_ble_eq_true rfl) (fun C hC hRm hE hS => ?_)
  refine (show WM C ad n I J R 0 0 0 [(0, vr 17), (1, vr l1)] [] from ?_)
  unfold p4_add at hw
  refine wm_aload_n hC 0 dX4_add_0 rfl (k_ne0 kk_17 (by decide)) ?_
  refine x_getR3 hC 0 fl_X4_11 rfl kk_17 (rf_17_0 hRF) dX4_add_1 ?_
  refine wm_aload_n hC 0 dX4_add_4 rfl (k_ne0 kk_17 (by decide)) ?_
  refine x_getI hC 1 fl_X4_15 rfl kk_17 dX4_add_5 ?_
  refine x_aald2 hC hRF dX4_add_8 hw (fun g1 hw => ?_)
  refine wm_aload_n hC 1 dX4_add_9 rfl (k_ne0 (st_k0 h1) (by decide)) ?_
  refine y_callV_v_I hC hRm noS ml_X4_23 (st_k0 g1) (c7_take hRF g1 h1 hw) (Nat.le_of_ble_eq_true rfl) (Nat.le_of_ble_eq_true rfl) ⟨Nat.zero_le _, Nat.zero_le _⟩ rfl (st := []) rfl (Nat.le_of_ble_eq_true rfl) dX4_add_10 (fun I1 hw => ?_)
  refine wm_aload_n hC 0 dX4_add_13 rfl (k_ne0 kk_17 (by decide)) ?_
  refine wm_aload_n hC 0 dX4_add_14 rfl (k_ne0 kk_17 (by decide)) ?_
  refine x_getI hC 1 fl_X4_15 rfl kk_17 dX4_add_15 ?_
  refine wm_iconst hC dX4_add_18 (k := ?_)
  refine x_iadd hC dX4_add_19 hw (fun hw => ?_)
  refine wm_bipush hC dX4_add_20 (k := ?_)
  refine x_iremP hC (by decide) dX4_add_22 ?_
  refine x_putI hC 1 fl_X4_15 rfl kk_17 dX4_add_23 hw (fun I2 hw => ?_)
  refine wm_aload_n hC 0 dX4_add_26 rfl (k_ne0 kk_17 (by decide)) ?_
  refine wm_aload_n hC 0 dX4_add_27 rfl (k_ne0 kk_17 (by decide)) ?_
  refine x_getI hC 2 fl_X4_19 rfl kk_17 dX4_add_28 ?_
  refine wm_bipush hC dX4_add_31 (k := ?_)
  refine wm_icmp_ge (tgt := 45) hC dX4_add_33 (by decide) hw (fun hw => ?_) (fun hw => ?_)
  · refine wm_bipush hC dX4_add_45 (k := ?_)
    refine x_putI hC 2 fl_X4_19 rfl kk_17 dX4_add_47 hw (fun I3 hw => ?_)
    exact wm_return hC hE dX4_add_50 ⟨⟨rfl, rfl⟩, hw⟩
  · refine wm_aload_n hC 0 dX4_add_36 rfl (k_ne0 kk_17 (by decide)) ?_
    refine x_getI hC 2 fl_X4_19 rfl kk_17 dX4_add_37 ?_
    refine wm_iconst hC dX4_add_40 (k := ?_)
    refine x_iadd hC dX4_add_41 hw (fun hw => ?_)
    refine wm_goto (tgt := 47) hC dX4_add_42 (by decide) ?_
    refine x_putI hC 2 fl_X4_19 rfl kk_17 dX4_add_47 hw (fun I4 hw => ?_)
    exact wm_return hC hE dX4_add_50 ⟨⟨rfl, rfl⟩, hw⟩
def p11_chance_b86 (l1 : Int) (l3 : Int) (l4 : Int) (s0 : Int) (s1 : Int) (I : mI) (J : mI) (R : mR) (k34 : Int → Int → mI → mI → mR → Prop) (Q : Int → mI → mI → mR → Prop) : Prop := (rg (s0 + s1) ∧ (isLd (R 1 12) ∧ (p0_pass (R 1 12) 7 l4 I J R (fun r6 I6 J1 R1 => (rg (l3 + 1) ∧ (k34 (s0 + s1) (l3 + 1) I6 J1 R1))))))
set_option maxRecDepth 20000 in
theorem w11_chance_b86 {C : wX} {ad : Nat → Nat} {n : Nat} {I J : mI} {R : mR} {Q : Int → mI → mI → mR → Prop} (hC : wOK C cX11_chance 5 RX11) (hRm : wRm C 7 168 0 0) (hE : wEnd C (some .int) ad n (fun r I' J' R' => (True) ∧ (RF R' ∧ Q r I' J' R'))) (hRF : RF R) {l1 : Int} {l3 : Int} {l4 : Int} {s0 : Int} {s1 : Int}  {k34 : Int → Int → mI → mI → mR → Prop}  (kk34 : ∀ (y2 : Int) (y3 : Int) (I' : mI) (J' : mI) (R' : mR), RF R' → k34 y2 y3 I' J' R' → WM C ad n I' J' R' 0 0 34 [(0, vr 1), (1, vi l1), (2, vi y2), (3, vi y3)] []) (hw : p11_chance_b86 l1 l3 l4 s0 s1 I J R k34 Q) : WM C ad n I J R 0 0 86 [(0, vr 1), (1, vi l1), (3, vi l3), (4, vi l4)] [vi s1, vi s0] := by
  unfold p11_chance_b86 at hw
  refine x_iadd hC dX11_chance_86 hw (fun hw => ?_)
  refine wm_istore_n hC dX11_chance_87 (by decide) (L2 := [(2, vi (s0 + s1)), (0, vr 1), (1, vi l1), (3, vi l3), (4, vi l4)]) rfl ?_
  refine wm_aload_n hC 1 dX11_chance_88 rfl (k_ne0 kk_1 (by decide)) ?_
  refine x_getR3 hC 10 fl_X11_97 rfl kk_1 (rf_1_10 hRF) dX11_chance_89 ?_
  refine wm_aload_n hC 1 dX11_chance_92 rfl (k_ne0 kk_1 (by decide)) ?_
  refine x_getRD hC 12 fl_X11_57 rfl kk_1 dX11_chance_93 hw (fun g3 hw => ?_)
  refine wm_aload_n hC 1 dX11_chance_96 rfl (k_ne0 kk_1 (by decide)) ?_
  refine x_getR3 hC 2 fl_X11_26 rfl kk_1 (rf_1_2 hRF) dX11_chance_97 ?_
  refine wm_iload hC 4 dX11_chance_100 rfl ?_
  refine y_callV_z_IJR hC hRm noS ml_X11_278 kk_150 (c0_pass hRF g3 isSt_7 hw) (Nat.le_of_ble_eq_true rfl) (Nat.le_of_ble_eq_true rfl) ⟨Nat.zero_le _, Nat.zero_le _⟩ rfl (st := []) rfl (Nat.le_of_ble_eq_true rfl) dX11_chance_102 (fun r6 I6 J1 R1 hw => ?_)
  obtain ⟨rf1, hw⟩ := hw
  refine wm_pop hC dX11_chance_105 (k := ?_)
  refine x_iinc hC 3 dX11_chance_106 rfl (by decide) (L2 := [(3, vi (l3 + 1)), (2, vi (s0 + s1)), (0, vr 1), (1, vi l1), (4, vi l4)]) rfl hw (fun hw => ?_)
  refine wm_goto (tgt := 34) hC dX11_chance_109 (by decide) ?_
  refine wm_sub [2, 3, 1, 0] (L2 := [(0, vr 1), (1, vi l1), (2, vi (s0 + s1)), (3, vi (l3 + 1))]) rfl ?_
  exact kk34 _ _ _ _ _ rf1 hw
def p11_chance_b72 (l1 : Int) (l2 : Int) (l3 : Int) (s0 : Int) (I : mI) (J : mI) (R : mR) (k34 : Int → Int → mI → mI → mR → Prop) (Q : Int → mI → mI → mR → Prop) : Prop := (if s0 = (-1) then (p11_chance_b86 l1 l3 s0 l2 0 I J R k34 Q) else (p11_chance_b86 l1 l3 s0 l2 1 I J R k34 Q))
set_option maxRecDepth 20000 in
theorem w11_chance_b72 {C : wX} {ad : Nat → Nat} {n : Nat} {I J : mI} {R : mR} {Q : Int → mI → mI → mR → Prop} (hC : wOK C cX11_chance 5 RX11) (hRm : wRm C 7 168 0 0) (hE : wEnd C (some .int) ad n (fun r I' J' R' => (True) ∧ (RF R' ∧ Q r I' J' R'))) (hRF : RF R) {l1 : Int} {l2 : Int} {l3 : Int} {s0 : Int}  {k34 : Int → Int → mI → mI → mR → Prop}  (kk34 : ∀ (y2 : Int) (y3 : Int) (I' : mI) (J' : mI) (R' : mR), RF R' → k34 y2 y3 I' J' R' → WM C ad n I' J' R' 0 0 34 [(0, vr 1), (1, vi l1), (2, vi y2), (3, vi y3)] []) (hw : p11_chance_b72 l1 l2 l3 s0 I J R k34 Q) : WM C ad n I J R 0 0 72 [(0, vr 1), (1, vi l1), (2, vi l2), (3, vi l3)] [vi s0] := by
  unfold p11_chance_b72 at hw
  refine wm_istore hC dX11_chance_72 (by decide) (L2 := [(4, vi s0), (0, vr 1), (1, vi l1), (2, vi l2), (3, vi l3)]) rfl ?_
  refine wm_iload_n hC 3 dX11_chance_74 rfl ?_
  refine wm_iload hC 0 dX11_chance_75 rfl ?_
  refine wm_iconst hC dX11_chance_77 (k := ?_)
  refine wm_icmp_ne (tgt := 85) hC dX11_chance_78 (by decide) hw (fun hw => ?_) (fun hw => ?_)
  · refine wm_iconst hC dX11_chance_81 (k := ?_)
    refine wm_goto (tgt := 86) hC dX11_chance_82 (by decide) ?_
    refine wm_sub [1, 2, 4, 0] (L2 := [(0, vr 1), (1, vi l1), (3, vi l3), (4, vi s0)]) rfl ?_
    exact w11_chance_b86 hC hRm hE hRF kk34 hw
  · refine wm_iconst hC dX11_chance_85 (k := ?_)
    refine wm_sub [1, 2, 4, 0] (L2 := [(0, vr 1), (1, vi l1), (3, vi l3), (4, vi s0)]) rfl ?_
    exact w11_chance_b86 hC hRm hE hRF kk34 hw
def p11_chance_b34_body (l1 : Int) (Q : Int → mI → mI → mR → Prop) (k34 : Int → Int → mI → mI → mR → Prop) (l2 : Int) (l3 : Int) (I : mI) (J : mI) (R : mR) : Prop := (if l1 ≤ l3 then (Q l2 I J R) else (p11_draw 100 I (fun r4 I4 => (isLd (R 1 12) ∧ (if (I4 (R 1 12) 11) ≤ r4 then (p11_chance_b72 l1 l2 l3 (-1) I4 J R k34 Q) else (isLd (R 1 12) ∧ (p11_draw (I4 ((R 1 12) + 1) 0) I4 (fun r5 I5 => (p11_chance_b72 l1 l2 l3 r5 I5 J R k34 Q)))))))))
def p11_chance_b34 (l1 : Int) (Q : Int → mI → mI → mR → Prop) : Nat → Int → Int → mI → mI → mR → Prop
  | 0 => fun _ _ _ _ _ => False
  | f + 1 => fun l2 l3 I J R => p11_chance_b34_body l1 Q (p11_chance_b34 l1 Q f) l2 l3 I J R
set_option maxRecDepth 20000 in
theorem w11_chance_b34_body {C : wX} {ad : Nat → Nat} {n : Nat} {I J : mI} {R : mR} {Q : Int → mI → mI → mR → Prop} (hC : wOK C cX11_chance 5 RX11) (hRm : wRm C 7 168 0 0) (hE : wEnd C (some .int) ad n (fun r I' J' R' => (True) ∧ (RF R' ∧ Q r I' J' R'))) (hRF : RF R) {l1 : Int} {l2 : Int} {l3 : Int}     {k34 : Int → Int → mI → mI → mR → Prop} (kk34 : ∀ (y2 : Int) (y3 : Int) (I' : mI) (J' : mI) (R' : mR), RF R' → k34 y2 y3 I' J' R' → WM C ad n I' J' R' 0 0 34 [(0, vr 1), (1, vi l1), (2, vi y2), (3, vi y3)] []) (hw : p11_chance_b34_body l1 Q k34 l2 l3 I J R) : WM C ad n I J R 0 0 34 [(0, vr 1), (1, vi l1), (2, vi l2), (3, vi l3)] [] := by
  unfold p11_chance_b34_body at hw
  refine wm_iload_n hC 3 dX11_chance_34 rfl ?_
  refine wm_iload_n hC 1 dX11_chance_35 rfl ?_
  refine wm_icmp_ge (tgt := 112) hC dX11_chance_36 (by decide) hw (fun hw => ?_) (fun hw => ?_)
  · refine wm_iload_n hC 2 dX11_chance_112 rfl ?_
    exact wm_ireturn hC hE dX11_chance_113 ⟨trivial, ⟨hRF, hw⟩⟩
  · refine wm_aload_n hC 0 dX11_chance_39 rfl (k_ne0 kk_1 (by decide)) ?_
    refine wm_bipush hC dX11_chance_40 (k := ?_)
    refine y_callV_i_I hC hRm noS ml_X11_282 kk_1 (c11_draw hRF  hw) (Nat.le_of_ble_eq_true rfl) (Nat.le_of_ble_eq_true rfl) ⟨Nat.zero_le _, Nat.zero_le _⟩ rfl (st := []) rfl (Nat.le_of_ble_eq_true rfl) dX11_chance_42 (fun r4 I4 hw => ?_)
    refine wm_aload_n hC 0 dX11_chance_45 rfl (k_ne0 kk_1 (by decide)) ?_
    refine x_getRD hC 12 fl_X11_57 rfl kk_1 dX11_chance_46 hw (fun g1 hw => ?_)
    refine x_getI hC 11 fl_X11_285 rfl (ld_k0 g1) dX11_chance_49 ?_
    refine wm_icmp_ge (tgt := 71) hC dX11_chance_52 (by decide) hw (fun hw => ?_) (fun hw => ?_)
    · refine wm_iconst hC dX11_chance_71 (k := ?_)
      exact w11_chance_b72 hC hRm hE hRF kk34 hw
    · refine wm_aload_n hC 0 dX11_chance_55 rfl (k_ne0 kk_1 (by decide)) ?_
      refine wm_aload_n hC 0 dX11_chance_56 rfl (k_ne0 kk_1 (by decide)) ?_
      refine x_getRD hC 12 fl_X11_57 rfl kk_1 dX11_chance_57 hw (fun g2 hw => ?_)
      refine x_getR3 hC 0 fl_X11_145 rfl (ld_k0 g2) (rfd_0 hRF g2) dX11_chance_60 ?_
      refine wm_iconst hC dX11_chance_63 (k := ?_)
      refine x_ialdK hC (ld_k1 g2) (ld_n1 g2) (by decide) (by decide) dX11_chance_64 ?_
      refine y_callV_i_I hC hRm noS ml_X11_282 kk_1 (c11_draw hRF  hw) (Nat.le_of_ble_eq_true rfl) (Nat.le_of_ble_eq_true rfl) ⟨Nat.zero_le _, Nat.zero_le _⟩ rfl (st := []) rfl (Nat.le_of_ble_eq_true rfl) dX11_chance_65 (fun r5 I5 hw => ?_)
      refine wm_goto (tgt := 72) hC dX11_chance_68 (by decide) ?_
      exact w11_chance_b72 hC hRm hE hRF kk34 hw
set_option maxRecDepth 20000 in
theorem w11_chance_b34 {C : wX} {ad : Nat → Nat} {n : Nat}  {Q : Int → mI → mI → mR → Prop} (hC : wOK C cX11_chance 5 RX11) (hRm : wRm C 7 168 0 0) (hE : wEnd C (some .int) ad n (fun r I' J' R' => (True) ∧ (RF R' ∧ Q r I' J' R'))) {l1 : Int}     : ∀ (f : Nat) (l2 : Int) (l3 : Int) (I : mI) (J : mI) (R : mR), RF R → p11_chance_b34 l1 Q f l2 l3 I J R → WM C ad n I J R 0 0 34 [(0, vr 1), (1, vi l1), (2, vi l2), (3, vi l3)] [] := by
  intro f
  induction f with
  | zero => intro l2 l3 I J R hRF hw; exact hw.elim
  | succ f ih => intro l2 l3 I J R hRF hw; exact w11_chance_b34_body hC hRm hE hRF  (fun a0 a1 a2 a3 a4 ar aw => ih a0 a1 a2 a3 a4 ar aw) hw
def p11_chance (l1 : Int) (I : mI) (J : mI) (R : mR) (Q : Int → mI → mI → mR → Prop) : Prop := (if l1 < 1 then (p11_refuse 2 I (fun r1 I1 => (Q r1 I1 J R))) else (p11_canPass l1 I (fun r2 => (if r2 = 0 then (p11_refuse 2 I (fun r3 I3 => (Q r3 I3 J R))) else (p4_add 7 I (fun I2 => (∃ f, p11_chance_b34 l1 Q f 0 0 I2 J R)))))))
set_option maxRecDepth 20000 in
theorem c11_chance {ad : Nat → Nat} {n : Nat} {I J : mI} {R : mR} {Q : Int → mI → mI → mR → Prop}  (hRF : RF R) {l1 : Int}   (hw : p11_chance l1 I J R Q) : wMet yX11_chance cX11_chance 5 (some .int) 7 168 false ad n I J R [vr 1, vi l1] (fun r I' J' R' => (True) ∧ (RF R' ∧ Q r I' J' R')) := by
  refine wMet_of (by decide) (Nat.le_of_ble_eq_true rfl) (fun C hC hRm hE hS => ?_)
  refine (show WM C ad n I J R 0 0 0 [(0, vr 1), (1, vi l1)] [] from ?_)
  unfold p11_chance at hw
  refine wm_iload_n hC 1 dX11_chance_0 rfl ?_
  refine wm_iconst hC dX11_chance_1 (k := ?_)
  refine wm_icmp_lt (tgt := 13) hC dX11_chance_2 (by decide) hw (fun hw => ?_) (fun hw => ?_)
  · refine wm_aload_n hC 0 dX11_chance_13 rfl (k_ne0 kk_1 (by decide)) ?_
    refine wm_iconst hC dX11_chance_14 (k := ?_)
    refine y_callV_i_I hC hRm noS ml_X11_117 kk_1 (c11_refuse hRF  hw) (Nat.le_of_ble_eq_true rfl) (Nat.le_of_ble_eq_true rfl) ⟨Nat.zero_le _, Nat.zero_le _⟩ rfl (st := []) rfl (Nat.le_of_ble_eq_true rfl) dX11_chance_15 (fun r1 I1 hw => ?_)
    exact wm_ireturn hC hE dX11_chance_18 ⟨trivial, ⟨hRF, hw⟩⟩
  · refine wm_aload_n hC 0 dX11_chance_5 rfl (k_ne0 kk_1 (by decide)) ?_
    refine wm_iload_n hC 1 dX11_chance_6 rfl ?_
    refine y_callV_z_n hC hRm noS ml_X11_227 kk_1 (c11_canPass hRF  hw) (Nat.le_of_ble_eq_true rfl) (Nat.le_of_ble_eq_true rfl) ⟨Nat.zero_le _, Nat.zero_le _⟩ rfl (st := []) rfl (Nat.le_of_ble_eq_true rfl) dX11_chance_7 (fun r2 hw => ?_)
    refine wm_if_ne (tgt := 19) hC dX11_chance_10 (by decide) hw (fun hw => ?_) (fun hw => ?_)
    · refine wm_aload_n hC 0 dX11_chance_13 rfl (k_ne0 kk_1 (by decide)) ?_
      refine wm_iconst hC dX11_chance_14 (k := ?_)
      refine y_callV_i_I hC hRm noS ml_X11_117 kk_1 (c11_refuse hRF  hw) (Nat.le_of_ble_eq_true rfl) (Nat.le_of_ble_eq_true rfl) ⟨Nat.zero_le _, Nat.zero_le _⟩ rfl (st := []) rfl (Nat.le_of_ble_eq_true rfl) dX11_chance_15 (fun r3 I3 hw => ?_)
      exact wm_ireturn hC hE dX11_chance_18 ⟨trivial, ⟨hRF, hw⟩⟩
    · refine wm_aload_n hC 0 dX11_chance_19 rfl (k_ne0 kk_1 (by decide)) ?_
      refine x_getR3 hC 4 fl_X11_36 rfl kk_1 (rf_1_4 hRF) dX11_chance_20 ?_
      refine wm_aload_n hC 0 dX11_chance_23 rfl (k_ne0 kk_1 (by decide)) ?_
      refine x_getR3 hC 2 fl_X11_26 rfl kk_1 (rf_1_2 hRF) dX11_chance_24 ?_
      refine y_callV_v_I hC hRm noS ml_X11_274 kk_17 (c4_add hRF isSt_7 hw) (Nat.le_of_ble_eq_true rfl) (Nat.le_of_ble_eq_true rfl) ⟨Nat.zero_le _, Nat.zero_le _⟩ rfl (st := []) rfl (Nat.le_of_ble_eq_true rfl) dX11_chance_27 (fun I2 hw => ?_)
      refine wm_iconst hC dX11_chance_30 (k := ?_)
      refine wm_istore_n hC dX11_chance_31 (by decide) (L2 := [(2, vi 0), (0, vr 1), (1, vi l1)]) rfl ?_
      refine wm_iconst hC dX11_chance_32 (k := ?_)
      refine wm_istore_n hC dX11_chance_33 (by decide) (L2 := [(3, vi 0), (2, vi 0), (0, vr 1), (1, vi l1)]) rfl ?_
      obtain ⟨f, hw⟩ := hw
      refine wm_sub [2, 3, 1, 0] (L2 := [(0, vr 1), (1, vi l1), (2, vi 0), (3, vi 0)]) rfl ?_
      exact w11_chance_b34 hC hRm hE  f _ _ _ _ _ hRF hw
def p11_choice (l1 : Int) (l2 : Int) (I : mI) (J : mI) (R : mR) (Q : Int → mI → mI → mR → Prop) : Prop := (isLd (R 1 12) ∧ (p3_isThere (R 1 12) 2 l1 I (fun r1 => (if r1 = 0 then (Q (-1) I J R) else (if l2 < 0 then (Q (-1) I J R) else (if l2 ≤ 1 then (isLd (R 1 12) ∧ (p1_sit (R 1 12) 7 l1 I J R (fun I1 J1 R1 => (isLd (R1 1 12) ∧ (p3_everybody (R1 1 12) I1 (fun r2 => (p1_ask 8 r2 I1 J1 R1 (fun r3 I2 J2 => (if l2 = 0 then (Q r3 I2 J2 R1) else (p1_votesFor r3 I2 (fun r4 => (Q r4 I2 J2 R1)))))))))))) else (Q (-1) I J R)))))))
set_option maxRecDepth 20000 in
theorem c11_choice {ad : Nat → Nat} {n : Nat} {I J : mI} {R : mR} {Q : Int → mI → mI → mR → Prop}  (hRF : RF R) {l1 : Int} {l2 : Int}    (hw : p11_choice l1 l2 I J R Q) : wMet yX11_choice cX11_choice 4 (some .int) 6 139 false ad n I J R [vr 1, vi l1, vi l2] (fun r I' J' R' => (True) ∧ (RF R' ∧ Q r I' J' R')) := by
  refine wMet_of (by decide) (Nat.le_of_ble_eq_true rfl) (fun C hC hRm hE hS => ?_)
  refine (show WM C ad n I J R 0 0 0 [(0, vr 1), (1, vi l1), (2, vi l2)] [] from ?_)
  unfold p11_choice at hw
  refine wm_aload_n hC 0 dX11_choice_0 rfl (k_ne0 kk_1 (by decide)) ?_
  refine x_getRD hC 12 fl_X11_57 rfl kk_1 dX11_choice_1 hw (fun g1 hw => ?_)
  refine wm_iconst hC dX11_choice_4 (k := ?_)
  refine wm_iload_n hC 1 dX11_choice_5 rfl ?_
  refine y_callV_z_n hC hRm noS ml_X11_167 (ld_k0 g1) (c3_isThere hRF g1 hw) (Nat.le_of_ble_eq_true rfl) (Nat.le_of_ble_eq_true rfl) ⟨Nat.zero_le _, Nat.zero_le _⟩ rfl (st := []) rfl (Nat.le_of_ble_eq_true rfl) dX11_choice_6 (fun r1 hw => ?_)
  refine wm_if_eq (tgt := 21) hC dX11_choice_9 (by decide) hw (fun hw => ?_) (fun hw => ?_)
  · refine wm_iconst hC dX11_choice_21 (k := ?_)
    exact wm_ireturn hC hE dX11_choice_22 ⟨trivial, ⟨hRF, hw⟩⟩
  · refine wm_iload_n hC 2 dX11_choice_12 rfl ?_
    refine wm_if_lt (tgt := 21) hC dX11_choice_13 (by decide) hw (fun hw => ?_) (fun hw => ?_)
    · refine wm_iconst hC dX11_choice_21 (k := ?_)
      exact wm_ireturn hC hE dX11_choice_22 ⟨trivial, ⟨hRF, hw⟩⟩
    · refine wm_iload_n hC 2 dX11_choice_16 rfl ?_
      refine wm_iconst hC dX11_choice_17 (k := ?_)
      refine wm_icmp_le (tgt := 23) hC dX11_choice_18 (by decide) hw (fun hw => ?_) (fun hw => ?_)
      · refine wm_aload_n hC 0 dX11_choice_23 rfl (k_ne0 kk_1 (by decide)) ?_
        refine x_getR3 hC 9 fl_X11_88 rfl kk_1 (rf_1_9 hRF) dX11_choice_24 ?_
        refine wm_aload_n hC 0 dX11_choice_27 rfl (k_ne0 kk_1 (by decide)) ?_
        refine x_getRD hC 12 fl_X11_57 rfl kk_1 dX11_choice_28 hw (fun g2 hw => ?_)
        refine wm_aload_n hC 0 dX11_choice_31 rfl (k_ne0 kk_1 (by decide)) ?_
        refine x_getR3 hC 2 fl_X11_26 rfl kk_1 (rf_1_2 hRF) dX11_choice_32 ?_
        refine wm_iload_n hC 1 dX11_choice_35 rfl ?_
        refine y_callV_v_IJR hC hRm noS ml_X11_187 kk_146 (c1_sit hRF g2 isSt_7 hw) (Nat.le_of_ble_eq_true rfl) (Nat.le_of_ble_eq_true rfl) ⟨Nat.zero_le _, Nat.zero_le _⟩ rfl (st := []) rfl (Nat.le_of_ble_eq_true rfl) dX11_choice_36 (fun I1 J1 R1 hw => ?_)
        obtain ⟨rf1, hw⟩ := hw
        refine wm_aload_n hC 0 dX11_choice_39 rfl (k_ne0 kk_1 (by decide)) ?_
        refine x_getR3 hC 9 fl_X11_88 rfl kk_1 (rf_1_9 rf1) dX11_choice_40 ?_
        refine wm_aload_n hC 0 dX11_choice_43 rfl (k_ne0 kk_1 (by decide)) ?_
        refine x_getR3 hC 2 fl_X11_26 rfl kk_1 (rf_1_2 rf1) dX11_choice_44 ?_
        refine x_getR3 hC 3 fl_X11_213 rfl kk_7 (rfs_3 rf1 isSt_7) dX11_choice_47 ?_
        refine wm_aload_n hC 0 dX11_choice_50 rfl (k_ne0 kk_1 (by decide)) ?_
        refine x_getRD hC 12 fl_X11_57 rfl kk_1 dX11_choice_51 hw (fun g3 hw => ?_)
        refine y_callV_i_n hC hRm noS ml_X11_216 (ld_k0 g3) (c3_everybody rf1 g3 hw) (Nat.le_of_ble_eq_true rfl) (Nat.le_of_ble_eq_true rfl) ⟨Nat.zero_le _, Nat.zero_le _⟩ rfl (st := [vr 8, vr 146]) rfl (Nat.le_of_ble_eq_true rfl) dX11_choice_54 (fun r2 hw => ?_)
        refine y_callV_i_IJ hC hRm noS ml_X11_220 kk_146 (c1_ask rf1 ⟨kk_8, kn_8⟩ hw) (Nat.le_of_ble_eq_true rfl) (Nat.le_of_ble_eq_true rfl) ⟨Nat.zero_le _, Nat.zero_le _⟩ rfl (st := []) rfl (Nat.le_of_ble_eq_true rfl) dX11_choice_57 (fun r3 I2 J2 hw => ?_)
        refine wm_istore_n hC dX11_choice_60 (by decide) (L2 := [(3, vi r3), (0, vr 1), (1, vi l1), (2, vi l2)]) rfl ?_
        refine wm_iload_n hC 3 dX11_choice_61 rfl ?_
        refine wm_if_ne (tgt := 69) hC dX11_choice_62 (by decide) hw (fun hw => ?_) (fun hw => ?_)
        · refine wm_iload_n hC 0 dX11_choice_65 rfl ?_
          refine wm_goto (tgt := 77) hC dX11_choice_66 (by decide) ?_
          exact wm_ireturn hC hE dX11_choice_77 ⟨trivial, ⟨rf1, hw⟩⟩
        · refine wm_aload_n hC 1 dX11_choice_69 rfl (k_ne0 kk_1 (by decide)) ?_
          refine x_getR3 hC 9 fl_X11_88 rfl kk_1 (rf_1_9 rf1) dX11_choice_70 ?_
          refine wm_iload_n hC 0 dX11_choice_73 rfl ?_
          refine y_callV_i_n hC hRm noS ml_X11_224 kk_146 (c1_votesFor rf1  hw) (Nat.le_of_ble_eq_true rfl) (Nat.le_of_ble_eq_true rfl) ⟨Nat.zero_le _, Nat.zero_le _⟩ rfl (st := []) rfl (Nat.le_of_ble_eq_true rfl) dX11_choice_74 (fun r4 hw => ?_)
          exact wm_ireturn hC hE dX11_choice_77 ⟨trivial, ⟨rf1, hw⟩⟩
      · refine wm_iconst hC dX11_choice_21 (k := ?_)
        exact wm_ireturn hC hE dX11_choice_22 ⟨trivial, ⟨hRF, hw⟩⟩
def p3_clashesBelow_b5_body (l0 : Nat) (l1 : Nat) (l2 : Int) (I : mI) (Q : Int → Prop) (k5 : Int → Int → Prop) (l3 : Int) (l4 : Int) : Prop := (if l2 ≤ l4 then (Q l3) else (if (6 : Int) ≤ l2 then (Q l3) else (((0 : Int) ≤ l2 ∧ l2 < (6 : Int)) ∧ (if (bAnd (bShr (I (l0 + 4) l2) l4) 1) = 1 then (((0 : Int) ≤ l2 ∧ l2 < (6 : Int)) ∧ (if (I l1 l2) = (-1) then (rg (l4 + 1) ∧ (k5 l3 (l4 + 1))) else (((0 : Int) ≤ l2 ∧ l2 < (6 : Int)) ∧ (((0 : Int) ≤ l4 ∧ l4 < (6 : Int)) ∧ (if (I l1 l2) = (I l1 l4) then (rg (l3 + 1) ∧ (rg (l4 + 1) ∧ (k5 (l3 + 1) (l4 + 1)))) else (rg (l4 + 1) ∧ (k5 l3 (l4 + 1)))))))) else (rg (l4 + 1) ∧ (k5 l3 (l4 + 1)))))))
def p3_clashesBelow_b5 (l0 : Nat) (l1 : Nat) (l2 : Int) (I : mI) (Q : Int → Prop) : Nat → Int → Int → Prop
  | 0 => fun _ _ => False
  | f + 1 => fun l3 l4 => p3_clashesBelow_b5_body l0 l1 l2 I Q (p3_clashesBelow_b5 l0 l1 l2 I Q f) l3 l4
set_option maxRecDepth 20000 in
theorem w3_clashesBelow_b5_body {C : wX} {ad : Nat → Nat} {n : Nat} {I J : mI} {R : mR} {Q : Int → Prop} (hC : wOK C cX3_clashesBelow 5 RX3) (hRm : wRm C 1 12 0 0) (hE : wEnd C (some .int) ad n (fun r I' J' R' => (I' = I ∧ J' = J ∧ R' = R) ∧ Q r)) (hRF : RF R) {l0 : Nat} {l1 : Nat} {l2 : Int} {l3 : Int} {l4 : Int}   (h0 : isLd l0) (h1 : isA 6 l1)  {k5 : Int → Int → Prop} (kk5 : ∀ (y3 : Int) (y4 : Int), k5 y3 y4 → WM C ad n I J R 0 0 5 [(0, vr l0), (1, vr l1), (2, vi l2), (3, vi y3), (4, vi y4)] []) (hw : p3_clashesBelow_b5_body l0 l1 l2 I Q k5 l3 l4) : WM C ad n I J R 0 0 5 [(0, vr l0), (1, vr l1), (2, vi l2), (3, vi l3), (4, vi l4)] [] := by
  unfold p3_clashesBelow_b5_body at hw
  refine wm_iload hC 4 dX3_clashesBelow_5 rfl ?_
  refine wm_iload_n hC 2 dX3_clashesBelow_7 rfl ?_
  refine wm_icmp_ge (tgt := 58) hC dX3_clashesBelow_8 (by decide) hw (fun hw => ?_) (fun hw => ?_)
  · refine wm_iload_n hC 3 dX3_clashesBelow_58 rfl ?_
    exact wm_ireturn hC hE dX3_clashesBelow_59 ⟨⟨rfl, rfl, rfl⟩, hw⟩
  · refine wm_iload_n hC 2 dX3_clashesBelow_11 rfl ?_
    refine wm_aload_n hC 1 dX3_clashesBelow_12 rfl (k_ne0 h1.1 (by decide)) ?_
    refine x_alen2 hC h1.1 h1.2 (by decide) dX3_clashesBelow_13 ?_
    refine wm_icmp_ge (tgt := 58) hC dX3_clashesBelow_14 (by decide) hw (fun hw => ?_) (fun hw => ?_)
    · refine wm_iload_n hC 3 dX3_clashesBelow_58 rfl ?_
      exact wm_ireturn hC hE dX3_clashesBelow_59 ⟨⟨rfl, rfl, rfl⟩, hw⟩
    · refine wm_aload_n hC 0 dX3_clashesBelow_17 rfl (k_ne0 (ld_k0 h0) (by decide)) ?_
      refine x_getR3 hC 3 fl_X3_21 rfl (ld_k0 h0) (rfd_3 hRF h0) dX3_clashesBelow_18 ?_
      refine wm_iload_n hC 2 dX3_clashesBelow_21 rfl ?_
      refine x_iald2 hC (ld_k4 h0) (ld_n4 h0) dX3_clashesBelow_22 hw (fun hw => ?_)
      refine wm_iload hC 4 dX3_clashesBelow_23 rfl ?_
      refine wm_ishr hC dX3_clashesBelow_25 ?_
      refine wm_iconst hC dX3_clashesBelow_26 (k := ?_)
      refine wm_iand hC dX3_clashesBelow_27 ?_
      refine wm_iconst hC dX3_clashesBelow_28 (k := ?_)
      refine wm_icmp_ne (tgt := 52) hC dX3_clashesBelow_29 (by decide) hw (fun hw => ?_) (fun hw => ?_)
      · refine wm_aload_n hC 1 dX3_clashesBelow_32 rfl (k_ne0 h1.1 (by decide)) ?_
        refine wm_iload_n hC 2 dX3_clashesBelow_33 rfl ?_
        refine x_iald2 hC h1.1 h1.2 dX3_clashesBelow_34 hw (fun hw => ?_)
        refine wm_iconst hC dX3_clashesBelow_35 (k := ?_)
        refine wm_icmp_eq (tgt := 52) hC dX3_clashesBelow_36 (by decide) hw (fun hw => ?_) (fun hw => ?_)
        · refine x_iinc hC 4 dX3_clashesBelow_52 rfl (by decide) (L2 := [(4, vi (l4 + 1)), (0, vr l0), (1, vr l1), (2, vi l2), (3, vi l3)]) rfl hw (fun hw => ?_)
          refine wm_goto (tgt := 5) hC dX3_clashesBelow_55 (by decide) ?_
          refine wm_sub [1, 2, 3, 4, 0] (L2 := [(0, vr l0), (1, vr l1), (2, vi l2), (3, vi l3), (4, vi (l4 + 1))]) rfl ?_
          exact kk5 _ _ hw
        · refine wm_aload_n hC 1 dX3_clashesBelow_39 rfl (k_ne0 h1.1 (by decide)) ?_
          refine wm_iload_n hC 2 dX3_clashesBelow_40 rfl ?_
          refine x_iald2 hC h1.1 h1.2 dX3_clashesBelow_41 hw (fun hw => ?_)
          refine wm_aload_n hC 1 dX3_clashesBelow_42 rfl (k_ne0 h1.1 (by decide)) ?_
          refine wm_iload hC 4 dX3_clashesBelow_43 rfl ?_
          refine x_iald2 hC h1.1 h1.2 dX3_clashesBelow_45 hw (fun hw => ?_)
          refine wm_icmp_ne (tgt := 52) hC dX3_clashesBelow_46 (by decide) hw (fun hw => ?_) (fun hw => ?_)
          · refine x_iinc hC 3 dX3_clashesBelow_49 rfl (by decide) (L2 := [(3, vi (l3 + 1)), (0, vr l0), (1, vr l1), (2, vi l2), (4, vi l4)]) rfl hw (fun hw => ?_)
            refine x_iinc hC 4 dX3_clashesBelow_52 rfl (by decide) (L2 := [(4, vi (l4 + 1)), (3, vi (l3 + 1)), (0, vr l0), (1, vr l1), (2, vi l2)]) rfl hw (fun hw => ?_)
            refine wm_goto (tgt := 5) hC dX3_clashesBelow_55 (by decide) ?_
            refine wm_sub [2, 3, 4, 1, 0] (L2 := [(0, vr l0), (1, vr l1), (2, vi l2), (3, vi (l3 + 1)), (4, vi (l4 + 1))]) rfl ?_
            exact kk5 _ _ hw
          · refine x_iinc hC 4 dX3_clashesBelow_52 rfl (by decide) (L2 := [(4, vi (l4 + 1)), (0, vr l0), (1, vr l1), (2, vi l2), (3, vi l3)]) rfl hw (fun hw => ?_)
            refine wm_goto (tgt := 5) hC dX3_clashesBelow_55 (by decide) ?_
            refine wm_sub [1, 2, 3, 4, 0] (L2 := [(0, vr l0), (1, vr l1), (2, vi l2), (3, vi l3), (4, vi (l4 + 1))]) rfl ?_
            exact kk5 _ _ hw
      · refine x_iinc hC 4 dX3_clashesBelow_52 rfl (by decide) (L2 := [(4, vi (l4 + 1)), (0, vr l0), (1, vr l1), (2, vi l2), (3, vi l3)]) rfl hw (fun hw => ?_)
        refine wm_goto (tgt := 5) hC dX3_clashesBelow_55 (by decide) ?_
        refine wm_sub [1, 2, 3, 4, 0] (L2 := [(0, vr l0), (1, vr l1), (2, vi l2), (3, vi l3), (4, vi (l4 + 1))]) rfl ?_
        exact kk5 _ _ hw
set_option maxRecDepth 20000 in
theorem w3_clashesBelow_b5 {C : wX} {ad : Nat → Nat} {n : Nat} {I : mI} {J : mI} {R : mR} {Q : Int → Prop} (hC : wOK C cX3_clashesBelow 5 RX3) (hRm : wRm C 1 12 0 0) (hE : wEnd C (some .int) ad n (fun r I' J' R' => (I' = I ∧ J' = J ∧ R' = R) ∧ Q r)) (hRF : RF R) {l0 : Nat} {l1 : Nat} {l2 : Int}   (h0 : isLd l0) (h1 : isA 6 l1)  : ∀ (f : Nat) (l3 : Int) (l4 : Int), p3_clashesBelow_b5 l0 l1 l2 I Q f l3 l4 → WM C ad n I J R 0 0 5 [(0, vr l0), (1, vr l1), (2, vi l2), (3, vi l3), (4, vi l4)] [] := by
  intro f
  induction f with
  | zero => intro l3 l4 hw; exact hw.elim
  | succ f ih => intro l3 l4 hw; exact w3_clashesBelow_b5_body hC hRm hE hRF h0 h1 (fun a0 a1 aw => ih a0 a1 aw) hw
def p3_clashesBelow (l0 : Nat) (l1 : Nat) (l2 : Int) (I : mI) (Q : Int → Prop) : Prop := (∃ f, p3_clashesBelow_b5 l0 l1 l2 I Q f 0 0)
set_option maxRecDepth 20000 in
theorem c3_clashesBelow {ad : Nat → Nat} {n : Nat} {I J : mI} {R : mR} {Q : Int → Prop}  (hRF : RF R) {l0 : Nat} {l1 : Nat} {l2 : Int} (h0 : isLd l0) (h1 : isA 6 l1)  (hw : p3_clashesBelow l0 l1 l2 I Q) : wMet yX3_clashesBelow cX3_clashesBelow 5 (some .int) 1 12 false ad n I J R [vr l0, vr l1, vi l2] (fun r I' J' R' => (I' = I ∧ J' = J ∧ R' = R) ∧ Q r) := by
  refine wMet_of (by decide) (Nat.le_of_ble_eq_true rfl) (fun C hC hRm hE hS => ?_)
  refine (show WM C ad n I J R 0 0 0 [(0, vr l0), (1, vr l1), (2, vi l2)] [] from ?_)
  unfold p3_clashesBelow at hw
  refine wm_iconst hC dX3_clashesBelow_0 (k := ?_)
  refine wm_istore_n hC dX3_clashesBelow_1 (by decide) (L2 := [(3, vi 0), (0, vr l0), (1, vr l1), (2, vi l2)]) rfl ?_
  refine wm_iconst hC dX3_clashesBelow_2 (k := ?_)
  refine wm_istore hC dX3_clashesBelow_3 (by decide) (L2 := [(4, vi 0), (3, vi 0), (0, vr l0), (1, vr l1), (2, vi l2)]) rfl ?_
  obtain ⟨f, hw⟩ := hw
  refine wm_sub [2, 3, 4, 1, 0] (L2 := [(0, vr l0), (1, vr l1), (2, vi l2), (3, vi 0), (4, vi 0)]) rfl ?_
  exact w3_clashesBelow_b5 hC hRm hE hRF h0 h1 f _ _ hw
abbrev RTcc2 : Type := Nat → Nat → Int → Int → mI → (Int → mI → Prop) → Prop
def p3_canClear_b56_body (rc : RTcc2) (l0 : Nat) (l1 : Nat) (l2 : Int) (l3 : Int) (Q : Int → mI → Prop) (k56 : Int → mI → Prop) (l4 : Int) (I : mI) : Prop := (if (I (l0 + 1) 1) ≤ l4 then (Q 0 I) else (((0 : Int) ≤ l3 ∧ l3 < (6 : Int)) ∧ wLet (up I l1 l3 l4) (fun I2 => (p3_clashesBelow l0 l1 l3 I2 (fun r3 => (if r3 = 0 then (rg (l3 + 1) ∧ (rc l0 l1 l2 (l3 + 1) I2 (fun r4 I3 => (if r4 = 0 then (rg (l4 + 1) ∧ (k56 (l4 + 1) I3)) else (Q 1 I3))))) else (rg (l4 + 1) ∧ (k56 (l4 + 1) I2))))))))
def p3_canClear_b56 (rc : RTcc2) (l0 : Nat) (l1 : Nat) (l2 : Int) (l3 : Int) (Q : Int → mI → Prop) : Nat → Int → mI → Prop
  | 0 => fun _ _ => False
  | f + 1 => fun l4 I => p3_canClear_b56_body rc l0 l1 l2 l3 Q (p3_canClear_b56 rc l0 l1 l2 l3 Q f) l4 I
set_option maxRecDepth 20000 in
theorem w3_canClear_b56_body {rc : RTcc2} {d : Nat} {C : wX} {ad : Nat → Nat} {n : Nat} {I J : mI} {R : mR} {Q : Int → mI → Prop} (hC : wOK C cX3_canClear 5 RX3) (hRm : wRm C (4 + (d + 1)) (100 + 40 * (d + 1)) 0 0) (hE : wEnd C (some .boolean) ad n (fun r I' J' R' => (J' = J ∧ R' = R) ∧ Q r I')) (hRF : RF R) (hrc0 : ∀ {l0 l1 : Nat} {l2 l3 : Int} {I J : mI} {R : mR} {Q : Int → mI → Prop}, RF R → isLd l0 → isA 6 l1 → rc l0 l1 l2 l3 I Q → wMet yX3_canClear cX3_canClear 5 (some .boolean) (4 + d) (100 + 40 * d) false ad n I J R [vr l0, vr l1, vi l2, vi l3] (fun r I' J' R' => (J' = J ∧ R' = R) ∧ Q r I')) {l0 : Nat} {l1 : Nat} {l2 : Int} {l3 : Int} {l4 : Int}   (h0 : isLd l0) (h1 : isA 6 l1)  {k56 : Int → mI → Prop} (kk56 : ∀ (y4 : Int) (I' : mI), k56 y4 I' → WM C ad n I' J R 0 0 56 [(0, vr l0), (1, vr l1), (2, vi l2), (3, vi l3), (4, vi y4)] []) (hw : p3_canClear_b56_body rc l0 l1 l2 l3 Q k56 l4 I) : WM C ad n I J R 0 0 56 [(0, vr l0), (1, vr l1), (2, vi l2), (3, vi l3), (4, vi l4)] [] := by
  unfold p3_canClear_b56_body at hw
  refine wm_iload hC 4 dX3_canClear_56 rfl ?_
  refine wm_aload_n hC 0 dX3_canClear_58 rfl (k_ne0 (ld_k0 h0) (by decide)) ?_
  refine x_getR3 hC 0 fl_X3_9 rfl (ld_k0 h0) (rfd_0 hRF h0) dX3_canClear_59 ?_
  refine wm_iconst hC dX3_canClear_62 (k := ?_)
  refine x_ialdK hC (ld_k1 h0) (ld_n1 h0) (by decide) (by decide) dX3_canClear_63 ?_
  refine wm_icmp_ge (tgt := 101) hC dX3_canClear_64 (by decide) hw (fun hw => ?_) (fun hw => ?_)
  · refine wm_iconst hC dX3_canClear_101 (k := ?_)
    exact wm_zreturn hC hE (Or.inl rfl) dX3_canClear_102 ⟨⟨rfl, rfl⟩, hw⟩
  · refine wm_aload_n hC 1 dX3_canClear_67 rfl (k_ne0 h1.1 (by decide)) ?_
    refine wm_iload_n hC 3 dX3_canClear_68 rfl ?_
    refine wm_iload hC 4 dX3_canClear_69 rfl ?_
    refine x_iast2 hC h1.1 h1.2 dX3_canClear_71 hw (fun I2 hw => ?_)
    refine wm_aload_n hC 0 dX3_canClear_72 rfl (k_ne0 (ld_k0 h0) (by decide)) ?_
    refine wm_aload_n hC 1 dX3_canClear_73 rfl (k_ne0 h1.1 (by decide)) ?_
    refine wm_iload_n hC 3 dX3_canClear_74 rfl ?_
    refine y_callV_i_n hC hRm noS ml_X3_66 (ld_k0 h0) (c3_clashesBelow hRF h0 h1 hw) (by omega) (by omega) ⟨Nat.zero_le _, Nat.zero_le _⟩ rfl (st := []) rfl (Nat.le_of_ble_eq_true rfl) dX3_canClear_75 (fun r3 hw => ?_)
    refine wm_if_ne (tgt := 95) hC dX3_canClear_78 (by decide) hw (fun hw => ?_) (fun hw => ?_)
    · refine wm_aload_n hC 0 dX3_canClear_81 rfl (k_ne0 (ld_k0 h0) (by decide)) ?_
      refine wm_aload_n hC 1 dX3_canClear_82 rfl (k_ne0 h1.1 (by decide)) ?_
      refine wm_iload_n hC 2 dX3_canClear_83 rfl ?_
      refine wm_iload_n hC 3 dX3_canClear_84 rfl ?_
      refine wm_iconst hC dX3_canClear_85 (k := ?_)
      refine x_iadd hC dX3_canClear_86 hw (fun hw => ?_)
      refine y_callS_z_I hC hRm noS ml_X3_82 (hrc0 hRF h0 h1 hw) (by omega) (by omega) ⟨Nat.zero_le _, Nat.zero_le _⟩ rfl (st := []) rfl (Nat.le_of_ble_eq_true rfl) dX3_canClear_87 (fun r4 I3 hw => ?_)
      refine wm_if_eq (tgt := 95) hC dX3_canClear_90 (by decide) hw (fun hw => ?_) (fun hw => ?_)
      · refine x_iinc hC 4 dX3_canClear_95 rfl (by decide) (L2 := [(4, vi (l4 + 1)), (0, vr l0), (1, vr l1), (2, vi l2), (3, vi l3)]) rfl hw (fun hw => ?_)
        refine wm_goto (tgt := 56) hC dX3_canClear_98 (by decide) ?_
        refine wm_sub [1, 2, 3, 4, 0] (L2 := [(0, vr l0), (1, vr l1), (2, vi l2), (3, vi l3), (4, vi (l4 + 1))]) rfl ?_
        exact kk56 _ _ hw
      · refine wm_iconst hC dX3_canClear_93 (k := ?_)
        exact wm_zreturn hC hE (Or.inr rfl) dX3_canClear_94 ⟨⟨rfl, rfl⟩, hw⟩
    · refine x_iinc hC 4 dX3_canClear_95 rfl (by decide) (L2 := [(4, vi (l4 + 1)), (0, vr l0), (1, vr l1), (2, vi l2), (3, vi l3)]) rfl hw (fun hw => ?_)
      refine wm_goto (tgt := 56) hC dX3_canClear_98 (by decide) ?_
      refine wm_sub [1, 2, 3, 4, 0] (L2 := [(0, vr l0), (1, vr l1), (2, vi l2), (3, vi l3), (4, vi (l4 + 1))]) rfl ?_
      exact kk56 _ _ hw
set_option maxRecDepth 20000 in
theorem w3_canClear_b56 {rc : RTcc2} {d : Nat} {C : wX} {ad : Nat → Nat} {n : Nat} {J : mI} {R : mR} {Q : Int → mI → Prop} (hC : wOK C cX3_canClear 5 RX3) (hRm : wRm C (4 + (d + 1)) (100 + 40 * (d + 1)) 0 0) (hE : wEnd C (some .boolean) ad n (fun r I' J' R' => (J' = J ∧ R' = R) ∧ Q r I')) (hRF : RF R) (hrc0 : ∀ {l0 l1 : Nat} {l2 l3 : Int} {I J : mI} {R : mR} {Q : Int → mI → Prop}, RF R → isLd l0 → isA 6 l1 → rc l0 l1 l2 l3 I Q → wMet yX3_canClear cX3_canClear 5 (some .boolean) (4 + d) (100 + 40 * d) false ad n I J R [vr l0, vr l1, vi l2, vi l3] (fun r I' J' R' => (J' = J ∧ R' = R) ∧ Q r I')) {l0 : Nat} {l1 : Nat} {l2 : Int} {l3 : Int}   (h0 : isLd l0) (h1 : isA 6 l1)  : ∀ (f : Nat) (l4 : Int) (I : mI), p3_canClear_b56 rc l0 l1 l2 l3 Q f l4 I → WM C ad n I J R 0 0 56 [(0, vr l0), (1, vr l1), (2, vi l2), (3, vi l3), (4, vi l4)] [] := by
  intro f
  induction f with
  | zero => intro l4 I hw; exact hw.elim
  | succ f ih => intro l4 I hw; exact w3_canClear_b56_body hC hRm hE hRF hrc0 h0 h1 (fun a0 a1 aw => ih a0 a1 aw) hw
def p3_canClear (rc : RTcc2) (l0 : Nat) (l1 : Nat) (l2 : Int) (l3 : Int) (I : mI) (Q : Int → mI → Prop) : Prop := (if (I (l0 + 1) 2) ≤ l3 then (Q 1 I) else (if l3 < 6 then (if (bAnd (bShr l2 l3) 1) = 0 then (p3_clashesBelow l0 l1 l3 I (fun r1 => (if r1 = 0 then (rg (l3 + 1) ∧ (rc l0 l1 l2 (l3 + 1) I (fun r2 I1 => (if r2 = 0 then (Q 0 I1) else (Q 1 I1))))) else (Q 0 I)))) else (∃ f, p3_canClear_b56 rc l0 l1 l2 l3 Q f 0 I)) else (Q 1 I)))
set_option maxRecDepth 20000 in
theorem c3_canClear {ad : Nat → Nat} {n : Nat} {I J : mI} {R : mR} {Q : Int → mI → Prop} {rc : RTcc2} {d : Nat}  (hrc0 : ∀ {l0 l1 : Nat} {l2 l3 : Int} {I J : mI} {R : mR} {Q : Int → mI → Prop}, RF R → isLd l0 → isA 6 l1 → rc l0 l1 l2 l3 I Q → wMet yX3_canClear cX3_canClear 5 (some .boolean) (4 + d) (100 + 40 * d) false ad n I J R [vr l0, vr l1, vi l2, vi l3] (fun r I' J' R' => (J' = J ∧ R' = R) ∧ Q r I')) (hRF : RF R) {l0 : Nat} {l1 : Nat} {l2 : Int} {l3 : Int} (h0 : isLd l0) (h1 : isA 6 l1)   (hw : p3_canClear rc l0 l1 l2 l3 I Q) : wMet yX3_canClear cX3_canClear 5 (some .boolean) (4 + (d + 1)) (100 + 40 * (d + 1)) false ad n I J R [vr l0, vr l1, vi l2, vi l3] (fun r I' J' R' => (J' = J ∧ R' = R) ∧ Q r I') := by
  refine wMet_of (by decide) (Nat.le_of_ble_eq_true rfl) (fun C hC hRm hE hS => ?_)
  refine (show WM C ad n I J R 0 0 0 [(0, vr l0), (1, vr l1), (2, vi l2), (3, vi l3)] [] from ?_)
  unfold p3_canClear at hw
  refine wm_iload_n hC 3 dX3_canClear_0 rfl ?_
  refine wm_aload_n hC 0 dX3_canClear_1 rfl (k_ne0 (ld_k0 h0) (by decide)) ?_
  refine x_getR3 hC 0 fl_X3_9 rfl (ld_k0 h0) (rfd_0 hRF h0) dX3_canClear_2 ?_
  refine wm_iconst hC dX3_canClear_5 (k := ?_)
  refine x_ialdK hC (ld_k1 h0) (ld_n1 h0) (by decide) (by decide) dX3_canClear_6 ?_
  refine wm_icmp_ge (tgt := 16) hC dX3_canClear_7 (by decide) hw (fun hw => ?_) (fun hw => ?_)
  · refine wm_iconst hC dX3_canClear_16 (k := ?_)
    exact wm_zreturn hC hE (Or.inr rfl) dX3_canClear_17 ⟨⟨rfl, rfl⟩, hw⟩
  · refine wm_iload_n hC 3 dX3_canClear_10 rfl ?_
    refine wm_aload_n hC 1 dX3_canClear_11 rfl (k_ne0 h1.1 (by decide)) ?_
    refine x_alen2 hC h1.1 h1.2 (by decide) dX3_canClear_12 ?_
    refine wm_icmp_lt (tgt := 18) hC dX3_canClear_13 (by decide) hw (fun hw => ?_) (fun hw => ?_)
    · refine wm_iload_n hC 2 dX3_canClear_18 rfl ?_
      refine wm_iload_n hC 3 dX3_canClear_19 rfl ?_
      refine wm_ishr hC dX3_canClear_20 ?_
      refine wm_iconst hC dX3_canClear_21 (k := ?_)
      refine wm_iand hC dX3_canClear_22 ?_
      refine wm_if_ne (tgt := 53) hC dX3_canClear_23 (by decide) hw (fun hw => ?_) (fun hw => ?_)
      · refine wm_aload_n hC 0 dX3_canClear_26 rfl (k_ne0 (ld_k0 h0) (by decide)) ?_
        refine wm_aload_n hC 1 dX3_canClear_27 rfl (k_ne0 h1.1 (by decide)) ?_
        refine wm_iload_n hC 3 dX3_canClear_28 rfl ?_
        refine y_callV_i_n hC hRm noS ml_X3_66 (ld_k0 h0) (c3_clashesBelow hRF h0 h1 hw) (by omega) (by omega) ⟨Nat.zero_le _, Nat.zero_le _⟩ rfl (st := []) rfl (Nat.le_of_ble_eq_true rfl) dX3_canClear_29 (fun r1 hw => ?_)
        refine wm_if_ne (tgt := 51) hC dX3_canClear_32 (by decide) hw (fun hw => ?_) (fun hw => ?_)
        · refine wm_aload_n hC 0 dX3_canClear_35 rfl (k_ne0 (ld_k0 h0) (by decide)) ?_
          refine wm_aload_n hC 1 dX3_canClear_36 rfl (k_ne0 h1.1 (by decide)) ?_
          refine wm_iload_n hC 2 dX3_canClear_37 rfl ?_
          refine wm_iload_n hC 3 dX3_canClear_38 rfl ?_
          refine wm_iconst hC dX3_canClear_39 (k := ?_)
          refine x_iadd hC dX3_canClear_40 hw (fun hw => ?_)
          refine y_callS_z_I hC hRm noS ml_X3_82 (hrc0 hRF h0 h1 hw) (by omega) (by omega) ⟨Nat.zero_le _, Nat.zero_le _⟩ rfl (st := []) rfl (Nat.le_of_ble_eq_true rfl) dX3_canClear_41 (fun r2 I1 hw => ?_)
          refine wm_if_eq (tgt := 51) hC dX3_canClear_44 (by decide) hw (fun hw => ?_) (fun hw => ?_)
          · refine wm_iconst hC dX3_canClear_51 (k := ?_)
            exact wm_zreturn hC hE (Or.inl rfl) dX3_canClear_52 ⟨⟨rfl, rfl⟩, hw⟩
          · refine wm_iconst hC dX3_canClear_47 (k := ?_)
            refine wm_goto (tgt := 52) hC dX3_canClear_48 (by decide) ?_
            exact wm_zreturn hC hE (Or.inr rfl) dX3_canClear_52 ⟨⟨rfl, rfl⟩, hw⟩
        · refine wm_iconst hC dX3_canClear_51 (k := ?_)
          exact wm_zreturn hC hE (Or.inl rfl) dX3_canClear_52 ⟨⟨rfl, rfl⟩, hw⟩
      · refine wm_iconst hC dX3_canClear_53 (k := ?_)
        refine wm_istore hC dX3_canClear_54 (by decide) (L2 := [(4, vi 0), (0, vr l0), (1, vr l1), (2, vi l2), (3, vi l3)]) rfl ?_
        obtain ⟨f, hw⟩ := hw
        refine wm_sub [1, 2, 3, 4, 0] (L2 := [(0, vr l0), (1, vr l1), (2, vi l2), (3, vi l3), (4, vi 0)]) rfl ?_
        exact w3_canClear_b56 hC hRm hE hRF hrc0 h0 h1 f _ _ hw
    · refine wm_iconst hC dX3_canClear_16 (k := ?_)
      exact wm_zreturn hC hE (Or.inr rfl) dX3_canClear_17 ⟨⟨rfl, rfl⟩, hw⟩
def pGcc : Nat → RTcc2
  | 0 => fun _ _ _ _ _ _ => False
  | d + 1 => fun l0 l1 l2 l3 I Q => p3_canClear (pGcc d) l0 l1 l2 l3 I Q
theorem cGcc {ad : Nat → Nat} {n : Nat} : ∀ (d : Nat), ∀ {l0 l1 : Nat} {l2 l3 : Int} {I J : mI} {R : mR} {Q : Int → mI → Prop}, RF R → isLd l0 → isA 6 l1 → pGcc d l0 l1 l2 l3 I Q → wMet yX3_canClear cX3_canClear 5 (some .boolean) (4 + d) (100 + 40 * d) false ad n I J R [vr l0, vr l1, vi l2, vi l3] (fun r I' J' R' => (J' = J ∧ R' = R) ∧ Q r I') := by
  intro d
  induction d with
  | zero => exact fun _ _ _ hw => hw.elim
  | succ d ih => exact fun hRF hk hk1 hw => c3_canClear ih hRF hk hk1 hw
theorem cGcc_0 {ad : Nat → Nat} {n : Nat} {l0 l1 : Nat} {l2 l3 : Int} {I J : mI} {R : mR} {Q : Int → mI → Prop} (hRF : RF R) (hk : isLd l0) (hk1 : isA 6 l1) (hw : pGcc 10 l0 l1 l2 l3 I Q) : wMet yX3_canClear cX3_canClear 5 (some .boolean) 14 500 false ad n I J R [vr l0, vr l1, vi l2, vi l3] (fun r I' J' R' => (J' = J ∧ R' = R) ∧ Q r I') := cGcc 10 hRF hk hk1 hw
def p3_fewestToClear_b58_body (l0 : Nat) (l1 : Nat) (l2 : Nat) (l3 : Int) (l4 : Int) (l5 : Int) (k49 : Int → mI → Prop) (Q : Int → mI → Prop) (k58 : Int → mI → Prop) (l6 : Int) (I : mI) : Prop := (if l4 < l6 then (rg (l5 + 1) ∧ (k49 (l5 + 1) I)) else (if (bAnd l6 (bXor l4 (-1))) = 0 then (((0 : Int) ≤ l6 ∧ l6 < 64) ∧ (if (bc l6) = l5 then (wLet (cpy I l1 0 l2 0 6) (fun I1 => (pGcc 10 l0 l2 l6 0 I1 (fun r1 I2 => (if r1 = 0 then (rg (l6 + 1) ∧ (k58 (l6 + 1) I2)) else (Q l6 I2)))))) else (rg (l6 + 1) ∧ (k58 (l6 + 1) I)))) else (rg (l6 + 1) ∧ (k58 (l6 + 1) I))))
def p3_fewestToClear_b58 (l0 : Nat) (l1 : Nat) (l2 : Nat) (l3 : Int) (l4 : Int) (l5 : Int) (k49 : Int → mI → Prop) (Q : Int → mI → Prop) : Nat → Int → mI → Prop
  | 0 => fun _ _ => False
  | f + 1 => fun l6 I => p3_fewestToClear_b58_body l0 l1 l2 l3 l4 l5 k49 Q (p3_fewestToClear_b58 l0 l1 l2 l3 l4 l5 k49 Q f) l6 I
set_option maxRecDepth 20000 in
theorem w3_fewestToClear_b58_body {C : wX} {ad : Nat → Nat} {n : Nat} {I J : mI} {R : mR} {Q : Int → mI → Prop} (hC : wOK C cX3_fewestToClear 7 RX3) (hRm : wRm C 15 524 0 0) (hE : wEnd C (some .int) ad n (fun r I' J' R' => (J' = J ∧ R' = R) ∧ Q r I')) (hRF : RF R) {l0 : Nat} {l1 : Nat} {l2 : Nat} {l3 : Int} {l4 : Int} {l5 : Int} {l6 : Int}  {k49 : Int → mI → Prop} (h0 : isLd l0) (h1 : isA 6 l1) (h2 : isA 6 l2) (kk49 : ∀ (y5 : Int) (I' : mI), k49 y5 I' → WM C ad n I' J R 0 0 49 [(0, vr l0), (1, vr l1), (2, vr l2), (3, vi l3), (4, vi l4), (5, vi y5)] []) {k58 : Int → mI → Prop} (kk58 : ∀ (y6 : Int) (I' : mI), k58 y6 I' → WM C ad n I' J R 0 0 58 [(0, vr l0), (1, vr l1), (2, vr l2), (3, vi l3), (4, vi l4), (5, vi l5), (6, vi y6)] []) (hw : p3_fewestToClear_b58_body l0 l1 l2 l3 l4 l5 k49 Q k58 l6 I) : WM C ad n I J R 0 0 58 [(0, vr l0), (1, vr l1), (2, vr l2), (3, vi l3), (4, vi l4), (5, vi l5), (6, vi l6)] [] := by
  unfold p3_fewestToClear_b58_body at hw
  refine wm_iload hC 6 dX3_fewestToClear_58 rfl ?_
  refine wm_iload hC 4 dX3_fewestToClear_60 rfl ?_
  refine wm_icmp_gt (tgt := 114) hC dX3_fewestToClear_62 (by decide) hw (fun hw => ?_) (fun hw => ?_)
  · refine x_iinc hC 5 dX3_fewestToClear_114 rfl (by decide) (L2 := [(5, vi (l5 + 1)), (0, vr l0), (1, vr l1), (2, vr l2), (3, vi l3), (4, vi l4), (6, vi l6)]) rfl hw (fun hw => ?_)
    refine wm_goto (tgt := 49) hC dX3_fewestToClear_117 (by decide) ?_
    refine wm_sub [1, 2, 3, 4, 5, 0] (L2 := [(0, vr l0), (1, vr l1), (2, vr l2), (3, vi l3), (4, vi l4), (5, vi (l5 + 1))]) rfl ?_
    exact kk49 _ _ hw
  · refine wm_iload hC 6 dX3_fewestToClear_65 rfl ?_
    refine wm_iload hC 4 dX3_fewestToClear_67 rfl ?_
    refine wm_iconst hC dX3_fewestToClear_69 (k := ?_)
    refine wm_ixor hC dX3_fewestToClear_70 ?_
    refine wm_iand hC dX3_fewestToClear_71 ?_
    refine wm_if_ne (tgt := 108) hC dX3_fewestToClear_72 (by decide) hw (fun hw => ?_) (fun hw => ?_)
    · refine wm_iload hC 6 dX3_fewestToClear_75 rfl ?_
      refine x_bitc hC hRm ml_X3_70 (st := []) (Nat.le_of_ble_eq_true rfl) (Nat.le_of_ble_eq_true rfl) (Nat.le_of_ble_eq_true rfl) dX3_fewestToClear_77 hw (fun hw => ?_)
      refine wm_iload hC 5 dX3_fewestToClear_80 rfl ?_
      refine wm_icmp_ne (tgt := 108) hC dX3_fewestToClear_82 (by decide) hw (fun hw => ?_) (fun hw => ?_)
      · refine wm_aload_n hC 1 dX3_fewestToClear_85 rfl (k_ne0 h1.1 (by decide)) ?_
        refine wm_iconst hC dX3_fewestToClear_86 (k := ?_)
        refine wm_aload_n hC 2 dX3_fewestToClear_87 rfl (k_ne0 h2.1 (by decide)) ?_
        refine wm_iconst hC dX3_fewestToClear_88 (k := ?_)
        refine wm_aload_n hC 2 dX3_fewestToClear_89 rfl (k_ne0 h2.1 (by decide)) ?_
        refine x_alen2 hC h2.1 h2.2 (by decide) dX3_fewestToClear_90 ?_
        refine x_copyi2 hC hRm (st := []) h1.1 h1.2 h2.1 h2.2 cw_X3_76 (Nat.le_of_ble_eq_true rfl) (by decide) (by decide) dX3_fewestToClear_91 hw (fun I1 hw => ?_)
        refine wm_aload_n hC 0 dX3_fewestToClear_94 rfl (k_ne0 (ld_k0 h0) (by decide)) ?_
        refine wm_aload_n hC 2 dX3_fewestToClear_95 rfl (k_ne0 h2.1 (by decide)) ?_
        refine wm_iload hC 6 dX3_fewestToClear_96 rfl ?_
        refine wm_iconst hC dX3_fewestToClear_98 (k := ?_)
        refine y_callS_z_I hC hRm noS ml_X3_82 (cGcc_0 hRF h0 h2 hw) (Nat.le_of_ble_eq_true rfl) (Nat.le_of_ble_eq_true rfl) ⟨Nat.zero_le _, Nat.zero_le _⟩ rfl (st := []) rfl (Nat.le_of_ble_eq_true rfl) dX3_fewestToClear_99 (fun r1 I2 hw => ?_)
        refine wm_if_eq (tgt := 108) hC dX3_fewestToClear_102 (by decide) hw (fun hw => ?_) (fun hw => ?_)
        · refine x_iinc hC 6 dX3_fewestToClear_108 rfl (by decide) (L2 := [(6, vi (l6 + 1)), (0, vr l0), (1, vr l1), (2, vr l2), (3, vi l3), (4, vi l4), (5, vi l5)]) rfl hw (fun hw => ?_)
          refine wm_goto (tgt := 58) hC dX3_fewestToClear_111 (by decide) ?_
          refine wm_sub [1, 2, 3, 4, 5, 6, 0] (L2 := [(0, vr l0), (1, vr l1), (2, vr l2), (3, vi l3), (4, vi l4), (5, vi l5), (6, vi (l6 + 1))]) rfl ?_
          exact kk58 _ _ hw
        · refine wm_iload hC 6 dX3_fewestToClear_105 rfl ?_
          exact wm_ireturn hC hE dX3_fewestToClear_107 ⟨⟨rfl, rfl⟩, hw⟩
      · refine x_iinc hC 6 dX3_fewestToClear_108 rfl (by decide) (L2 := [(6, vi (l6 + 1)), (0, vr l0), (1, vr l1), (2, vr l2), (3, vi l3), (4, vi l4), (5, vi l5)]) rfl hw (fun hw => ?_)
        refine wm_goto (tgt := 58) hC dX3_fewestToClear_111 (by decide) ?_
        refine wm_sub [1, 2, 3, 4, 5, 6, 0] (L2 := [(0, vr l0), (1, vr l1), (2, vr l2), (3, vi l3), (4, vi l4), (5, vi l5), (6, vi (l6 + 1))]) rfl ?_
        exact kk58 _ _ hw
    · refine x_iinc hC 6 dX3_fewestToClear_108 rfl (by decide) (L2 := [(6, vi (l6 + 1)), (0, vr l0), (1, vr l1), (2, vr l2), (3, vi l3), (4, vi l4), (5, vi l5)]) rfl hw (fun hw => ?_)
      refine wm_goto (tgt := 58) hC dX3_fewestToClear_111 (by decide) ?_
      refine wm_sub [1, 2, 3, 4, 5, 6, 0] (L2 := [(0, vr l0), (1, vr l1), (2, vr l2), (3, vi l3), (4, vi l4), (5, vi l5), (6, vi (l6 + 1))]) rfl ?_
      exact kk58 _ _ hw
set_option maxRecDepth 20000 in
theorem w3_fewestToClear_b58 {C : wX} {ad : Nat → Nat} {n : Nat} {J : mI} {R : mR} {Q : Int → mI → Prop} (hC : wOK C cX3_fewestToClear 7 RX3) (hRm : wRm C 15 524 0 0) (hE : wEnd C (some .int) ad n (fun r I' J' R' => (J' = J ∧ R' = R) ∧ Q r I')) (hRF : RF R) {l0 : Nat} {l1 : Nat} {l2 : Nat} {l3 : Int} {l4 : Int} {l5 : Int}  {k49 : Int → mI → Prop} (h0 : isLd l0) (h1 : isA 6 l1) (h2 : isA 6 l2) (kk49 : ∀ (y5 : Int) (I' : mI), k49 y5 I' → WM C ad n I' J R 0 0 49 [(0, vr l0), (1, vr l1), (2, vr l2), (3, vi l3), (4, vi l4), (5, vi y5)] []) : ∀ (f : Nat) (l6 : Int) (I : mI), p3_fewestToClear_b58 l0 l1 l2 l3 l4 l5 k49 Q f l6 I → WM C ad n I J R 0 0 58 [(0, vr l0), (1, vr l1), (2, vr l2), (3, vi l3), (4, vi l4), (5, vi l5), (6, vi l6)] [] := by
  intro f
  induction f with
  | zero => intro l6 I hw; exact hw.elim
  | succ f ih => intro l6 I hw; exact w3_fewestToClear_b58_body hC hRm hE hRF h0 h1 h2 kk49 (fun a0 a1 aw => ih a0 a1 aw) hw
def p3_fewestToClear_b49_body (l0 : Nat) (l1 : Nat) (l2 : Nat) (l3 : Int) (l4 : Int) (Q : Int → mI → Prop) (k49 : Int → mI → Prop) (l5 : Int) (I : mI) : Prop := (if l3 < l5 then (Q (-1) I) else (∃ f, p3_fewestToClear_b58 l0 l1 l2 l3 l4 l5 k49 Q f 0 I))
def p3_fewestToClear_b49 (l0 : Nat) (l1 : Nat) (l2 : Nat) (l3 : Int) (l4 : Int) (Q : Int → mI → Prop) : Nat → Int → mI → Prop
  | 0 => fun _ _ => False
  | f + 1 => fun l5 I => p3_fewestToClear_b49_body l0 l1 l2 l3 l4 Q (p3_fewestToClear_b49 l0 l1 l2 l3 l4 Q f) l5 I
set_option maxRecDepth 20000 in
theorem w3_fewestToClear_b49_body {C : wX} {ad : Nat → Nat} {n : Nat} {I J : mI} {R : mR} {Q : Int → mI → Prop} (hC : wOK C cX3_fewestToClear 7 RX3) (hRm : wRm C 15 524 0 0) (hE : wEnd C (some .int) ad n (fun r I' J' R' => (J' = J ∧ R' = R) ∧ Q r I')) (hRF : RF R) {l0 : Nat} {l1 : Nat} {l2 : Nat} {l3 : Int} {l4 : Int} {l5 : Int}   (h0 : isLd l0) (h1 : isA 6 l1) (h2 : isA 6 l2)  {k49 : Int → mI → Prop} (kk49 : ∀ (y5 : Int) (I' : mI), k49 y5 I' → WM C ad n I' J R 0 0 49 [(0, vr l0), (1, vr l1), (2, vr l2), (3, vi l3), (4, vi l4), (5, vi y5)] []) (hw : p3_fewestToClear_b49_body l0 l1 l2 l3 l4 Q k49 l5 I) : WM C ad n I J R 0 0 49 [(0, vr l0), (1, vr l1), (2, vr l2), (3, vi l3), (4, vi l4), (5, vi l5)] [] := by
  unfold p3_fewestToClear_b49_body at hw
  refine wm_iload hC 5 dX3_fewestToClear_49 rfl ?_
  refine wm_iload_n hC 3 dX3_fewestToClear_51 rfl ?_
  refine wm_icmp_gt (tgt := 120) hC dX3_fewestToClear_52 (by decide) hw (fun hw => ?_) (fun hw => ?_)
  · refine wm_iconst hC dX3_fewestToClear_120 (k := ?_)
    exact wm_ireturn hC hE dX3_fewestToClear_121 ⟨⟨rfl, rfl⟩, hw⟩
  · refine wm_iconst hC dX3_fewestToClear_55 (k := ?_)
    refine wm_istore hC dX3_fewestToClear_56 (by decide) (L2 := [(6, vi 0), (0, vr l0), (1, vr l1), (2, vr l2), (3, vi l3), (4, vi l4), (5, vi l5)]) rfl ?_
    obtain ⟨f, hw⟩ := hw
    refine wm_sub [1, 2, 3, 4, 5, 6, 0] (L2 := [(0, vr l0), (1, vr l1), (2, vr l2), (3, vi l3), (4, vi l4), (5, vi l5), (6, vi 0)]) rfl ?_
    exact w3_fewestToClear_b58 hC hRm hE hRF h0 h1 h2 kk49 f _ _ hw
set_option maxRecDepth 20000 in
theorem w3_fewestToClear_b49 {C : wX} {ad : Nat → Nat} {n : Nat} {J : mI} {R : mR} {Q : Int → mI → Prop} (hC : wOK C cX3_fewestToClear 7 RX3) (hRm : wRm C 15 524 0 0) (hE : wEnd C (some .int) ad n (fun r I' J' R' => (J' = J ∧ R' = R) ∧ Q r I')) (hRF : RF R) {l0 : Nat} {l1 : Nat} {l2 : Nat} {l3 : Int} {l4 : Int}   (h0 : isLd l0) (h1 : isA 6 l1) (h2 : isA 6 l2)  : ∀ (f : Nat) (l5 : Int) (I : mI), p3_fewestToClear_b49 l0 l1 l2 l3 l4 Q f l5 I → WM C ad n I J R 0 0 49 [(0, vr l0), (1, vr l1), (2, vr l2), (3, vi l3), (4, vi l4), (5, vi l5)] [] := by
  intro f
  induction f with
  | zero => intro l5 I hw; exact hw.elim
  | succ f ih => intro l5 I hw; exact w3_fewestToClear_b49_body hC hRm hE hRF h0 h1 h2 (fun a0 a1 aw => ih a0 a1 aw) hw
def p3_fewestToClear_b13_body (l0 : Nat) (l1 : Nat) (l2 : Nat) (l3 : Int) (I : mI) (Q : Int → mI → Prop) (k13 : Int → Int → Prop) (l4 : Int) (l5 : Int) : Prop := (if l3 ≤ l5 then (∃ f, p3_fewestToClear_b49 l0 l1 l2 l3 l4 Q f 0 I) else (((0 : Int) ≤ l5 ∧ l5 < (6 : Int)) ∧ (if (I l1 l5) = (-1) then (rg (l5 + 1) ∧ (k13 (bOr l4 0) (l5 + 1))) else (rg (l5 + 1) ∧ (k13 (bOr l4 (bShl 1 l5)) (l5 + 1))))))
def p3_fewestToClear_b13 (l0 : Nat) (l1 : Nat) (l2 : Nat) (l3 : Int) (I : mI) (Q : Int → mI → Prop) : Nat → Int → Int → Prop
  | 0 => fun _ _ => False
  | f + 1 => fun l4 l5 => p3_fewestToClear_b13_body l0 l1 l2 l3 I Q (p3_fewestToClear_b13 l0 l1 l2 l3 I Q f) l4 l5
set_option maxRecDepth 20000 in
theorem w3_fewestToClear_b13_body {C : wX} {ad : Nat → Nat} {n : Nat} {I J : mI} {R : mR} {Q : Int → mI → Prop} (hC : wOK C cX3_fewestToClear 7 RX3) (hRm : wRm C 15 524 0 0) (hE : wEnd C (some .int) ad n (fun r I' J' R' => (J' = J ∧ R' = R) ∧ Q r I')) (hRF : RF R) {l0 : Nat} {l1 : Nat} {l2 : Nat} {l3 : Int} {l4 : Int} {l5 : Int}   (h0 : isLd l0) (h1 : isA 6 l1) (h2 : isA 6 l2)  {k13 : Int → Int → Prop} (kk13 : ∀ (y4 : Int) (y5 : Int), k13 y4 y5 → WM C ad n I J R 0 0 13 [(0, vr l0), (1, vr l1), (2, vr l2), (3, vi l3), (4, vi y4), (5, vi y5)] []) (hw : p3_fewestToClear_b13_body l0 l1 l2 l3 I Q k13 l4 l5) : WM C ad n I J R 0 0 13 [(0, vr l0), (1, vr l1), (2, vr l2), (3, vi l3), (4, vi l4), (5, vi l5)] [] := by
  unfold p3_fewestToClear_b13_body at hw
  refine wm_iload hC 5 dX3_fewestToClear_13 rfl ?_
  refine wm_iload_n hC 3 dX3_fewestToClear_15 rfl ?_
  refine wm_icmp_ge (tgt := 46) hC dX3_fewestToClear_16 (by decide) hw (fun hw => ?_) (fun hw => ?_)
  · refine wm_iconst hC dX3_fewestToClear_46 (k := ?_)
    refine wm_istore hC dX3_fewestToClear_47 (by decide) (L2 := [(5, vi 0), (0, vr l0), (1, vr l1), (2, vr l2), (3, vi l3), (4, vi l4)]) rfl ?_
    obtain ⟨f, hw⟩ := hw
    refine wm_sub [1, 2, 3, 4, 5, 0] (L2 := [(0, vr l0), (1, vr l1), (2, vr l2), (3, vi l3), (4, vi l4), (5, vi 0)]) rfl ?_
    exact w3_fewestToClear_b49 hC hRm hE hRF h0 h1 h2 f _ _ hw
  · refine wm_iload hC 4 dX3_fewestToClear_19 rfl ?_
    refine wm_aload_n hC 1 dX3_fewestToClear_21 rfl (k_ne0 h1.1 (by decide)) ?_
    refine wm_iload hC 5 dX3_fewestToClear_22 rfl ?_
    refine x_iald2 hC h1.1 h1.2 dX3_fewestToClear_24 hw (fun hw => ?_)
    refine wm_iconst hC dX3_fewestToClear_25 (k := ?_)
    refine wm_icmp_ne (tgt := 33) hC dX3_fewestToClear_26 (by decide) hw (fun hw => ?_) (fun hw => ?_)
    · refine wm_iconst hC dX3_fewestToClear_29 (k := ?_)
      refine wm_goto (tgt := 37) hC dX3_fewestToClear_30 (by decide) ?_
      refine wm_ior hC dX3_fewestToClear_37 ?_
      refine wm_istore hC dX3_fewestToClear_38 (by decide) (L2 := [(4, vi (bOr l4 0)), (0, vr l0), (1, vr l1), (2, vr l2), (3, vi l3), (5, vi l5)]) rfl ?_
      refine x_iinc hC 5 dX3_fewestToClear_40 rfl (by decide) (L2 := [(5, vi (l5 + 1)), (4, vi (bOr l4 0)), (0, vr l0), (1, vr l1), (2, vr l2), (3, vi l3)]) rfl hw (fun hw => ?_)
      refine wm_goto (tgt := 13) hC dX3_fewestToClear_43 (by decide) ?_
      refine wm_sub [2, 3, 4, 5, 1, 0] (L2 := [(0, vr l0), (1, vr l1), (2, vr l2), (3, vi l3), (4, vi (bOr l4 0)), (5, vi (l5 + 1))]) rfl ?_
      exact kk13 _ _ hw
    · refine wm_iconst hC dX3_fewestToClear_33 (k := ?_)
      refine wm_iload hC 5 dX3_fewestToClear_34 rfl ?_
      refine wm_ishl hC dX3_fewestToClear_36 ?_
      refine wm_ior hC dX3_fewestToClear_37 ?_
      refine wm_istore hC dX3_fewestToClear_38 (by decide) (L2 := [(4, vi (bOr l4 (bShl 1 l5))), (0, vr l0), (1, vr l1), (2, vr l2), (3, vi l3), (5, vi l5)]) rfl ?_
      refine x_iinc hC 5 dX3_fewestToClear_40 rfl (by decide) (L2 := [(5, vi (l5 + 1)), (4, vi (bOr l4 (bShl 1 l5))), (0, vr l0), (1, vr l1), (2, vr l2), (3, vi l3)]) rfl hw (fun hw => ?_)
      refine wm_goto (tgt := 13) hC dX3_fewestToClear_43 (by decide) ?_
      refine wm_sub [2, 3, 4, 5, 1, 0] (L2 := [(0, vr l0), (1, vr l1), (2, vr l2), (3, vi l3), (4, vi (bOr l4 (bShl 1 l5))), (5, vi (l5 + 1))]) rfl ?_
      exact kk13 _ _ hw
set_option maxRecDepth 20000 in
theorem w3_fewestToClear_b13 {C : wX} {ad : Nat → Nat} {n : Nat} {I : mI} {J : mI} {R : mR} {Q : Int → mI → Prop} (hC : wOK C cX3_fewestToClear 7 RX3) (hRm : wRm C 15 524 0 0) (hE : wEnd C (some .int) ad n (fun r I' J' R' => (J' = J ∧ R' = R) ∧ Q r I')) (hRF : RF R) {l0 : Nat} {l1 : Nat} {l2 : Nat} {l3 : Int}   (h0 : isLd l0) (h1 : isA 6 l1) (h2 : isA 6 l2)  : ∀ (f : Nat) (l4 : Int) (l5 : Int), p3_fewestToClear_b13 l0 l1 l2 l3 I Q f l4 l5 → WM C ad n I J R 0 0 13 [(0, vr l0), (1, vr l1), (2, vr l2), (3, vi l3), (4, vi l4), (5, vi l5)] [] := by
  intro f
  induction f with
  | zero => intro l4 l5 hw; exact hw.elim
  | succ f ih => intro l4 l5 hw; exact w3_fewestToClear_b13_body hC hRm hE hRF h0 h1 h2 (fun a0 a1 aw => ih a0 a1 aw) hw
def p3_fewestToClear (l0 : Nat) (l1 : Nat) (l2 : Nat) (I : mI) (Q : Int → mI → Prop) : Prop := (∃ f, p3_fewestToClear_b13 l0 l1 l2 (I (l0 + 1) 2) I Q f 0 0)
set_option maxRecDepth 20000 in
theorem c3_fewestToClear {ad : Nat → Nat} {n : Nat} {I J : mI} {R : mR} {Q : Int → mI → Prop}  (hRF : RF R) {l0 : Nat} {l1 : Nat} {l2 : Nat} (h0 : isLd l0) (h1 : isA 6 l1) (h2 : isA 6 l2) (hw : p3_fewestToClear l0 l1 l2 I Q) : wMet yX3_fewestToClear cX3_fewestToClear 7 (some .int) 15 524 false ad n I J R [vr l0, vr l1, vr l2] (fun r I' J' R' => (J' = J ∧ R' = R) ∧ Q r I') := by
  refine wMet_of (by decide) (Nat.le_of_ble_eq_true rfl) (fun C hC hRm hE hS => ?_)
  refine (show WM C ad n I J R 0 0 0 [(0, vr l0), (1, vr l1), (2, vr l2)] [] from ?_)
  unfold p3_fewestToClear at hw
  refine wm_aload_n hC 0 dX3_fewestToClear_0 rfl (k_ne0 (ld_k0 h0) (by decide)) ?_
  refine x_getR3 hC 0 fl_X3_9 rfl (ld_k0 h0) (rfd_0 hRF h0) dX3_fewestToClear_1 ?_
  refine wm_iconst hC dX3_fewestToClear_4 (k := ?_)
  refine x_ialdK hC (ld_k1 h0) (ld_n1 h0) (by decide) (by decide) dX3_fewestToClear_5 ?_
  refine wm_istore_n hC dX3_fewestToClear_6 (by decide) (L2 := [(3, vi (I (l0 + 1) 2)), (0, vr l0), (1, vr l1), (2, vr l2)]) rfl ?_
  refine wm_iconst hC dX3_fewestToClear_7 (k := ?_)
  refine wm_istore hC dX3_fewestToClear_8 (by decide) (L2 := [(4, vi 0), (3, vi (I (l0 + 1) 2)), (0, vr l0), (1, vr l1), (2, vr l2)]) rfl ?_
  refine wm_iconst hC dX3_fewestToClear_10 (k := ?_)
  refine wm_istore hC dX3_fewestToClear_11 (by decide) (L2 := [(5, vi 0), (4, vi 0), (3, vi (I (l0 + 1) 2)), (0, vr l0), (1, vr l1), (2, vr l2)]) rfl ?_
  obtain ⟨f, hw⟩ := hw
  refine wm_sub [3, 4, 5, 2, 1, 0] (L2 := [(0, vr l0), (1, vr l1), (2, vr l2), (3, vi (I (l0 + 1) 2)), (4, vi 0), (5, vi 0)]) rfl ?_
  exact w3_fewestToClear_b13 hC hRm hE hRF h0 h1 h2 f _ _ hw
def p11_clear (I : mI) (R : mR) (Q : Int → mI → Prop) : Prop := (isLd (R 1 12) ∧ (p3_fewestToClear (R 1 12) 10 121 I (fun r1 I1 => (Q r1 I1))))
set_option maxRecDepth 20000 in
theorem c11_clear {ad : Nat → Nat} {n : Nat} {I J : mI} {R : mR} {Q : Int → mI → Prop}  (hRF : RF R)   (hw : p11_clear I R Q) : wMet yX11_clear cX11_clear 1 (some .int) 16 550 false ad n I J R [vr 1] (fun r I' J' R' => (J' = J ∧ R' = R) ∧ Q r I') := by
  refine wMet_of (by decide) (Nat.le_of_ble_eq_true rfl) (fun C hC hRm hE hS => ?_)
  refine (show WM C ad n I J R 0 0 0 [(0, vr 1)] [] from ?_)
  unfold p11_clear at hw
  refine wm_aload_n hC 0 dX11_clear_0 rfl (k_ne0 kk_1 (by decide)) ?_
  refine x_getRD hC 12 fl_X11_57 rfl kk_1 dX11_clear_1 hw (fun g1 hw => ?_)
  refine wm_aload_n hC 0 dX11_clear_4 rfl (k_ne0 kk_1 (by decide)) ?_
  refine x_getR3 hC 2 fl_X11_26 rfl kk_1 (rf_1_2 hRF) dX11_clear_5 ?_
  refine x_getR3 hC 5 fl_X11_157 rfl kk_7 (rfs_5 hRF isSt_7) dX11_clear_8 ?_
  refine wm_aload_n hC 0 dX11_clear_11 rfl (k_ne0 kk_1 (by decide)) ?_
  refine x_getR3 hC 6 fl_X11_47 rfl kk_1 (rf_1_6 hRF) dX11_clear_12 ?_
  refine y_callV_i_I hC hRm noS ml_X11_243 (ld_k0 g1) (c3_fewestToClear hRF g1 ⟨kk_10, kn_10⟩ ⟨kk_121, kn_121⟩ hw) (Nat.le_of_ble_eq_true rfl) (Nat.le_of_ble_eq_true rfl) ⟨Nat.zero_le _, Nat.zero_le _⟩ rfl (st := []) rfl (Nat.le_of_ble_eq_true rfl) dX11_clear_15 (fun r1 I1 hw => ?_)
  exact wm_ireturn hC hE dX11_clear_18 ⟨⟨rfl, rfl⟩, hw⟩
def p11_colour (l1 : Int) (l2 : Int) (I : mI) (R : mR) (Q : Int → Prop) : Prop := (isLd (R 1 12) ∧ (p3_isThere (R 1 12) 1 l1 I (fun r1 => (if r1 = 0 then (Q (-1)) else (if l2 < 0 then (Q (-1)) else (if l2 ≤ 4 then (if l2 = 4 then (isLd (R 1 12) ∧ (p7_wornBy 7 (I ((R 1 12) + 1) 2) l1 I (fun r3 => (Q r3)))) else (isLd (R 1 12) ∧ (p3_traitOf (R 1 12) 1 l1 l2 I (fun r2 => (Q r2))))) else (Q (-1))))))))
set_option maxRecDepth 20000 in
theorem c11_colour {ad : Nat → Nat} {n : Nat} {I J : mI} {R : mR} {Q : Int → Prop}  (hRF : RF R) {l1 : Int} {l2 : Int}    (hw : p11_colour l1 l2 I R Q) : wMet yX11_colour cX11_colour 3 (some .int) 2 36 false ad n I J R [vr 1, vi l1, vi l2] (fun r I' J' R' => (I' = I ∧ J' = J ∧ R' = R) ∧ Q r) := by
  refine wMet_of (by decide) (Nat.le_of_ble_eq_true rfl) (fun C hC hRm hE hS => ?_)
  refine (show WM C ad n I J R 0 0 0 [(0, vr 1), (1, vi l1), (2, vi l2)] [] from ?_)
  unfold p11_colour at hw
  refine wm_aload_n hC 0 dX11_colour_0 rfl (k_ne0 kk_1 (by decide)) ?_
  refine x_getRD hC 12 fl_X11_57 rfl kk_1 dX11_colour_1 hw (fun g1 hw => ?_)
  refine wm_iconst hC dX11_colour_4 (k := ?_)
  refine wm_iload_n hC 1 dX11_colour_5 rfl ?_
  refine y_callV_z_n hC hRm noS ml_X11_167 (ld_k0 g1) (c3_isThere hRF g1 hw) (Nat.le_of_ble_eq_true rfl) (Nat.le_of_ble_eq_true rfl) ⟨Nat.zero_le _, Nat.zero_le _⟩ rfl (st := []) rfl (Nat.le_of_ble_eq_true rfl) dX11_colour_6 (fun r1 hw => ?_)
  refine wm_if_eq (tgt := 21) hC dX11_colour_9 (by decide) hw (fun hw => ?_) (fun hw => ?_)
  · refine wm_iconst hC dX11_colour_21 (k := ?_)
    exact wm_ireturn hC hE dX11_colour_22 ⟨⟨rfl, rfl, rfl⟩, hw⟩
  · refine wm_iload_n hC 2 dX11_colour_12 rfl ?_
    refine wm_if_lt (tgt := 21) hC dX11_colour_13 (by decide) hw (fun hw => ?_) (fun hw => ?_)
    · refine wm_iconst hC dX11_colour_21 (k := ?_)
      exact wm_ireturn hC hE dX11_colour_22 ⟨⟨rfl, rfl, rfl⟩, hw⟩
    · refine wm_iload_n hC 2 dX11_colour_16 rfl ?_
      refine wm_iconst hC dX11_colour_17 (k := ?_)
      refine wm_icmp_le (tgt := 23) hC dX11_colour_18 (by decide) hw (fun hw => ?_) (fun hw => ?_)
      · refine wm_iload_n hC 2 dX11_colour_23 rfl ?_
        refine wm_iconst hC dX11_colour_24 (k := ?_)
        refine wm_icmp_ne (tgt := 46) hC dX11_colour_25 (by decide) hw (fun hw => ?_) (fun hw => ?_)
        · refine wm_aload_n hC 0 dX11_colour_28 rfl (k_ne0 kk_1 (by decide)) ?_
          refine x_getR3 hC 2 fl_X11_26 rfl kk_1 (rf_1_2 hRF) dX11_colour_29 ?_
          refine wm_aload_n hC 0 dX11_colour_32 rfl (k_ne0 kk_1 (by decide)) ?_
          refine x_getRD hC 12 fl_X11_57 rfl kk_1 dX11_colour_33 hw (fun g3 hw => ?_)
          refine x_getR3 hC 0 fl_X11_145 rfl (ld_k0 g3) (rfd_0 hRF g3) dX11_colour_36 ?_
          refine wm_iconst hC dX11_colour_39 (k := ?_)
          refine x_ialdK hC (ld_k1 g3) (ld_n1 g3) (by decide) (by decide) dX11_colour_40 ?_
          refine wm_iload_n hC 1 dX11_colour_41 rfl ?_
          refine y_callV_i_n hC hRm noS ml_X11_153 kk_7 (c7_wornBy hRF isSt_7 hw) (Nat.le_of_ble_eq_true rfl) (Nat.le_of_ble_eq_true rfl) ⟨Nat.zero_le _, Nat.zero_le _⟩ rfl (st := []) rfl (Nat.le_of_ble_eq_true rfl) dX11_colour_42 (fun r3 hw => ?_)
          exact wm_ireturn hC hE dX11_colour_45 ⟨⟨rfl, rfl, rfl⟩, hw⟩
        · refine wm_aload_n hC 0 dX11_colour_46 rfl (k_ne0 kk_1 (by decide)) ?_
          refine x_getRD hC 12 fl_X11_57 rfl kk_1 dX11_colour_47 hw (fun g2 hw => ?_)
          refine wm_iconst hC dX11_colour_50 (k := ?_)
          refine wm_iload_n hC 1 dX11_colour_51 rfl ?_
          refine wm_iload_n hC 2 dX11_colour_52 rfl ?_
          refine y_callV_i_n hC hRm noS ml_X11_175 (ld_k0 g2) (c3_traitOf hRF g2 hw) (Nat.le_of_ble_eq_true rfl) (Nat.le_of_ble_eq_true rfl) ⟨Nat.zero_le _, Nat.zero_le _⟩ rfl (st := []) rfl (Nat.le_of_ble_eq_true rfl) dX11_colour_53 (fun r2 hw => ?_)
          exact wm_ireturn hC hE dX11_colour_56 ⟨⟨rfl, rfl, rfl⟩, hw⟩
      · refine wm_iconst hC dX11_colour_21 (k := ?_)
        exact wm_ireturn hC hE dX11_colour_22 ⟨⟨rfl, rfl, rfl⟩, hw⟩
def p11_refuseIt (l1 : Int) (I : mI) (Q : Int → mI → Prop) : Prop := (p11_refuse l1 I (fun r1 I1 => (Q 0 I1)))
set_option maxRecDepth 20000 in
theorem c11_refuseIt {ad : Nat → Nat} {n : Nat} {I J : mI} {R : mR} {Q : Int → mI → Prop}  (hRF : RF R) {l1 : Int}   (hw : p11_refuseIt l1 I Q) : wMet yX11_refuseIt cX11_refuseIt 2 (some .boolean) 2 33 false ad n I J R [vr 1, vi l1] (fun r I' J' R' => (J' = J ∧ R' = R) ∧ Q r I') := by
  refine wMet_of (by decide) (Nat.le_of_ble_eq_true rfl) (fun C hC hRm hE hS => ?_)
  refine (show WM C ad n I J R 0 0 0 [(0, vr 1), (1, vi l1)] [] from ?_)
  unfold p11_refuseIt at hw
  refine wm_aload_n hC 0 dX11_refuseIt_0 rfl (k_ne0 kk_1 (by decide)) ?_
  refine wm_iload_n hC 1 dX11_refuseIt_1 rfl ?_
  refine y_callV_i_I hC hRm noS ml_X11_117 kk_1 (c11_refuse hRF  hw) (Nat.le_of_ble_eq_true rfl) (Nat.le_of_ble_eq_true rfl) ⟨Nat.zero_le _, Nat.zero_le _⟩ rfl (st := []) rfl (Nat.le_of_ble_eq_true rfl) dX11_refuseIt_2 (fun r1 I1 hw => ?_)
  refine wm_pop hC dX11_refuseIt_5 (k := ?_)
  refine wm_iconst hC dX11_refuseIt_6 (k := ?_)
  exact wm_zreturn hC hE (Or.inl rfl) dX11_refuseIt_7 ⟨⟨rfl, rfl⟩, hw⟩
def p11_end (l1 : Int) (I : mI) (Q : Int → mI → Prop) : Prop := (if l1 < 0 then (p11_refuseIt 0 I (fun r1 I1 => ((r1 = 0 ∨ r1 = 1) ∧ (Q r1 I1)))) else (if l1 ≤ (I 2 1) then (wLet (up I 2 1 l1) (fun I2 => (Q 1 I2))) else (p11_refuseIt 0 I (fun r2 I3 => ((r2 = 0 ∨ r2 = 1) ∧ (Q r2 I3))))))
set_option maxRecDepth 20000 in
theorem c11_end {ad : Nat → Nat} {n : Nat} {I J : mI} {R : mR} {Q : Int → mI → Prop}  (hRF : RF R) {l1 : Int}   (hw : p11_end l1 I Q) : wMet yX11_end cX11_end 2 (some .boolean) 3 54 false ad n I J R [vr 1, vi l1] (fun r I' J' R' => (J' = J ∧ R' = R) ∧ Q r I') := by
  refine wMet_of (by decide) (Nat.le_of_ble_eq_true rfl) (fun C hC hRm hE hS => ?_)
  refine (show WM C ad n I J R 0 0 0 [(0, vr 1), (1, vi l1)] [] from ?_)
  unfold p11_end at hw
  refine wm_iload_n hC 1 dX11_end_0 rfl ?_
  refine wm_if_lt (tgt := 15) hC dX11_end_1 (by decide) hw (fun hw => ?_) (fun hw => ?_)
  · refine wm_aload_n hC 0 dX11_end_15 rfl (k_ne0 kk_1 (by decide)) ?_
    refine wm_iconst hC dX11_end_16 (k := ?_)
    refine y_callV_z_I hC hRm noS ml_X11_125 kk_1 (c11_refuseIt hRF  hw) (Nat.le_of_ble_eq_true rfl) (Nat.le_of_ble_eq_true rfl) ⟨Nat.zero_le _, Nat.zero_le _⟩ rfl (st := []) rfl (Nat.le_of_ble_eq_true rfl) dX11_end_17 (fun r1 I1 hw => ?_)
    obtain ⟨z01, hw⟩ := hw
    exact wm_zreturn hC hE z01 dX11_end_20 ⟨⟨rfl, rfl⟩, hw⟩
  · refine wm_iload_n hC 1 dX11_end_4 rfl ?_
    refine wm_aload_n hC 0 dX11_end_5 rfl (k_ne0 kk_1 (by decide)) ?_
    refine x_getR3 hC 0 fl_X11_10 rfl kk_1 (rf_1_0 hRF) dX11_end_6 ?_
    refine x_getI hC 1 fl_X11_114 rfl kk_2 dX11_end_9 ?_
    refine wm_icmp_le (tgt := 21) hC dX11_end_12 (by decide) hw (fun hw => ?_) (fun hw => ?_)
    · refine wm_aload_n hC 0 dX11_end_21 rfl (k_ne0 kk_1 (by decide)) ?_
      refine x_getR3 hC 0 fl_X11_10 rfl kk_1 (rf_1_0 hRF) dX11_end_22 ?_
      refine wm_iload_n hC 1 dX11_end_25 rfl ?_
      refine x_putI hC 1 fl_X11_114 rfl kk_2 dX11_end_26 hw (fun I2 hw => ?_)
      refine wm_iconst hC dX11_end_29 (k := ?_)
      exact wm_zreturn hC hE (Or.inr rfl) dX11_end_30 ⟨⟨rfl, rfl⟩, hw⟩
    · refine wm_aload_n hC 0 dX11_end_15 rfl (k_ne0 kk_1 (by decide)) ?_
      refine wm_iconst hC dX11_end_16 (k := ?_)
      refine y_callV_z_I hC hRm noS ml_X11_125 kk_1 (c11_refuseIt hRF  hw) (Nat.le_of_ble_eq_true rfl) (Nat.le_of_ble_eq_true rfl) ⟨Nat.zero_le _, Nat.zero_le _⟩ rfl (st := []) rfl (Nat.le_of_ble_eq_true rfl) dX11_end_17 (fun r2 I3 hw => ?_)
      obtain ⟨z01, hw⟩ := hw
      exact wm_zreturn hC hE z01 dX11_end_20 ⟨⟨rfl, rfl⟩, hw⟩
def p11_fault (l1 : Int) (I : mI) (Q : Int → Prop) : Prop := (if l1 = 0 then (Q (I 1 14)) else (if l1 = 1 then (Q (I 1 15)) else (Q (-1))))
set_option maxRecDepth 20000 in
theorem c11_fault {ad : Nat → Nat} {n : Nat} {I J : mI} {R : mR} {Q : Int → Prop}  (hRF : RF R) {l1 : Int}   (hw : p11_fault l1 I Q) : wMet yX11_fault cX11_fault 2 (some .int) 1 12 false ad n I J R [vr 1, vi l1] (fun r I' J' R' => (I' = I ∧ J' = J ∧ R' = R) ∧ Q r) := by
  refine wMet_of (by decide) (Nat.le_of_ble_eq_true rfl) (fun C hC hRm hE hS => ?_)
  refine (show WM C ad n I J R 0 0 0 [(0, vr 1), (1, vi l1)] [] from ?_)
  unfold p11_fault at hw
  refine wm_iload_n hC 1 dX11_fault_0 rfl ?_
  refine wm_if_ne (tgt := 11) hC dX11_fault_1 (by decide) hw (fun hw => ?_) (fun hw => ?_)
  · refine wm_aload_n hC 0 dX11_fault_4 rfl (k_ne0 kk_1 (by decide)) ?_
    refine x_getI hC 14 fl_X11_64 rfl kk_1 dX11_fault_5 ?_
    refine wm_goto (tgt := 24) hC dX11_fault_8 (by decide) ?_
    exact wm_ireturn hC hE dX11_fault_24 ⟨⟨rfl, rfl, rfl⟩, hw⟩
  · refine wm_iload_n hC 1 dX11_fault_11 rfl ?_
    refine wm_iconst hC dX11_fault_12 (k := ?_)
    refine wm_icmp_ne (tgt := 23) hC dX11_fault_13 (by decide) hw (fun hw => ?_) (fun hw => ?_)
    · refine wm_aload_n hC 0 dX11_fault_16 rfl (k_ne0 kk_1 (by decide)) ?_
      refine x_getI hC 15 fl_X11_68 rfl kk_1 dX11_fault_17 ?_
      refine wm_goto (tgt := 24) hC dX11_fault_20 (by decide) ?_
      exact wm_ireturn hC hE dX11_fault_24 ⟨⟨rfl, rfl, rfl⟩, hw⟩
    · refine wm_iconst hC dX11_fault_23 (k := ?_)
      exact wm_ireturn hC hE dX11_fault_24 ⟨⟨rfl, rfl, rfl⟩, hw⟩
def p9_addNumber_b18_body (l1 : Int) (Q : mI → Prop) (k18 : Int → mI → Prop) (l2 : Int) (I : mI) : Prop := (if l2 < 0 then (Q I) else (((0 : Int) ≤ (I 2 1) ∧ (I 2 1) < (1600 : Int)) ∧ wLet (up I 3 (I 2 1) (nB (bShr l1 l2))) (fun I1 => (rg ((I1 2 1) + 1) ∧ (wLet (up I1 2 1 ((I1 2 1) + 1)) (fun I2 => (rg (l2 + (-8)) ∧ (k18 (l2 + (-8)) I2))))))))
def p9_addNumber_b18 (l1 : Int) (Q : mI → Prop) : Nat → Int → mI → Prop
  | 0 => fun _ _ => False
  | f + 1 => fun l2 I => p9_addNumber_b18_body l1 Q (p9_addNumber_b18 l1 Q f) l2 I
set_option maxRecDepth 20000 in
theorem w9_addNumber_b18_body {C : wX} {ad : Nat → Nat} {n : Nat} {I J : mI} {R : mR} {Q : mI → Prop} (hC : wOK C cX9_addNumber 3 RX9) (hRm : wRm C 1 12 0 0) (hE : wEnd C none ad n (fun _ I' J' R' => (J' = J ∧ R' = R) ∧ Q I')) (hRF : RF R) {l1 : Int} {l2 : Int}     {k18 : Int → mI → Prop} (kk18 : ∀ (y2 : Int) (I' : mI), k18 y2 I' → WM C ad n I' J R 0 0 18 [(0, vr 2), (1, vi l1), (2, vi y2)] []) (hw : p9_addNumber_b18_body l1 Q k18 l2 I) : WM C ad n I J R 0 0 18 [(0, vr 2), (1, vi l1), (2, vi l2)] [] := by
  unfold p9_addNumber_b18_body at hw
  refine wm_iload_n hC 2 dX9_addNumber_18 rfl ?_
  refine wm_if_lt (tgt := 51) hC dX9_addNumber_19 (by decide) hw (fun hw => ?_) (fun hw => ?_)
  · exact wm_return hC hE dX9_addNumber_51 ⟨⟨rfl, rfl⟩, hw⟩
  · refine wm_aload_n hC 0 dX9_addNumber_22 rfl (k_ne0 kk_2 (by decide)) ?_
    refine x_getR3 hC 0 fl_X9_9 rfl kk_2 (rf_2_0 hRF) dX9_addNumber_23 ?_
    refine wm_aload_n hC 0 dX9_addNumber_26 rfl (k_ne0 kk_2 (by decide)) ?_
    refine x_getI hC 1 fl_X9_15 rfl kk_2 dX9_addNumber_27 ?_
    refine wm_iload_n hC 1 dX9_addNumber_30 rfl ?_
    refine wm_iload_n hC 2 dX9_addNumber_31 rfl ?_
    refine wm_ishr hC dX9_addNumber_32 ?_
    refine wm_i2b hC dX9_addNumber_33 ?_
    refine x_bast2 hC kk_3 kn_3 (nB_lo _) (nB_hi _) dX9_addNumber_34 hw (fun I1 hw => ?_)
    refine wm_aload_n hC 0 dX9_addNumber_35 rfl (k_ne0 kk_2 (by decide)) ?_
    refine wm_dup hC dX9_addNumber_36 (k := ?_)
    refine x_getI hC 1 fl_X9_15 rfl kk_2 dX9_addNumber_37 ?_
    refine wm_iconst hC dX9_addNumber_40 (k := ?_)
    refine x_iadd hC dX9_addNumber_41 hw (fun hw => ?_)
    refine x_putI hC 1 fl_X9_15 rfl kk_2 dX9_addNumber_42 hw (fun I2 hw => ?_)
    refine x_iinc hC 2 dX9_addNumber_45 rfl (by decide) (L2 := [(2, vi (l2 + (-8))), (0, vr 2), (1, vi l1)]) rfl hw (fun hw => ?_)
    refine wm_goto (tgt := 18) hC dX9_addNumber_48 (by decide) ?_
    refine wm_sub [1, 2, 0] (L2 := [(0, vr 2), (1, vi l1), (2, vi (l2 + (-8)))]) rfl ?_
    exact kk18 _ _ hw
set_option maxRecDepth 20000 in
theorem w9_addNumber_b18 {C : wX} {ad : Nat → Nat} {n : Nat} {J : mI} {R : mR} {Q : mI → Prop} (hC : wOK C cX9_addNumber 3 RX9) (hRm : wRm C 1 12 0 0) (hE : wEnd C none ad n (fun _ I' J' R' => (J' = J ∧ R' = R) ∧ Q I')) (hRF : RF R) {l1 : Int}     : ∀ (f : Nat) (l2 : Int) (I : mI), p9_addNumber_b18 l1 Q f l2 I → WM C ad n I J R 0 0 18 [(0, vr 2), (1, vi l1), (2, vi l2)] [] := by
  intro f
  induction f with
  | zero => intro l2 I hw; exact hw.elim
  | succ f ih => intro l2 I hw; exact w9_addNumber_b18_body hC hRm hE hRF  (fun a0 a1 aw => ih a0 a1 aw) hw
def p9_addNumber (l1 : Int) (I : mI) (Q : mI → Prop) : Prop := (rg ((I 2 1) + 4) ∧ (if ((I 2 1) + 4) ≤ 1600 then (∃ f, p9_addNumber_b18 l1 Q f 24 I) else (Q I)))
set_option maxRecDepth 20000 in
theorem c9_addNumber {ad : Nat → Nat} {n : Nat} {I J : mI} {R : mR} {Q : mI → Prop}  (hRF : RF R) {l1 : Int}   (hw : p9_addNumber l1 I Q) : wMet yX9_addNumber cX9_addNumber 3 none 1 12 false ad n I J R [vr 2, vi l1] (fun _ I' J' R' => (J' = J ∧ R' = R) ∧ Q I') := by
  refine wMet_of (by decide) (Nat.le_of_ble_eq_true rfl) (fun C hC hRm hE hS => ?_)
  refine (show WM C ad n I J R 0 0 0 [(0, vr 2), (1, vi l1)] [] from ?_)
  unfold p9_addNumber at hw
  refine wm_aload_n hC 0 dX9_addNumber_0 rfl (k_ne0 kk_2 (by decide)) ?_
  refine x_getI hC 1 fl_X9_15 rfl kk_2 dX9_addNumber_1 ?_
  refine wm_iconst hC dX9_addNumber_4 (k := ?_)
  refine x_iadd hC dX9_addNumber_5 hw (fun hw => ?_)
  refine wm_aload_n hC 0 dX9_addNumber_6 rfl (k_ne0 kk_2 (by decide)) ?_
  refine x_getR3 hC 0 fl_X9_9 rfl kk_2 (rf_2_0 hRF) dX9_addNumber_7 ?_
  refine x_alen2 hC kk_3 kn_3 (by decide) dX9_addNumber_10 ?_
  refine wm_icmp_le (tgt := 15) hC dX9_addNumber_11 (by decide) hw (fun hw => ?_) (fun hw => ?_)
  · refine wm_bipush hC dX9_addNumber_15 (k := ?_)
    refine wm_istore_n hC dX9_addNumber_17 (by decide) (L2 := [(2, vi 24), (0, vr 2), (1, vi l1)]) rfl ?_
    obtain ⟨f, hw⟩ := hw
    refine wm_sub [1, 2, 0] (L2 := [(0, vr 2), (1, vi l1), (2, vi 24)]) rfl ?_
    exact w9_addNumber_b18 hC hRm hE hRF  f _ _ hw
  · exact wm_return hC hE dX9_addNumber_14 ⟨⟨rfl, rfl⟩, hw⟩
def p11_feed (l1 : Int) (l2 : Int) (l3 : Int) (l4 : Int) (l5 : Int) (I : mI) (Q : Int → mI → Prop) : Prop := (rg ((I 2 1) + 20) ∧ (if ((I 2 1) + 20) ≤ 1600 then (p9_addNumber l1 I (fun I1 => (p9_addNumber l2 I1 (fun I2 => (p9_addNumber l3 I2 (fun I3 => (p9_addNumber l4 I3 (fun I4 => (p9_addNumber l5 I4 (fun I5 => (Q (I5 2 1) I5))))))))))) else (p11_refuse 0 I (fun r1 I6 => (Q r1 I6)))))
set_option maxRecDepth 20000 in
theorem c11_feed {ad : Nat → Nat} {n : Nat} {I J : mI} {R : mR} {Q : Int → mI → Prop}  (hRF : RF R) {l1 : Int} {l2 : Int} {l3 : Int} {l4 : Int} {l5 : Int}       (hw : p11_feed l1 l2 l3 l4 l5 I Q) : wMet yX11_feed cX11_feed 6 (some .int) 2 34 false ad n I J R [vr 1, vi l1, vi l2, vi l3, vi l4, vi l5] (fun r I' J' R' => (J' = J ∧ R' = R) ∧ Q r I') := by
  refine wMet_of (by decide) (Nat.le_of_ble_eq_true rfl) (fun C hC hRm hE hS => ?_)
  refine (show WM C ad n I J R 0 0 0 [(0, vr 1), (1, vi l1), (2, vi l2), (3, vi l3), (4, vi l4), (5, vi l5)] [] from ?_)
  unfold p11_feed at hw
  refine wm_aload_n hC 0 dX11_feed_0 rfl (k_ne0 kk_1 (by decide)) ?_
  refine x_getR3 hC 0 fl_X11_10 rfl kk_1 (rf_1_0 hRF) dX11_feed_1 ?_
  refine x_getI hC 1 fl_X11_114 rfl kk_2 dX11_feed_4 ?_
  refine wm_bipush hC dX11_feed_7 (k := ?_)
  refine x_iadd hC dX11_feed_9 hw (fun hw => ?_)
  refine wm_sipush hC dX11_feed_10 (k := ?_)
  refine wm_icmp_le (tgt := 22) hC dX11_feed_13 (by decide) hw (fun hw => ?_) (fun hw => ?_)
  · refine wm_aload_n hC 0 dX11_feed_22 rfl (k_ne0 kk_1 (by decide)) ?_
    refine x_getR3 hC 0 fl_X11_10 rfl kk_1 (rf_1_0 hRF) dX11_feed_23 ?_
    refine wm_iload_n hC 1 dX11_feed_26 rfl ?_
    refine y_callV_v_I hC hRm noS ml_X11_121 kk_2 (c9_addNumber hRF  hw) (Nat.le_of_ble_eq_true rfl) (Nat.le_of_ble_eq_true rfl) ⟨Nat.zero_le _, Nat.zero_le _⟩ rfl (st := []) rfl (Nat.le_of_ble_eq_true rfl) dX11_feed_27 (fun I1 hw => ?_)
    refine wm_aload_n hC 0 dX11_feed_30 rfl (k_ne0 kk_1 (by decide)) ?_
    refine x_getR3 hC 0 fl_X11_10 rfl kk_1 (rf_1_0 hRF) dX11_feed_31 ?_
    refine wm_iload_n hC 2 dX11_feed_34 rfl ?_
    refine y_callV_v_I hC hRm noS ml_X11_121 kk_2 (c9_addNumber hRF  hw) (Nat.le_of_ble_eq_true rfl) (Nat.le_of_ble_eq_true rfl) ⟨Nat.zero_le _, Nat.zero_le _⟩ rfl (st := []) rfl (Nat.le_of_ble_eq_true rfl) dX11_feed_35 (fun I2 hw => ?_)
    refine wm_aload_n hC 0 dX11_feed_38 rfl (k_ne0 kk_1 (by decide)) ?_
    refine x_getR3 hC 0 fl_X11_10 rfl kk_1 (rf_1_0 hRF) dX11_feed_39 ?_
    refine wm_iload_n hC 3 dX11_feed_42 rfl ?_
    refine y_callV_v_I hC hRm noS ml_X11_121 kk_2 (c9_addNumber hRF  hw) (Nat.le_of_ble_eq_true rfl) (Nat.le_of_ble_eq_true rfl) ⟨Nat.zero_le _, Nat.zero_le _⟩ rfl (st := []) rfl (Nat.le_of_ble_eq_true rfl) dX11_feed_43 (fun I3 hw => ?_)
    refine wm_aload_n hC 0 dX11_feed_46 rfl (k_ne0 kk_1 (by decide)) ?_
    refine x_getR3 hC 0 fl_X11_10 rfl kk_1 (rf_1_0 hRF) dX11_feed_47 ?_
    refine wm_iload hC 4 dX11_feed_50 rfl ?_
    refine y_callV_v_I hC hRm noS ml_X11_121 kk_2 (c9_addNumber hRF  hw) (Nat.le_of_ble_eq_true rfl) (Nat.le_of_ble_eq_true rfl) ⟨Nat.zero_le _, Nat.zero_le _⟩ rfl (st := []) rfl (Nat.le_of_ble_eq_true rfl) dX11_feed_52 (fun I4 hw => ?_)
    refine wm_aload_n hC 0 dX11_feed_55 rfl (k_ne0 kk_1 (by decide)) ?_
    refine x_getR3 hC 0 fl_X11_10 rfl kk_1 (rf_1_0 hRF) dX11_feed_56 ?_
    refine wm_iload hC 5 dX11_feed_59 rfl ?_
    refine y_callV_v_I hC hRm noS ml_X11_121 kk_2 (c9_addNumber hRF  hw) (Nat.le_of_ble_eq_true rfl) (Nat.le_of_ble_eq_true rfl) ⟨Nat.zero_le _, Nat.zero_le _⟩ rfl (st := []) rfl (Nat.le_of_ble_eq_true rfl) dX11_feed_61 (fun I5 hw => ?_)
    refine wm_aload_n hC 0 dX11_feed_64 rfl (k_ne0 kk_1 (by decide)) ?_
    refine x_getR3 hC 0 fl_X11_10 rfl kk_1 (rf_1_0 hRF) dX11_feed_65 ?_
    refine x_getI hC 1 fl_X11_114 rfl kk_2 dX11_feed_68 ?_
    exact wm_ireturn hC hE dX11_feed_71 ⟨⟨rfl, rfl⟩, hw⟩
  · refine wm_aload_n hC 0 dX11_feed_16 rfl (k_ne0 kk_1 (by decide)) ?_
    refine wm_iconst hC dX11_feed_17 (k := ?_)
    refine y_callV_i_I hC hRm noS ml_X11_117 kk_1 (c11_refuse hRF  hw) (Nat.le_of_ble_eq_true rfl) (Nat.le_of_ble_eq_true rfl) ⟨Nat.zero_le _, Nat.zero_le _⟩ rfl (st := []) rfl (Nat.le_of_ble_eq_true rfl) dX11_feed_18 (fun r1 I6 hw => ?_)
    exact wm_ireturn hC hE dX11_feed_21 ⟨⟨rfl, rfl⟩, hw⟩
def p11_fill (l1 : Int) (I : mI) (Q : Int → mI → Prop) : Prop := (if l1 < 0 then (p11_refuseIt 3 I (fun r1 I1 => ((r1 = 0 ∨ r1 = 1) ∧ (Q r1 I1)))) else (if (9999 : Int) < l1 then (p11_refuseIt 3 I (fun r2 I2 => ((r2 = 0 ∨ r2 = 1) ∧ (Q r2 I2)))) else (if l1 = (I 7 1) then (p11_refuseIt 3 I (fun r3 I5 => ((r3 = 0 ∨ r3 = 1) ∧ (Q r3 I5)))) else (p4_add 7 I (fun I3 => (wLet (up I3 7 1 l1) (fun I4 => (Q 1 I4))))))))
set_option maxRecDepth 20000 in
theorem c11_fill {ad : Nat → Nat} {n : Nat} {I J : mI} {R : mR} {Q : Int → mI → Prop}  (hRF : RF R) {l1 : Int}   (hw : p11_fill l1 I Q) : wMet yX11_fill cX11_fill 2 (some .boolean) 3 102 false ad n I J R [vr 1, vi l1] (fun r I' J' R' => (J' = J ∧ R' = R) ∧ Q r I') := by
  refine wMet_of (by decide) (Nat.le_of_ble_eq_true rfl) (fun C hC hRm hE hS => ?_)
  refine (show WM C ad n I J R 0 0 0 [(0, vr 1), (1, vi l1)] [] from ?_)
  unfold p11_fill at hw
  refine wm_iload_n hC 1 dX11_fill_0 rfl ?_
  refine wm_if_lt (tgt := 22) hC dX11_fill_1 (by decide) hw (fun hw => ?_) (fun hw => ?_)
  · refine wm_aload_n hC 0 dX11_fill_22 rfl (k_ne0 kk_1 (by decide)) ?_
    refine wm_iconst hC dX11_fill_23 (k := ?_)
    refine y_callV_z_I hC hRm noS ml_X11_125 kk_1 (c11_refuseIt hRF  hw) (Nat.le_of_ble_eq_true rfl) (Nat.le_of_ble_eq_true rfl) ⟨Nat.zero_le _, Nat.zero_le _⟩ rfl (st := []) rfl (Nat.le_of_ble_eq_true rfl) dX11_fill_24 (fun r1 I1 hw => ?_)
    obtain ⟨z01, hw⟩ := hw
    exact wm_zreturn hC hE z01 dX11_fill_27 ⟨⟨rfl, rfl⟩, hw⟩
  · refine wm_iload_n hC 1 dX11_fill_4 rfl ?_
    refine wm_sipush hC dX11_fill_5 (k := ?_)
    refine wm_icmp_gt (tgt := 22) hC dX11_fill_8 (by decide) hw (fun hw => ?_) (fun hw => ?_)
    · refine wm_aload_n hC 0 dX11_fill_22 rfl (k_ne0 kk_1 (by decide)) ?_
      refine wm_iconst hC dX11_fill_23 (k := ?_)
      refine y_callV_z_I hC hRm noS ml_X11_125 kk_1 (c11_refuseIt hRF  hw) (Nat.le_of_ble_eq_true rfl) (Nat.le_of_ble_eq_true rfl) ⟨Nat.zero_le _, Nat.zero_le _⟩ rfl (st := []) rfl (Nat.le_of_ble_eq_true rfl) dX11_fill_24 (fun r2 I2 hw => ?_)
      obtain ⟨z01, hw⟩ := hw
      exact wm_zreturn hC hE z01 dX11_fill_27 ⟨⟨rfl, rfl⟩, hw⟩
    · refine wm_iload_n hC 1 dX11_fill_11 rfl ?_
      refine wm_aload_n hC 0 dX11_fill_12 rfl (k_ne0 kk_1 (by decide)) ?_
      refine x_getR3 hC 2 fl_X11_26 rfl kk_1 (rf_1_2 hRF) dX11_fill_13 ?_
      refine x_getI hC 1 fl_X11_150 rfl kk_7 dX11_fill_16 ?_
      refine wm_icmp_ne (tgt := 28) hC dX11_fill_19 (by decide) hw (fun hw => ?_) (fun hw => ?_)
      · refine wm_aload_n hC 0 dX11_fill_22 rfl (k_ne0 kk_1 (by decide)) ?_
        refine wm_iconst hC dX11_fill_23 (k := ?_)
        refine y_callV_z_I hC hRm noS ml_X11_125 kk_1 (c11_refuseIt hRF  hw) (Nat.le_of_ble_eq_true rfl) (Nat.le_of_ble_eq_true rfl) ⟨Nat.zero_le _, Nat.zero_le _⟩ rfl (st := []) rfl (Nat.le_of_ble_eq_true rfl) dX11_fill_24 (fun r3 I5 hw => ?_)
        obtain ⟨z01, hw⟩ := hw
        exact wm_zreturn hC hE z01 dX11_fill_27 ⟨⟨rfl, rfl⟩, hw⟩
      · refine wm_aload_n hC 0 dX11_fill_28 rfl (k_ne0 kk_1 (by decide)) ?_
        refine x_getR3 hC 4 fl_X11_36 rfl kk_1 (rf_1_4 hRF) dX11_fill_29 ?_
        refine wm_aload_n hC 0 dX11_fill_32 rfl (k_ne0 kk_1 (by decide)) ?_
        refine x_getR3 hC 2 fl_X11_26 rfl kk_1 (rf_1_2 hRF) dX11_fill_33 ?_
        refine y_callV_v_I hC hRm noS ml_X11_274 kk_17 (c4_add hRF isSt_7 hw) (Nat.le_of_ble_eq_true rfl) (Nat.le_of_ble_eq_true rfl) ⟨Nat.zero_le _, Nat.zero_le _⟩ rfl (st := []) rfl (Nat.le_of_ble_eq_true rfl) dX11_fill_36 (fun I3 hw => ?_)
        refine wm_aload_n hC 0 dX11_fill_39 rfl (k_ne0 kk_1 (by decide)) ?_
        refine x_getR3 hC 2 fl_X11_26 rfl kk_1 (rf_1_2 hRF) dX11_fill_40 ?_
        refine wm_iload_n hC 1 dX11_fill_43 rfl ?_
        refine x_putI hC 1 fl_X11_150 rfl kk_7 dX11_fill_44 hw (fun I4 hw => ?_)
        refine wm_iconst hC dX11_fill_47 (k := ?_)
        exact wm_zreturn hC hE (Or.inr rfl) dX11_fill_48 ⟨⟨rfl, rfl⟩, hw⟩
def p3_clashes_b4_body (l0 : Nat) (l1 : Nat) (I : mI) (Q : Int → Prop) (k4 : Int → Int → Prop) (l2 : Int) (l3 : Int) : Prop := (if (I (l0 + 1) 2) ≤ l3 then (Q l2) else (p3_clashesBelow l0 l1 l3 I (fun r1 => (rg (l2 + r1) ∧ (rg (l3 + 1) ∧ (k4 (l2 + r1) (l3 + 1)))))))
def p3_clashes_b4 (l0 : Nat) (l1 : Nat) (I : mI) (Q : Int → Prop) : Nat → Int → Int → Prop
  | 0 => fun _ _ => False
  | f + 1 => fun l2 l3 => p3_clashes_b4_body l0 l1 I Q (p3_clashes_b4 l0 l1 I Q f) l2 l3
set_option maxRecDepth 20000 in
theorem w3_clashes_b4_body {C : wX} {ad : Nat → Nat} {n : Nat} {I J : mI} {R : mR} {Q : Int → Prop} (hC : wOK C cX3_clashes 4 RX3) (hRm : wRm C 2 36 0 0) (hE : wEnd C (some .int) ad n (fun r I' J' R' => (I' = I ∧ J' = J ∧ R' = R) ∧ Q r)) (hRF : RF R) {l0 : Nat} {l1 : Nat} {l2 : Int} {l3 : Int}   (h0 : isLd l0) (h1 : isA 6 l1)  {k4 : Int → Int → Prop} (kk4 : ∀ (y2 : Int) (y3 : Int), k4 y2 y3 → WM C ad n I J R 0 0 4 [(0, vr l0), (1, vr l1), (2, vi y2), (3, vi y3)] []) (hw : p3_clashes_b4_body l0 l1 I Q k4 l2 l3) : WM C ad n I J R 0 0 4 [(0, vr l0), (1, vr l1), (2, vi l2), (3, vi l3)] [] := by
  unfold p3_clashes_b4_body at hw
  refine wm_iload_n hC 3 dX3_clashes_4 rfl ?_
  refine wm_aload_n hC 0 dX3_clashes_5 rfl (k_ne0 (ld_k0 h0) (by decide)) ?_
  refine x_getR3 hC 0 fl_X3_9 rfl (ld_k0 h0) (rfd_0 hRF h0) dX3_clashes_6 ?_
  refine wm_iconst hC dX3_clashes_9 (k := ?_)
  refine x_ialdK hC (ld_k1 h0) (ld_n1 h0) (by decide) (by decide) dX3_clashes_10 ?_
  refine wm_icmp_ge (tgt := 29) hC dX3_clashes_11 (by decide) hw (fun hw => ?_) (fun hw => ?_)
  · refine wm_iload_n hC 2 dX3_clashes_29 rfl ?_
    exact wm_ireturn hC hE dX3_clashes_30 ⟨⟨rfl, rfl, rfl⟩, hw⟩
  · refine wm_iload_n hC 2 dX3_clashes_14 rfl ?_
    refine wm_aload_n hC 0 dX3_clashes_15 rfl (k_ne0 (ld_k0 h0) (by decide)) ?_
    refine wm_aload_n hC 1 dX3_clashes_16 rfl (k_ne0 h1.1 (by decide)) ?_
    refine wm_iload_n hC 3 dX3_clashes_17 rfl ?_
    refine y_callV_i_n hC hRm noS ml_X3_66 (ld_k0 h0) (c3_clashesBelow hRF h0 h1 hw) (Nat.le_of_ble_eq_true rfl) (Nat.le_of_ble_eq_true rfl) ⟨Nat.zero_le _, Nat.zero_le _⟩ rfl (st := [vi l2]) rfl (Nat.le_of_ble_eq_true rfl) dX3_clashes_18 (fun r1 hw => ?_)
    refine x_iadd hC dX3_clashes_21 hw (fun hw => ?_)
    refine wm_istore_n hC dX3_clashes_22 (by decide) (L2 := [(2, vi (l2 + r1)), (0, vr l0), (1, vr l1), (3, vi l3)]) rfl ?_
    refine x_iinc hC 3 dX3_clashes_23 rfl (by decide) (L2 := [(3, vi (l3 + 1)), (2, vi (l2 + r1)), (0, vr l0), (1, vr l1)]) rfl hw (fun hw => ?_)
    refine wm_goto (tgt := 4) hC dX3_clashes_26 (by decide) ?_
    refine wm_sub [2, 3, 1, 0] (L2 := [(0, vr l0), (1, vr l1), (2, vi (l2 + r1)), (3, vi (l3 + 1))]) rfl ?_
    exact kk4 _ _ hw
set_option maxRecDepth 20000 in
theorem w3_clashes_b4 {C : wX} {ad : Nat → Nat} {n : Nat} {I : mI} {J : mI} {R : mR} {Q : Int → Prop} (hC : wOK C cX3_clashes 4 RX3) (hRm : wRm C 2 36 0 0) (hE : wEnd C (some .int) ad n (fun r I' J' R' => (I' = I ∧ J' = J ∧ R' = R) ∧ Q r)) (hRF : RF R) {l0 : Nat} {l1 : Nat}   (h0 : isLd l0) (h1 : isA 6 l1)  : ∀ (f : Nat) (l2 : Int) (l3 : Int), p3_clashes_b4 l0 l1 I Q f l2 l3 → WM C ad n I J R 0 0 4 [(0, vr l0), (1, vr l1), (2, vi l2), (3, vi l3)] [] := by
  intro f
  induction f with
  | zero => intro l2 l3 hw; exact hw.elim
  | succ f ih => intro l2 l3 hw; exact w3_clashes_b4_body hC hRm hE hRF h0 h1 (fun a0 a1 aw => ih a0 a1 aw) hw
def p3_clashes (l0 : Nat) (l1 : Nat) (I : mI) (Q : Int → Prop) : Prop := (∃ f, p3_clashes_b4 l0 l1 I Q f 0 0)
set_option maxRecDepth 20000 in
theorem c3_clashes {ad : Nat → Nat} {n : Nat} {I J : mI} {R : mR} {Q : Int → Prop}  (hRF : RF R) {l0 : Nat} {l1 : Nat} (h0 : isLd l0) (h1 : isA 6 l1) (hw : p3_clashes l0 l1 I Q) : wMet yX3_clashes cX3_clashes 4 (some .int) 2 36 false ad n I J R [vr l0, vr l1] (fun r I' J' R' => (I' = I ∧ J' = J ∧ R' = R) ∧ Q r) := by
  refine wMet_of (by decide) (Nat.le_of_ble_eq_true rfl) (fun C hC hRm hE hS => ?_)
  refine (show WM C ad n I J R 0 0 0 [(0, vr l0), (1, vr l1)] [] from ?_)
  unfold p3_clashes at hw
  refine wm_iconst hC dX3_clashes_0 (k := ?_)
  refine wm_istore_n hC dX3_clashes_1 (by decide) (L2 := [(2, vi 0), (0, vr l0), (1, vr l1)]) rfl ?_
  refine wm_iconst hC dX3_clashes_2 (k := ?_)
  refine wm_istore_n hC dX3_clashes_3 (by decide) (L2 := [(3, vi 0), (2, vi 0), (0, vr l0), (1, vr l1)]) rfl ?_
  obtain ⟨f, hw⟩ := hw
  refine wm_sub [2, 3, 1, 0] (L2 := [(0, vr l0), (1, vr l1), (2, vi 0), (3, vi 0)]) rfl ?_
  exact w3_clashes_b4 hC hRm hE hRF h0 h1 f _ _ hw
def p11_has (l1 : Int) (I : mI) (R : mR) (Q : Int → Prop) : Prop := (if l1 = 0 then (isLd (R 1 12) ∧ (((0 : Int) ≤ l1 ∧ l1 < (3 : Int)) ∧ (Q (I ((R 1 12) + 1) l1)))) else (if l1 = 1 then (isLd (R 1 12) ∧ (((0 : Int) ≤ l1 ∧ l1 < (3 : Int)) ∧ (Q (I ((R 1 12) + 1) l1)))) else (if l1 = 2 then (isLd (R 1 12) ∧ (((0 : Int) ≤ l1 ∧ l1 < (3 : Int)) ∧ (Q (I ((R 1 12) + 1) l1)))) else (if l1 = 3 then (Q (I 7 0)) else (if l1 = 4 then (Q (I 7 1)) else (if l1 = 5 then (isLd (R 1 12) ∧ (p7_wornBy 7 (I ((R 1 12) + 1) 2) (-1) I (fun r1 => (Q r1)))) else (if l1 = 6 then (isLd (R 1 12) ∧ (p3_clashes (R 1 12) 10 I (fun r2 => (Q r2)))) else (if l1 = 7 then (Q (I 7 2)) else (if l1 = 8 then (Q (I 151 5)) else (if l1 = 9 then (Q (I 17 2)) else (if l1 = 10 then (Q (I 1 16)) else (Q (-1)))))))))))))
set_option maxRecDepth 20000 in
theorem c11_has {ad : Nat → Nat} {n : Nat} {I J : mI} {R : mR} {Q : Int → Prop}  (hRF : RF R) {l1 : Int}   (hw : p11_has l1 I R Q) : wMet yX11_has cX11_has 2 (some .int) 3 59 false ad n I J R [vr 1, vi l1] (fun r I' J' R' => (I' = I ∧ J' = J ∧ R' = R) ∧ Q r) := by
  refine wMet_of (by decide) (Nat.le_of_ble_eq_true rfl) (fun C hC hRm hE hS => ?_)
  refine (show WM C ad n I J R 0 0 0 [(0, vr 1), (1, vi l1)] [] from ?_)
  unfold p11_has at hw
  refine wm_iload_n hC 1 dX11_has_0 rfl ?_
  by_cases hc1 : l1 = 0
  · rw [if_pos hc1] at hw
    refine wm_tableIn (v := 0) (tgt := 60) hC dX11_has_1 hc1 (by decide) (by decide) rfl rfl ?_
    refine wm_aload_n hC 0 dX11_has_60 rfl (k_ne0 kk_1 (by decide)) ?_
    refine x_getRD hC 12 fl_X11_57 rfl kk_1 dX11_has_61 hw (fun g1 hw => ?_)
    refine x_getR3 hC 0 fl_X11_145 rfl (ld_k0 g1) (rfd_0 hRF g1) dX11_has_64 ?_
    refine wm_iload_n hC 1 dX11_has_67 rfl ?_
    refine x_iald2 hC (ld_k1 g1) (ld_n1 g1) dX11_has_68 hw (fun hw => ?_)
    exact wm_ireturn hC hE dX11_has_69 ⟨⟨rfl, rfl, rfl⟩, hw⟩
  rw [if_neg hc1] at hw
  by_cases hc2 : l1 = 1
  · rw [if_pos hc2] at hw
    refine wm_tableIn (v := 1) (tgt := 60) hC dX11_has_1 hc2 (by decide) (by decide) rfl rfl ?_
    refine wm_aload_n hC 0 dX11_has_60 rfl (k_ne0 kk_1 (by decide)) ?_
    refine x_getRD hC 12 fl_X11_57 rfl kk_1 dX11_has_61 hw (fun g2 hw => ?_)
    refine x_getR3 hC 0 fl_X11_145 rfl (ld_k0 g2) (rfd_0 hRF g2) dX11_has_64 ?_
    refine wm_iload_n hC 1 dX11_has_67 rfl ?_
    refine x_iald2 hC (ld_k1 g2) (ld_n1 g2) dX11_has_68 hw (fun hw => ?_)
    exact wm_ireturn hC hE dX11_has_69 ⟨⟨rfl, rfl, rfl⟩, hw⟩
  rw [if_neg hc2] at hw
  by_cases hc3 : l1 = 2
  · rw [if_pos hc3] at hw
    refine wm_tableIn (v := 2) (tgt := 60) hC dX11_has_1 hc3 (by decide) (by decide) rfl rfl ?_
    refine wm_aload_n hC 0 dX11_has_60 rfl (k_ne0 kk_1 (by decide)) ?_
    refine x_getRD hC 12 fl_X11_57 rfl kk_1 dX11_has_61 hw (fun g3 hw => ?_)
    refine x_getR3 hC 0 fl_X11_145 rfl (ld_k0 g3) (rfd_0 hRF g3) dX11_has_64 ?_
    refine wm_iload_n hC 1 dX11_has_67 rfl ?_
    refine x_iald2 hC (ld_k1 g3) (ld_n1 g3) dX11_has_68 hw (fun hw => ?_)
    exact wm_ireturn hC hE dX11_has_69 ⟨⟨rfl, rfl, rfl⟩, hw⟩
  rw [if_neg hc3] at hw
  by_cases hc4 : l1 = 3
  · rw [if_pos hc4] at hw
    refine wm_tableIn (v := 3) (tgt := 70) hC dX11_has_1 hc4 (by decide) (by decide) rfl rfl ?_
    refine wm_aload_n hC 0 dX11_has_70 rfl (k_ne0 kk_1 (by decide)) ?_
    refine x_getR3 hC 2 fl_X11_26 rfl kk_1 (rf_1_2 hRF) dX11_has_71 ?_
    refine x_getI hC 0 fl_X11_147 rfl kk_7 dX11_has_74 ?_
    exact wm_ireturn hC hE dX11_has_77 ⟨⟨rfl, rfl, rfl⟩, hw⟩
  rw [if_neg hc4] at hw
  by_cases hc5 : l1 = 4
  · rw [if_pos hc5] at hw
    refine wm_tableIn (v := 4) (tgt := 78) hC dX11_has_1 hc5 (by decide) (by decide) rfl rfl ?_
    refine wm_aload_n hC 0 dX11_has_78 rfl (k_ne0 kk_1 (by decide)) ?_
    refine x_getR3 hC 2 fl_X11_26 rfl kk_1 (rf_1_2 hRF) dX11_has_79 ?_
    refine x_getI hC 1 fl_X11_150 rfl kk_7 dX11_has_82 ?_
    exact wm_ireturn hC hE dX11_has_85 ⟨⟨rfl, rfl, rfl⟩, hw⟩
  rw [if_neg hc5] at hw
  by_cases hc6 : l1 = 5
  · rw [if_pos hc6] at hw
    refine wm_tableIn (v := 5) (tgt := 86) hC dX11_has_1 hc6 (by decide) (by decide) rfl rfl ?_
    refine wm_aload_n hC 0 dX11_has_86 rfl (k_ne0 kk_1 (by decide)) ?_
    refine x_getR3 hC 2 fl_X11_26 rfl kk_1 (rf_1_2 hRF) dX11_has_87 ?_
    refine wm_aload_n hC 0 dX11_has_90 rfl (k_ne0 kk_1 (by decide)) ?_
    refine x_getRD hC 12 fl_X11_57 rfl kk_1 dX11_has_91 hw (fun g4 hw => ?_)
    refine x_getR3 hC 0 fl_X11_145 rfl (ld_k0 g4) (rfd_0 hRF g4) dX11_has_94 ?_
    refine wm_iconst hC dX11_has_97 (k := ?_)
    refine x_ialdK hC (ld_k1 g4) (ld_n1 g4) (by decide) (by decide) dX11_has_98 ?_
    refine wm_iconst hC dX11_has_99 (k := ?_)
    refine y_callV_i_n hC hRm noS ml_X11_153 kk_7 (c7_wornBy hRF isSt_7 hw) (Nat.le_of_ble_eq_true rfl) (Nat.le_of_ble_eq_true rfl) ⟨Nat.zero_le _, Nat.zero_le _⟩ rfl (st := []) rfl (Nat.le_of_ble_eq_true rfl) dX11_has_100 (fun r1 hw => ?_)
    exact wm_ireturn hC hE dX11_has_103 ⟨⟨rfl, rfl, rfl⟩, hw⟩
  rw [if_neg hc6] at hw
  by_cases hc7 : l1 = 6
  · rw [if_pos hc7] at hw
    refine wm_tableIn (v := 6) (tgt := 104) hC dX11_has_1 hc7 (by decide) (by decide) rfl rfl ?_
    refine wm_aload_n hC 0 dX11_has_104 rfl (k_ne0 kk_1 (by decide)) ?_
    refine x_getRD hC 12 fl_X11_57 rfl kk_1 dX11_has_105 hw (fun g5 hw => ?_)
    refine wm_aload_n hC 0 dX11_has_108 rfl (k_ne0 kk_1 (by decide)) ?_
    refine x_getR3 hC 2 fl_X11_26 rfl kk_1 (rf_1_2 hRF) dX11_has_109 ?_
    refine x_getR3 hC 5 fl_X11_157 rfl kk_7 (rfs_5 hRF isSt_7) dX11_has_112 ?_
    refine y_callV_i_n hC hRm noS ml_X11_160 (ld_k0 g5) (c3_clashes hRF g5 ⟨kk_10, kn_10⟩ hw) (Nat.le_of_ble_eq_true rfl) (Nat.le_of_ble_eq_true rfl) ⟨Nat.zero_le _, Nat.zero_le _⟩ rfl (st := []) rfl (Nat.le_of_ble_eq_true rfl) dX11_has_115 (fun r2 hw => ?_)
    exact wm_ireturn hC hE dX11_has_118 ⟨⟨rfl, rfl, rfl⟩, hw⟩
  rw [if_neg hc7] at hw
  by_cases hc8 : l1 = 7
  · rw [if_pos hc8] at hw
    refine wm_tableIn (v := 7) (tgt := 119) hC dX11_has_1 hc8 (by decide) (by decide) rfl rfl ?_
    refine wm_aload_n hC 0 dX11_has_119 rfl (k_ne0 kk_1 (by decide)) ?_
    refine x_getR3 hC 2 fl_X11_26 rfl kk_1 (rf_1_2 hRF) dX11_has_120 ?_
    refine x_getI hC 2 fl_X11_164 rfl kk_7 dX11_has_123 ?_
    exact wm_ireturn hC hE dX11_has_126 ⟨⟨rfl, rfl, rfl⟩, hw⟩
  rw [if_neg hc8] at hw
  by_cases hc9 : l1 = 8
  · rw [if_pos hc9] at hw
    refine wm_tableIn (v := 8) (tgt := 127) hC dX11_has_1 hc9 (by decide) (by decide) rfl rfl ?_
    refine wm_aload_n hC 0 dX11_has_127 rfl (k_ne0 kk_1 (by decide)) ?_
    refine x_getR3 hC 11 fl_X11_106 rfl kk_1 (rf_1_11 hRF) dX11_has_128 ?_
    refine x_getI hC 5 fl_X11_142 rfl kk_151 dX11_has_131 ?_
    exact wm_ireturn hC hE dX11_has_134 ⟨⟨rfl, rfl, rfl⟩, hw⟩
  rw [if_neg hc9] at hw
  by_cases hc10 : l1 = 9
  · rw [if_pos hc10] at hw
    refine wm_tableIn (v := 9) (tgt := 135) hC dX11_has_1 hc10 (by decide) (by decide) rfl rfl ?_
    refine wm_aload_n hC 0 dX11_has_135 rfl (k_ne0 kk_1 (by decide)) ?_
    refine x_getR3 hC 4 fl_X11_36 rfl kk_1 (rf_1_4 hRF) dX11_has_136 ?_
    refine x_getI hC 2 fl_X11_139 rfl kk_17 dX11_has_139 ?_
    exact wm_ireturn hC hE dX11_has_142 ⟨⟨rfl, rfl, rfl⟩, hw⟩
  rw [if_neg hc10] at hw
  by_cases hc11 : l1 = 10
  · rw [if_pos hc11] at hw
    refine wm_tableIn (v := 10) (tgt := 143) hC dX11_has_1 hc11 (by decide) (by decide) rfl rfl ?_
    refine wm_aload_n hC 0 dX11_has_143 rfl (k_ne0 kk_1 (by decide)) ?_
    refine x_getI hC 16 fl_X11_71 rfl kk_1 dX11_has_144 ?_
    exact wm_ireturn hC hE dX11_has_147 ⟨⟨rfl, rfl, rfl⟩, hw⟩
  rw [if_neg hc11] at hw
  refine wm_tableOut (tgt := 148) hC dX11_has_1 (by omega) rfl ?_
  refine wm_iconst hC dX11_has_148 (k := ?_)
  exact wm_ireturn hC hE dX11_has_149 ⟨⟨rfl, rfl, rfl⟩, hw⟩
def p5_add (l1 : Int) (I : mI) (Q : mI → Prop) : Prop := (if (23 : Int) ≤ (I 119 1) then (Q I) else (((0 : Int) ≤ (I 119 1) ∧ (I 119 1) < (23 : Int)) ∧ wLet (up I 120 (I 119 1) l1) (fun I1 => (rg ((I1 119 1) + 1) ∧ (wLet (up I1 119 1 ((I1 119 1) + 1)) (fun I2 => (Q I2)))))))
set_option maxRecDepth 20000 in
theorem c5_add {ad : Nat → Nat} {n : Nat} {I J : mI} {R : mR} {Q : mI → Prop}  (hRF : RF R) {l1 : Int}   (hw : p5_add l1 I Q) : wMet yX5_add cX5_add 2 none 1 12 false ad n I J R [vr 119, vi l1] (fun _ I' J' R' => (J' = J ∧ R' = R) ∧ Q I') := by
  refine wMet_of (by decide) (Nat.le_of_ble_eq_true rfl) (fun C hC hRm hE hS => ?_)
  refine (show WM C ad n I J R 0 0 0 [(0, vr 119), (1, vi l1)] [] from ?_)
  unfold p5_add at hw
  refine wm_aload_n hC 0 dX5_add_0 rfl (k_ne0 kk_119 (by decide)) ?_
  refine x_getI hC 1 fl_X5_15 rfl kk_119 dX5_add_1 ?_
  refine wm_aload_n hC 0 dX5_add_4 rfl (k_ne0 kk_119 (by decide)) ?_
  refine x_getR3 hC 0 fl_X5_9 rfl kk_119 (rf_119_0 hRF) dX5_add_5 ?_
  refine x_alen2 hC kk_120 kn_120 (by decide) dX5_add_8 ?_
  refine wm_icmp_ge (tgt := 32) hC dX5_add_9 (by decide) hw (fun hw => ?_) (fun hw => ?_)
  · exact wm_return hC hE dX5_add_32 ⟨⟨rfl, rfl⟩, hw⟩
  · refine wm_aload_n hC 0 dX5_add_12 rfl (k_ne0 kk_119 (by decide)) ?_
    refine x_getR3 hC 0 fl_X5_9 rfl kk_119 (rf_119_0 hRF) dX5_add_13 ?_
    refine wm_aload_n hC 0 dX5_add_16 rfl (k_ne0 kk_119 (by decide)) ?_
    refine x_getI hC 1 fl_X5_15 rfl kk_119 dX5_add_17 ?_
    refine wm_iload_n hC 1 dX5_add_20 rfl ?_
    refine x_iast2 hC kk_120 kn_120 dX5_add_21 hw (fun I1 hw => ?_)
    refine wm_aload_n hC 0 dX5_add_22 rfl (k_ne0 kk_119 (by decide)) ?_
    refine wm_dup hC dX5_add_23 (k := ?_)
    refine x_getI hC 1 fl_X5_15 rfl kk_119 dX5_add_24 ?_
    refine wm_iconst hC dX5_add_27 (k := ?_)
    refine x_iadd hC dX5_add_28 hw (fun hw => ?_)
    refine x_putI hC 1 fl_X5_15 rfl kk_119 dX5_add_29 hw (fun I2 hw => ?_)
    exact wm_return hC hE dX5_add_32 ⟨⟨rfl, rfl⟩, hw⟩
def p5_write_b168_body (I : mI) (Q : mI → Prop) (k168 : Int → Int → Prop) (l4 : Int) (l5 : Int) : Prop := (if (I 119 1) ≤ l5 then (p5_add l4 I (fun I10 => (Q I10))) else (rg (5 * l4) ∧ (((0 : Int) ≤ l5 ∧ l5 < (23 : Int)) ∧ (rg ((5 * l4) + (I 120 l5)) ∧ (wLet (Int.tmod ((5 * l4) + (I 120 l5)) 251) (fun x1 => (rg (l5 + 1) ∧ (k168 x1 (l5 + 1)))))))))
def p5_write_b168 (I : mI) (Q : mI → Prop) : Nat → Int → Int → Prop
  | 0 => fun _ _ => False
  | f + 1 => fun l4 l5 => p5_write_b168_body I Q (p5_write_b168 I Q f) l4 l5
set_option maxRecDepth 20000 in
theorem w5_write_b168_body {C : wX} {ad : Nat → Nat} {n : Nat} {I J : mI} {R : mR} {Q : mI → Prop} (hC : wOK C cX5_write 6 RX5) (hRm : wRm C 2 33 0 0) (hE : wEnd C none ad n (fun _ I' J' R' => (J' = J ∧ R' = R) ∧ Q I')) (hRF : RF R)  {l4 : Int} {l5 : Int}     {k168 : Int → Int → Prop} (kk168 : ∀ (y4 : Int) (y5 : Int), k168 y4 y5 → WM C ad n I J R 0 0 168 [(0, vr 119), (4, vi y4), (5, vi y5)] []) (hw : p5_write_b168_body I Q k168 l4 l5) : WM C ad n I J R 0 0 168 [(0, vr 119), (4, vi l4), (5, vi l5)] [] := by
  unfold p5_write_b168_body at hw
  refine wm_iload hC 2 dX5_write_168 rfl ?_
  refine wm_aload_n hC 0 dX5_write_170 rfl (k_ne0 kk_119 (by decide)) ?_
  refine x_getI hC 1 fl_X5_15 rfl kk_119 dX5_write_171 ?_
  refine wm_icmp_ge (tgt := 201) hC dX5_write_174 (by decide) hw (fun hw => ?_) (fun hw => ?_)
  · refine wm_aload_n hC 0 dX5_write_201 rfl (k_ne0 kk_119 (by decide)) ?_
    refine wm_iload hC 1 dX5_write_202 rfl ?_
    refine y_callV_v_I hC hRm noS ml_X5_24 kk_119 (c5_add hRF  hw) (Nat.le_of_ble_eq_true rfl) (Nat.le_of_ble_eq_true rfl) ⟨Nat.zero_le _, Nat.zero_le _⟩ rfl (st := []) rfl (Nat.le_of_ble_eq_true rfl) dX5_write_204 (fun I10 hw => ?_)
    exact wm_return hC hE dX5_write_207 ⟨⟨rfl, rfl⟩, hw⟩
  · refine wm_iconst hC dX5_write_177 (k := ?_)
    refine wm_iload hC 1 dX5_write_178 rfl ?_
    refine x_imul hC dX5_write_180 hw (fun hw => ?_)
    refine wm_aload_n hC 0 dX5_write_181 rfl (k_ne0 kk_119 (by decide)) ?_
    refine x_getR3 hC 0 fl_X5_9 rfl kk_119 (rf_119_0 hRF) dX5_write_182 ?_
    refine wm_iload hC 2 dX5_write_185 rfl ?_
    refine x_iald2 hC kk_120 kn_120 dX5_write_187 hw (fun hw => ?_)
    refine x_iadd hC dX5_write_188 hw (fun hw => ?_)
    refine wm_sipush hC dX5_write_189 (k := ?_)
    refine x_iremP hC (by decide) dX5_write_192 ?_
    refine x_nameI hw (fun x1 hw => ?_)
    refine wm_istore hC dX5_write_193 (by decide) (L2 := [(4, vi x1), (0, vr 119), (5, vi l5)]) rfl ?_
    refine x_iinc hC 2 dX5_write_195 rfl (by decide) (L2 := [(5, vi (l5 + 1)), (4, vi x1), (0, vr 119)]) rfl hw (fun hw => ?_)
    refine wm_goto (tgt := 168) hC dX5_write_198 (by decide) ?_
    refine wm_sub [2, 1, 0] (L2 := [(0, vr 119), (4, vi x1), (5, vi (l5 + 1))]) rfl ?_
    exact kk168 _ _ hw
set_option maxRecDepth 20000 in
theorem w5_write_b168 {C : wX} {ad : Nat → Nat} {n : Nat} {I : mI} {J : mI} {R : mR} {Q : mI → Prop} (hC : wOK C cX5_write 6 RX5) (hRm : wRm C 2 33 0 0) (hE : wEnd C none ad n (fun _ I' J' R' => (J' = J ∧ R' = R) ∧ Q I')) (hRF : RF R)      : ∀ (f : Nat) (l4 : Int) (l5 : Int), p5_write_b168 I Q f l4 l5 → WM C ad n I J R 0 0 168 [(0, vr 119), (4, vi l4), (5, vi l5)] [] := by
  intro f
  induction f with
  | zero => intro l4 l5 hw; exact hw.elim
  | succ f ih => intro l4 l5 hw; exact w5_write_b168_body hC hRm hE hRF  (fun a0 a1 aw => ih a0 a1 aw) hw
def p5_write_b115_body (l1 : Nat) (l2 : Nat) (Q : mI → Prop) (k115 : Int → mI → Prop) (l4 : Int) (I : mI) : Prop := (if (I (l1 + 1) 2) ≤ l4 then (∃ f, p5_write_b168 I Q f 229 0) else (((0 : Int) ≤ l4 ∧ l4 < (6 : Int)) ∧ (if (I (l2 + 3) l4) = (-1) then (p5_add 255 I (fun I9 => (rg (l4 + 1) ∧ (k115 (l4 + 1) I9)))) else (((0 : Int) ≤ l4 ∧ l4 < (6 : Int)) ∧ (p5_add (I (l2 + 3) l4) I (fun I8 => (rg (l4 + 1) ∧ (k115 (l4 + 1) I8))))))))
def p5_write_b115 (l1 : Nat) (l2 : Nat) (Q : mI → Prop) : Nat → Int → mI → Prop
  | 0 => fun _ _ => False
  | f + 1 => fun l4 I => p5_write_b115_body l1 l2 Q (p5_write_b115 l1 l2 Q f) l4 I
set_option maxRecDepth 20000 in
theorem w5_write_b115_body {C : wX} {ad : Nat → Nat} {n : Nat} {I J : mI} {R : mR} {Q : mI → Prop} (hC : wOK C cX5_write 6 RX5) (hRm : wRm C 2 33 0 0) (hE : wEnd C none ad n (fun _ I' J' R' => (J' = J ∧ R' = R) ∧ Q I')) (hRF : RF R) {l1 : Nat} {l2 : Nat} {l4 : Int}   (h1 : isLd l1) (h2 : isSt l2)  {k115 : Int → mI → Prop} (kk115 : ∀ (y4 : Int) (I' : mI), k115 y4 I' → WM C ad n I' J R 0 0 115 [(0, vr 119), (1, vr l1), (2, vr l2), (4, vi y4)] []) (hw : p5_write_b115_body l1 l2 Q k115 l4 I) : WM C ad n I J R 0 0 115 [(0, vr 119), (1, vr l1), (2, vr l2), (4, vi l4)] [] := by
  unfold p5_write_b115_body at hw
  refine wm_iload hC 3 dX5_write_115 rfl ?_
  refine wm_aload_n hC 1 dX5_write_117 rfl (k_ne0 (ld_k0 h1) (by decide)) ?_
  refine x_getR3 hC 0 fl_X5_31 rfl (ld_k0 h1) (rfd_0 hRF h1) dX5_write_118 ?_
  refine wm_iconst hC dX5_write_121 (k := ?_)
  refine x_ialdK hC (ld_k1 h1) (ld_n1 h1) (by decide) (by decide) dX5_write_122 ?_
  refine wm_icmp_ge (tgt := 160) hC dX5_write_123 (by decide) hw (fun hw => ?_) (fun hw => ?_)
  · refine wm_sipush hC dX5_write_160 (k := ?_)
    refine wm_istore hC dX5_write_163 (by decide) (L2 := [(4, vi 229), (0, vr 119), (1, vr l1), (2, vr l2)]) rfl ?_
    refine wm_iconst hC dX5_write_165 (k := ?_)
    refine wm_istore hC dX5_write_166 (by decide) (L2 := [(5, vi 0), (4, vi 229), (0, vr 119), (1, vr l1), (2, vr l2)]) rfl ?_
    obtain ⟨f, hw⟩ := hw
    refine wm_sub [2, 1, 0] (L2 := [(0, vr 119), (4, vi 229), (5, vi 0)]) rfl ?_
    exact w5_write_b168 hC hRm hE hRF  f _ _ hw
  · refine wm_aload_n hC 0 dX5_write_126 rfl (k_ne0 kk_119 (by decide)) ?_
    refine wm_aload_n hC 2 dX5_write_127 rfl (k_ne0 (st_k0 h2) (by decide)) ?_
    refine x_getR3 hC 5 fl_X5_42 rfl (st_k0 h2) (rfs_5 hRF h2) dX5_write_128 ?_
    refine wm_iload hC 3 dX5_write_131 rfl ?_
    refine x_iald2 hC (st_k3 h2) (st_n3 h2) dX5_write_133 hw (fun hw => ?_)
    refine wm_iconst hC dX5_write_134 (k := ?_)
    refine wm_icmp_ne (tgt := 144) hC dX5_write_135 (by decide) hw (fun hw => ?_) (fun hw => ?_)
    · refine wm_sipush hC dX5_write_138 (k := ?_)
      refine wm_goto (tgt := 151) hC dX5_write_141 (by decide) ?_
      refine y_callV_v_I hC hRm noS ml_X5_24 kk_119 (c5_add hRF  hw) (Nat.le_of_ble_eq_true rfl) (Nat.le_of_ble_eq_true rfl) ⟨Nat.zero_le _, Nat.zero_le _⟩ rfl (st := []) rfl (Nat.le_of_ble_eq_true rfl) dX5_write_151 (fun I9 hw => ?_)
      refine x_iinc hC 3 dX5_write_154 rfl (by decide) (L2 := [(4, vi (l4 + 1)), (0, vr 119), (1, vr l1), (2, vr l2)]) rfl hw (fun hw => ?_)
      refine wm_goto (tgt := 115) hC dX5_write_157 (by decide) ?_
      refine wm_sub [1, 2, 3, 0] (L2 := [(0, vr 119), (1, vr l1), (2, vr l2), (4, vi (l4 + 1))]) rfl ?_
      exact kk115 _ _ hw
    · refine wm_aload_n hC 2 dX5_write_144 rfl (k_ne0 (st_k0 h2) (by decide)) ?_
      refine x_getR3 hC 5 fl_X5_42 rfl (st_k0 h2) (rfs_5 hRF h2) dX5_write_145 ?_
      refine wm_iload hC 3 dX5_write_148 rfl ?_
      refine x_iald2 hC (st_k3 h2) (st_n3 h2) dX5_write_150 hw (fun hw => ?_)
      refine y_callV_v_I hC hRm noS ml_X5_24 kk_119 (c5_add hRF  hw) (Nat.le_of_ble_eq_true rfl) (Nat.le_of_ble_eq_true rfl) ⟨Nat.zero_le _, Nat.zero_le _⟩ rfl (st := []) rfl (Nat.le_of_ble_eq_true rfl) dX5_write_151 (fun I8 hw => ?_)
      refine x_iinc hC 3 dX5_write_154 rfl (by decide) (L2 := [(4, vi (l4 + 1)), (0, vr 119), (1, vr l1), (2, vr l2)]) rfl hw (fun hw => ?_)
      refine wm_goto (tgt := 115) hC dX5_write_157 (by decide) ?_
      refine wm_sub [1, 2, 3, 0] (L2 := [(0, vr 119), (1, vr l1), (2, vr l2), (4, vi (l4 + 1))]) rfl ?_
      exact kk115 _ _ hw
set_option maxRecDepth 20000 in
theorem w5_write_b115 {C : wX} {ad : Nat → Nat} {n : Nat} {J : mI} {R : mR} {Q : mI → Prop} (hC : wOK C cX5_write 6 RX5) (hRm : wRm C 2 33 0 0) (hE : wEnd C none ad n (fun _ I' J' R' => (J' = J ∧ R' = R) ∧ Q I')) (hRF : RF R) {l1 : Nat} {l2 : Nat}   (h1 : isLd l1) (h2 : isSt l2)  : ∀ (f : Nat) (l4 : Int) (I : mI), p5_write_b115 l1 l2 Q f l4 I → WM C ad n I J R 0 0 115 [(0, vr 119), (1, vr l1), (2, vr l2), (4, vi l4)] [] := by
  intro f
  induction f with
  | zero => intro l4 I hw; exact hw.elim
  | succ f ih => intro l4 I hw; exact w5_write_b115_body hC hRm hE hRF h1 h2 (fun a0 a1 aw => ih a0 a1 aw) hw
def p5_write_b89_body (l1 : Nat) (l2 : Nat) (l3 : Int) (Q : mI → Prop) (k89 : Int → mI → Prop) (l4 : Int) (I : mI) : Prop := (if l3 ≤ l4 then (∃ f, p5_write_b115 l1 l2 Q f 0 I) else (((0 : Int) ≤ l4 ∧ l4 < (6 : Int)) ∧ (p5_add (I (l2 + 2) l4) I (fun I7 => (rg (l4 + 1) ∧ (k89 (l4 + 1) I7))))))
def p5_write_b89 (l1 : Nat) (l2 : Nat) (l3 : Int) (Q : mI → Prop) : Nat → Int → mI → Prop
  | 0 => fun _ _ => False
  | f + 1 => fun l4 I => p5_write_b89_body l1 l2 l3 Q (p5_write_b89 l1 l2 l3 Q f) l4 I
set_option maxRecDepth 20000 in
theorem w5_write_b89_body {C : wX} {ad : Nat → Nat} {n : Nat} {I J : mI} {R : mR} {Q : mI → Prop} (hC : wOK C cX5_write 6 RX5) (hRm : wRm C 2 33 0 0) (hE : wEnd C none ad n (fun _ I' J' R' => (J' = J ∧ R' = R) ∧ Q I')) (hRF : RF R) {l1 : Nat} {l2 : Nat} {l3 : Int} {l4 : Int}   (h1 : isLd l1) (h2 : isSt l2)  {k89 : Int → mI → Prop} (kk89 : ∀ (y4 : Int) (I' : mI), k89 y4 I' → WM C ad n I' J R 0 0 89 [(0, vr 119), (1, vr l1), (2, vr l2), (3, vi l3), (4, vi y4)] []) (hw : p5_write_b89_body l1 l2 l3 Q k89 l4 I) : WM C ad n I J R 0 0 89 [(0, vr 119), (1, vr l1), (2, vr l2), (3, vi l3), (4, vi l4)] [] := by
  unfold p5_write_b89_body at hw
  refine wm_iload hC 4 dX5_write_89 rfl ?_
  refine wm_iload_n hC 3 dX5_write_91 rfl ?_
  refine wm_icmp_ge (tgt := 112) hC dX5_write_92 (by decide) hw (fun hw => ?_) (fun hw => ?_)
  · refine wm_iconst hC dX5_write_112 (k := ?_)
    refine wm_istore hC dX5_write_113 (by decide) (L2 := [(4, vi 0), (0, vr 119), (1, vr l1), (2, vr l2), (3, vi l3)]) rfl ?_
    obtain ⟨f, hw⟩ := hw
    refine wm_sub [1, 2, 3, 0] (L2 := [(0, vr 119), (1, vr l1), (2, vr l2), (4, vi 0)]) rfl ?_
    exact w5_write_b115 hC hRm hE hRF h1 h2 f _ _ hw
  · refine wm_aload_n hC 0 dX5_write_95 rfl (k_ne0 kk_119 (by decide)) ?_
    refine wm_aload_n hC 2 dX5_write_96 rfl (k_ne0 (st_k0 h2) (by decide)) ?_
    refine x_getR3 hC 4 fl_X5_39 rfl (st_k0 h2) (rfs_4 hRF h2) dX5_write_97 ?_
    refine wm_iload hC 4 dX5_write_100 rfl ?_
    refine x_iald2 hC (st_k2 h2) (st_n2 h2) dX5_write_102 hw (fun hw => ?_)
    refine y_callV_v_I hC hRm noS ml_X5_24 kk_119 (c5_add hRF  hw) (Nat.le_of_ble_eq_true rfl) (Nat.le_of_ble_eq_true rfl) ⟨Nat.zero_le _, Nat.zero_le _⟩ rfl (st := []) rfl (Nat.le_of_ble_eq_true rfl) dX5_write_103 (fun I7 hw => ?_)
    refine x_iinc hC 4 dX5_write_106 rfl (by decide) (L2 := [(4, vi (l4 + 1)), (0, vr 119), (1, vr l1), (2, vr l2), (3, vi l3)]) rfl hw (fun hw => ?_)
    refine wm_goto (tgt := 89) hC dX5_write_109 (by decide) ?_
    refine wm_sub [1, 2, 3, 4, 0] (L2 := [(0, vr 119), (1, vr l1), (2, vr l2), (3, vi l3), (4, vi (l4 + 1))]) rfl ?_
    exact kk89 _ _ hw
set_option maxRecDepth 20000 in
theorem w5_write_b89 {C : wX} {ad : Nat → Nat} {n : Nat} {J : mI} {R : mR} {Q : mI → Prop} (hC : wOK C cX5_write 6 RX5) (hRm : wRm C 2 33 0 0) (hE : wEnd C none ad n (fun _ I' J' R' => (J' = J ∧ R' = R) ∧ Q I')) (hRF : RF R) {l1 : Nat} {l2 : Nat} {l3 : Int}   (h1 : isLd l1) (h2 : isSt l2)  : ∀ (f : Nat) (l4 : Int) (I : mI), p5_write_b89 l1 l2 l3 Q f l4 I → WM C ad n I J R 0 0 89 [(0, vr 119), (1, vr l1), (2, vr l2), (3, vi l3), (4, vi l4)] [] := by
  intro f
  induction f with
  | zero => intro l4 I hw; exact hw.elim
  | succ f ih => intro l4 I hw; exact w5_write_b89_body hC hRm hE hRF h1 h2 (fun a0 a1 aw => ih a0 a1 aw) hw
def p5_write_b63_body (l1 : Nat) (l2 : Nat) (l3 : Int) (Q : mI → Prop) (k63 : Int → mI → Prop) (l4 : Int) (I : mI) : Prop := (if l3 ≤ l4 then (∃ f, p5_write_b89 l1 l2 l3 Q f 0 I) else (((0 : Int) ≤ l4 ∧ l4 < (6 : Int)) ∧ (p5_add (I (l2 + 1) l4) I (fun I6 => (rg (l4 + 1) ∧ (k63 (l4 + 1) I6))))))
def p5_write_b63 (l1 : Nat) (l2 : Nat) (l3 : Int) (Q : mI → Prop) : Nat → Int → mI → Prop
  | 0 => fun _ _ => False
  | f + 1 => fun l4 I => p5_write_b63_body l1 l2 l3 Q (p5_write_b63 l1 l2 l3 Q f) l4 I
set_option maxRecDepth 20000 in
theorem w5_write_b63_body {C : wX} {ad : Nat → Nat} {n : Nat} {I J : mI} {R : mR} {Q : mI → Prop} (hC : wOK C cX5_write 6 RX5) (hRm : wRm C 2 33 0 0) (hE : wEnd C none ad n (fun _ I' J' R' => (J' = J ∧ R' = R) ∧ Q I')) (hRF : RF R) {l1 : Nat} {l2 : Nat} {l3 : Int} {l4 : Int}   (h1 : isLd l1) (h2 : isSt l2)  {k63 : Int → mI → Prop} (kk63 : ∀ (y4 : Int) (I' : mI), k63 y4 I' → WM C ad n I' J R 0 0 63 [(0, vr 119), (1, vr l1), (2, vr l2), (3, vi l3), (4, vi y4)] []) (hw : p5_write_b63_body l1 l2 l3 Q k63 l4 I) : WM C ad n I J R 0 0 63 [(0, vr 119), (1, vr l1), (2, vr l2), (3, vi l3), (4, vi l4)] [] := by
  unfold p5_write_b63_body at hw
  refine wm_iload hC 4 dX5_write_63 rfl ?_
  refine wm_iload_n hC 3 dX5_write_65 rfl ?_
  refine wm_icmp_ge (tgt := 86) hC dX5_write_66 (by decide) hw (fun hw => ?_) (fun hw => ?_)
  · refine wm_iconst hC dX5_write_86 (k := ?_)
    refine wm_istore hC dX5_write_87 (by decide) (L2 := [(4, vi 0), (0, vr 119), (1, vr l1), (2, vr l2), (3, vi l3)]) rfl ?_
    obtain ⟨f, hw⟩ := hw
    refine wm_sub [1, 2, 3, 4, 0] (L2 := [(0, vr 119), (1, vr l1), (2, vr l2), (3, vi l3), (4, vi 0)]) rfl ?_
    exact w5_write_b89 hC hRm hE hRF h1 h2 f _ _ hw
  · refine wm_aload_n hC 0 dX5_write_69 rfl (k_ne0 kk_119 (by decide)) ?_
    refine wm_aload_n hC 2 dX5_write_70 rfl (k_ne0 (st_k0 h2) (by decide)) ?_
    refine x_getR3 hC 3 fl_X5_36 rfl (st_k0 h2) (rfs_3 hRF h2) dX5_write_71 ?_
    refine wm_iload hC 4 dX5_write_74 rfl ?_
    refine x_iald2 hC (st_k1 h2) (st_n1 h2) dX5_write_76 hw (fun hw => ?_)
    refine y_callV_v_I hC hRm noS ml_X5_24 kk_119 (c5_add hRF  hw) (Nat.le_of_ble_eq_true rfl) (Nat.le_of_ble_eq_true rfl) ⟨Nat.zero_le _, Nat.zero_le _⟩ rfl (st := []) rfl (Nat.le_of_ble_eq_true rfl) dX5_write_77 (fun I6 hw => ?_)
    refine x_iinc hC 4 dX5_write_80 rfl (by decide) (L2 := [(4, vi (l4 + 1)), (0, vr 119), (1, vr l1), (2, vr l2), (3, vi l3)]) rfl hw (fun hw => ?_)
    refine wm_goto (tgt := 63) hC dX5_write_83 (by decide) ?_
    refine wm_sub [1, 2, 3, 4, 0] (L2 := [(0, vr 119), (1, vr l1), (2, vr l2), (3, vi l3), (4, vi (l4 + 1))]) rfl ?_
    exact kk63 _ _ hw
set_option maxRecDepth 20000 in
theorem w5_write_b63 {C : wX} {ad : Nat → Nat} {n : Nat} {J : mI} {R : mR} {Q : mI → Prop} (hC : wOK C cX5_write 6 RX5) (hRm : wRm C 2 33 0 0) (hE : wEnd C none ad n (fun _ I' J' R' => (J' = J ∧ R' = R) ∧ Q I')) (hRF : RF R) {l1 : Nat} {l2 : Nat} {l3 : Int}   (h1 : isLd l1) (h2 : isSt l2)  : ∀ (f : Nat) (l4 : Int) (I : mI), p5_write_b63 l1 l2 l3 Q f l4 I → WM C ad n I J R 0 0 63 [(0, vr 119), (1, vr l1), (2, vr l2), (3, vi l3), (4, vi l4)] [] := by
  intro f
  induction f with
  | zero => intro l4 I hw; exact hw.elim
  | succ f ih => intro l4 I hw; exact w5_write_b63_body hC hRm hE hRF h1 h2 (fun a0 a1 aw => ih a0 a1 aw) hw
def p5_write (l1 : Nat) (l2 : Nat) (I : mI) (Q : mI → Prop) : Prop := (wLet (up I 119 1 0) (fun I1 => (p5_add (Int.tdiv (I1 l2 0) 256) I1 (fun I2 => (p5_add (Int.tmod (I2 l2 0) 256) I2 (fun I3 => (p5_add (Int.tdiv (I3 l2 1) 256) I3 (fun I4 => (p5_add (Int.tmod (I4 l2 1) 256) I4 (fun I5 => (∃ f, p5_write_b63 l1 l2 (I5 (l1 + 1) 0) Q f 0 I5)))))))))))
set_option maxRecDepth 20000 in
theorem c5_write {ad : Nat → Nat} {n : Nat} {I J : mI} {R : mR} {Q : mI → Prop}  (hRF : RF R) {l1 : Nat} {l2 : Nat}  (h1 : isLd l1) (h2 : isSt l2) (hw : p5_write l1 l2 I Q) : wMet yX5_write cX5_write 6 none 2 33 false ad n I J R [vr 119, vr l1, vr l2] (fun _ I' J' R' => (J' = J ∧ R' = R) ∧ Q I') := by
  refine wMet_of (by decide) (Nat.le_of_ble_eq_true rfl) (fun C hC hRm hE hS => ?_)
  refine (show WM C ad n I J R 0 0 0 [(0, vr 119), (1, vr l1), (2, vr l2)] [] from ?_)
  unfold p5_write at hw
  refine wm_aload_n hC 0 dX5_write_0 rfl (k_ne0 kk_119 (by decide)) ?_
  refine wm_iconst hC dX5_write_1 (k := ?_)
  refine x_putI hC 1 fl_X5_15 rfl kk_119 dX5_write_2 hw (fun I1 hw => ?_)
  refine wm_aload_n hC 0 dX5_write_5 rfl (k_ne0 kk_119 (by decide)) ?_
  refine wm_aload_n hC 2 dX5_write_6 rfl (k_ne0 (st_k0 h2) (by decide)) ?_
  refine x_getI hC 0 fl_X5_19 rfl (st_k0 h2) dX5_write_7 ?_
  refine wm_sipush hC dX5_write_10 (k := ?_)
  refine x_idivP hC (by decide) dX5_write_13 ?_
  refine y_callV_v_I hC hRm noS ml_X5_24 kk_119 (c5_add hRF  hw) (Nat.le_of_ble_eq_true rfl) (Nat.le_of_ble_eq_true rfl) ⟨Nat.zero_le _, Nat.zero_le _⟩ rfl (st := []) rfl (Nat.le_of_ble_eq_true rfl) dX5_write_14 (fun I2 hw => ?_)
  refine wm_aload_n hC 0 dX5_write_17 rfl (k_ne0 kk_119 (by decide)) ?_
  refine wm_aload_n hC 2 dX5_write_18 rfl (k_ne0 (st_k0 h2) (by decide)) ?_
  refine x_getI hC 0 fl_X5_19 rfl (st_k0 h2) dX5_write_19 ?_
  refine wm_sipush hC dX5_write_22 (k := ?_)
  refine x_iremP hC (by decide) dX5_write_25 ?_
  refine y_callV_v_I hC hRm noS ml_X5_24 kk_119 (c5_add hRF  hw) (Nat.le_of_ble_eq_true rfl) (Nat.le_of_ble_eq_true rfl) ⟨Nat.zero_le _, Nat.zero_le _⟩ rfl (st := []) rfl (Nat.le_of_ble_eq_true rfl) dX5_write_26 (fun I3 hw => ?_)
  refine wm_aload_n hC 0 dX5_write_29 rfl (k_ne0 kk_119 (by decide)) ?_
  refine wm_aload_n hC 2 dX5_write_30 rfl (k_ne0 (st_k0 h2) (by decide)) ?_
  refine x_getI hC 1 fl_X5_28 rfl (st_k0 h2) dX5_write_31 ?_
  refine wm_sipush hC dX5_write_34 (k := ?_)
  refine x_idivP hC (by decide) dX5_write_37 ?_
  refine y_callV_v_I hC hRm noS ml_X5_24 kk_119 (c5_add hRF  hw) (Nat.le_of_ble_eq_true rfl) (Nat.le_of_ble_eq_true rfl) ⟨Nat.zero_le _, Nat.zero_le _⟩ rfl (st := []) rfl (Nat.le_of_ble_eq_true rfl) dX5_write_38 (fun I4 hw => ?_)
  refine wm_aload_n hC 0 dX5_write_41 rfl (k_ne0 kk_119 (by decide)) ?_
  refine wm_aload_n hC 2 dX5_write_42 rfl (k_ne0 (st_k0 h2) (by decide)) ?_
  refine x_getI hC 1 fl_X5_28 rfl (st_k0 h2) dX5_write_43 ?_
  refine wm_sipush hC dX5_write_46 (k := ?_)
  refine x_iremP hC (by decide) dX5_write_49 ?_
  refine y_callV_v_I hC hRm noS ml_X5_24 kk_119 (c5_add hRF  hw) (Nat.le_of_ble_eq_true rfl) (Nat.le_of_ble_eq_true rfl) ⟨Nat.zero_le _, Nat.zero_le _⟩ rfl (st := []) rfl (Nat.le_of_ble_eq_true rfl) dX5_write_50 (fun I5 hw => ?_)
  refine wm_aload_n hC 1 dX5_write_53 rfl (k_ne0 (ld_k0 h1) (by decide)) ?_
  refine x_getR3 hC 0 fl_X5_31 rfl (ld_k0 h1) (rfd_0 hRF h1) dX5_write_54 ?_
  refine wm_iconst hC dX5_write_57 (k := ?_)
  refine x_ialdK hC (ld_k1 h1) (ld_n1 h1) (by decide) (by decide) dX5_write_58 ?_
  refine wm_istore_n hC dX5_write_59 (by decide) (L2 := [(3, vi (I5 (l1 + 1) 0)), (0, vr 119), (1, vr l1), (2, vr l2)]) rfl ?_
  refine wm_iconst hC dX5_write_60 (k := ?_)
  refine wm_istore hC dX5_write_61 (by decide) (L2 := [(4, vi 0), (3, vi (I5 (l1 + 1) 0)), (0, vr 119), (1, vr l1), (2, vr l2)]) rfl ?_
  obtain ⟨f, hw⟩ := hw
  refine wm_sub [2, 3, 4, 1, 0] (L2 := [(0, vr 119), (1, vr l1), (2, vr l2), (3, vi (I5 (l1 + 1) 0)), (4, vi 0)]) rfl ?_
  exact w5_write_b63 hC hRm hE hRF h1 h2 f _ _ hw
def p11_image (I : mI) (R : mR) (Q : Int → mI → Prop) : Prop := (isLd (R 1 12) ∧ (p5_write (R 1 12) 7 I (fun I1 => (Q (I1 119 1) I1))))
set_option maxRecDepth 20000 in
theorem c11_image {ad : Nat → Nat} {n : Nat} {I J : mI} {R : mR} {Q : Int → mI → Prop}  (hRF : RF R)   (hw : p11_image I R Q) : wMet yX11_image cX11_image 1 (some .int) 3 58 false ad n I J R [vr 1] (fun r I' J' R' => (J' = J ∧ R' = R) ∧ Q r I') := by
  refine wMet_of (by decide) (Nat.le_of_ble_eq_true rfl) (fun C hC hRm hE hS => ?_)
  refine (show WM C ad n I J R 0 0 0 [(0, vr 1)] [] from ?_)
  unfold p11_image at hw
  refine wm_aload_n hC 0 dX11_image_0 rfl (k_ne0 kk_1 (by decide)) ?_
  refine x_getR3 hC 5 fl_X11_43 rfl kk_1 (rf_1_5 hRF) dX11_image_1 ?_
  refine wm_aload_n hC 0 dX11_image_4 rfl (k_ne0 kk_1 (by decide)) ?_
  refine x_getRD hC 12 fl_X11_57 rfl kk_1 dX11_image_5 hw (fun g1 hw => ?_)
  refine wm_aload_n hC 0 dX11_image_8 rfl (k_ne0 kk_1 (by decide)) ?_
  refine x_getR3 hC 2 fl_X11_26 rfl kk_1 (rf_1_2 hRF) dX11_image_9 ?_
  refine y_callV_v_I hC hRm noS ml_X11_293 kk_119 (c5_write hRF g1 isSt_7 hw) (Nat.le_of_ble_eq_true rfl) (Nat.le_of_ble_eq_true rfl) ⟨Nat.zero_le _, Nat.zero_le _⟩ rfl (st := []) rfl (Nat.le_of_ble_eq_true rfl) dX11_image_12 (fun I1 hw => ?_)
  refine wm_aload_n hC 0 dX11_image_15 rfl (k_ne0 kk_1 (by decide)) ?_
  refine x_getR3 hC 5 fl_X11_43 rfl kk_1 (rf_1_5 hRF) dX11_image_16 ?_
  refine x_getI hC 1 fl_X11_297 rfl kk_119 dX11_image_19 ?_
  exact wm_ireturn hC hE dX11_image_22 ⟨⟨rfl, rfl⟩, hw⟩
def p7_keptOf (l0 : Nat) (l1 : Int) (l2 : Int) (I : mI) (Q : Int → Prop) : Prop := (if l1 < 0 then (Q (-1)) else (if (I l0 2) ≤ l1 then (Q (-1)) else (if l2 < 0 then (Q (-1)) else (if l2 ≤ 2 then (rg (3 * l1) ∧ (rg ((3 * l1) + l2) ∧ (((0 : Int) ≤ ((3 * l1) + l2) ∧ ((3 * l1) + l2) < (120 : Int)) ∧ (Q (I (l0 + 4) ((3 * l1) + l2)))))) else (Q (-1))))))
set_option maxRecDepth 20000 in
theorem c7_keptOf {ad : Nat → Nat} {n : Nat} {I J : mI} {R : mR} {Q : Int → Prop}  (hRF : RF R) {l0 : Nat} {l1 : Int} {l2 : Int} (h0 : isSt l0)   (hw : p7_keptOf l0 l1 l2 I Q) : wMet yX7_keptOf cX7_keptOf 3 (some .int) 1 12 false ad n I J R [vr l0, vi l1, vi l2] (fun r I' J' R' => (I' = I ∧ J' = J ∧ R' = R) ∧ Q r) := by
  refine wMet_of (by decide) (Nat.le_of_ble_eq_true rfl) (fun C hC hRm hE hS => ?_)
  refine (show WM C ad n I J R 0 0 0 [(0, vr l0), (1, vi l1), (2, vi l2)] [] from ?_)
  unfold p7_keptOf at hw
  refine wm_iload_n hC 1 dX7_keptOf_0 rfl ?_
  refine wm_if_lt (tgt := 21) hC dX7_keptOf_1 (by decide) hw (fun hw => ?_) (fun hw => ?_)
  · refine wm_iconst hC dX7_keptOf_21 (k := ?_)
    exact wm_ireturn hC hE dX7_keptOf_22 ⟨⟨rfl, rfl, rfl⟩, hw⟩
  · refine wm_iload_n hC 1 dX7_keptOf_4 rfl ?_
    refine wm_aload_n hC 0 dX7_keptOf_5 rfl (k_ne0 (st_k0 h0) (by decide)) ?_
    refine x_getI hC 2 fl_X7_18 rfl (st_k0 h0) dX7_keptOf_6 ?_
    refine wm_icmp_ge (tgt := 21) hC dX7_keptOf_9 (by decide) hw (fun hw => ?_) (fun hw => ?_)
    · refine wm_iconst hC dX7_keptOf_21 (k := ?_)
      exact wm_ireturn hC hE dX7_keptOf_22 ⟨⟨rfl, rfl, rfl⟩, hw⟩
    · refine wm_iload_n hC 2 dX7_keptOf_12 rfl ?_
      refine wm_if_lt (tgt := 21) hC dX7_keptOf_13 (by decide) hw (fun hw => ?_) (fun hw => ?_)
      · refine wm_iconst hC dX7_keptOf_21 (k := ?_)
        exact wm_ireturn hC hE dX7_keptOf_22 ⟨⟨rfl, rfl, rfl⟩, hw⟩
      · refine wm_iload_n hC 2 dX7_keptOf_16 rfl ?_
        refine wm_iconst hC dX7_keptOf_17 (k := ?_)
        refine wm_icmp_le (tgt := 23) hC dX7_keptOf_18 (by decide) hw (fun hw => ?_) (fun hw => ?_)
        · refine wm_aload_n hC 0 dX7_keptOf_23 rfl (k_ne0 (st_k0 h0) (by decide)) ?_
          refine x_getR3 hC 6 fl_X7_31 rfl (st_k0 h0) (rfs_6 hRF h0) dX7_keptOf_24 ?_
          refine wm_iconst hC dX7_keptOf_27 (k := ?_)
          refine wm_iload_n hC 1 dX7_keptOf_28 rfl ?_
          refine x_imul hC dX7_keptOf_29 hw (fun hw => ?_)
          refine wm_iload_n hC 2 dX7_keptOf_30 rfl ?_
          refine x_iadd hC dX7_keptOf_31 hw (fun hw => ?_)
          refine x_iald2 hC (st_k4 h0) (st_n4 h0) dX7_keptOf_32 hw (fun hw => ?_)
          exact wm_ireturn hC hE dX7_keptOf_33 ⟨⟨rfl, rfl, rfl⟩, hw⟩
        · refine wm_iconst hC dX7_keptOf_21 (k := ?_)
          exact wm_ireturn hC hE dX7_keptOf_22 ⟨⟨rfl, rfl, rfl⟩, hw⟩
def p11_kept (l1 : Int) (l2 : Int) (I : mI) (Q : Int → Prop) : Prop := (p7_keptOf 7 l1 l2 I (fun r1 => (Q r1)))
set_option maxRecDepth 20000 in
theorem c11_kept {ad : Nat → Nat} {n : Nat} {I J : mI} {R : mR} {Q : Int → Prop}  (hRF : RF R) {l1 : Int} {l2 : Int}    (hw : p11_kept l1 l2 I Q) : wMet yX11_kept cX11_kept 3 (some .int) 2 34 false ad n I J R [vr 1, vi l1, vi l2] (fun r I' J' R' => (I' = I ∧ J' = J ∧ R' = R) ∧ Q r) := by
  refine wMet_of (by decide) (Nat.le_of_ble_eq_true rfl) (fun C hC hRm hE hS => ?_)
  refine (show WM C ad n I J R 0 0 0 [(0, vr 1), (1, vi l1), (2, vi l2)] [] from ?_)
  unfold p11_kept at hw
  refine wm_aload_n hC 0 dX11_kept_0 rfl (k_ne0 kk_1 (by decide)) ?_
  refine x_getR3 hC 2 fl_X11_26 rfl kk_1 (rf_1_2 hRF) dX11_kept_1 ?_
  refine wm_iload_n hC 1 dX11_kept_4 rfl ?_
  refine wm_iload_n hC 2 dX11_kept_5 rfl ?_
  refine y_callV_i_n hC hRm noS ml_X11_290 kk_7 (c7_keptOf hRF isSt_7 hw) (Nat.le_of_ble_eq_true rfl) (Nat.le_of_ble_eq_true rfl) ⟨Nat.zero_le _, Nat.zero_le _⟩ rfl (st := []) rfl (Nat.le_of_ble_eq_true rfl) dX11_kept_6 (fun r1 hw => ?_)
  exact wm_ireturn hC hE dX11_kept_9 ⟨⟨rfl, rfl, rfl⟩, hw⟩
def p3_empty (l0 : Nat) (I : mI) (Q : mI → Prop) : Prop := (wLet (fil I (l0 + 1) 3 0) (fun I1 => (wLet (fil I1 (l0 + 4) 6 0) (fun I2 => (wLet (fil I2 (l0 + 5) 6 (-1)) (fun I3 => (wLet (fil I3 (l0 + 7) 3 0) (fun I4 => (wLet (fil I4 (l0 + 8) 3 0) (fun I5 => (wLet (up I5 l0 8 0) (fun I6 => (wLet (up I6 l0 9 0) (fun I7 => (wLet (up I7 l0 10 0) (fun I8 => (wLet (up I8 l0 11 0) (fun I9 => (Q I9)))))))))))))))))))
set_option maxRecDepth 20000 in
theorem c3_empty {ad : Nat → Nat} {n : Nat} {I J : mI} {R : mR} {Q : mI → Prop}  (hRF : RF R) {l0 : Nat} (h0 : isLd l0) (hw : p3_empty l0 I Q) : wMet yX3_empty cX3_empty 1 none 2 35 false ad n I J R [vr l0] (fun _ I' J' R' => (J' = J ∧ R' = R) ∧ Q I') := by
  refine wMet_of (by decide) (Nat.le_of_ble_eq_true rfl) (fun C hC hRm hE hS => ?_)
  refine (show WM C ad n I J R 0 0 0 [(0, vr l0)] [] from ?_)
  unfold p3_empty at hw
  refine wm_aload_n hC 0 dX3_empty_0 rfl (k_ne0 (ld_k0 h0) (by decide)) ?_
  refine x_getR3 hC 0 fl_X3_9 rfl (ld_k0 h0) (rfd_0 hRF h0) dX3_empty_1 ?_
  refine wm_iconst hC dX3_empty_4 (k := ?_)
  refine x_fill hC hRm ml_X3_52 (ld_k1 h0) (ld_n1 h0) (st := []) (Nat.le_of_ble_eq_true rfl) (Nat.le_of_ble_eq_true rfl) (Nat.le_of_ble_eq_true rfl) dX3_empty_5 hw (fun I1 hw => ?_)
  refine wm_aload_n hC 0 dX3_empty_8 rfl (k_ne0 (ld_k0 h0) (by decide)) ?_
  refine x_getR3 hC 3 fl_X3_21 rfl (ld_k0 h0) (rfd_3 hRF h0) dX3_empty_9 ?_
  refine wm_iconst hC dX3_empty_12 (k := ?_)
  refine x_fill hC hRm ml_X3_52 (ld_k4 h0) (ld_n4 h0) (st := []) (Nat.le_of_ble_eq_true rfl) (Nat.le_of_ble_eq_true rfl) (Nat.le_of_ble_eq_true rfl) dX3_empty_13 hw (fun I2 hw => ?_)
  refine wm_aload_n hC 0 dX3_empty_16 rfl (k_ne0 (ld_k0 h0) (by decide)) ?_
  refine x_getR3 hC 4 fl_X3_24 rfl (ld_k0 h0) (rfd_4 hRF h0) dX3_empty_17 ?_
  refine wm_iconst hC dX3_empty_20 (k := ?_)
  refine x_fill hC hRm ml_X3_52 (ld_k5 h0) (ld_n5 h0) (st := []) (Nat.le_of_ble_eq_true rfl) (Nat.le_of_ble_eq_true rfl) (Nat.le_of_ble_eq_true rfl) dX3_empty_21 hw (fun I3 hw => ?_)
  refine wm_aload_n hC 0 dX3_empty_24 rfl (k_ne0 (ld_k0 h0) (by decide)) ?_
  refine x_getR3 hC 6 fl_X3_30 rfl (ld_k0 h0) (rfd_6 hRF h0) dX3_empty_25 ?_
  refine wm_iconst hC dX3_empty_28 (k := ?_)
  refine x_fill hC hRm ml_X3_52 (ld_k7 h0) (ld_n7 h0) (st := []) (Nat.le_of_ble_eq_true rfl) (Nat.le_of_ble_eq_true rfl) (Nat.le_of_ble_eq_true rfl) dX3_empty_29 hw (fun I4 hw => ?_)
  refine wm_aload_n hC 0 dX3_empty_32 rfl (k_ne0 (ld_k0 h0) (by decide)) ?_
  refine x_getR3 hC 7 fl_X3_33 rfl (ld_k0 h0) (rfd_7 hRF h0) dX3_empty_33 ?_
  refine wm_iconst hC dX3_empty_36 (k := ?_)
  refine x_fill hC hRm ml_X3_52 (ld_k8 h0) (ld_n8 h0) (st := []) (Nat.le_of_ble_eq_true rfl) (Nat.le_of_ble_eq_true rfl) (Nat.le_of_ble_eq_true rfl) dX3_empty_37 hw (fun I5 hw => ?_)
  refine wm_aload_n hC 0 dX3_empty_40 rfl (k_ne0 (ld_k0 h0) (by decide)) ?_
  refine wm_iconst hC dX3_empty_41 (k := ?_)
  refine x_putI hC 8 fl_X3_36 rfl (ld_k0 h0) dX3_empty_42 hw (fun I6 hw => ?_)
  refine wm_aload_n hC 0 dX3_empty_45 rfl (k_ne0 (ld_k0 h0) (by decide)) ?_
  refine wm_iconst hC dX3_empty_46 (k := ?_)
  refine x_putI hC 9 fl_X3_40 rfl (ld_k0 h0) dX3_empty_47 hw (fun I7 hw => ?_)
  refine wm_aload_n hC 0 dX3_empty_50 rfl (k_ne0 (ld_k0 h0) (by decide)) ?_
  refine wm_iconst hC dX3_empty_51 (k := ?_)
  refine x_putI hC 10 fl_X3_43 rfl (ld_k0 h0) dX3_empty_52 hw (fun I8 hw => ?_)
  refine wm_aload_n hC 0 dX3_empty_55 rfl (k_ne0 (ld_k0 h0) (by decide)) ?_
  refine wm_iconst hC dX3_empty_56 (k := ?_)
  refine x_putI hC 11 fl_X3_46 rfl (ld_k0 h0) dX3_empty_57 hw (fun I9 hw => ?_)
  exact wm_return hC hE dX3_empty_60 ⟨⟨rfl, rfl⟩, hw⟩
def p6_fail (l1 : Int) (I : mI) (Q : mI → Prop) : Prop := (if (I 141 6) = 0 then (wLet (up I 141 6 l1) (fun I2 => (if l1 = 6 then (p10_beginHere I2 (fun r2 => (wLet (up I2 141 7 r2) (fun I5 => (p10_stop I5 (fun I6 => (Q I6))))))) else (p10_placeHere I2 (fun r1 => (wLet (up I2 141 7 r1) (fun I3 => (p10_stop I3 (fun I4 => (Q I4)))))))))) else (p10_stop I (fun I1 => (Q I1))))
set_option maxRecDepth 20000 in
theorem c6_fail {ad : Nat → Nat} {n : Nat} {I J : mI} {R : mR} {Q : mI → Prop}  (hRF : RF R) {l1 : Int}   (hw : p6_fail l1 I Q) : wMet yX6_fail cX6_fail 2 none 2 32 false ad n I J R [vr 141, vi l1] (fun _ I' J' R' => (J' = J ∧ R' = R) ∧ Q I') := by
  refine wMet_of (by decide) (Nat.le_of_ble_eq_true rfl) (fun C hC hRm hE hS => ?_)
  refine (show WM C ad n I J R 0 0 0 [(0, vr 141), (1, vi l1)] [] from ?_)
  unfold p6_fail at hw
  refine wm_aload_n hC 0 dX6_fail_0 rfl (k_ne0 kk_141 (by decide)) ?_
  refine x_getI hC 6 fl_X6_28 rfl kk_141 dX6_fail_1 ?_
  refine wm_if_ne (tgt := 39) hC dX6_fail_4 (by decide) hw (fun hw => ?_) (fun hw => ?_)
  · refine wm_aload_n hC 0 dX6_fail_7 rfl (k_ne0 kk_141 (by decide)) ?_
    refine wm_iload_n hC 1 dX6_fail_8 rfl ?_
    refine x_putI hC 6 fl_X6_28 rfl kk_141 dX6_fail_9 hw (fun I2 hw => ?_)
    refine wm_aload_n hC 0 dX6_fail_12 rfl (k_ne0 kk_141 (by decide)) ?_
    refine wm_iload_n hC 1 dX6_fail_13 rfl ?_
    refine wm_bipush hC dX6_fail_14 (k := ?_)
    refine wm_icmp_ne (tgt := 29) hC dX6_fail_16 (by decide) hw (fun hw => ?_) (fun hw => ?_)
    · refine wm_aload_n hC 0 dX6_fail_19 rfl (k_ne0 kk_141 (by decide)) ?_
      refine x_getR3 hC 1 fl_X6_12 rfl kk_141 (rf_141_1 hRF) dX6_fail_20 ?_
      refine y_callV_i_n hC hRm noS ml_X6_58 kk_142 (c10_beginHere hRF  hw) (Nat.le_of_ble_eq_true rfl) (Nat.le_of_ble_eq_true rfl) ⟨Nat.zero_le _, Nat.zero_le _⟩ rfl (st := [vr 141]) rfl (Nat.le_of_ble_eq_true rfl) dX6_fail_23 (fun r2 hw => ?_)
      refine wm_goto (tgt := 36) hC dX6_fail_26 (by decide) ?_
      refine x_putI hC 7 fl_X6_31 rfl kk_141 dX6_fail_36 hw (fun I5 hw => ?_)
      refine wm_aload_n hC 0 dX6_fail_39 rfl (k_ne0 kk_141 (by decide)) ?_
      refine x_getR3 hC 1 fl_X6_12 rfl kk_141 (rf_141_1 hRF) dX6_fail_40 ?_
      refine y_callV_v_I hC hRm noS ml_X6_64 kk_142 (c10_stop hRF  hw) (Nat.le_of_ble_eq_true rfl) (Nat.le_of_ble_eq_true rfl) ⟨Nat.zero_le _, Nat.zero_le _⟩ rfl (st := []) rfl (Nat.le_of_ble_eq_true rfl) dX6_fail_43 (fun I6 hw => ?_)
      exact wm_return hC hE dX6_fail_46 ⟨⟨rfl, rfl⟩, hw⟩
    · refine wm_aload_n hC 0 dX6_fail_29 rfl (k_ne0 kk_141 (by decide)) ?_
      refine x_getR3 hC 1 fl_X6_12 rfl kk_141 (rf_141_1 hRF) dX6_fail_30 ?_
      refine y_callV_i_n hC hRm noS ml_X6_61 kk_142 (c10_placeHere hRF  hw) (Nat.le_of_ble_eq_true rfl) (Nat.le_of_ble_eq_true rfl) ⟨Nat.zero_le _, Nat.zero_le _⟩ rfl (st := [vr 141]) rfl (Nat.le_of_ble_eq_true rfl) dX6_fail_33 (fun r1 hw => ?_)
      refine x_putI hC 7 fl_X6_31 rfl kk_141 dX6_fail_36 hw (fun I3 hw => ?_)
      refine wm_aload_n hC 0 dX6_fail_39 rfl (k_ne0 kk_141 (by decide)) ?_
      refine x_getR3 hC 1 fl_X6_12 rfl kk_141 (rf_141_1 hRF) dX6_fail_40 ?_
      refine y_callV_v_I hC hRm noS ml_X6_64 kk_142 (c10_stop hRF  hw) (Nat.le_of_ble_eq_true rfl) (Nat.le_of_ble_eq_true rfl) ⟨Nat.zero_le _, Nat.zero_le _⟩ rfl (st := []) rfl (Nat.le_of_ble_eq_true rfl) dX6_fail_43 (fun I4 hw => ?_)
      exact wm_return hC hE dX6_fail_46 ⟨⟨rfl, rfl⟩, hw⟩
  · refine wm_aload_n hC 0 dX6_fail_39 rfl (k_ne0 kk_141 (by decide)) ?_
    refine x_getR3 hC 1 fl_X6_12 rfl kk_141 (rf_141_1 hRF) dX6_fail_40 ?_
    refine y_callV_v_I hC hRm noS ml_X6_64 kk_142 (c10_stop hRF  hw) (Nat.le_of_ble_eq_true rfl) (Nat.le_of_ble_eq_true rfl) ⟨Nat.zero_le _, Nat.zero_le _⟩ rfl (st := []) rfl (Nat.le_of_ble_eq_true rfl) dX6_fail_43 (fun I1 hw => ?_)
    exact wm_return hC hE dX6_fail_46 ⟨⟨rfl, rfl⟩, hw⟩
def p6_isSign (l1 : Int) (I : mI) (Q : Int → Prop) : Prop := (p10_isHere 4 l1 I (fun r1 => ((r1 = 0 ∨ r1 = 1) ∧ (Q r1))))
set_option maxRecDepth 20000 in
theorem c6_isSign {ad : Nat → Nat} {n : Nat} {I J : mI} {R : mR} {Q : Int → Prop}  (hRF : RF R) {l1 : Int}   (hw : p6_isSign l1 I Q) : wMet yX6_isSign cX6_isSign 2 (some .boolean) 2 34 false ad n I J R [vr 141, vi l1] (fun r I' J' R' => (I' = I ∧ J' = J ∧ R' = R) ∧ Q r) := by
  refine wMet_of (by decide) (Nat.le_of_ble_eq_true rfl) (fun C hC hRm hE hS => ?_)
  refine (show WM C ad n I J R 0 0 0 [(0, vr 141), (1, vi l1)] [] from ?_)
  unfold p6_isSign at hw
  refine wm_aload_n hC 0 dX6_isSign_0 rfl (k_ne0 kk_141 (by decide)) ?_
  refine x_getR3 hC 1 fl_X6_12 rfl kk_141 (rf_141_1 hRF) dX6_isSign_1 ?_
  refine wm_iconst hC dX6_isSign_4 (k := ?_)
  refine wm_iload_n hC 1 dX6_isSign_5 rfl ?_
  refine y_callV_z_n hC hRm noS ml_X6_81 kk_142 (c10_isHere hRF  hw) (Nat.le_of_ble_eq_true rfl) (Nat.le_of_ble_eq_true rfl) ⟨Nat.zero_le _, Nat.zero_le _⟩ rfl (st := []) rfl (Nat.le_of_ble_eq_true rfl) dX6_isSign_6 (fun r1 hw => ?_)
  obtain ⟨z01, hw⟩ := hw
  exact wm_zreturn hC hE z01 dX6_isSign_9 ⟨⟨rfl, rfl, rfl⟩, hw⟩
def p6_expect (l1 : Int) (I : mI) (Q : mI → Prop) : Prop := (p6_isSign l1 I (fun r1 => (if r1 = 0 then (p6_fail 1 I (fun I1 => (Q I1))) else (p10_step I (fun I2 => (Q I2))))))
set_option maxRecDepth 20000 in
theorem c6_expect {ad : Nat → Nat} {n : Nat} {I J : mI} {R : mR} {Q : mI → Prop}  (hRF : RF R) {l1 : Int}   (hw : p6_expect l1 I Q) : wMet yX6_expect cX6_expect 2 none 3 55 false ad n I J R [vr 141, vi l1] (fun _ I' J' R' => (J' = J ∧ R' = R) ∧ Q I') := by
  refine wMet_of (by decide) (Nat.le_of_ble_eq_true rfl) (fun C hC hRm hE hS => ?_)
  refine (show WM C ad n I J R 0 0 0 [(0, vr 141), (1, vi l1)] [] from ?_)
  unfold p6_expect at hw
  refine wm_aload_n hC 0 dX6_expect_0 rfl (k_ne0 kk_141 (by decide)) ?_
  refine wm_iload_n hC 1 dX6_expect_1 rfl ?_
  refine y_callV_z_n hC hRm noS ml_X6_85 kk_141 (c6_isSign hRF  hw) (Nat.le_of_ble_eq_true rfl) (Nat.le_of_ble_eq_true rfl) ⟨Nat.zero_le _, Nat.zero_le _⟩ rfl (st := []) rfl (Nat.le_of_ble_eq_true rfl) dX6_expect_2 (fun r1 hw => ?_)
  refine wm_if_eq (tgt := 18) hC dX6_expect_5 (by decide) hw (fun hw => ?_) (fun hw => ?_)
  · refine wm_aload_n hC 0 dX6_expect_18 rfl (k_ne0 kk_141 (by decide)) ?_
    refine wm_iconst hC dX6_expect_19 (k := ?_)
    refine y_callV_v_I hC hRm noS ml_X6_92 kk_141 (c6_fail hRF  hw) (Nat.le_of_ble_eq_true rfl) (Nat.le_of_ble_eq_true rfl) ⟨Nat.zero_le _, Nat.zero_le _⟩ rfl (st := []) rfl (Nat.le_of_ble_eq_true rfl) dX6_expect_20 (fun I1 hw => ?_)
    exact wm_return hC hE dX6_expect_23 ⟨⟨rfl, rfl⟩, hw⟩
  · refine wm_aload_n hC 0 dX6_expect_8 rfl (k_ne0 kk_141 (by decide)) ?_
    refine x_getR3 hC 1 fl_X6_12 rfl kk_141 (rf_141_1 hRF) dX6_expect_9 ?_
    refine y_callV_v_I hC hRm noS ml_X6_89 kk_142 (c10_step hRF  hw) (Nat.le_of_ble_eq_true rfl) (Nat.le_of_ble_eq_true rfl) ⟨Nat.zero_le _, Nat.zero_le _⟩ rfl (st := []) rfl (Nat.le_of_ble_eq_true rfl) dX6_expect_12 (fun I2 hw => ?_)
    refine wm_goto (tgt := 23) hC dX6_expect_15 (by decide) ?_
    exact wm_return hC hE dX6_expect_23 ⟨⟨rfl, rfl⟩, hw⟩
def p6_isFull (l1 : Int) (I : mI) (R : mR) (Q : Int → Prop) : Prop := (if (2 : Int) < l1 then (if l1 < 8 then (Q 0) else (isLd (R 141 2) ∧ (rg (l1 - 8) ∧ (p3_hasCode (R 141 2) (l1 - 8) I (fun r1 => (if r1 = 0 then (Q 0) else (Q 1))))))) else (isLd (R 141 2) ∧ (((0 : Int) ≤ l1 ∧ l1 < (3 : Int)) ∧ (if (I ((R 141 2) + 1) l1) < 6 then (Q 0) else (Q 1)))))
set_option maxRecDepth 20000 in
theorem c6_isFull {ad : Nat → Nat} {n : Nat} {I J : mI} {R : mR} {Q : Int → Prop}  (hRF : RF R) {l1 : Int}   (hw : p6_isFull l1 I R Q) : wMet yX6_isFull cX6_isFull 2 (some .boolean) 2 33 false ad n I J R [vr 141, vi l1] (fun r I' J' R' => (I' = I ∧ J' = J ∧ R' = R) ∧ Q r) := by
  refine wMet_of (by decide) (Nat.le_of_ble_eq_true rfl) (fun C hC hRm hE hS => ?_)
  refine (show WM C ad n I J R 0 0 0 [(0, vr 141), (1, vi l1)] [] from ?_)
  unfold p6_isFull at hw
  refine wm_iload_n hC 1 dX6_isFull_0 rfl ?_
  refine wm_iconst hC dX6_isFull_1 (k := ?_)
  refine wm_icmp_gt (tgt := 25) hC dX6_isFull_2 (by decide) hw (fun hw => ?_) (fun hw => ?_)
  · refine wm_iload_n hC 1 dX6_isFull_25 rfl ?_
    refine wm_bipush hC dX6_isFull_26 (k := ?_)
    refine wm_icmp_lt (tgt := 49) hC dX6_isFull_28 (by decide) hw (fun hw => ?_) (fun hw => ?_)
    · refine wm_iconst hC dX6_isFull_49 (k := ?_)
      exact wm_zreturn hC hE (Or.inl rfl) dX6_isFull_50 ⟨⟨rfl, rfl, rfl⟩, hw⟩
    · refine wm_aload_n hC 0 dX6_isFull_31 rfl (k_ne0 kk_141 (by decide)) ?_
      refine x_getRD hC 2 fl_X6_38 rfl kk_141 dX6_isFull_32 hw (fun g1 hw => ?_)
      refine wm_iload_n hC 1 dX6_isFull_35 rfl ?_
      refine wm_bipush hC dX6_isFull_36 (k := ?_)
      refine x_isub hC dX6_isFull_38 hw (fun hw => ?_)
      refine y_callV_z_n hC hRm noS ml_X6_136 (ld_k0 g1) (c3_hasCode hRF g1 hw) (Nat.le_of_ble_eq_true rfl) (Nat.le_of_ble_eq_true rfl) ⟨Nat.zero_le _, Nat.zero_le _⟩ rfl (st := []) rfl (Nat.le_of_ble_eq_true rfl) dX6_isFull_39 (fun r1 hw => ?_)
      refine wm_if_eq (tgt := 49) hC dX6_isFull_42 (by decide) hw (fun hw => ?_) (fun hw => ?_)
      · refine wm_iconst hC dX6_isFull_49 (k := ?_)
        exact wm_zreturn hC hE (Or.inl rfl) dX6_isFull_50 ⟨⟨rfl, rfl, rfl⟩, hw⟩
      · refine wm_iconst hC dX6_isFull_45 (k := ?_)
        refine wm_goto (tgt := 50) hC dX6_isFull_46 (by decide) ?_
        exact wm_zreturn hC hE (Or.inr rfl) dX6_isFull_50 ⟨⟨rfl, rfl, rfl⟩, hw⟩
  · refine wm_aload_n hC 0 dX6_isFull_5 rfl (k_ne0 kk_141 (by decide)) ?_
    refine x_getRD hC 2 fl_X6_38 rfl kk_141 dX6_isFull_6 hw (fun g2 hw => ?_)
    refine x_getR3 hC 0 fl_X6_132 rfl (ld_k0 g2) (rfd_0 hRF g2) dX6_isFull_9 ?_
    refine wm_iload_n hC 1 dX6_isFull_12 rfl ?_
    refine x_iald2 hC (ld_k1 g2) (ld_n1 g2) dX6_isFull_13 hw (fun hw => ?_)
    refine wm_bipush hC dX6_isFull_14 (k := ?_)
    refine wm_icmp_lt (tgt := 23) hC dX6_isFull_16 (by decide) hw (fun hw => ?_) (fun hw => ?_)
    · refine wm_iconst hC dX6_isFull_23 (k := ?_)
      exact wm_zreturn hC hE (Or.inl rfl) dX6_isFull_24 ⟨⟨rfl, rfl, rfl⟩, hw⟩
    · refine wm_iconst hC dX6_isFull_19 (k := ?_)
      refine wm_goto (tgt := 24) hC dX6_isFull_20 (by decide) ?_
      exact wm_zreturn hC hE (Or.inr rfl) dX6_isFull_24 ⟨⟨rfl, rfl, rfl⟩, hw⟩
def p6_ownHere (I : mI) (Q : Int → Prop) : Prop := (p10_sortHere I (fun r1 => (if r1 = 1 then (p10_valueHere I (fun r2 => (Q r2))) else (Q (-1)))))
set_option maxRecDepth 20000 in
theorem c6_ownHere {ad : Nat → Nat} {n : Nat} {I J : mI} {R : mR} {Q : Int → Prop}  (hRF : RF R)   (hw : p6_ownHere I Q) : wMet yX6_ownHere cX6_ownHere 1 (some .int) 2 32 false ad n I J R [vr 141] (fun r I' J' R' => (I' = I ∧ J' = J ∧ R' = R) ∧ Q r) := by
  refine wMet_of (by decide) (Nat.le_of_ble_eq_true rfl) (fun C hC hRm hE hS => ?_)
  refine (show WM C ad n I J R 0 0 0 [(0, vr 141)] [] from ?_)
  unfold p6_ownHere at hw
  refine wm_aload_n hC 0 dX6_ownHere_0 rfl (k_ne0 kk_141 (by decide)) ?_
  refine x_getR3 hC 1 fl_X6_12 rfl kk_141 (rf_141_1 hRF) dX6_ownHere_1 ?_
  refine y_callV_i_n hC hRm noS ml_X6_51 kk_142 (c10_sortHere hRF  hw) (Nat.le_of_ble_eq_true rfl) (Nat.le_of_ble_eq_true rfl) ⟨Nat.zero_le _, Nat.zero_le _⟩ rfl (st := []) rfl (Nat.le_of_ble_eq_true rfl) dX6_ownHere_4 (fun r1 hw => ?_)
  refine wm_iconst hC dX6_ownHere_7 (k := ?_)
  refine wm_icmp_ne (tgt := 21) hC dX6_ownHere_8 (by decide) hw (fun hw => ?_) (fun hw => ?_)
  · refine wm_aload_n hC 0 dX6_ownHere_11 rfl (k_ne0 kk_141 (by decide)) ?_
    refine x_getR3 hC 1 fl_X6_12 rfl kk_141 (rf_141_1 hRF) dX6_ownHere_12 ?_
    refine y_callV_i_n hC hRm noS ml_X6_78 kk_142 (c10_valueHere hRF  hw) (Nat.le_of_ble_eq_true rfl) (Nat.le_of_ble_eq_true rfl) ⟨Nat.zero_le _, Nat.zero_le _⟩ rfl (st := []) rfl (Nat.le_of_ble_eq_true rfl) dX6_ownHere_15 (fun r2 hw => ?_)
    refine wm_goto (tgt := 22) hC dX6_ownHere_18 (by decide) ?_
    exact wm_ireturn hC hE dX6_ownHere_22 ⟨⟨rfl, rfl, rfl⟩, hw⟩
  · refine wm_iconst hC dX6_ownHere_21 (k := ?_)
    exact wm_ireturn hC hE dX6_ownHere_22 ⟨⟨rfl, rfl, rfl⟩, hw⟩
def p6_emit (l1 : Int) (I : mI) (R : mR) (Q : mI → Prop) : Prop := (isLd (R 141 2) ∧ (isLd (R 141 2) ∧ (if (1600 : Int) ≤ (I (R 141 2) 8) then (Q I) else (isLd (R 141 2) ∧ (isLd (R 141 2) ∧ (((0 : Int) ≤ (I (R 141 2) 8) ∧ (I (R 141 2) 8) < (1600 : Int)) ∧ wLet (up I ((R 141 2) + 6) (I (R 141 2) 8) l1) (fun I1 => (isLd (R 141 2) ∧ (rg ((I1 (R 141 2) 8) + 1) ∧ (wLet (up I1 (R 141 2) 8 ((I1 (R 141 2) 8) + 1)) (fun I2 => (Q I2))))))))))))
set_option maxRecDepth 20000 in
theorem c6_emit {ad : Nat → Nat} {n : Nat} {I J : mI} {R : mR} {Q : mI → Prop}  (hRF : RF R) {l1 : Int}   (hw : p6_emit l1 I R Q) : wMet yX6_emit cX6_emit 2 none 1 12 false ad n I J R [vr 141, vi l1] (fun _ I' J' R' => (J' = J ∧ R' = R) ∧ Q I') := by
  refine wMet_of (by decide) (Nat.le_of_ble_eq_true rfl) (fun C hC hRm hE hS => ?_)
  refine (show WM C ad n I J R 0 0 0 [(0, vr 141), (1, vi l1)] [] from ?_)
  unfold p6_emit at hw
  refine wm_aload_n hC 0 dX6_emit_0 rfl (k_ne0 kk_141 (by decide)) ?_
  refine x_getRD hC 2 fl_X6_38 rfl kk_141 dX6_emit_1 hw (fun g1 hw => ?_)
  refine x_getI hC 8 fl_X6_180 rfl (ld_k0 g1) dX6_emit_4 ?_
  refine wm_aload_n hC 0 dX6_emit_7 rfl (k_ne0 kk_141 (by decide)) ?_
  refine x_getRD hC 2 fl_X6_38 rfl kk_141 dX6_emit_8 hw (fun g2 hw => ?_)
  refine x_getR3 hC 5 fl_X6_192 rfl (ld_k0 g2) (rfd_5 hRF g2) dX6_emit_11 ?_
  refine x_alen2 hC (ld_k6 g2) (ld_n6 g2) (by decide) dX6_emit_14 ?_
  refine wm_icmp_ge (tgt := 47) hC dX6_emit_15 (by decide) hw (fun hw => ?_) (fun hw => ?_)
  · exact wm_return hC hE dX6_emit_47 ⟨⟨rfl, rfl⟩, hw⟩
  · refine wm_aload_n hC 0 dX6_emit_18 rfl (k_ne0 kk_141 (by decide)) ?_
    refine x_getRD hC 2 fl_X6_38 rfl kk_141 dX6_emit_19 hw (fun g3 hw => ?_)
    refine x_getR3 hC 5 fl_X6_192 rfl (ld_k0 g3) (rfd_5 hRF g3) dX6_emit_22 ?_
    refine wm_aload_n hC 0 dX6_emit_25 rfl (k_ne0 kk_141 (by decide)) ?_
    refine x_getRD hC 2 fl_X6_38 rfl kk_141 dX6_emit_26 hw (fun g4 hw => ?_)
    refine x_getI hC 8 fl_X6_180 rfl (ld_k0 g4) dX6_emit_29 ?_
    refine wm_iload_n hC 1 dX6_emit_32 rfl ?_
    refine x_iast2 hC (ld_k6 g3) (ld_n6 g3) dX6_emit_33 hw (fun I1 hw => ?_)
    refine wm_aload_n hC 0 dX6_emit_34 rfl (k_ne0 kk_141 (by decide)) ?_
    refine x_getRD hC 2 fl_X6_38 rfl kk_141 dX6_emit_35 hw (fun g5 hw => ?_)
    refine wm_dup hC dX6_emit_38 (k := ?_)
    refine x_getI hC 8 fl_X6_180 rfl (ld_k0 g5) dX6_emit_39 ?_
    refine wm_iconst hC dX6_emit_42 (k := ?_)
    refine x_iadd hC dX6_emit_43 hw (fun hw => ?_)
    refine x_putI hC 8 fl_X6_180 rfl (ld_k0 g5) dX6_emit_44 hw (fun I2 hw => ?_)
    exact wm_return hC hE dX6_emit_47 ⟨⟨rfl, rfl⟩, hw⟩
def p6_isOwn (l1 : Int) (I : mI) (Q : Int → Prop) : Prop := (p10_isHere 1 l1 I (fun r1 => ((r1 = 0 ∨ r1 = 1) ∧ (Q r1))))
set_option maxRecDepth 20000 in
theorem c6_isOwn {ad : Nat → Nat} {n : Nat} {I J : mI} {R : mR} {Q : Int → Prop}  (hRF : RF R) {l1 : Int}   (hw : p6_isOwn l1 I Q) : wMet yX6_isOwn cX6_isOwn 2 (some .boolean) 2 34 false ad n I J R [vr 141, vi l1] (fun r I' J' R' => (I' = I ∧ J' = J ∧ R' = R) ∧ Q r) := by
  refine wMet_of (by decide) (Nat.le_of_ble_eq_true rfl) (fun C hC hRm hE hS => ?_)
  refine (show WM C ad n I J R 0 0 0 [(0, vr 141), (1, vi l1)] [] from ?_)
  unfold p6_isOwn at hw
  refine wm_aload_n hC 0 dX6_isOwn_0 rfl (k_ne0 kk_141 (by decide)) ?_
  refine x_getR3 hC 1 fl_X6_12 rfl kk_141 (rf_141_1 hRF) dX6_isOwn_1 ?_
  refine wm_iconst hC dX6_isOwn_4 (k := ?_)
  refine wm_iload_n hC 1 dX6_isOwn_5 rfl ?_
  refine y_callV_z_n hC hRm noS ml_X6_81 kk_142 (c10_isHere hRF  hw) (Nat.le_of_ble_eq_true rfl) (Nat.le_of_ble_eq_true rfl) ⟨Nat.zero_le _, Nat.zero_le _⟩ rfl (st := []) rfl (Nat.le_of_ble_eq_true rfl) dX6_isOwn_6 (fun r1 hw => ?_)
  obtain ⟨z01, hw⟩ := hw
  exact wm_zreturn hC hE z01 dX6_isOwn_9 ⟨⟨rfl, rfl, rfl⟩, hw⟩
def p6_opens (I : mI) (Q : Int → mI → Prop) : Prop := (if (I 141 3) < 7 then (rg ((I 141 3) + 1) ∧ (wLet (up I 141 3 ((I 141 3) + 1)) (fun I1 => (p10_step I1 (fun I2 => (Q 1 I2)))))) else (p6_fail 5 I (fun I3 => (Q 0 I3))))
set_option maxRecDepth 20000 in
theorem c6_opens {ad : Nat → Nat} {n : Nat} {I J : mI} {R : mR} {Q : Int → mI → Prop}  (hRF : RF R)   (hw : p6_opens I Q) : wMet yX6_opens cX6_opens 1 (some .boolean) 3 53 false ad n I J R [vr 141] (fun r I' J' R' => (J' = J ∧ R' = R) ∧ Q r I') := by
  refine wMet_of (by decide) (Nat.le_of_ble_eq_true rfl) (fun C hC hRm hE hS => ?_)
  refine (show WM C ad n I J R 0 0 0 [(0, vr 141)] [] from ?_)
  unfold p6_opens at hw
  refine wm_aload_n hC 0 dX6_opens_0 rfl (k_ne0 kk_141 (by decide)) ?_
  refine x_getI hC 3 fl_X6_18 rfl kk_141 dX6_opens_1 ?_
  refine wm_bipush hC dX6_opens_4 (k := ?_)
  refine wm_icmp_lt (tgt := 16) hC dX6_opens_6 (by decide) hw (fun hw => ?_) (fun hw => ?_)
  · refine wm_aload_n hC 0 dX6_opens_16 rfl (k_ne0 kk_141 (by decide)) ?_
    refine wm_dup hC dX6_opens_17 (k := ?_)
    refine x_getI hC 3 fl_X6_18 rfl kk_141 dX6_opens_18 ?_
    refine wm_iconst hC dX6_opens_21 (k := ?_)
    refine x_iadd hC dX6_opens_22 hw (fun hw => ?_)
    refine x_putI hC 3 fl_X6_18 rfl kk_141 dX6_opens_23 hw (fun I1 hw => ?_)
    refine wm_aload_n hC 0 dX6_opens_26 rfl (k_ne0 kk_141 (by decide)) ?_
    refine x_getR3 hC 1 fl_X6_12 rfl kk_141 (rf_141_1 hRF) dX6_opens_27 ?_
    refine y_callV_v_I hC hRm noS ml_X6_89 kk_142 (c10_step hRF  hw) (Nat.le_of_ble_eq_true rfl) (Nat.le_of_ble_eq_true rfl) ⟨Nat.zero_le _, Nat.zero_le _⟩ rfl (st := []) rfl (Nat.le_of_ble_eq_true rfl) dX6_opens_30 (fun I2 hw => ?_)
    refine wm_iconst hC dX6_opens_33 (k := ?_)
    exact wm_zreturn hC hE (Or.inr rfl) dX6_opens_34 ⟨⟨rfl, rfl⟩, hw⟩
  · refine wm_aload_n hC 0 dX6_opens_9 rfl (k_ne0 kk_141 (by decide)) ?_
    refine wm_iconst hC dX6_opens_10 (k := ?_)
    refine y_callV_v_I hC hRm noS ml_X6_92 kk_141 (c6_fail hRF  hw) (Nat.le_of_ble_eq_true rfl) (Nat.le_of_ble_eq_true rfl) ⟨Nat.zero_le _, Nat.zero_le _⟩ rfl (st := []) rfl (Nat.le_of_ble_eq_true rfl) dX6_opens_11 (fun I3 hw => ?_)
    refine wm_iconst hC dX6_opens_14 (k := ?_)
    exact wm_zreturn hC hE (Or.inl rfl) dX6_opens_15 ⟨⟨rfl, rfl⟩, hw⟩
def p6_variable (l1 : Int) (I : mI) (Q : Int → Prop) : Prop := (if l1 = 15 then (Q (-1)) else (if (I 141 4) = 2 then (if l1 = 6 then (Q (-8)) else (if l1 = 20 then (Q (-9)) else (Q 0))) else (if l1 = 16 then (Q (-2)) else (if l1 = 3 then (Q (-3)) else (if (I 141 4) = 1 then (Q 0) else (if l1 = 14 then (Q (-7)) else (if l1 = 15 then (Q 0) else (if l1 = 16 then (Q 0) else (if l1 = 17 then (Q (-4)) else (if l1 = 18 then (Q (-5)) else (if l1 = 19 then (Q (-6)) else (Q 0))))))))))))
set_option maxRecDepth 20000 in
theorem c6_variable {ad : Nat → Nat} {n : Nat} {I J : mI} {R : mR} {Q : Int → Prop}  (hRF : RF R) {l1 : Int}   (hw : p6_variable l1 I Q) : wMet yX6_variable cX6_variable 2 (some .int) 1 12 false ad n I J R [vr 141, vi l1] (fun r I' J' R' => (I' = I ∧ J' = J ∧ R' = R) ∧ Q r) := by
  refine wMet_of (by decide) (Nat.le_of_ble_eq_true rfl) (fun C hC hRm hE hS => ?_)
  refine (show WM C ad n I J R 0 0 0 [(0, vr 141), (1, vi l1)] [] from ?_)
  unfold p6_variable at hw
  refine wm_iload_n hC 1 dX6_variable_0 rfl ?_
  refine wm_bipush hC dX6_variable_1 (k := ?_)
  refine wm_icmp_ne (tgt := 8) hC dX6_variable_3 (by decide) hw (fun hw => ?_) (fun hw => ?_)
  · refine wm_iconst hC dX6_variable_6 (k := ?_)
    exact wm_ireturn hC hE dX6_variable_7 ⟨⟨rfl, rfl, rfl⟩, hw⟩
  · refine wm_aload_n hC 0 dX6_variable_8 rfl (k_ne0 kk_141 (by decide)) ?_
    refine x_getI hC 4 fl_X6_22 rfl kk_141 dX6_variable_9 ?_
    refine wm_iconst hC dX6_variable_12 (k := ?_)
    refine wm_icmp_ne (tgt := 40) hC dX6_variable_13 (by decide) hw (fun hw => ?_) (fun hw => ?_)
    · refine wm_iload_n hC 1 dX6_variable_16 rfl ?_
      refine wm_bipush hC dX6_variable_17 (k := ?_)
      refine wm_icmp_ne (tgt := 27) hC dX6_variable_19 (by decide) hw (fun hw => ?_) (fun hw => ?_)
      · refine wm_bipush hC dX6_variable_22 (k := ?_)
        refine wm_goto (tgt := 39) hC dX6_variable_24 (by decide) ?_
        exact wm_ireturn hC hE dX6_variable_39 ⟨⟨rfl, rfl, rfl⟩, hw⟩
      · refine wm_iload_n hC 1 dX6_variable_27 rfl ?_
        refine wm_bipush hC dX6_variable_28 (k := ?_)
        refine wm_icmp_ne (tgt := 38) hC dX6_variable_30 (by decide) hw (fun hw => ?_) (fun hw => ?_)
        · refine wm_bipush hC dX6_variable_33 (k := ?_)
          refine wm_goto (tgt := 39) hC dX6_variable_35 (by decide) ?_
          exact wm_ireturn hC hE dX6_variable_39 ⟨⟨rfl, rfl, rfl⟩, hw⟩
        · refine wm_iconst hC dX6_variable_38 (k := ?_)
          exact wm_ireturn hC hE dX6_variable_39 ⟨⟨rfl, rfl, rfl⟩, hw⟩
    · refine wm_iload_n hC 1 dX6_variable_40 rfl ?_
      refine wm_bipush hC dX6_variable_41 (k := ?_)
      refine wm_icmp_ne (tgt := 49) hC dX6_variable_43 (by decide) hw (fun hw => ?_) (fun hw => ?_)
      · refine wm_bipush hC dX6_variable_46 (k := ?_)
        exact wm_ireturn hC hE dX6_variable_48 ⟨⟨rfl, rfl, rfl⟩, hw⟩
      · refine wm_iload_n hC 1 dX6_variable_49 rfl ?_
        refine wm_iconst hC dX6_variable_50 (k := ?_)
        refine wm_icmp_ne (tgt := 57) hC dX6_variable_51 (by decide) hw (fun hw => ?_) (fun hw => ?_)
        · refine wm_bipush hC dX6_variable_54 (k := ?_)
          exact wm_ireturn hC hE dX6_variable_56 ⟨⟨rfl, rfl, rfl⟩, hw⟩
        · refine wm_aload_n hC 0 dX6_variable_57 rfl (k_ne0 kk_141 (by decide)) ?_
          refine x_getI hC 4 fl_X6_22 rfl kk_141 dX6_variable_58 ?_
          refine wm_iconst hC dX6_variable_61 (k := ?_)
          refine wm_icmp_ne (tgt := 67) hC dX6_variable_62 (by decide) hw (fun hw => ?_) (fun hw => ?_)
          · refine wm_iconst hC dX6_variable_65 (k := ?_)
            exact wm_ireturn hC hE dX6_variable_66 ⟨⟨rfl, rfl, rfl⟩, hw⟩
          · refine wm_iload_n hC 1 dX6_variable_67 rfl ?_
            by_cases hc1 : l1 = 14
            · rw [if_pos hc1] at hw
              refine wm_tableIn (v := 14) (tgt := 117) hC dX6_variable_68 hc1 (by decide) (by decide) rfl rfl ?_
              refine wm_bipush hC dX6_variable_117 (k := ?_)
              exact wm_ireturn hC hE dX6_variable_119 ⟨⟨rfl, rfl, rfl⟩, hw⟩
            rw [if_neg hc1] at hw
            by_cases hc2 : l1 = 15
            · rw [if_pos hc2] at hw
              refine wm_tableIn (v := 15) (tgt := 120) hC dX6_variable_68 hc2 (by decide) (by decide) rfl rfl ?_
              refine wm_iconst hC dX6_variable_120 (k := ?_)
              exact wm_ireturn hC hE dX6_variable_121 ⟨⟨rfl, rfl, rfl⟩, hw⟩
            rw [if_neg hc2] at hw
            by_cases hc3 : l1 = 16
            · rw [if_pos hc3] at hw
              refine wm_tableIn (v := 16) (tgt := 120) hC dX6_variable_68 hc3 (by decide) (by decide) rfl rfl ?_
              refine wm_iconst hC dX6_variable_120 (k := ?_)
              exact wm_ireturn hC hE dX6_variable_121 ⟨⟨rfl, rfl, rfl⟩, hw⟩
            rw [if_neg hc3] at hw
            by_cases hc4 : l1 = 17
            · rw [if_pos hc4] at hw
              refine wm_tableIn (v := 17) (tgt := 108) hC dX6_variable_68 hc4 (by decide) (by decide) rfl rfl ?_
              refine wm_bipush hC dX6_variable_108 (k := ?_)
              exact wm_ireturn hC hE dX6_variable_110 ⟨⟨rfl, rfl, rfl⟩, hw⟩
            rw [if_neg hc4] at hw
            by_cases hc5 : l1 = 18
            · rw [if_pos hc5] at hw
              refine wm_tableIn (v := 18) (tgt := 111) hC dX6_variable_68 hc5 (by decide) (by decide) rfl rfl ?_
              refine wm_bipush hC dX6_variable_111 (k := ?_)
              exact wm_ireturn hC hE dX6_variable_113 ⟨⟨rfl, rfl, rfl⟩, hw⟩
            rw [if_neg hc5] at hw
            by_cases hc6 : l1 = 19
            · rw [if_pos hc6] at hw
              refine wm_tableIn (v := 19) (tgt := 114) hC dX6_variable_68 hc6 (by decide) (by decide) rfl rfl ?_
              refine wm_bipush hC dX6_variable_114 (k := ?_)
              exact wm_ireturn hC hE dX6_variable_116 ⟨⟨rfl, rfl, rfl⟩, hw⟩
            rw [if_neg hc6] at hw
            refine wm_tableOut (tgt := 120) hC dX6_variable_68 (by omega) rfl ?_
            refine wm_iconst hC dX6_variable_120 (k := ?_)
            exact wm_ireturn hC hE dX6_variable_121 ⟨⟨rfl, rfl, rfl⟩, hw⟩
