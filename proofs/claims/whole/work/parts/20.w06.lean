def p5_show_b80_body (l1 : Nat) (l2 : Nat) (l3 : Int) (Q : mI → Prop) (k80 : Int → mI → Prop) (l4 : Int) (I : mI) : Prop := (if (I (l1 + 1) 2) ≤ l4 then (Q I) else (rg (2 * l3) ∧ (rg (4 + (2 * l3)) ∧ (rg ((4 + (2 * l3)) + l4) ∧ (p9_byteAt ((4 + (2 * l3)) + l4) I (fun r5 => (if r5 = 255 then (((0 : Int) ≤ l4 ∧ l4 < (6 : Int)) ∧ wLet (up I (l2 + 3) l4 (-1)) (fun I7 => (rg (l4 + 1) ∧ (k80 (l4 + 1) I7)))) else (((0 : Int) ≤ l4 ∧ l4 < (6 : Int)) ∧ wLet (up I (l2 + 3) l4 r5) (fun I6 => (rg (l4 + 1) ∧ (k80 (l4 + 1) I6)))))))))))
def p5_show_b80 (l1 : Nat) (l2 : Nat) (l3 : Int) (Q : mI → Prop) : Nat → Int → mI → Prop
  | 0 => fun _ _ => False
  | f + 1 => fun l4 I => p5_show_b80_body l1 l2 l3 Q (p5_show_b80 l1 l2 l3 Q f) l4 I
set_option maxRecDepth 20000 in
theorem w5_show_b80_body {C : wX} {ad : Nat → Nat} {n : Nat} {I J : mI} {R : mR} {Q : mI → Prop} (hC : wOK C cX5_show 6 RX5) (hRm : wRm C 3 54 0 0) (hE : wEnd C none ad n (fun _ I' J' R' => (J' = J ∧ R' = R) ∧ Q I')) (hRF : RF R) {l1 : Nat} {l2 : Nat} {l3 : Int} {l4 : Int}   (h1 : isLd l1) (h2 : isSt l2)  {k80 : Int → mI → Prop} (kk80 : ∀ (y4 : Int) (I' : mI), k80 y4 I' → WM C ad n I' J R 0 0 80 [(0, vr 2), (1, vr l1), (2, vr l2), (3, vi l3), (4, vi y4)] []) (hw : p5_show_b80_body l1 l2 l3 Q k80 l4 I) : WM C ad n I J R 0 0 80 [(0, vr 2), (1, vr l1), (2, vr l2), (3, vi l3), (4, vi l4)] [] := by
  unfold p5_show_b80_body at hw
  refine wm_iload hC 4 dX5_show_80 rfl ?_
  refine wm_aload_n hC 1 dX5_show_82 rfl (k_ne0 (ld_k0 h1) (by decide)) ?_
  refine x_getR3 hC 0 fl_X5_31 rfl (ld_k0 h1) (rfd_0 hRF h1) dX5_show_83 ?_
  refine wm_iconst hC dX5_show_86 (k := ?_)
  refine x_ialdK hC (ld_k1 h1) (ld_n1 h1) (by decide) (by decide) dX5_show_87 ?_
  refine wm_icmp_ge (tgt := 132) hC dX5_show_88 (by decide) hw (fun hw => ?_) (fun hw => ?_)
  · exact wm_return hC hE dX5_show_132 ⟨⟨rfl, rfl⟩, hw⟩
  · refine wm_aload_n hC 0 dX5_show_91 rfl (k_ne0 kk_2 (by decide)) ?_
    refine wm_iconst hC dX5_show_92 (k := ?_)
    refine wm_iconst hC dX5_show_93 (k := ?_)
    refine wm_iload_n hC 3 dX5_show_94 rfl ?_
    refine x_imul hC dX5_show_95 hw (fun hw => ?_)
    refine x_iadd hC dX5_show_96 hw (fun hw => ?_)
    refine wm_iload hC 4 dX5_show_97 rfl ?_
    refine x_iadd hC dX5_show_99 hw (fun hw => ?_)
    refine y_callV_i_n hC hRm noS ml_X5_56 kk_2 (c9_byteAt hRF  hw) (Nat.le_of_ble_eq_true rfl) (Nat.le_of_ble_eq_true rfl) ⟨Nat.zero_le _, Nat.zero_le _⟩ rfl (st := []) rfl (Nat.le_of_ble_eq_true rfl) dX5_show_100 (fun r5 hw => ?_)
    refine wm_istore hC dX5_show_103 (by decide) (L2 := [(5, vi r5), (0, vr 2), (1, vr l1), (2, vr l2), (3, vi l3), (4, vi l4)]) rfl ?_
    refine wm_aload_n hC 3 dX5_show_105 rfl (k_ne0 (st_k0 h2) (by decide)) ?_
    refine x_getR3 hC 5 fl_X5_42 rfl (st_k0 h2) (rfs_5 hRF h2) dX5_show_106 ?_
    refine wm_iload hC 5 dX5_show_109 rfl ?_
    refine wm_iload hC 0 dX5_show_111 rfl ?_
    refine wm_sipush hC dX5_show_113 (k := ?_)
    refine wm_icmp_ne (tgt := 123) hC dX5_show_116 (by decide) hw (fun hw => ?_) (fun hw => ?_)
    · refine wm_iconst hC dX5_show_119 (k := ?_)
      refine wm_goto (tgt := 125) hC dX5_show_120 (by decide) ?_
      refine x_iast2 hC (st_k3 h2) (st_n3 h2) dX5_show_125 hw (fun I7 hw => ?_)
      refine x_iinc hC 5 dX5_show_126 rfl (by decide) (L2 := [(4, vi (l4 + 1)), (5, vi r5), (0, vr 2), (1, vr l1), (2, vr l2), (3, vi l3)]) rfl hw (fun hw => ?_)
      refine wm_goto (tgt := 80) hC dX5_show_129 (by decide) ?_
      refine wm_sub [2, 3, 4, 5, 0] (L2 := [(0, vr 2), (1, vr l1), (2, vr l2), (3, vi l3), (4, vi (l4 + 1))]) rfl ?_
      exact kk80 _ _ hw
    · refine wm_iload hC 0 dX5_show_123 rfl ?_
      refine x_iast2 hC (st_k3 h2) (st_n3 h2) dX5_show_125 hw (fun I6 hw => ?_)
      refine x_iinc hC 5 dX5_show_126 rfl (by decide) (L2 := [(4, vi (l4 + 1)), (5, vi r5), (0, vr 2), (1, vr l1), (2, vr l2), (3, vi l3)]) rfl hw (fun hw => ?_)
      refine wm_goto (tgt := 80) hC dX5_show_129 (by decide) ?_
      refine wm_sub [2, 3, 4, 5, 0] (L2 := [(0, vr 2), (1, vr l1), (2, vr l2), (3, vi l3), (4, vi (l4 + 1))]) rfl ?_
      exact kk80 _ _ hw
set_option maxRecDepth 20000 in
theorem w5_show_b80 {C : wX} {ad : Nat → Nat} {n : Nat} {J : mI} {R : mR} {Q : mI → Prop} (hC : wOK C cX5_show 6 RX5) (hRm : wRm C 3 54 0 0) (hE : wEnd C none ad n (fun _ I' J' R' => (J' = J ∧ R' = R) ∧ Q I')) (hRF : RF R) {l1 : Nat} {l2 : Nat} {l3 : Int}   (h1 : isLd l1) (h2 : isSt l2)  : ∀ (f : Nat) (l4 : Int) (I : mI), p5_show_b80 l1 l2 l3 Q f l4 I → WM C ad n I J R 0 0 80 [(0, vr 2), (1, vr l1), (2, vr l2), (3, vi l3), (4, vi l4)] [] := by
  intro f
  induction f with
  | zero => intro l4 I hw; exact hw.elim
  | succ f ih => intro l4 I hw; exact w5_show_b80_body hC hRm hE hRF h1 h2 (fun a0 a1 aw => ih a0 a1 aw) hw
def p5_show_b33_body (l1 : Nat) (l2 : Nat) (l3 : Int) (Q : mI → Prop) (k33 : Int → mI → Prop) (l4 : Int) (I : mI) : Prop := (if l3 ≤ l4 then (∃ f, p5_show_b80 l1 l2 l3 Q f 0 I) else (rg (4 + l4) ∧ (p9_byteAt (4 + l4) I (fun r3 => (((0 : Int) ≤ l4 ∧ l4 < (6 : Int)) ∧ wLet (up I (l2 + 1) l4 r3) (fun I4 => (rg (4 + l3) ∧ (rg ((4 + l3) + l4) ∧ (p9_byteAt ((4 + l3) + l4) I4 (fun r4 => (((0 : Int) ≤ l4 ∧ l4 < (6 : Int)) ∧ wLet (up I4 (l2 + 2) l4 r4) (fun I5 => (rg (l4 + 1) ∧ (k33 (l4 + 1) I5))))))))))))))
def p5_show_b33 (l1 : Nat) (l2 : Nat) (l3 : Int) (Q : mI → Prop) : Nat → Int → mI → Prop
  | 0 => fun _ _ => False
  | f + 1 => fun l4 I => p5_show_b33_body l1 l2 l3 Q (p5_show_b33 l1 l2 l3 Q f) l4 I
set_option maxRecDepth 20000 in
theorem w5_show_b33_body {C : wX} {ad : Nat → Nat} {n : Nat} {I J : mI} {R : mR} {Q : mI → Prop} (hC : wOK C cX5_show 6 RX5) (hRm : wRm C 3 54 0 0) (hE : wEnd C none ad n (fun _ I' J' R' => (J' = J ∧ R' = R) ∧ Q I')) (hRF : RF R) {l1 : Nat} {l2 : Nat} {l3 : Int} {l4 : Int}   (h1 : isLd l1) (h2 : isSt l2)  {k33 : Int → mI → Prop} (kk33 : ∀ (y4 : Int) (I' : mI), k33 y4 I' → WM C ad n I' J R 0 0 33 [(0, vr 2), (1, vr l1), (2, vr l2), (3, vi l3), (4, vi y4)] []) (hw : p5_show_b33_body l1 l2 l3 Q k33 l4 I) : WM C ad n I J R 0 0 33 [(0, vr 2), (1, vr l1), (2, vr l2), (3, vi l3), (4, vi l4)] [] := by
  unfold p5_show_b33_body at hw
  refine wm_iload hC 4 dX5_show_33 rfl ?_
  refine wm_iload_n hC 3 dX5_show_35 rfl ?_
  refine wm_icmp_ge (tgt := 77) hC dX5_show_36 (by decide) hw (fun hw => ?_) (fun hw => ?_)
  · refine wm_iconst hC dX5_show_77 (k := ?_)
    refine wm_istore hC dX5_show_78 (by decide) (L2 := [(4, vi 0), (0, vr 2), (1, vr l1), (2, vr l2), (3, vi l3)]) rfl ?_
    obtain ⟨f, hw⟩ := hw
    refine wm_sub [1, 2, 3, 4, 0] (L2 := [(0, vr 2), (1, vr l1), (2, vr l2), (3, vi l3), (4, vi 0)]) rfl ?_
    exact w5_show_b80 hC hRm hE hRF h1 h2 f _ _ hw
  · refine wm_aload_n hC 2 dX5_show_39 rfl (k_ne0 (st_k0 h2) (by decide)) ?_
    refine x_getR3 hC 3 fl_X5_36 rfl (st_k0 h2) (rfs_3 hRF h2) dX5_show_40 ?_
    refine wm_iload hC 4 dX5_show_43 rfl ?_
    refine wm_aload_n hC 0 dX5_show_45 rfl (k_ne0 kk_2 (by decide)) ?_
    refine wm_iconst hC dX5_show_46 (k := ?_)
    refine wm_iload hC 4 dX5_show_47 rfl ?_
    refine x_iadd hC dX5_show_49 hw (fun hw => ?_)
    refine y_callV_i_n hC hRm noS ml_X5_56 kk_2 (c9_byteAt hRF  hw) (Nat.le_of_ble_eq_true rfl) (Nat.le_of_ble_eq_true rfl) ⟨Nat.zero_le _, Nat.zero_le _⟩ rfl (st := [vi l4, vr (l2 + 1)]) rfl (Nat.le_of_ble_eq_true rfl) dX5_show_50 (fun r3 hw => ?_)
    refine x_iast2 hC (st_k1 h2) (st_n1 h2) dX5_show_53 hw (fun I4 hw => ?_)
    refine wm_aload_n hC 2 dX5_show_54 rfl (k_ne0 (st_k0 h2) (by decide)) ?_
    refine x_getR3 hC 4 fl_X5_39 rfl (st_k0 h2) (rfs_4 hRF h2) dX5_show_55 ?_
    refine wm_iload hC 4 dX5_show_58 rfl ?_
    refine wm_aload_n hC 0 dX5_show_60 rfl (k_ne0 kk_2 (by decide)) ?_
    refine wm_iconst hC dX5_show_61 (k := ?_)
    refine wm_iload_n hC 3 dX5_show_62 rfl ?_
    refine x_iadd hC dX5_show_63 hw (fun hw => ?_)
    refine wm_iload hC 4 dX5_show_64 rfl ?_
    refine x_iadd hC dX5_show_66 hw (fun hw => ?_)
    refine y_callV_i_n hC hRm noS ml_X5_56 kk_2 (c9_byteAt hRF  hw) (Nat.le_of_ble_eq_true rfl) (Nat.le_of_ble_eq_true rfl) ⟨Nat.zero_le _, Nat.zero_le _⟩ rfl (st := [vi l4, vr (l2 + 2)]) rfl (Nat.le_of_ble_eq_true rfl) dX5_show_67 (fun r4 hw => ?_)
    refine x_iast2 hC (st_k2 h2) (st_n2 h2) dX5_show_70 hw (fun I5 hw => ?_)
    refine x_iinc hC 4 dX5_show_71 rfl (by decide) (L2 := [(4, vi (l4 + 1)), (0, vr 2), (1, vr l1), (2, vr l2), (3, vi l3)]) rfl hw (fun hw => ?_)
    refine wm_goto (tgt := 33) hC dX5_show_74 (by decide) ?_
    refine wm_sub [1, 2, 3, 4, 0] (L2 := [(0, vr 2), (1, vr l1), (2, vr l2), (3, vi l3), (4, vi (l4 + 1))]) rfl ?_
    exact kk33 _ _ hw
set_option maxRecDepth 20000 in
theorem w5_show_b33 {C : wX} {ad : Nat → Nat} {n : Nat} {J : mI} {R : mR} {Q : mI → Prop} (hC : wOK C cX5_show 6 RX5) (hRm : wRm C 3 54 0 0) (hE : wEnd C none ad n (fun _ I' J' R' => (J' = J ∧ R' = R) ∧ Q I')) (hRF : RF R) {l1 : Nat} {l2 : Nat} {l3 : Int}   (h1 : isLd l1) (h2 : isSt l2)  : ∀ (f : Nat) (l4 : Int) (I : mI), p5_show_b33 l1 l2 l3 Q f l4 I → WM C ad n I J R 0 0 33 [(0, vr 2), (1, vr l1), (2, vr l2), (3, vi l3), (4, vi l4)] [] := by
  intro f
  induction f with
  | zero => intro l4 I hw; exact hw.elim
  | succ f ih => intro l4 I hw; exact w5_show_b33_body hC hRm hE hRF h1 h2 (fun a0 a1 aw => ih a0 a1 aw) hw
def p5_show (l1 : Nat) (l2 : Nat) (I : mI) (Q : mI → Prop) : Prop := (p5_pairAt 0 I (fun r1 => (wLet (up I l2 0 r1) (fun I1 => (p5_pairAt 2 I1 (fun r2 => (wLet (up I1 l2 1 r2) (fun I2 => (wLet (up I2 l2 2 0) (fun I3 => (∃ f, p5_show_b33 l1 l2 (I (l1 + 1) 0) Q f 0 I3)))))))))))
set_option maxRecDepth 20000 in
theorem c5_show {ad : Nat → Nat} {n : Nat} {I J : mI} {R : mR} {Q : mI → Prop}  (hRF : RF R) {l1 : Nat} {l2 : Nat}  (h1 : isLd l1) (h2 : isSt l2) (hw : p5_show l1 l2 I Q) : wMet yX5_show cX5_show 6 none 3 54 false ad n I J R [vr 2, vr l1, vr l2] (fun _ I' J' R' => (J' = J ∧ R' = R) ∧ Q I') := by
  refine wMet_of (by decide) (Nat.le_of_ble_eq_true rfl) (fun C hC hRm hE hS => ?_)
  refine (show WM C ad n I J R 0 0 0 [(0, vr 2), (1, vr l1), (2, vr l2)] [] from ?_)
  unfold p5_show at hw
  refine wm_aload_n hC 1 dX5_show_0 rfl (k_ne0 (ld_k0 h1) (by decide)) ?_
  refine x_getR3 hC 0 fl_X5_31 rfl (ld_k0 h1) (rfd_0 hRF h1) dX5_show_1 ?_
  refine wm_iconst hC dX5_show_4 (k := ?_)
  refine x_ialdK hC (ld_k1 h1) (ld_n1 h1) (by decide) (by decide) dX5_show_5 ?_
  refine wm_istore_n hC dX5_show_6 (by decide) (L2 := [(3, vi (I (l1 + 1) 0)), (0, vr 2), (1, vr l1), (2, vr l2)]) rfl ?_
  refine wm_aload_n hC 3 dX5_show_7 rfl (k_ne0 (st_k0 h2) (by decide)) ?_
  refine wm_aload_n hC 1 dX5_show_8 rfl (k_ne0 kk_2 (by decide)) ?_
  refine wm_iconst hC dX5_show_9 (k := ?_)
  refine y_callS_i_n hC hRm noS ml_X5_52 (c5_pairAt hRF  hw) (Nat.le_of_ble_eq_true rfl) (Nat.le_of_ble_eq_true rfl) ⟨Nat.zero_le _, Nat.zero_le _⟩ rfl (st := [vr l2]) rfl (Nat.le_of_ble_eq_true rfl) dX5_show_10 (fun r1 hw => ?_)
  refine x_putI hC 0 fl_X5_19 rfl (st_k0 h2) dX5_show_13 hw (fun I1 hw => ?_)
  refine wm_aload_n hC 3 dX5_show_16 rfl (k_ne0 (st_k0 h2) (by decide)) ?_
  refine wm_aload_n hC 1 dX5_show_17 rfl (k_ne0 kk_2 (by decide)) ?_
  refine wm_iconst hC dX5_show_18 (k := ?_)
  refine y_callS_i_n hC hRm noS ml_X5_52 (c5_pairAt hRF  hw) (Nat.le_of_ble_eq_true rfl) (Nat.le_of_ble_eq_true rfl) ⟨Nat.zero_le _, Nat.zero_le _⟩ rfl (st := [vr l2]) rfl (Nat.le_of_ble_eq_true rfl) dX5_show_19 (fun r2 hw => ?_)
  refine x_putI hC 1 fl_X5_28 rfl (st_k0 h2) dX5_show_22 hw (fun I2 hw => ?_)
  refine wm_aload_n hC 3 dX5_show_25 rfl (k_ne0 (st_k0 h2) (by decide)) ?_
  refine wm_iconst hC dX5_show_26 (k := ?_)
  refine x_putI hC 2 fl_X5_68 rfl (st_k0 h2) dX5_show_27 hw (fun I3 hw => ?_)
  refine wm_iconst hC dX5_show_30 (k := ?_)
  refine wm_istore hC dX5_show_31 (by decide) (L2 := [(4, vi 0), (3, vi (I (l1 + 1) 0)), (0, vr 2), (1, vr l1), (2, vr l2)]) rfl ?_
  obtain ⟨f, hw⟩ := hw
  refine wm_sub [2, 3, 4, 1, 0] (L2 := [(0, vr 2), (1, vr l1), (2, vr l2), (3, vi (I (l1 + 1) 0)), (4, vi 0)]) rfl ?_
  exact w5_show_b33 hC hRm hE hRF h1 h2 f _ _ hw
def p11_on_b39 (l1 : Int) (I : mI) (R : mR) (Q : Int → mI → Prop) : Prop := (wLet (up I 2 1 0) (fun I3 => (if l1 = 0 then (p11_refuseIt 5 I3 (fun r2 I4 => (if r2 = 0 then (Q 0 I4) else (Q 1 I4)))) else (Q 1 I3))))
set_option maxRecDepth 20000 in
theorem w11_on_b39 {C : wX} {ad : Nat → Nat} {n : Nat} {I J : mI} {R : mR} {Q : Int → mI → Prop} (hC : wOK C cX11_on 2 RX11) (hRm : wRm C 4 81 0 0) (hE : wEnd C (some .boolean) ad n (fun r I' J' R' => (J' = J ∧ R' = R) ∧ Q r I')) (hRF : RF R) {l1 : Int}     (hw : p11_on_b39 l1 I R Q) : WM C ad n I J R 0 0 39 [(0, vr 1), (1, vi l1)] [] := by
  unfold p11_on_b39 at hw
  refine wm_aload_n hC 0 dX11_on_39 rfl (k_ne0 kk_1 (by decide)) ?_
  refine x_getR3 hC 0 fl_X11_10 rfl kk_1 (rf_1_0 hRF) dX11_on_40 ?_
  refine wm_iconst hC dX11_on_43 (k := ?_)
  refine x_putI hC 1 fl_X11_114 rfl kk_2 dX11_on_44 hw (fun I3 hw => ?_)
  refine wm_iload_n hC 1 dX11_on_47 rfl ?_
  refine wm_if_ne (tgt := 59) hC dX11_on_48 (by decide) hw (fun hw => ?_) (fun hw => ?_)
  · refine wm_aload_n hC 0 dX11_on_51 rfl (k_ne0 kk_1 (by decide)) ?_
    refine wm_iconst hC dX11_on_52 (k := ?_)
    refine y_callV_z_I hC hRm noS ml_X11_125 kk_1 (c11_refuseIt hRF  hw) (Nat.le_of_ble_eq_true rfl) (Nat.le_of_ble_eq_true rfl) ⟨Nat.zero_le _, Nat.zero_le _⟩ rfl (st := []) rfl (Nat.le_of_ble_eq_true rfl) dX11_on_53 (fun r2 I4 hw => ?_)
    refine wm_if_eq (tgt := 63) hC dX11_on_56 (by decide) hw (fun hw => ?_) (fun hw => ?_)
    · refine wm_iconst hC dX11_on_63 (k := ?_)
      exact wm_zreturn hC hE (Or.inl rfl) dX11_on_64 ⟨⟨rfl, rfl⟩, hw⟩
    · refine wm_iconst hC dX11_on_59 (k := ?_)
      refine wm_goto (tgt := 64) hC dX11_on_60 (by decide) ?_
      exact wm_zreturn hC hE (Or.inr rfl) dX11_on_64 ⟨⟨rfl, rfl⟩, hw⟩
  · refine wm_iconst hC dX11_on_59 (k := ?_)
    refine wm_goto (tgt := 64) hC dX11_on_60 (by decide) ?_
    exact wm_zreturn hC hE (Or.inr rfl) dX11_on_64 ⟨⟨rfl, rfl⟩, hw⟩
def p11_on (I : mI) (R : mR) (Q : Int → mI → Prop) : Prop := (isLd (R 1 12) ∧ (p5_fits (R 1 12) I (fun r1 => (if r1 = 0 then (p11_on_b39 r1 I R Q) else (isLd (R 1 12) ∧ (p5_show (R 1 12) 7 I (fun I1 => (wLet (up I1 17 2 0) (fun I2 => (p11_on_b39 r1 I2 R Q))))))))))
set_option maxRecDepth 20000 in
theorem c11_on {ad : Nat → Nat} {n : Nat} {I J : mI} {R : mR} {Q : Int → mI → Prop}  (hRF : RF R)   (hw : p11_on I R Q) : wMet yX11_on cX11_on 2 (some .boolean) 4 81 false ad n I J R [vr 1] (fun r I' J' R' => (J' = J ∧ R' = R) ∧ Q r I') := by
  refine wMet_of (by decide) (Nat.le_of_ble_eq_true rfl) (fun C hC hRm hE hS => ?_)
  refine (show WM C ad n I J R 0 0 0 [(0, vr 1)] [] from ?_)
  unfold p11_on at hw
  refine wm_aload_n hC 0 dX11_on_0 rfl (k_ne0 kk_1 (by decide)) ?_
  refine x_getR3 hC 0 fl_X11_10 rfl kk_1 (rf_1_0 hRF) dX11_on_1 ?_
  refine wm_aload_n hC 0 dX11_on_4 rfl (k_ne0 kk_1 (by decide)) ?_
  refine x_getRD hC 12 fl_X11_57 rfl kk_1 dX11_on_5 hw (fun g1 hw => ?_)
  refine y_callS_z_n hC hRm noS ml_X11_301 (c5_fits hRF g1 hw) (Nat.le_of_ble_eq_true rfl) (Nat.le_of_ble_eq_true rfl) ⟨Nat.zero_le _, Nat.zero_le _⟩ rfl (st := []) rfl (Nat.le_of_ble_eq_true rfl) dX11_on_8 (fun r1 hw => ?_)
  refine wm_istore_n hC dX11_on_11 (by decide) (L2 := [(1, vi r1), (0, vr 1)]) rfl ?_
  refine wm_iload_n hC 0 dX11_on_12 rfl ?_
  refine wm_if_eq (tgt := 39) hC dX11_on_13 (by decide) hw (fun hw => ?_) (fun hw => ?_)
  · refine wm_sub [1, 0] (L2 := [(0, vr 1), (1, vi r1)]) rfl ?_
    exact w11_on_b39 hC hRm hE hRF  hw
  · refine wm_aload_n hC 1 dX11_on_16 rfl (k_ne0 kk_1 (by decide)) ?_
    refine x_getR3 hC 0 fl_X11_10 rfl kk_1 (rf_1_0 hRF) dX11_on_17 ?_
    refine wm_aload_n hC 1 dX11_on_20 rfl (k_ne0 kk_1 (by decide)) ?_
    refine x_getRD hC 12 fl_X11_57 rfl kk_1 dX11_on_21 hw (fun g2 hw => ?_)
    refine wm_aload_n hC 1 dX11_on_24 rfl (k_ne0 kk_1 (by decide)) ?_
    refine x_getR3 hC 2 fl_X11_26 rfl kk_1 (rf_1_2 hRF) dX11_on_25 ?_
    refine y_callS_v_I hC hRm noS ml_X11_304 (c5_show hRF g2 isSt_7 hw) (Nat.le_of_ble_eq_true rfl) (Nat.le_of_ble_eq_true rfl) ⟨Nat.zero_le _, Nat.zero_le _⟩ rfl (st := []) rfl (Nat.le_of_ble_eq_true rfl) dX11_on_28 (fun I1 hw => ?_)
    refine wm_aload_n hC 1 dX11_on_31 rfl (k_ne0 kk_1 (by decide)) ?_
    refine x_getR3 hC 4 fl_X11_36 rfl kk_1 (rf_1_4 hRF) dX11_on_32 ?_
    refine wm_iconst hC dX11_on_35 (k := ?_)
    refine x_putI hC 2 fl_X11_139 rfl kk_17 dX11_on_36 hw (fun I2 hw => ?_)
    refine wm_sub [1, 0] (L2 := [(0, vr 1), (1, vi r1)]) rfl ?_
    exact w11_on_b39 hC hRm hE hRF  hw
def p11_order (l1 : Int) (l2 : Int) (l3 : Int) (I : mI) (J : mI) (R : mR) (Q : Int → mI → mI → mR → Prop) : Prop := (isLd (R 1 12) ∧ (p3_isThere (R 1 12) 2 l1 I (fun r1 => (if r1 = 0 then (Q (-1) I J R) else (isLd (R 1 12) ∧ (p3_isThere (R 1 12) 1 l2 I (fun r2 => (if r2 = 0 then (Q (-1) I J R) else (isLd (R 1 12) ∧ (p3_isThere (R 1 12) 0 l3 I (fun r3 => (if r3 = 0 then (Q (-1) I J R) else (isLd (R 1 12) ∧ (p1_sit (R 1 12) 7 l1 I J R (fun I1 J1 R1 => (p1_firstOrder 121 l2 I1 J1 R1 (fun r4 I2 J2 => (if r4 = 0 then (Q (-1) I2 J2 R1) else (((0 : Int) ≤ l3 ∧ l3 < (6 : Int)) ∧ (Q (I2 121 l3) I2 J2 R1))))))))))))))))))))
set_option maxRecDepth 20000 in
theorem c11_order {ad : Nat → Nat} {n : Nat} {I J : mI} {R : mR} {Q : Int → mI → mI → mR → Prop}  (hRF : RF R) {l1 : Int} {l2 : Int} {l3 : Int}     (hw : p11_order l1 l2 l3 I J R Q) : wMet yX11_order cX11_order 4 (some .int) 7 163 false ad n I J R [vr 1, vi l1, vi l2, vi l3] (fun r I' J' R' => (True) ∧ (RF R' ∧ Q r I' J' R')) := by
  refine wMet_of (by decide) (Nat.le_of_ble_eq_true rfl) (fun C hC hRm hE hS => ?_)
  refine (show WM C ad n I J R 0 0 0 [(0, vr 1), (1, vi l1), (2, vi l2), (3, vi l3)] [] from ?_)
  unfold p11_order at hw
  refine wm_aload_n hC 0 dX11_order_0 rfl (k_ne0 kk_1 (by decide)) ?_
  refine x_getRD hC 12 fl_X11_57 rfl kk_1 dX11_order_1 hw (fun g1 hw => ?_)
  refine wm_iconst hC dX11_order_4 (k := ?_)
  refine wm_iload_n hC 1 dX11_order_5 rfl ?_
  refine y_callV_z_n hC hRm noS ml_X11_167 (ld_k0 g1) (c3_isThere hRF g1 hw) (Nat.le_of_ble_eq_true rfl) (Nat.le_of_ble_eq_true rfl) ⟨Nat.zero_le _, Nat.zero_le _⟩ rfl (st := []) rfl (Nat.le_of_ble_eq_true rfl) dX11_order_6 (fun r1 hw => ?_)
  refine wm_if_eq (tgt := 36) hC dX11_order_9 (by decide) hw (fun hw => ?_) (fun hw => ?_)
  · refine wm_iconst hC dX11_order_36 (k := ?_)
    exact wm_ireturn hC hE dX11_order_37 ⟨trivial, ⟨hRF, hw⟩⟩
  · refine wm_aload_n hC 0 dX11_order_12 rfl (k_ne0 kk_1 (by decide)) ?_
    refine x_getRD hC 12 fl_X11_57 rfl kk_1 dX11_order_13 hw (fun g2 hw => ?_)
    refine wm_iconst hC dX11_order_16 (k := ?_)
    refine wm_iload_n hC 2 dX11_order_17 rfl ?_
    refine y_callV_z_n hC hRm noS ml_X11_167 (ld_k0 g2) (c3_isThere hRF g2 hw) (Nat.le_of_ble_eq_true rfl) (Nat.le_of_ble_eq_true rfl) ⟨Nat.zero_le _, Nat.zero_le _⟩ rfl (st := []) rfl (Nat.le_of_ble_eq_true rfl) dX11_order_18 (fun r2 hw => ?_)
    refine wm_if_eq (tgt := 36) hC dX11_order_21 (by decide) hw (fun hw => ?_) (fun hw => ?_)
    · refine wm_iconst hC dX11_order_36 (k := ?_)
      exact wm_ireturn hC hE dX11_order_37 ⟨trivial, ⟨hRF, hw⟩⟩
    · refine wm_aload_n hC 0 dX11_order_24 rfl (k_ne0 kk_1 (by decide)) ?_
      refine x_getRD hC 12 fl_X11_57 rfl kk_1 dX11_order_25 hw (fun g3 hw => ?_)
      refine wm_iconst hC dX11_order_28 (k := ?_)
      refine wm_iload_n hC 3 dX11_order_29 rfl ?_
      refine y_callV_z_n hC hRm noS ml_X11_167 (ld_k0 g3) (c3_isThere hRF g3 hw) (Nat.le_of_ble_eq_true rfl) (Nat.le_of_ble_eq_true rfl) ⟨Nat.zero_le _, Nat.zero_le _⟩ rfl (st := []) rfl (Nat.le_of_ble_eq_true rfl) dX11_order_30 (fun r3 hw => ?_)
      refine wm_if_ne (tgt := 38) hC dX11_order_33 (by decide) hw (fun hw => ?_) (fun hw => ?_)
      · refine wm_iconst hC dX11_order_36 (k := ?_)
        exact wm_ireturn hC hE dX11_order_37 ⟨trivial, ⟨hRF, hw⟩⟩
      · refine wm_aload_n hC 0 dX11_order_38 rfl (k_ne0 kk_1 (by decide)) ?_
        refine x_getR3 hC 9 fl_X11_88 rfl kk_1 (rf_1_9 hRF) dX11_order_39 ?_
        refine wm_aload_n hC 0 dX11_order_42 rfl (k_ne0 kk_1 (by decide)) ?_
        refine x_getRD hC 12 fl_X11_57 rfl kk_1 dX11_order_43 hw (fun g4 hw => ?_)
        refine wm_aload_n hC 0 dX11_order_46 rfl (k_ne0 kk_1 (by decide)) ?_
        refine x_getR3 hC 2 fl_X11_26 rfl kk_1 (rf_1_2 hRF) dX11_order_47 ?_
        refine wm_iload_n hC 1 dX11_order_50 rfl ?_
        refine y_callV_v_IJR hC hRm noS ml_X11_187 kk_146 (c1_sit hRF g4 isSt_7 hw) (Nat.le_of_ble_eq_true rfl) (Nat.le_of_ble_eq_true rfl) ⟨Nat.zero_le _, Nat.zero_le _⟩ rfl (st := []) rfl (Nat.le_of_ble_eq_true rfl) dX11_order_51 (fun I1 J1 R1 hw => ?_)
        obtain ⟨rf1, hw⟩ := hw
        refine wm_aload_n hC 0 dX11_order_54 rfl (k_ne0 kk_1 (by decide)) ?_
        refine x_getR3 hC 9 fl_X11_88 rfl kk_1 (rf_1_9 rf1) dX11_order_55 ?_
        refine wm_aload_n hC 0 dX11_order_58 rfl (k_ne0 kk_1 (by decide)) ?_
        refine x_getR3 hC 6 fl_X11_47 rfl kk_1 (rf_1_6 rf1) dX11_order_59 ?_
        refine wm_iload_n hC 2 dX11_order_62 rfl ?_
        refine y_callV_z_IJ hC hRm noS ml_X11_233 kk_146 (c1_firstOrder rf1 ⟨kk_121, kn_121⟩ hw) (Nat.le_of_ble_eq_true rfl) (Nat.le_of_ble_eq_true rfl) ⟨Nat.zero_le _, Nat.zero_le _⟩ rfl (st := []) rfl (Nat.le_of_ble_eq_true rfl) dX11_order_63 (fun r4 I2 J2 hw => ?_)
        refine wm_if_eq (tgt := 78) hC dX11_order_66 (by decide) hw (fun hw => ?_) (fun hw => ?_)
        · refine wm_iconst hC dX11_order_78 (k := ?_)
          exact wm_ireturn hC hE dX11_order_79 ⟨trivial, ⟨rf1, hw⟩⟩
        · refine wm_aload_n hC 0 dX11_order_69 rfl (k_ne0 kk_1 (by decide)) ?_
          refine x_getR3 hC 6 fl_X11_47 rfl kk_1 (rf_1_6 rf1) dX11_order_70 ?_
          refine wm_iload_n hC 3 dX11_order_73 rfl ?_
          refine x_iald2 hC kk_121 kn_121 dX11_order_74 hw (fun hw => ?_)
          refine wm_goto (tgt := 79) hC dX11_order_75 (by decide) ?_
          exact wm_ireturn hC hE dX11_order_79 ⟨trivial, ⟨rf1, hw⟩⟩
def p11_orders (l1 : Int) (l2 : Int) (I : mI) (J : mI) (R : mR) (Q : Int → mI → mI → mR → Prop) : Prop := (isLd (R 1 12) ∧ (p3_isThere (R 1 12) 2 l1 I (fun r1 => (if r1 = 0 then (Q (-1) I J R) else (isLd (R 1 12) ∧ (p3_isThere (R 1 12) 1 l2 I (fun r2 => (if r2 = 0 then (Q (-1) I J R) else (isLd (R 1 12) ∧ (p1_sit (R 1 12) 7 l1 I J R (fun I1 J1 R1 => (p1_countOrders 121 l2 I1 J1 R1 (fun r3 I2 J2 => (Q r3 I2 J2 R1))))))))))))))
set_option maxRecDepth 20000 in
theorem c11_orders {ad : Nat → Nat} {n : Nat} {I J : mI} {R : mR} {Q : Int → mI → mI → mR → Prop}  (hRF : RF R) {l1 : Int} {l2 : Int}    (hw : p11_orders l1 l2 I J R Q) : wMet yX11_orders cX11_orders 3 (some .int) 7 164 false ad n I J R [vr 1, vi l1, vi l2] (fun r I' J' R' => (True) ∧ (RF R' ∧ Q r I' J' R')) := by
  refine wMet_of (by decide) (Nat.le_of_ble_eq_true rfl) (fun C hC hRm hE hS => ?_)
  refine (show WM C ad n I J R 0 0 0 [(0, vr 1), (1, vi l1), (2, vi l2)] [] from ?_)
  unfold p11_orders at hw
  refine wm_aload_n hC 0 dX11_orders_0 rfl (k_ne0 kk_1 (by decide)) ?_
  refine x_getRD hC 12 fl_X11_57 rfl kk_1 dX11_orders_1 hw (fun g1 hw => ?_)
  refine wm_iconst hC dX11_orders_4 (k := ?_)
  refine wm_iload_n hC 1 dX11_orders_5 rfl ?_
  refine y_callV_z_n hC hRm noS ml_X11_167 (ld_k0 g1) (c3_isThere hRF g1 hw) (Nat.le_of_ble_eq_true rfl) (Nat.le_of_ble_eq_true rfl) ⟨Nat.zero_le _, Nat.zero_le _⟩ rfl (st := []) rfl (Nat.le_of_ble_eq_true rfl) dX11_orders_6 (fun r1 hw => ?_)
  refine wm_if_eq (tgt := 24) hC dX11_orders_9 (by decide) hw (fun hw => ?_) (fun hw => ?_)
  · refine wm_iconst hC dX11_orders_24 (k := ?_)
    exact wm_ireturn hC hE dX11_orders_25 ⟨trivial, ⟨hRF, hw⟩⟩
  · refine wm_aload_n hC 0 dX11_orders_12 rfl (k_ne0 kk_1 (by decide)) ?_
    refine x_getRD hC 12 fl_X11_57 rfl kk_1 dX11_orders_13 hw (fun g2 hw => ?_)
    refine wm_iconst hC dX11_orders_16 (k := ?_)
    refine wm_iload_n hC 2 dX11_orders_17 rfl ?_
    refine y_callV_z_n hC hRm noS ml_X11_167 (ld_k0 g2) (c3_isThere hRF g2 hw) (Nat.le_of_ble_eq_true rfl) (Nat.le_of_ble_eq_true rfl) ⟨Nat.zero_le _, Nat.zero_le _⟩ rfl (st := []) rfl (Nat.le_of_ble_eq_true rfl) dX11_orders_18 (fun r2 hw => ?_)
    refine wm_if_ne (tgt := 26) hC dX11_orders_21 (by decide) hw (fun hw => ?_) (fun hw => ?_)
    · refine wm_iconst hC dX11_orders_24 (k := ?_)
      exact wm_ireturn hC hE dX11_orders_25 ⟨trivial, ⟨hRF, hw⟩⟩
    · refine wm_aload_n hC 0 dX11_orders_26 rfl (k_ne0 kk_1 (by decide)) ?_
      refine x_getR3 hC 9 fl_X11_88 rfl kk_1 (rf_1_9 hRF) dX11_orders_27 ?_
      refine wm_aload_n hC 0 dX11_orders_30 rfl (k_ne0 kk_1 (by decide)) ?_
      refine x_getRD hC 12 fl_X11_57 rfl kk_1 dX11_orders_31 hw (fun g3 hw => ?_)
      refine wm_aload_n hC 0 dX11_orders_34 rfl (k_ne0 kk_1 (by decide)) ?_
      refine x_getR3 hC 2 fl_X11_26 rfl kk_1 (rf_1_2 hRF) dX11_orders_35 ?_
      refine wm_iload_n hC 1 dX11_orders_38 rfl ?_
      refine y_callV_v_IJR hC hRm noS ml_X11_187 kk_146 (c1_sit hRF g3 isSt_7 hw) (Nat.le_of_ble_eq_true rfl) (Nat.le_of_ble_eq_true rfl) ⟨Nat.zero_le _, Nat.zero_le _⟩ rfl (st := []) rfl (Nat.le_of_ble_eq_true rfl) dX11_orders_39 (fun I1 J1 R1 hw => ?_)
      obtain ⟨rf1, hw⟩ := hw
      refine wm_aload_n hC 0 dX11_orders_42 rfl (k_ne0 kk_1 (by decide)) ?_
      refine x_getR3 hC 9 fl_X11_88 rfl kk_1 (rf_1_9 rf1) dX11_orders_43 ?_
      refine wm_aload_n hC 0 dX11_orders_46 rfl (k_ne0 kk_1 (by decide)) ?_
      refine x_getR3 hC 6 fl_X11_47 rfl kk_1 (rf_1_6 rf1) dX11_orders_47 ?_
      refine wm_iload_n hC 2 dX11_orders_50 rfl ?_
      refine y_callV_i_IJ hC hRm noS ml_X11_237 kk_146 (c1_countOrders rf1 ⟨kk_121, kn_121⟩ hw) (Nat.le_of_ble_eq_true rfl) (Nat.le_of_ble_eq_true rfl) ⟨Nat.zero_le _, Nat.zero_le _⟩ rfl (st := []) rfl (Nat.le_of_ble_eq_true rfl) dX11_orders_51 (fun r3 I2 J2 hw => ?_)
      exact wm_ireturn hC hE dX11_orders_54 ⟨trivial, ⟨rf1, hw⟩⟩
def p11_paint_b29 (l1 : Int) (l2 : Int) (I : mI) (R : mR) (Q : Int → mI → Prop) : Prop := (((0 : Int) ≤ l1 ∧ l1 < (6 : Int)) ∧ (if (I 10 l1) = l2 then (p11_refuseIt 3 I (fun r5 I5 => ((r5 = 0 ∨ r5 = 1) ∧ (Q r5 I5)))) else (p4_add 7 I (fun I3 => (((0 : Int) ≤ l1 ∧ l1 < (6 : Int)) ∧ wLet (up I3 10 l1 l2) (fun I4 => (Q 1 I4)))))))
set_option maxRecDepth 20000 in
theorem w11_paint_b29 {C : wX} {ad : Nat → Nat} {n : Nat} {I J : mI} {R : mR} {Q : Int → mI → Prop} (hC : wOK C cX11_paint 3 RX11) (hRm : wRm C 3 102 0 0) (hE : wEnd C (some .boolean) ad n (fun r I' J' R' => (J' = J ∧ R' = R) ∧ Q r I')) (hRF : RF R) {l1 : Int} {l2 : Int}     (hw : p11_paint_b29 l1 l2 I R Q) : WM C ad n I J R 0 0 29 [(0, vr 1), (1, vi l1), (2, vi l2)] [] := by
  unfold p11_paint_b29 at hw
  refine wm_aload_n hC 0 dX11_paint_29 rfl (k_ne0 kk_1 (by decide)) ?_
  refine x_getR3 hC 2 fl_X11_26 rfl kk_1 (rf_1_2 hRF) dX11_paint_30 ?_
  refine x_getR3 hC 5 fl_X11_157 rfl kk_7 (rfs_5 hRF isSt_7) dX11_paint_33 ?_
  refine wm_iload_n hC 1 dX11_paint_36 rfl ?_
  refine x_iald2 hC kk_10 kn_10 dX11_paint_37 hw (fun hw => ?_)
  refine wm_iload_n hC 2 dX11_paint_38 rfl ?_
  refine wm_icmp_ne (tgt := 48) hC dX11_paint_39 (by decide) hw (fun hw => ?_) (fun hw => ?_)
  · refine wm_aload_n hC 0 dX11_paint_42 rfl (k_ne0 kk_1 (by decide)) ?_
    refine wm_iconst hC dX11_paint_43 (k := ?_)
    refine y_callV_z_I hC hRm noS ml_X11_125 kk_1 (c11_refuseIt hRF  hw) (Nat.le_of_ble_eq_true rfl) (Nat.le_of_ble_eq_true rfl) ⟨Nat.zero_le _, Nat.zero_le _⟩ rfl (st := []) rfl (Nat.le_of_ble_eq_true rfl) dX11_paint_44 (fun r5 I5 hw => ?_)
    obtain ⟨z01, hw⟩ := hw
    exact wm_zreturn hC hE z01 dX11_paint_47 ⟨⟨rfl, rfl⟩, hw⟩
  · refine wm_aload_n hC 0 dX11_paint_48 rfl (k_ne0 kk_1 (by decide)) ?_
    refine x_getR3 hC 4 fl_X11_36 rfl kk_1 (rf_1_4 hRF) dX11_paint_49 ?_
    refine wm_aload_n hC 0 dX11_paint_52 rfl (k_ne0 kk_1 (by decide)) ?_
    refine x_getR3 hC 2 fl_X11_26 rfl kk_1 (rf_1_2 hRF) dX11_paint_53 ?_
    refine y_callV_v_I hC hRm noS ml_X11_274 kk_17 (c4_add hRF isSt_7 hw) (Nat.le_of_ble_eq_true rfl) (Nat.le_of_ble_eq_true rfl) ⟨Nat.zero_le _, Nat.zero_le _⟩ rfl (st := []) rfl (Nat.le_of_ble_eq_true rfl) dX11_paint_56 (fun I3 hw => ?_)
    refine wm_aload_n hC 0 dX11_paint_59 rfl (k_ne0 kk_1 (by decide)) ?_
    refine x_getR3 hC 2 fl_X11_26 rfl kk_1 (rf_1_2 hRF) dX11_paint_60 ?_
    refine x_getR3 hC 5 fl_X11_157 rfl kk_7 (rfs_5 hRF isSt_7) dX11_paint_63 ?_
    refine wm_iload_n hC 1 dX11_paint_66 rfl ?_
    refine wm_iload_n hC 2 dX11_paint_67 rfl ?_
    refine x_iast2 hC kk_10 kn_10 dX11_paint_68 hw (fun I4 hw => ?_)
    refine wm_iconst hC dX11_paint_69 (k := ?_)
    exact wm_zreturn hC hE (Or.inr rfl) dX11_paint_70 ⟨⟨rfl, rfl⟩, hw⟩
def p11_paint (l1 : Int) (l2 : Int) (I : mI) (R : mR) (Q : Int → mI → Prop) : Prop := (isLd (R 1 12) ∧ (p3_isThere (R 1 12) 2 l1 I (fun r1 => (if r1 = 0 then (p11_refuseIt 3 I (fun r2 I1 => ((r2 = 0 ∨ r2 = 1) ∧ (Q r2 I1)))) else (if l2 = (-1) then (p11_paint_b29 l1 l2 I R Q) else (isLd (R 1 12) ∧ (p3_isThere (R 1 12) 1 l2 I (fun r3 => (if r3 = 0 then (p11_refuseIt 3 I (fun r4 I2 => ((r4 = 0 ∨ r4 = 1) ∧ (Q r4 I2)))) else (p11_paint_b29 l1 l2 I R Q))))))))))
set_option maxRecDepth 20000 in
theorem c11_paint {ad : Nat → Nat} {n : Nat} {I J : mI} {R : mR} {Q : Int → mI → Prop}  (hRF : RF R) {l1 : Int} {l2 : Int}    (hw : p11_paint l1 l2 I R Q) : wMet yX11_paint cX11_paint 3 (some .boolean) 3 102 false ad n I J R [vr 1, vi l1, vi l2] (fun r I' J' R' => (J' = J ∧ R' = R) ∧ Q r I') := by
  refine wMet_of (by decide) (Nat.le_of_ble_eq_true rfl) (fun C hC hRm hE hS => ?_)
  refine (show WM C ad n I J R 0 0 0 [(0, vr 1), (1, vi l1), (2, vi l2)] [] from ?_)
  unfold p11_paint at hw
  refine wm_aload_n hC 0 dX11_paint_0 rfl (k_ne0 kk_1 (by decide)) ?_
  refine x_getRD hC 12 fl_X11_57 rfl kk_1 dX11_paint_1 hw (fun g1 hw => ?_)
  refine wm_iconst hC dX11_paint_4 (k := ?_)
  refine wm_iload_n hC 1 dX11_paint_5 rfl ?_
  refine y_callV_z_n hC hRm noS ml_X11_167 (ld_k0 g1) (c3_isThere hRF g1 hw) (Nat.le_of_ble_eq_true rfl) (Nat.le_of_ble_eq_true rfl) ⟨Nat.zero_le _, Nat.zero_le _⟩ rfl (st := []) rfl (Nat.le_of_ble_eq_true rfl) dX11_paint_6 (fun r1 hw => ?_)
  refine wm_if_eq (tgt := 42) hC dX11_paint_9 (by decide) hw (fun hw => ?_) (fun hw => ?_)
  · refine wm_aload_n hC 0 dX11_paint_42 rfl (k_ne0 kk_1 (by decide)) ?_
    refine wm_iconst hC dX11_paint_43 (k := ?_)
    refine y_callV_z_I hC hRm noS ml_X11_125 kk_1 (c11_refuseIt hRF  hw) (Nat.le_of_ble_eq_true rfl) (Nat.le_of_ble_eq_true rfl) ⟨Nat.zero_le _, Nat.zero_le _⟩ rfl (st := []) rfl (Nat.le_of_ble_eq_true rfl) dX11_paint_44 (fun r2 I1 hw => ?_)
    obtain ⟨z01, hw⟩ := hw
    exact wm_zreturn hC hE z01 dX11_paint_47 ⟨⟨rfl, rfl⟩, hw⟩
  · refine wm_iload_n hC 2 dX11_paint_12 rfl ?_
    refine wm_iconst hC dX11_paint_13 (k := ?_)
    refine wm_icmp_eq (tgt := 29) hC dX11_paint_14 (by decide) hw (fun hw => ?_) (fun hw => ?_)
    · exact w11_paint_b29 hC hRm hE hRF  hw
    · refine wm_aload_n hC 0 dX11_paint_17 rfl (k_ne0 kk_1 (by decide)) ?_
      refine x_getRD hC 12 fl_X11_57 rfl kk_1 dX11_paint_18 hw (fun g2 hw => ?_)
      refine wm_iconst hC dX11_paint_21 (k := ?_)
      refine wm_iload_n hC 2 dX11_paint_22 rfl ?_
      refine y_callV_z_n hC hRm noS ml_X11_167 (ld_k0 g2) (c3_isThere hRF g2 hw) (Nat.le_of_ble_eq_true rfl) (Nat.le_of_ble_eq_true rfl) ⟨Nat.zero_le _, Nat.zero_le _⟩ rfl (st := []) rfl (Nat.le_of_ble_eq_true rfl) dX11_paint_23 (fun r3 hw => ?_)
      refine wm_if_eq (tgt := 42) hC dX11_paint_26 (by decide) hw (fun hw => ?_) (fun hw => ?_)
      · refine wm_aload_n hC 0 dX11_paint_42 rfl (k_ne0 kk_1 (by decide)) ?_
        refine wm_iconst hC dX11_paint_43 (k := ?_)
        refine y_callV_z_I hC hRm noS ml_X11_125 kk_1 (c11_refuseIt hRF  hw) (Nat.le_of_ble_eq_true rfl) (Nat.le_of_ble_eq_true rfl) ⟨Nat.zero_le _, Nat.zero_le _⟩ rfl (st := []) rfl (Nat.le_of_ble_eq_true rfl) dX11_paint_44 (fun r4 I2 hw => ?_)
        obtain ⟨z01, hw⟩ := hw
        exact wm_zreturn hC hE z01 dX11_paint_47 ⟨⟨rfl, rfl⟩, hw⟩
      · exact w11_paint_b29 hC hRm hE hRF  hw
def p11_power (l1 : Int) (l2 : Int) (I : mI) (J : mI) (R : mR) (Q : Int → mI → mI → mR → Prop) : Prop := (p11_areThere l1 l2 I R (fun r1 => (if r1 = 0 then (Q (-1) I J R) else (isLd (R 1 12) ∧ (p1_sit (R 1 12) 7 l2 I J R (fun I1 J1 R1 => (p1_powerOf l1 I1 J1 R1 (fun r2 I2 J2 => (Q r2 I2 J2 R1)))))))))
set_option maxRecDepth 20000 in
theorem c11_power {ad : Nat → Nat} {n : Nat} {I J : mI} {R : mR} {Q : Int → mI → mI → mR → Prop}  (hRF : RF R) {l1 : Int} {l2 : Int}    (hw : p11_power l1 l2 I J R Q) : wMet yX11_power cX11_power 3 (some .int) 7 162 false ad n I J R [vr 1, vi l1, vi l2] (fun r I' J' R' => (True) ∧ (RF R' ∧ Q r I' J' R')) := by
  refine wMet_of (by decide) (Nat.le_of_ble_eq_true rfl) (fun C hC hRm hE hS => ?_)
  refine (show WM C ad n I J R 0 0 0 [(0, vr 1), (1, vi l1), (2, vi l2)] [] from ?_)
  unfold p11_power at hw
  refine wm_aload_n hC 0 dX11_power_0 rfl (k_ne0 kk_1 (by decide)) ?_
  refine wm_iload_n hC 1 dX11_power_1 rfl ?_
  refine wm_iload_n hC 2 dX11_power_2 rfl ?_
  refine y_callV_z_n hC hRm noS ml_X11_202 kk_1 (c11_areThere hRF  hw) (Nat.le_of_ble_eq_true rfl) (Nat.le_of_ble_eq_true rfl) ⟨Nat.zero_le _, Nat.zero_le _⟩ rfl (st := []) rfl (Nat.le_of_ble_eq_true rfl) dX11_power_3 (fun r1 hw => ?_)
  refine wm_if_ne (tgt := 11) hC dX11_power_6 (by decide) hw (fun hw => ?_) (fun hw => ?_)
  · refine wm_iconst hC dX11_power_9 (k := ?_)
    exact wm_ireturn hC hE dX11_power_10 ⟨trivial, ⟨hRF, hw⟩⟩
  · refine wm_aload_n hC 0 dX11_power_11 rfl (k_ne0 kk_1 (by decide)) ?_
    refine x_getR3 hC 9 fl_X11_88 rfl kk_1 (rf_1_9 hRF) dX11_power_12 ?_
    refine wm_aload_n hC 0 dX11_power_15 rfl (k_ne0 kk_1 (by decide)) ?_
    refine x_getRD hC 12 fl_X11_57 rfl kk_1 dX11_power_16 hw (fun g1 hw => ?_)
    refine wm_aload_n hC 0 dX11_power_19 rfl (k_ne0 kk_1 (by decide)) ?_
    refine x_getR3 hC 2 fl_X11_26 rfl kk_1 (rf_1_2 hRF) dX11_power_20 ?_
    refine wm_iload_n hC 2 dX11_power_23 rfl ?_
    refine y_callV_v_IJR hC hRm noS ml_X11_187 kk_146 (c1_sit hRF g1 isSt_7 hw) (Nat.le_of_ble_eq_true rfl) (Nat.le_of_ble_eq_true rfl) ⟨Nat.zero_le _, Nat.zero_le _⟩ rfl (st := []) rfl (Nat.le_of_ble_eq_true rfl) dX11_power_24 (fun I1 J1 R1 hw => ?_)
    obtain ⟨rf1, hw⟩ := hw
    refine wm_aload_n hC 0 dX11_power_27 rfl (k_ne0 kk_1 (by decide)) ?_
    refine x_getR3 hC 9 fl_X11_88 rfl kk_1 (rf_1_9 rf1) dX11_power_28 ?_
    refine wm_iload_n hC 1 dX11_power_31 rfl ?_
    refine y_callV_i_IJ hC hRm noS ml_X11_240 kk_146 (c1_powerOf rf1  hw) (Nat.le_of_ble_eq_true rfl) (Nat.le_of_ble_eq_true rfl) ⟨Nat.zero_le _, Nat.zero_le _⟩ rfl (st := []) rfl (Nat.le_of_ble_eq_true rfl) dX11_power_32 (fun r2 I2 J2 hw => ?_)
    exact wm_ireturn hC hE dX11_power_35 ⟨trivial, ⟨rf1, hw⟩⟩
def p11_purse (l1 : Int) (I : mI) (J : mI) (R : mR) (Q : Int → mI → mI → mR → Prop) : Prop := (p11_canPass l1 I (fun r1 => (if r1 = 0 then (Q (-1) I J R) else (p11_lookAhead l1 I J R (fun I1 J1 R1 => (Q (I1 12 1) I1 J1 R1))))))
set_option maxRecDepth 20000 in
theorem c11_purse {ad : Nat → Nat} {n : Nat} {I J : mI} {R : mR} {Q : Int → mI → mI → mR → Prop}  (hRF : RF R) {l1 : Int}   (hw : p11_purse l1 I J R Q) : wMet yX11_purse cX11_purse 2 (some .int) 8 190 false ad n I J R [vr 1, vi l1] (fun r I' J' R' => (True) ∧ (RF R' ∧ Q r I' J' R')) := by
  refine wMet_of (by decide) (Nat.le_of_ble_eq_true rfl) (fun C hC hRm hE hS => ?_)
  refine (show WM C ad n I J R 0 0 0 [(0, vr 1), (1, vi l1)] [] from ?_)
  unfold p11_purse at hw
  refine wm_aload_n hC 0 dX11_purse_0 rfl (k_ne0 kk_1 (by decide)) ?_
  refine wm_iload_n hC 1 dX11_purse_1 rfl ?_
  refine y_callV_z_n hC hRm noS ml_X11_227 kk_1 (c11_canPass hRF  hw) (Nat.le_of_ble_eq_true rfl) (Nat.le_of_ble_eq_true rfl) ⟨Nat.zero_le _, Nat.zero_le _⟩ rfl (st := []) rfl (Nat.le_of_ble_eq_true rfl) dX11_purse_2 (fun r1 hw => ?_)
  refine wm_if_ne (tgt := 10) hC dX11_purse_5 (by decide) hw (fun hw => ?_) (fun hw => ?_)
  · refine wm_iconst hC dX11_purse_8 (k := ?_)
    exact wm_ireturn hC hE dX11_purse_9 ⟨trivial, ⟨hRF, hw⟩⟩
  · refine wm_aload_n hC 0 dX11_purse_10 rfl (k_ne0 kk_1 (by decide)) ?_
    refine wm_iload_n hC 1 dX11_purse_11 rfl ?_
    refine y_callV_v_IJR hC hRm noS ml_X11_230 kk_1 (c11_lookAhead hRF  hw) (Nat.le_of_ble_eq_true rfl) (Nat.le_of_ble_eq_true rfl) ⟨Nat.zero_le _, Nat.zero_le _⟩ rfl (st := []) rfl (Nat.le_of_ble_eq_true rfl) dX11_purse_12 (fun I1 J1 R1 hw => ?_)
    obtain ⟨rf1, hw⟩ := hw
    refine wm_aload_n hC 0 dX11_purse_15 rfl (k_ne0 kk_1 (by decide)) ?_
    refine x_getR3 hC 3 fl_X11_30 rfl kk_1 (rf_1_3 rf1) dX11_purse_16 ?_
    refine x_getI hC 1 fl_X11_150 rfl kk_12 dX11_purse_19 ?_
    exact wm_ireturn hC hE dX11_purse_22 ⟨trivial, ⟨rf1, hw⟩⟩
def p11_score (l1 : Int) (l2 : Int) (l3 : Int) (I : mI) (J : mI) (R : mR) (Q : Int → mI → mI → mR → Prop) : Prop := (p11_areThere l1 l2 I R (fun r1 => (if r1 = 0 then (Q (-1000000000000000) I J R) else (isLd (R 1 12) ∧ (p3_isThere (R 1 12) 1 l3 I (fun r2 => (if r2 = 0 then (Q (-1000000000000000) I J R) else (isLd (R 1 12) ∧ (p1_sit (R 1 12) 7 l2 I J R (fun I1 J1 R1 => (p1_scoreOf l1 l3 0 I1 J1 R1 (fun r3 I2 J2 => (Q r3 I2 J2 R1)))))))))))))
set_option maxRecDepth 20000 in
theorem c11_score {ad : Nat → Nat} {n : Nat} {I J : mI} {R : mR} {Q : Int → mI → mI → mR → Prop}  (hRF : RF R) {l1 : Int} {l2 : Int} {l3 : Int}     (hw : p11_score l1 l2 l3 I J R Q) : wMet yX11_score cX11_score 4 (some .long) 4 89 false ad n I J R [vr 1, vi l1, vi l2, vi l3] (fun r I' J' R' => (True) ∧ (RF R' ∧ Q r I' J' R')) := by
  refine wMet_of (by decide) (Nat.le_of_ble_eq_true rfl) (fun C hC hRm hE hS => ?_)
  refine (show WM C ad n I J R 0 0 0 [(0, vr 1), (1, vi l1), (2, vi l2), (3, vi l3)] [] from ?_)
  unfold p11_score at hw
  refine wm_aload_n hC 0 dX11_score_0 rfl (k_ne0 kk_1 (by decide)) ?_
  refine wm_iload_n hC 1 dX11_score_1 rfl ?_
  refine wm_iload_n hC 2 dX11_score_2 rfl ?_
  refine y_callV_z_n hC hRm noS ml_X11_202 kk_1 (c11_areThere hRF  hw) (Nat.le_of_ble_eq_true rfl) (Nat.le_of_ble_eq_true rfl) ⟨Nat.zero_le _, Nat.zero_le _⟩ rfl (st := []) rfl (Nat.le_of_ble_eq_true rfl) dX11_score_3 (fun r1 hw => ?_)
  refine wm_if_eq (tgt := 21) hC dX11_score_6 (by decide) hw (fun hw => ?_) (fun hw => ?_)
  · refine wm_ldc2 hC (x := (-1000000000000000)) tc_X11_205 rfl dX11_score_21 (k := ?_)
    exact wm_lreturn hC hE dX11_score_24 ⟨trivial, ⟨hRF, hw⟩⟩
  · refine wm_aload_n hC 0 dX11_score_9 rfl (k_ne0 kk_1 (by decide)) ?_
    refine x_getRD hC 12 fl_X11_57 rfl kk_1 dX11_score_10 hw (fun g1 hw => ?_)
    refine wm_iconst hC dX11_score_13 (k := ?_)
    refine wm_iload_n hC 3 dX11_score_14 rfl ?_
    refine y_callV_z_n hC hRm noS ml_X11_167 (ld_k0 g1) (c3_isThere hRF g1 hw) (Nat.le_of_ble_eq_true rfl) (Nat.le_of_ble_eq_true rfl) ⟨Nat.zero_le _, Nat.zero_le _⟩ rfl (st := []) rfl (Nat.le_of_ble_eq_true rfl) dX11_score_15 (fun r2 hw => ?_)
    refine wm_if_ne (tgt := 25) hC dX11_score_18 (by decide) hw (fun hw => ?_) (fun hw => ?_)
    · refine wm_ldc2 hC (x := (-1000000000000000)) tc_X11_205 rfl dX11_score_21 (k := ?_)
      exact wm_lreturn hC hE dX11_score_24 ⟨trivial, ⟨hRF, hw⟩⟩
    · refine wm_aload_n hC 0 dX11_score_25 rfl (k_ne0 kk_1 (by decide)) ?_
      refine x_getR3 hC 9 fl_X11_88 rfl kk_1 (rf_1_9 hRF) dX11_score_26 ?_
      refine wm_aload_n hC 0 dX11_score_29 rfl (k_ne0 kk_1 (by decide)) ?_
      refine x_getRD hC 12 fl_X11_57 rfl kk_1 dX11_score_30 hw (fun g2 hw => ?_)
      refine wm_aload_n hC 0 dX11_score_33 rfl (k_ne0 kk_1 (by decide)) ?_
      refine x_getR3 hC 2 fl_X11_26 rfl kk_1 (rf_1_2 hRF) dX11_score_34 ?_
      refine wm_iload_n hC 2 dX11_score_37 rfl ?_
      refine y_callV_v_IJR hC hRm noS ml_X11_187 kk_146 (c1_sit hRF g2 isSt_7 hw) (Nat.le_of_ble_eq_true rfl) (Nat.le_of_ble_eq_true rfl) ⟨Nat.zero_le _, Nat.zero_le _⟩ rfl (st := []) rfl (Nat.le_of_ble_eq_true rfl) dX11_score_38 (fun I1 J1 R1 hw => ?_)
      obtain ⟨rf1, hw⟩ := hw
      refine wm_aload_n hC 0 dX11_score_41 rfl (k_ne0 kk_1 (by decide)) ?_
      refine x_getR3 hC 9 fl_X11_88 rfl kk_1 (rf_1_9 rf1) dX11_score_42 ?_
      refine wm_iload_n hC 1 dX11_score_45 rfl ?_
      refine wm_iload_n hC 3 dX11_score_46 rfl ?_
      refine wm_iconst hC dX11_score_47 (k := ?_)
      refine y_callV_i_IJ hC hRm noS ml_X11_207 kk_146 (c1_scoreOf rf1  hw) (Nat.le_of_ble_eq_true rfl) (Nat.le_of_ble_eq_true rfl) ⟨Nat.zero_le _, Nat.zero_le _⟩ rfl (st := []) rfl (Nat.le_of_ble_eq_true rfl) dX11_score_48 (fun r3 I2 J2 hw => ?_)
      refine wm_i2l hC dX11_score_51 ?_
      exact wm_lreturn hC hE dX11_score_52 ⟨trivial, ⟨rf1, hw⟩⟩
def p11_seed (l1 : Int) (I : mI) (Q : Int → mI → Prop) : Prop := (if (0 : Int) ≤ l1 then (wLet (up I 1 16 l1) (fun I1 => (Q 1 I1))) else (p11_refuseIt 5 I (fun r1 I2 => ((r1 = 0 ∨ r1 = 1) ∧ (Q r1 I2)))))
set_option maxRecDepth 20000 in
theorem c11_seed {ad : Nat → Nat} {n : Nat} {I J : mI} {R : mR} {Q : Int → mI → Prop}  (hRF : RF R) {l1 : Int}   (hw : p11_seed l1 I Q) : wMet yX11_seed cX11_seed 2 (some .boolean) 3 54 false ad n I J R [vr 1, vi l1] (fun r I' J' R' => (J' = J ∧ R' = R) ∧ Q r I') := by
  refine wMet_of (by decide) (Nat.le_of_ble_eq_true rfl) (fun C hC hRm hE hS => ?_)
  refine (show WM C ad n I J R 0 0 0 [(0, vr 1), (1, vi l1)] [] from ?_)
  unfold p11_seed at hw
  refine wm_iload_n hC 1 dX11_seed_0 rfl ?_
  refine wm_if_ge (tgt := 10) hC dX11_seed_1 (by decide) hw (fun hw => ?_) (fun hw => ?_)
  · refine wm_aload_n hC 0 dX11_seed_10 rfl (k_ne0 kk_1 (by decide)) ?_
    refine wm_iload_n hC 1 dX11_seed_11 rfl ?_
    refine x_putI hC 16 fl_X11_71 rfl kk_1 dX11_seed_12 hw (fun I1 hw => ?_)
    refine wm_iconst hC dX11_seed_15 (k := ?_)
    exact wm_zreturn hC hE (Or.inr rfl) dX11_seed_16 ⟨⟨rfl, rfl⟩, hw⟩
  · refine wm_aload_n hC 0 dX11_seed_4 rfl (k_ne0 kk_1 (by decide)) ?_
    refine wm_iconst hC dX11_seed_5 (k := ?_)
    refine y_callV_z_I hC hRm noS ml_X11_125 kk_1 (c11_refuseIt hRF  hw) (Nat.le_of_ble_eq_true rfl) (Nat.le_of_ble_eq_true rfl) ⟨Nat.zero_le _, Nat.zero_le _⟩ rfl (st := []) rfl (Nat.le_of_ble_eq_true rfl) dX11_seed_6 (fun r1 I2 hw => ?_)
    obtain ⟨z01, hw⟩ := hw
    exact wm_zreturn hC hE z01 dX11_seed_9 ⟨⟨rfl, rfl⟩, hw⟩
def p11_status (l1 : Int) (I : mI) (Q : Int → Prop) : Prop := (if l1 < 0 then (Q (-1)) else (if (6 : Int) ≤ l1 then (Q (-1)) else (((0 : Int) ≤ l1 ∧ l1 < (6 : Int)) ∧ (Q (I 122 l1)))))
set_option maxRecDepth 20000 in
theorem c11_status {ad : Nat → Nat} {n : Nat} {I J : mI} {R : mR} {Q : Int → Prop}  (hRF : RF R) {l1 : Int}   (hw : p11_status l1 I Q) : wMet yX11_status cX11_status 2 (some .int) 1 12 false ad n I J R [vr 1, vi l1] (fun r I' J' R' => (I' = I ∧ J' = J ∧ R' = R) ∧ Q r) := by
  refine wMet_of (by decide) (Nat.le_of_ble_eq_true rfl) (fun C hC hRm hE hS => ?_)
  refine (show WM C ad n I J R 0 0 0 [(0, vr 1), (1, vi l1)] [] from ?_)
  unfold p11_status at hw
  refine wm_iload_n hC 1 dX11_status_0 rfl ?_
  refine wm_if_lt (tgt := 22) hC dX11_status_1 (by decide) hw (fun hw => ?_) (fun hw => ?_)
  · refine wm_iconst hC dX11_status_22 (k := ?_)
    exact wm_ireturn hC hE dX11_status_23 ⟨⟨rfl, rfl, rfl⟩, hw⟩
  · refine wm_iload_n hC 1 dX11_status_4 rfl ?_
    refine wm_aload_n hC 0 dX11_status_5 rfl (k_ne0 kk_1 (by decide)) ?_
    refine x_getR3 hC 7 fl_X11_51 rfl kk_1 (rf_1_7 hRF) dX11_status_6 ?_
    refine x_alen2 hC kk_122 kn_122 (by decide) dX11_status_9 ?_
    refine wm_icmp_ge (tgt := 22) hC dX11_status_10 (by decide) hw (fun hw => ?_) (fun hw => ?_)
    · refine wm_iconst hC dX11_status_22 (k := ?_)
      exact wm_ireturn hC hE dX11_status_23 ⟨⟨rfl, rfl, rfl⟩, hw⟩
    · refine wm_aload_n hC 0 dX11_status_13 rfl (k_ne0 kk_1 (by decide)) ?_
      refine x_getR3 hC 7 fl_X11_51 rfl kk_1 (rf_1_7 hRF) dX11_status_14 ?_
      refine wm_iload_n hC 1 dX11_status_17 rfl ?_
      refine x_iald2 hC kk_122 kn_122 dX11_status_18 hw (fun hw => ?_)
      refine wm_goto (tgt := 23) hC dX11_status_19 (by decide) ?_
      exact wm_ireturn hC hE dX11_status_23 ⟨⟨rfl, rfl, rfl⟩, hw⟩
def p11_swap (l1 : Int) (l2 : Int) (I : mI) (R : mR) (Q : Int → mI → Prop) : Prop := (if l1 = l2 then (p11_refuseIt 3 I (fun r1 I1 => ((r1 = 0 ∨ r1 = 1) ∧ (Q r1 I1)))) else (isLd (R 1 12) ∧ (p3_isThere (R 1 12) 0 l1 I (fun r2 => (if r2 = 0 then (p11_refuseIt 3 I (fun r3 I2 => ((r3 = 0 ∨ r3 = 1) ∧ (Q r3 I2)))) else (isLd (R 1 12) ∧ (p3_isThere (R 1 12) 0 l2 I (fun r4 => (if r4 = 0 then (p11_refuseIt 3 I (fun r5 I6 => ((r5 = 0 ∨ r5 = 1) ∧ (Q r5 I6)))) else (p4_add 7 I (fun I3 => (((0 : Int) ≤ l1 ∧ l1 < (6 : Int)) ∧ (((0 : Int) ≤ l2 ∧ l2 < (6 : Int)) ∧ (((0 : Int) ≤ l1 ∧ l1 < (6 : Int)) ∧ wLet (up I3 8 l1 (I3 8 l2)) (fun I4 => (((0 : Int) ≤ l2 ∧ l2 < (6 : Int)) ∧ wLet (up I4 8 l2 (I3 8 l1)) (fun I5 => (Q 1 I5))))))))))))))))))
set_option maxRecDepth 20000 in
theorem c11_swap {ad : Nat → Nat} {n : Nat} {I J : mI} {R : mR} {Q : Int → mI → Prop}  (hRF : RF R) {l1 : Int} {l2 : Int}    (hw : p11_swap l1 l2 I R Q) : wMet yX11_swap cX11_swap 4 (some .boolean) 3 102 false ad n I J R [vr 1, vi l1, vi l2] (fun r I' J' R' => (J' = J ∧ R' = R) ∧ Q r I') := by
  refine wMet_of (by decide) (Nat.le_of_ble_eq_true rfl) (fun C hC hRm hE hS => ?_)
  refine (show WM C ad n I J R 0 0 0 [(0, vr 1), (1, vi l1), (2, vi l2)] [] from ?_)
  unfold p11_swap at hw
  refine wm_iload_n hC 1 dX11_swap_0 rfl ?_
  refine wm_iload_n hC 2 dX11_swap_1 rfl ?_
  refine wm_icmp_eq (tgt := 29) hC dX11_swap_2 (by decide) hw (fun hw => ?_) (fun hw => ?_)
  · refine wm_aload_n hC 0 dX11_swap_29 rfl (k_ne0 kk_1 (by decide)) ?_
    refine wm_iconst hC dX11_swap_30 (k := ?_)
    refine y_callV_z_I hC hRm noS ml_X11_125 kk_1 (c11_refuseIt hRF  hw) (Nat.le_of_ble_eq_true rfl) (Nat.le_of_ble_eq_true rfl) ⟨Nat.zero_le _, Nat.zero_le _⟩ rfl (st := []) rfl (Nat.le_of_ble_eq_true rfl) dX11_swap_31 (fun r1 I1 hw => ?_)
    obtain ⟨z01, hw⟩ := hw
    exact wm_zreturn hC hE z01 dX11_swap_34 ⟨⟨rfl, rfl⟩, hw⟩
  · refine wm_aload_n hC 0 dX11_swap_5 rfl (k_ne0 kk_1 (by decide)) ?_
    refine x_getRD hC 12 fl_X11_57 rfl kk_1 dX11_swap_6 hw (fun g1 hw => ?_)
    refine wm_iconst hC dX11_swap_9 (k := ?_)
    refine wm_iload_n hC 1 dX11_swap_10 rfl ?_
    refine y_callV_z_n hC hRm noS ml_X11_167 (ld_k0 g1) (c3_isThere hRF g1 hw) (Nat.le_of_ble_eq_true rfl) (Nat.le_of_ble_eq_true rfl) ⟨Nat.zero_le _, Nat.zero_le _⟩ rfl (st := []) rfl (Nat.le_of_ble_eq_true rfl) dX11_swap_11 (fun r2 hw => ?_)
    refine wm_if_eq (tgt := 29) hC dX11_swap_14 (by decide) hw (fun hw => ?_) (fun hw => ?_)
    · refine wm_aload_n hC 0 dX11_swap_29 rfl (k_ne0 kk_1 (by decide)) ?_
      refine wm_iconst hC dX11_swap_30 (k := ?_)
      refine y_callV_z_I hC hRm noS ml_X11_125 kk_1 (c11_refuseIt hRF  hw) (Nat.le_of_ble_eq_true rfl) (Nat.le_of_ble_eq_true rfl) ⟨Nat.zero_le _, Nat.zero_le _⟩ rfl (st := []) rfl (Nat.le_of_ble_eq_true rfl) dX11_swap_31 (fun r3 I2 hw => ?_)
      obtain ⟨z01, hw⟩ := hw
      exact wm_zreturn hC hE z01 dX11_swap_34 ⟨⟨rfl, rfl⟩, hw⟩
    · refine wm_aload_n hC 0 dX11_swap_17 rfl (k_ne0 kk_1 (by decide)) ?_
      refine x_getRD hC 12 fl_X11_57 rfl kk_1 dX11_swap_18 hw (fun g2 hw => ?_)
      refine wm_iconst hC dX11_swap_21 (k := ?_)
      refine wm_iload_n hC 2 dX11_swap_22 rfl ?_
      refine y_callV_z_n hC hRm noS ml_X11_167 (ld_k0 g2) (c3_isThere hRF g2 hw) (Nat.le_of_ble_eq_true rfl) (Nat.le_of_ble_eq_true rfl) ⟨Nat.zero_le _, Nat.zero_le _⟩ rfl (st := []) rfl (Nat.le_of_ble_eq_true rfl) dX11_swap_23 (fun r4 hw => ?_)
      refine wm_if_ne (tgt := 35) hC dX11_swap_26 (by decide) hw (fun hw => ?_) (fun hw => ?_)
      · refine wm_aload_n hC 0 dX11_swap_29 rfl (k_ne0 kk_1 (by decide)) ?_
        refine wm_iconst hC dX11_swap_30 (k := ?_)
        refine y_callV_z_I hC hRm noS ml_X11_125 kk_1 (c11_refuseIt hRF  hw) (Nat.le_of_ble_eq_true rfl) (Nat.le_of_ble_eq_true rfl) ⟨Nat.zero_le _, Nat.zero_le _⟩ rfl (st := []) rfl (Nat.le_of_ble_eq_true rfl) dX11_swap_31 (fun r5 I6 hw => ?_)
        obtain ⟨z01, hw⟩ := hw
        exact wm_zreturn hC hE z01 dX11_swap_34 ⟨⟨rfl, rfl⟩, hw⟩
      · refine wm_aload_n hC 0 dX11_swap_35 rfl (k_ne0 kk_1 (by decide)) ?_
        refine x_getR3 hC 4 fl_X11_36 rfl kk_1 (rf_1_4 hRF) dX11_swap_36 ?_
        refine wm_aload_n hC 0 dX11_swap_39 rfl (k_ne0 kk_1 (by decide)) ?_
        refine x_getR3 hC 2 fl_X11_26 rfl kk_1 (rf_1_2 hRF) dX11_swap_40 ?_
        refine y_callV_v_I hC hRm noS ml_X11_274 kk_17 (c4_add hRF isSt_7 hw) (Nat.le_of_ble_eq_true rfl) (Nat.le_of_ble_eq_true rfl) ⟨Nat.zero_le _, Nat.zero_le _⟩ rfl (st := []) rfl (Nat.le_of_ble_eq_true rfl) dX11_swap_43 (fun I3 hw => ?_)
        refine wm_aload_n hC 0 dX11_swap_46 rfl (k_ne0 kk_1 (by decide)) ?_
        refine x_getR3 hC 2 fl_X11_26 rfl kk_1 (rf_1_2 hRF) dX11_swap_47 ?_
        refine x_getR3 hC 3 fl_X11_213 rfl kk_7 (rfs_3 hRF isSt_7) dX11_swap_50 ?_
        refine wm_iload_n hC 1 dX11_swap_53 rfl ?_
        refine x_iald2 hC kk_8 kn_8 dX11_swap_54 hw (fun hw => ?_)
        refine wm_istore_n hC dX11_swap_55 (by decide) (L2 := [(3, vi (I3 8 l1)), (0, vr 1), (1, vi l1), (2, vi l2)]) rfl ?_
        refine wm_aload_n hC 1 dX11_swap_56 rfl (k_ne0 kk_1 (by decide)) ?_
        refine x_getR3 hC 2 fl_X11_26 rfl kk_1 (rf_1_2 hRF) dX11_swap_57 ?_
        refine x_getR3 hC 3 fl_X11_213 rfl kk_7 (rfs_3 hRF isSt_7) dX11_swap_60 ?_
        refine wm_iload_n hC 2 dX11_swap_63 rfl ?_
        refine wm_aload_n hC 1 dX11_swap_64 rfl (k_ne0 kk_1 (by decide)) ?_
        refine x_getR3 hC 2 fl_X11_26 rfl kk_1 (rf_1_2 hRF) dX11_swap_65 ?_
        refine x_getR3 hC 3 fl_X11_213 rfl kk_7 (rfs_3 hRF isSt_7) dX11_swap_68 ?_
        refine wm_iload_n hC 3 dX11_swap_71 rfl ?_
        refine x_iald2 hC kk_8 kn_8 dX11_swap_72 hw (fun hw => ?_)
        refine x_iast2 hC kk_8 kn_8 dX11_swap_73 hw (fun I4 hw => ?_)
        refine wm_aload_n hC 1 dX11_swap_74 rfl (k_ne0 kk_1 (by decide)) ?_
        refine x_getR3 hC 2 fl_X11_26 rfl kk_1 (rf_1_2 hRF) dX11_swap_75 ?_
        refine x_getR3 hC 3 fl_X11_213 rfl kk_7 (rfs_3 hRF isSt_7) dX11_swap_78 ?_
        refine wm_iload_n hC 3 dX11_swap_81 rfl ?_
        refine wm_iload_n hC 0 dX11_swap_82 rfl ?_
        refine x_iast2 hC kk_8 kn_8 dX11_swap_83 hw (fun I5 hw => ?_)
        refine wm_iconst hC dX11_swap_84 (k := ?_)
        exact wm_zreturn hC hE (Or.inr rfl) dX11_swap_85 ⟨⟨rfl, rfl⟩, hw⟩
def p2_agrees_b40 (l1 : Int) (l2 : Int) (s0 : Int) (I : mI) (k2 : Int → Prop) (Q : Int → Prop) : Prop := (rg (3 * l2) ∧ (((0 : Int) ≤ (3 * l2) ∧ (3 * l2) < (48 : Int)) ∧ (if (I 157 (3 * l2)) = l1 then (rg (3 * l2) ∧ (rg ((3 * l2) + 1) ∧ (((0 : Int) ≤ ((3 * l2) + 1) ∧ ((3 * l2) + 1) < (48 : Int)) ∧ (((0 : Int) ≤ (I 157 ((3 * l2) + 1)) ∧ (I 157 ((3 * l2) + 1)) < (6 : Int)) ∧ (if (I 155 (I 157 ((3 * l2) + 1))) = s0 then (rg (l2 + 1) ∧ (k2 (l2 + 1))) else (Q 0)))))) else (rg (l2 + 1) ∧ (k2 (l2 + 1))))))
set_option maxRecDepth 20000 in
theorem w2_agrees_b40 {C : wX} {ad : Nat → Nat} {n : Nat} {I J : mI} {R : mR} {Q : Int → Prop} (hC : wOK C cX2_agrees 4 RX2) (hRm : wRm C 1 12 0 0) (hE : wEnd C (some .boolean) ad n (fun r I' J' R' => (I' = I ∧ J' = J ∧ R' = R) ∧ Q r)) (hRF : RF R) {l1 : Int} {l2 : Int} {s0 : Int}  {k2 : Int → Prop}  (kk2 : ∀ (y2 : Int), k2 y2 → WM C ad n I J R 0 0 2 [(0, vr 151), (1, vi l1), (2, vi y2)] []) (hw : p2_agrees_b40 l1 l2 s0 I k2 Q) : WM C ad n I J R 0 0 40 [(0, vr 151), (1, vi l1), (2, vi l2)] [vi s0] := by
  unfold p2_agrees_b40 at hw
  refine wm_istore_n hC dX2_agrees_40 (by decide) (L2 := [(3, vi s0), (0, vr 151), (1, vi l1), (2, vi l2)]) rfl ?_
  refine wm_aload_n hC 1 dX2_agrees_41 rfl (k_ne0 kk_151 (by decide)) ?_
  refine x_getR3 hC 3 fl_X2_18 rfl kk_151 (rf_151_3 hRF) dX2_agrees_42 ?_
  refine wm_iconst hC dX2_agrees_45 (k := ?_)
  refine wm_iload_n hC 3 dX2_agrees_46 rfl ?_
  refine x_imul hC dX2_agrees_47 hw (fun hw => ?_)
  refine x_iald2 hC kk_157 kn_157 dX2_agrees_48 hw (fun hw => ?_)
  refine wm_iload_n hC 2 dX2_agrees_49 rfl ?_
  refine wm_icmp_ne (tgt := 77) hC dX2_agrees_50 (by decide) hw (fun hw => ?_) (fun hw => ?_)
  · refine wm_aload_n hC 1 dX2_agrees_53 rfl (k_ne0 kk_151 (by decide)) ?_
    refine x_getR3 hC 2 fl_X2_12 rfl kk_151 (rf_151_2 hRF) dX2_agrees_54 ?_
    refine x_getR3 hC 5 fl_X2_84 rfl kk_152 (rfs_5 hRF isSt_152) dX2_agrees_57 ?_
    refine wm_aload_n hC 1 dX2_agrees_60 rfl (k_ne0 kk_151 (by decide)) ?_
    refine x_getR3 hC 3 fl_X2_18 rfl kk_151 (rf_151_3 hRF) dX2_agrees_61 ?_
    refine wm_iconst hC dX2_agrees_64 (k := ?_)
    refine wm_iload_n hC 3 dX2_agrees_65 rfl ?_
    refine x_imul hC dX2_agrees_66 hw (fun hw => ?_)
    refine wm_iconst hC dX2_agrees_67 (k := ?_)
    refine x_iadd hC dX2_agrees_68 hw (fun hw => ?_)
    refine x_iald2 hC kk_157 kn_157 dX2_agrees_69 hw (fun hw => ?_)
    refine x_iald2 hC kk_155 kn_155 dX2_agrees_70 hw (fun hw => ?_)
    refine wm_iload_n hC 0 dX2_agrees_71 rfl ?_
    refine wm_icmp_eq (tgt := 77) hC dX2_agrees_72 (by decide) hw (fun hw => ?_) (fun hw => ?_)
    · refine x_iinc hC 3 dX2_agrees_77 rfl (by decide) (L2 := [(2, vi (l2 + 1)), (3, vi s0), (0, vr 151), (1, vi l1)]) rfl hw (fun hw => ?_)
      refine wm_goto (tgt := 2) hC dX2_agrees_80 (by decide) ?_
      refine wm_sub [2, 3, 0] (L2 := [(0, vr 151), (1, vi l1), (2, vi (l2 + 1))]) rfl ?_
      exact kk2 _ hw
    · refine wm_iconst hC dX2_agrees_75 (k := ?_)
      exact wm_zreturn hC hE (Or.inl rfl) dX2_agrees_76 ⟨⟨rfl, rfl, rfl⟩, hw⟩
  · refine x_iinc hC 3 dX2_agrees_77 rfl (by decide) (L2 := [(2, vi (l2 + 1)), (3, vi s0), (0, vr 151), (1, vi l1)]) rfl hw (fun hw => ?_)
    refine wm_goto (tgt := 2) hC dX2_agrees_80 (by decide) ?_
    refine wm_sub [2, 3, 0] (L2 := [(0, vr 151), (1, vi l1), (2, vi (l2 + 1))]) rfl ?_
    exact kk2 _ hw
def p2_agrees_b2_body (l1 : Int) (I : mI) (Q : Int → Prop) (k2 : Int → Prop) (l2 : Int) : Prop := (if (I 151 5) ≤ l2 then (Q 1) else (rg (3 * l2) ∧ (rg ((3 * l2) + 2) ∧ (((0 : Int) ≤ ((3 * l2) + 2) ∧ ((3 * l2) + 2) < (48 : Int)) ∧ (if (I 157 ((3 * l2) + 2)) = 255 then (p2_agrees_b40 l1 l2 (-1) I k2 Q) else (rg (3 * l2) ∧ (rg ((3 * l2) + 2) ∧ (((0 : Int) ≤ ((3 * l2) + 2) ∧ ((3 * l2) + 2) < (48 : Int)) ∧ (p2_agrees_b40 l1 l2 (I 157 ((3 * l2) + 2)) I k2 Q)))))))))
def p2_agrees_b2 (l1 : Int) (I : mI) (Q : Int → Prop) : Nat → Int → Prop
  | 0 => fun _ => False
  | f + 1 => fun l2 => p2_agrees_b2_body l1 I Q (p2_agrees_b2 l1 I Q f) l2
set_option maxRecDepth 20000 in
theorem w2_agrees_b2_body {C : wX} {ad : Nat → Nat} {n : Nat} {I J : mI} {R : mR} {Q : Int → Prop} (hC : wOK C cX2_agrees 4 RX2) (hRm : wRm C 1 12 0 0) (hE : wEnd C (some .boolean) ad n (fun r I' J' R' => (I' = I ∧ J' = J ∧ R' = R) ∧ Q r)) (hRF : RF R) {l1 : Int} {l2 : Int}     {k2 : Int → Prop} (kk2 : ∀ (y2 : Int), k2 y2 → WM C ad n I J R 0 0 2 [(0, vr 151), (1, vi l1), (2, vi y2)] []) (hw : p2_agrees_b2_body l1 I Q k2 l2) : WM C ad n I J R 0 0 2 [(0, vr 151), (1, vi l1), (2, vi l2)] [] := by
  unfold p2_agrees_b2_body at hw
  refine wm_iload_n hC 2 dX2_agrees_2 rfl ?_
  refine wm_aload_n hC 0 dX2_agrees_3 rfl (k_ne0 kk_151 (by decide)) ?_
  refine x_getI hC 5 fl_X2_25 rfl kk_151 dX2_agrees_4 ?_
  refine wm_icmp_ge (tgt := 83) hC dX2_agrees_7 (by decide) hw (fun hw => ?_) (fun hw => ?_)
  · refine wm_iconst hC dX2_agrees_83 (k := ?_)
    exact wm_zreturn hC hE (Or.inr rfl) dX2_agrees_84 ⟨⟨rfl, rfl, rfl⟩, hw⟩
  · refine wm_aload_n hC 0 dX2_agrees_10 rfl (k_ne0 kk_151 (by decide)) ?_
    refine x_getR3 hC 3 fl_X2_18 rfl kk_151 (rf_151_3 hRF) dX2_agrees_11 ?_
    refine wm_iconst hC dX2_agrees_14 (k := ?_)
    refine wm_iload_n hC 2 dX2_agrees_15 rfl ?_
    refine x_imul hC dX2_agrees_16 hw (fun hw => ?_)
    refine wm_iconst hC dX2_agrees_17 (k := ?_)
    refine x_iadd hC dX2_agrees_18 hw (fun hw => ?_)
    refine x_iald2 hC kk_157 kn_157 dX2_agrees_19 hw (fun hw => ?_)
    refine wm_sipush hC dX2_agrees_20 (k := ?_)
    refine wm_icmp_ne (tgt := 30) hC dX2_agrees_23 (by decide) hw (fun hw => ?_) (fun hw => ?_)
    · refine wm_iconst hC dX2_agrees_26 (k := ?_)
      refine wm_goto (tgt := 40) hC dX2_agrees_27 (by decide) ?_
      exact w2_agrees_b40 hC hRm hE hRF kk2 hw
    · refine wm_aload_n hC 0 dX2_agrees_30 rfl (k_ne0 kk_151 (by decide)) ?_
      refine x_getR3 hC 3 fl_X2_18 rfl kk_151 (rf_151_3 hRF) dX2_agrees_31 ?_
      refine wm_iconst hC dX2_agrees_34 (k := ?_)
      refine wm_iload_n hC 2 dX2_agrees_35 rfl ?_
      refine x_imul hC dX2_agrees_36 hw (fun hw => ?_)
      refine wm_iconst hC dX2_agrees_37 (k := ?_)
      refine x_iadd hC dX2_agrees_38 hw (fun hw => ?_)
      refine x_iald2 hC kk_157 kn_157 dX2_agrees_39 hw (fun hw => ?_)
      exact w2_agrees_b40 hC hRm hE hRF kk2 hw
set_option maxRecDepth 20000 in
theorem w2_agrees_b2 {C : wX} {ad : Nat → Nat} {n : Nat} {I : mI} {J : mI} {R : mR} {Q : Int → Prop} (hC : wOK C cX2_agrees 4 RX2) (hRm : wRm C 1 12 0 0) (hE : wEnd C (some .boolean) ad n (fun r I' J' R' => (I' = I ∧ J' = J ∧ R' = R) ∧ Q r)) (hRF : RF R) {l1 : Int}     : ∀ (f : Nat) (l2 : Int), p2_agrees_b2 l1 I Q f l2 → WM C ad n I J R 0 0 2 [(0, vr 151), (1, vi l1), (2, vi l2)] [] := by
  intro f
  induction f with
  | zero => intro l2 hw; exact hw.elim
  | succ f ih => intro l2 hw; exact w2_agrees_b2_body hC hRm hE hRF  (fun a0 aw => ih a0 aw) hw
def p2_agrees (l1 : Int) (I : mI) (Q : Int → Prop) : Prop := (∃ f, p2_agrees_b2 l1 I Q f 0)
set_option maxRecDepth 20000 in
theorem c2_agrees {ad : Nat → Nat} {n : Nat} {I J : mI} {R : mR} {Q : Int → Prop}  (hRF : RF R) {l1 : Int}   (hw : p2_agrees l1 I Q) : wMet yX2_agrees cX2_agrees 4 (some .boolean) 1 12 false ad n I J R [vr 151, vi l1] (fun r I' J' R' => (I' = I ∧ J' = J ∧ R' = R) ∧ Q r) := by
  refine wMet_of (by decide) (Nat.le_of_ble_eq_true rfl) (fun C hC hRm hE hS => ?_)
  refine (show WM C ad n I J R 0 0 0 [(0, vr 151), (1, vi l1)] [] from ?_)
  unfold p2_agrees at hw
  refine wm_iconst hC dX2_agrees_0 (k := ?_)
  refine wm_istore_n hC dX2_agrees_1 (by decide) (L2 := [(2, vi 0), (0, vr 151), (1, vi l1)]) rfl ?_
  obtain ⟨f, hw⟩ := hw
  refine wm_sub [1, 2, 0] (L2 := [(0, vr 151), (1, vi l1), (2, vi 0)]) rfl ?_
  exact w2_agrees_b2 hC hRm hE hRF  f _ hw
def p2_left_b158 (l1 : Nat) (l2 : Nat) (l3 : Int) (l4 : Int) (l5 : Int) (l6 : Int) (l7 : Int) (I : mI) (J : mI) (R : mR) (k83 : Int → Int → mI → mI → mR → Prop) (Q : Int → mI → mI → mR → Prop) : Prop := (if l7 = 0 then (rg (l6 + 1) ∧ (k83 (bOr l5 0) (l6 + 1) I J R)) else (rg (l6 + 1) ∧ (k83 (bOr l5 (bShl 1 l6)) (l6 + 1) I J R)))
set_option maxRecDepth 20000 in
theorem w2_left_b158 {C : wX} {ad : Nat → Nat} {n : Nat} {I J : mI} {R : mR} {Q : Int → mI → mI → mR → Prop} (hC : wOK C cX2_left 9 RX2) (hRm : wRm C 7 168 0 0) (hE : wEnd C (some .int) ad n (fun r I' J' R' => (True) ∧ (RF R' ∧ Q r I' J' R'))) (hRF : RF R) {l1 : Nat} {l2 : Nat} {l3 : Int} {l4 : Int} {l5 : Int} {l6 : Int} {l7 : Int}  {k83 : Int → Int → mI → mI → mR → Prop} (h1 : isLd l1) (h2 : isSt l2) (kk83 : ∀ (y5 : Int) (y6 : Int) (I' : mI) (J' : mI) (R' : mR), RF R' → k83 y5 y6 I' J' R' → WM C ad n I' J' R' 0 0 83 [(0, vr 151), (1, vr l1), (2, vr l2), (3, vi l3), (4, vi l4), (5, vi y5), (6, vi y6)] []) (hw : p2_left_b158 l1 l2 l3 l4 l5 l6 l7 I J R k83 Q) : WM C ad n I J R 0 0 158 [(0, vr 151), (1, vr l1), (2, vr l2), (3, vi l3), (4, vi l4), (5, vi l5), (6, vi l6), (7, vi l7)] [] := by
  unfold p2_left_b158 at hw
  refine wm_iload hC 5 dX2_left_158 rfl ?_
  refine wm_iload hC 7 dX2_left_160 rfl ?_
  refine wm_if_eq (tgt := 172) hC dX2_left_162 (by decide) hw (fun hw => ?_) (fun hw => ?_)
  · refine wm_iconst hC dX2_left_172 (k := ?_)
    refine wm_ior hC dX2_left_173 ?_
    refine wm_istore hC dX2_left_174 (by decide) (L2 := [(5, vi (bOr l5 0)), (0, vr 151), (1, vr l1), (2, vr l2), (3, vi l3), (4, vi l4), (6, vi l6), (7, vi l7)]) rfl ?_
    refine x_iinc hC 6 dX2_left_176 rfl (by decide) (L2 := [(6, vi (l6 + 1)), (5, vi (bOr l5 0)), (0, vr 151), (1, vr l1), (2, vr l2), (3, vi l3), (4, vi l4), (7, vi l7)]) rfl hw (fun hw => ?_)
    refine wm_goto (tgt := 83) hC dX2_left_179 (by decide) ?_
    refine wm_sub [2, 3, 4, 5, 6, 1, 0] (L2 := [(0, vr 151), (1, vr l1), (2, vr l2), (3, vi l3), (4, vi l4), (5, vi (bOr l5 0)), (6, vi (l6 + 1))]) rfl ?_
    exact kk83 _ _ _ _ _ hRF hw
  · refine wm_iconst hC dX2_left_165 (k := ?_)
    refine wm_iload hC 6 dX2_left_166 rfl ?_
    refine wm_ishl hC dX2_left_168 ?_
    refine wm_goto (tgt := 173) hC dX2_left_169 (by decide) ?_
    refine wm_ior hC dX2_left_173 ?_
    refine wm_istore hC dX2_left_174 (by decide) (L2 := [(5, vi (bOr l5 (bShl 1 l6))), (0, vr 151), (1, vr l1), (2, vr l2), (3, vi l3), (4, vi l4), (6, vi l6), (7, vi l7)]) rfl ?_
    refine x_iinc hC 6 dX2_left_176 rfl (by decide) (L2 := [(6, vi (l6 + 1)), (5, vi (bOr l5 (bShl 1 l6))), (0, vr 151), (1, vr l1), (2, vr l2), (3, vi l3), (4, vi l4), (7, vi l7)]) rfl hw (fun hw => ?_)
    refine wm_goto (tgt := 83) hC dX2_left_179 (by decide) ?_
    refine wm_sub [2, 3, 4, 5, 6, 1, 0] (L2 := [(0, vr 151), (1, vr l1), (2, vr l2), (3, vi l3), (4, vi l4), (5, vi (bOr l5 (bShl 1 l6))), (6, vi (l6 + 1))]) rfl ?_
    exact kk83 _ _ _ _ _ hRF hw
def p2_left_b118_body (l1 : Nat) (l2 : Nat) (l3 : Int) (l4 : Int) (l5 : Int) (l6 : Int) (k83 : Int → Int → mI → mI → mR → Prop) (Q : Int → mI → mI → mR → Prop) (k118 : Int → Int → mI → mI → mR → Prop) (l7 : Int) (l8 : Int) (I : mI) (J : mI) (R : mR) : Prop := (if l4 < l8 then (p2_left_b158 l1 l2 l3 l4 l5 l6 l7 I J R k83 Q) else (if l7 = 0 then (p2_left_b158 l1 l2 l3 l4 l5 l6 l7 I J R k83 Q) else (p0_pass l1 152 (-1) I J R (fun r2 I4 J1 R1 => (p2_agrees l8 I4 (fun r3 => (rg (l8 + 1) ∧ (k118 r3 (l8 + 1) I4 J1 R1))))))))
def p2_left_b118 (l1 : Nat) (l2 : Nat) (l3 : Int) (l4 : Int) (l5 : Int) (l6 : Int) (k83 : Int → Int → mI → mI → mR → Prop) (Q : Int → mI → mI → mR → Prop) : Nat → Int → Int → mI → mI → mR → Prop
  | 0 => fun _ _ _ _ _ => False
  | f + 1 => fun l7 l8 I J R => p2_left_b118_body l1 l2 l3 l4 l5 l6 k83 Q (p2_left_b118 l1 l2 l3 l4 l5 l6 k83 Q f) l7 l8 I J R
set_option maxRecDepth 20000 in
theorem w2_left_b118_body {C : wX} {ad : Nat → Nat} {n : Nat} {I J : mI} {R : mR} {Q : Int → mI → mI → mR → Prop} (hC : wOK C cX2_left 9 RX2) (hRm : wRm C 7 168 0 0) (hE : wEnd C (some .int) ad n (fun r I' J' R' => (True) ∧ (RF R' ∧ Q r I' J' R'))) (hRF : RF R) {l1 : Nat} {l2 : Nat} {l3 : Int} {l4 : Int} {l5 : Int} {l6 : Int} {l7 : Int} {l8 : Int}  {k83 : Int → Int → mI → mI → mR → Prop} (h1 : isLd l1) (h2 : isSt l2) (kk83 : ∀ (y5 : Int) (y6 : Int) (I' : mI) (J' : mI) (R' : mR), RF R' → k83 y5 y6 I' J' R' → WM C ad n I' J' R' 0 0 83 [(0, vr 151), (1, vr l1), (2, vr l2), (3, vi l3), (4, vi l4), (5, vi y5), (6, vi y6)] []) {k118 : Int → Int → mI → mI → mR → Prop} (kk118 : ∀ (y7 : Int) (y8 : Int) (I' : mI) (J' : mI) (R' : mR), RF R' → k118 y7 y8 I' J' R' → WM C ad n I' J' R' 0 0 118 [(0, vr 151), (1, vr l1), (2, vr l2), (3, vi l3), (4, vi l4), (5, vi l5), (6, vi l6), (7, vi y7), (8, vi y8)] []) (hw : p2_left_b118_body l1 l2 l3 l4 l5 l6 k83 Q k118 l7 l8 I J R) : WM C ad n I J R 0 0 118 [(0, vr 151), (1, vr l1), (2, vr l2), (3, vi l3), (4, vi l4), (5, vi l5), (6, vi l6), (7, vi l7), (8, vi l8)] [] := by
  unfold p2_left_b118_body at hw
  refine wm_iload hC 8 dX2_left_118 rfl ?_
  refine wm_iload hC 4 dX2_left_120 rfl ?_
  refine wm_icmp_gt (tgt := 158) hC dX2_left_122 (by decide) hw (fun hw => ?_) (fun hw => ?_)
  · refine wm_sub [0, 1, 2, 3, 4, 5, 6, 7] (L2 := [(0, vr 151), (1, vr l1), (2, vr l2), (3, vi l3), (4, vi l4), (5, vi l5), (6, vi l6), (7, vi l7)]) rfl ?_
    exact w2_left_b158 hC hRm hE hRF h1 h2 kk83 hw
  · refine wm_iload hC 7 dX2_left_125 rfl ?_
    refine wm_if_eq (tgt := 158) hC dX2_left_127 (by decide) hw (fun hw => ?_) (fun hw => ?_)
    · refine wm_sub [0, 1, 2, 3, 4, 5, 6, 7] (L2 := [(0, vr 151), (1, vr l1), (2, vr l2), (3, vi l3), (4, vi l4), (5, vi l5), (6, vi l6), (7, vi l7)]) rfl ?_
      exact w2_left_b158 hC hRm hE hRF h1 h2 kk83 hw
    · refine wm_aload_n hC 0 dX2_left_130 rfl (k_ne0 kk_151 (by decide)) ?_
      refine x_getR3 hC 1 fl_X2_42 rfl kk_151 (rf_151_1 hRF) dX2_left_131 ?_
      refine wm_aload_n hC 1 dX2_left_134 rfl (k_ne0 (ld_k0 h1) (by decide)) ?_
      refine wm_aload_n hC 0 dX2_left_135 rfl (k_ne0 kk_151 (by decide)) ?_
      refine x_getR3 hC 2 fl_X2_12 rfl kk_151 (rf_151_2 hRF) dX2_left_136 ?_
      refine wm_iconst hC dX2_left_139 (k := ?_)
      refine y_callV_z_IJR hC hRm noS ml_X2_78 kk_150 (c0_pass hRF h1 isSt_152 hw) (Nat.le_of_ble_eq_true rfl) (Nat.le_of_ble_eq_true rfl) ⟨Nat.zero_le _, Nat.zero_le _⟩ rfl (st := []) rfl (Nat.le_of_ble_eq_true rfl) dX2_left_140 (fun r2 I4 J1 R1 hw => ?_)
      obtain ⟨rf1, hw⟩ := hw
      refine wm_pop hC dX2_left_143 (k := ?_)
      refine wm_aload_n hC 0 dX2_left_144 rfl (k_ne0 kk_151 (by decide)) ?_
      refine wm_iload hC 8 dX2_left_145 rfl ?_
      refine y_callV_z_n hC hRm noS ml_X2_74 kk_151 (c2_agrees rf1  hw) (Nat.le_of_ble_eq_true rfl) (Nat.le_of_ble_eq_true rfl) ⟨Nat.zero_le _, Nat.zero_le _⟩ rfl (st := []) rfl (Nat.le_of_ble_eq_true rfl) dX2_left_147 (fun r3 hw => ?_)
      refine wm_istore hC dX2_left_150 (by decide) (L2 := [(7, vi r3), (0, vr 151), (1, vr l1), (2, vr l2), (3, vi l3), (4, vi l4), (5, vi l5), (6, vi l6), (8, vi l8)]) rfl ?_
      refine x_iinc hC 8 dX2_left_152 rfl (by decide) (L2 := [(8, vi (l8 + 1)), (7, vi r3), (0, vr 151), (1, vr l1), (2, vr l2), (3, vi l3), (4, vi l4), (5, vi l5), (6, vi l6)]) rfl hw (fun hw => ?_)
      refine wm_goto (tgt := 118) hC dX2_left_155 (by decide) ?_
      refine wm_sub [2, 3, 4, 5, 6, 7, 8, 1, 0] (L2 := [(0, vr 151), (1, vr l1), (2, vr l2), (3, vi l3), (4, vi l4), (5, vi l5), (6, vi l6), (7, vi r3), (8, vi (l8 + 1))]) rfl ?_
      exact kk118 _ _ _ _ _ rf1 hw
set_option maxRecDepth 20000 in
theorem w2_left_b118 {C : wX} {ad : Nat → Nat} {n : Nat}  {Q : Int → mI → mI → mR → Prop} (hC : wOK C cX2_left 9 RX2) (hRm : wRm C 7 168 0 0) (hE : wEnd C (some .int) ad n (fun r I' J' R' => (True) ∧ (RF R' ∧ Q r I' J' R'))) {l1 : Nat} {l2 : Nat} {l3 : Int} {l4 : Int} {l5 : Int} {l6 : Int}  {k83 : Int → Int → mI → mI → mR → Prop} (h1 : isLd l1) (h2 : isSt l2) (kk83 : ∀ (y5 : Int) (y6 : Int) (I' : mI) (J' : mI) (R' : mR), RF R' → k83 y5 y6 I' J' R' → WM C ad n I' J' R' 0 0 83 [(0, vr 151), (1, vr l1), (2, vr l2), (3, vi l3), (4, vi l4), (5, vi y5), (6, vi y6)] []) : ∀ (f : Nat) (l7 : Int) (l8 : Int) (I : mI) (J : mI) (R : mR), RF R → p2_left_b118 l1 l2 l3 l4 l5 l6 k83 Q f l7 l8 I J R → WM C ad n I J R 0 0 118 [(0, vr 151), (1, vr l1), (2, vr l2), (3, vi l3), (4, vi l4), (5, vi l5), (6, vi l6), (7, vi l7), (8, vi l8)] [] := by
  intro f
  induction f with
  | zero => intro l7 l8 I J R hRF hw; exact hw.elim
  | succ f ih => intro l7 l8 I J R hRF hw; exact w2_left_b118_body hC hRm hE hRF h1 h2 kk83 (fun a0 a1 a2 a3 a4 ar aw => ih a0 a1 a2 a3 a4 ar aw) hw
def p2_left_b83_body (l1 : Nat) (l2 : Nat) (l3 : Int) (l4 : Int) (Q : Int → mI → mI → mR → Prop) (k83 : Int → Int → mI → mI → mR → Prop) (l5 : Int) (l6 : Int) (I : mI) (J : mI) (R : mR) : Prop := (if (10 : Int) ≤ l6 then (p1_suppose (-1) 0 I (fun I1 => (Q l5 I1 J R))) else (p1_suppose l3 l6 I (fun I2 => (p7_take 152 l2 I2 (fun I3 => (p2_agrees 0 I3 (fun r1 => (∃ f, p2_left_b118 l1 l2 l3 l4 l5 l6 k83 Q f r1 1 I3 J R))))))))
def p2_left_b83 (l1 : Nat) (l2 : Nat) (l3 : Int) (l4 : Int) (Q : Int → mI → mI → mR → Prop) : Nat → Int → Int → mI → mI → mR → Prop
  | 0 => fun _ _ _ _ _ => False
  | f + 1 => fun l5 l6 I J R => p2_left_b83_body l1 l2 l3 l4 Q (p2_left_b83 l1 l2 l3 l4 Q f) l5 l6 I J R
set_option maxRecDepth 20000 in
theorem w2_left_b83_body {C : wX} {ad : Nat → Nat} {n : Nat} {I J : mI} {R : mR} {Q : Int → mI → mI → mR → Prop} (hC : wOK C cX2_left 9 RX2) (hRm : wRm C 7 168 0 0) (hE : wEnd C (some .int) ad n (fun r I' J' R' => (True) ∧ (RF R' ∧ Q r I' J' R'))) (hRF : RF R) {l1 : Nat} {l2 : Nat} {l3 : Int} {l4 : Int} {l5 : Int} {l6 : Int}   (h1 : isLd l1) (h2 : isSt l2)  {k83 : Int → Int → mI → mI → mR → Prop} (kk83 : ∀ (y5 : Int) (y6 : Int) (I' : mI) (J' : mI) (R' : mR), RF R' → k83 y5 y6 I' J' R' → WM C ad n I' J' R' 0 0 83 [(0, vr 151), (1, vr l1), (2, vr l2), (3, vi l3), (4, vi l4), (5, vi y5), (6, vi y6)] []) (hw : p2_left_b83_body l1 l2 l3 l4 Q k83 l5 l6 I J R) : WM C ad n I J R 0 0 83 [(0, vr 151), (1, vr l1), (2, vr l2), (3, vi l3), (4, vi l4), (5, vi l5), (6, vi l6)] [] := by
  unfold p2_left_b83_body at hw
  refine wm_iload hC 6 dX2_left_83 rfl ?_
  refine wm_bipush hC dX2_left_85 (k := ?_)
  refine wm_icmp_ge (tgt := 182) hC dX2_left_87 (by decide) hw (fun hw => ?_) (fun hw => ?_)
  · refine wm_aload_n hC 0 dX2_left_182 rfl (k_ne0 kk_151 (by decide)) ?_
    refine x_getR3 hC 0 fl_X2_38 rfl kk_151 (rf_151_0 hRF) dX2_left_183 ?_
    refine wm_iconst hC dX2_left_186 (k := ?_)
    refine wm_iconst hC dX2_left_187 (k := ?_)
    refine y_callV_v_I hC hRm noS ml_X2_64 kk_146 (c1_suppose hRF  hw) (Nat.le_of_ble_eq_true rfl) (Nat.le_of_ble_eq_true rfl) ⟨Nat.zero_le _, Nat.zero_le _⟩ rfl (st := []) rfl (Nat.le_of_ble_eq_true rfl) dX2_left_188 (fun I1 hw => ?_)
    refine wm_iload hC 5 dX2_left_191 rfl ?_
    exact wm_ireturn hC hE dX2_left_193 ⟨trivial, ⟨hRF, hw⟩⟩
  · refine wm_aload_n hC 0 dX2_left_90 rfl (k_ne0 kk_151 (by decide)) ?_
    refine x_getR3 hC 0 fl_X2_38 rfl kk_151 (rf_151_0 hRF) dX2_left_91 ?_
    refine wm_iload_n hC 3 dX2_left_94 rfl ?_
    refine wm_iload hC 6 dX2_left_95 rfl ?_
    refine y_callV_v_I hC hRm noS ml_X2_64 kk_146 (c1_suppose hRF  hw) (Nat.le_of_ble_eq_true rfl) (Nat.le_of_ble_eq_true rfl) ⟨Nat.zero_le _, Nat.zero_le _⟩ rfl (st := []) rfl (Nat.le_of_ble_eq_true rfl) dX2_left_97 (fun I2 hw => ?_)
    refine wm_aload_n hC 0 dX2_left_100 rfl (k_ne0 kk_151 (by decide)) ?_
    refine x_getR3 hC 2 fl_X2_12 rfl kk_151 (rf_151_2 hRF) dX2_left_101 ?_
    refine wm_aload_n hC 2 dX2_left_104 rfl (k_ne0 (st_k0 h2) (by decide)) ?_
    refine y_callV_v_I hC hRm noS ml_X2_70 kk_152 (c7_take hRF isSt_152 h2 hw) (Nat.le_of_ble_eq_true rfl) (Nat.le_of_ble_eq_true rfl) ⟨Nat.zero_le _, Nat.zero_le _⟩ rfl (st := []) rfl (Nat.le_of_ble_eq_true rfl) dX2_left_105 (fun I3 hw => ?_)
    refine wm_aload_n hC 0 dX2_left_108 rfl (k_ne0 kk_151 (by decide)) ?_
    refine wm_iconst hC dX2_left_109 (k := ?_)
    refine y_callV_z_n hC hRm noS ml_X2_74 kk_151 (c2_agrees hRF  hw) (Nat.le_of_ble_eq_true rfl) (Nat.le_of_ble_eq_true rfl) ⟨Nat.zero_le _, Nat.zero_le _⟩ rfl (st := []) rfl (Nat.le_of_ble_eq_true rfl) dX2_left_110 (fun r1 hw => ?_)
    refine wm_istore hC dX2_left_113 (by decide) (L2 := [(7, vi r1), (0, vr 151), (1, vr l1), (2, vr l2), (3, vi l3), (4, vi l4), (5, vi l5), (6, vi l6)]) rfl ?_
    refine wm_iconst hC dX2_left_115 (k := ?_)
    refine wm_istore hC dX2_left_116 (by decide) (L2 := [(8, vi 1), (7, vi r1), (0, vr 151), (1, vr l1), (2, vr l2), (3, vi l3), (4, vi l4), (5, vi l5), (6, vi l6)]) rfl ?_
    obtain ⟨f, hw⟩ := hw
    refine wm_sub [2, 3, 4, 5, 6, 7, 8, 1, 0] (L2 := [(0, vr 151), (1, vr l1), (2, vr l2), (3, vi l3), (4, vi l4), (5, vi l5), (6, vi l6), (7, vi r1), (8, vi 1)]) rfl ?_
    exact w2_left_b118 hC hRm hE h1 h2 kk83 f _ _ _ _ _ hRF hw
set_option maxRecDepth 20000 in
theorem w2_left_b83 {C : wX} {ad : Nat → Nat} {n : Nat}  {Q : Int → mI → mI → mR → Prop} (hC : wOK C cX2_left 9 RX2) (hRm : wRm C 7 168 0 0) (hE : wEnd C (some .int) ad n (fun r I' J' R' => (True) ∧ (RF R' ∧ Q r I' J' R'))) {l1 : Nat} {l2 : Nat} {l3 : Int} {l4 : Int}   (h1 : isLd l1) (h2 : isSt l2)  : ∀ (f : Nat) (l5 : Int) (l6 : Int) (I : mI) (J : mI) (R : mR), RF R → p2_left_b83 l1 l2 l3 l4 Q f l5 l6 I J R → WM C ad n I J R 0 0 83 [(0, vr 151), (1, vr l1), (2, vr l2), (3, vi l3), (4, vi l4), (5, vi l5), (6, vi l6)] [] := by
  intro f
  induction f with
  | zero => intro l5 l6 I J R hRF hw; exact hw.elim
  | succ f ih => intro l5 l6 I J R hRF hw; exact w2_left_b83_body hC hRm hE hRF h1 h2 (fun a0 a1 a2 a3 a4 ar aw => ih a0 a1 a2 a3 a4 ar aw) hw
def p2_left_b6_body (l1 : Nat) (l2 : Nat) (l3 : Int) (I : mI) (J : mI) (R : mR) (Q : Int → mI → mI → mR → Prop) (k6 : Int → Int → Prop) (l4 : Int) (l5 : Int) : Prop := (if (I 151 5) ≤ l5 then (if (I 151 5) = 0 then (Q 1023 I J R) else (rg ((I l2 0) + l4) ∧ (if ((I l2 0) + l4) ≤ 999 then (∃ f, p2_left_b83 l1 l2 l3 l4 Q f 0 0 I J R) else (Q 0 I J R)))) else (rg (3 * l5) ∧ (((0 : Int) ≤ (3 * l5) ∧ (3 * l5) < (48 : Int)) ∧ (if (I 157 (3 * l5)) ≤ l4 then (rg (l5 + 1) ∧ (k6 l4 (l5 + 1))) else (rg (3 * l5) ∧ (((0 : Int) ≤ (3 * l5) ∧ (3 * l5) < (48 : Int)) ∧ (rg (l5 + 1) ∧ (k6 (I 157 (3 * l5)) (l5 + 1)))))))))
def p2_left_b6 (l1 : Nat) (l2 : Nat) (l3 : Int) (I : mI) (J : mI) (R : mR) (Q : Int → mI → mI → mR → Prop) : Nat → Int → Int → Prop
  | 0 => fun _ _ => False
  | f + 1 => fun l4 l5 => p2_left_b6_body l1 l2 l3 I J R Q (p2_left_b6 l1 l2 l3 I J R Q f) l4 l5
set_option maxRecDepth 20000 in
theorem w2_left_b6_body {C : wX} {ad : Nat → Nat} {n : Nat} {I J : mI} {R : mR} {Q : Int → mI → mI → mR → Prop} (hC : wOK C cX2_left 9 RX2) (hRm : wRm C 7 168 0 0) (hE : wEnd C (some .int) ad n (fun r I' J' R' => (True) ∧ (RF R' ∧ Q r I' J' R'))) (hRF : RF R) {l1 : Nat} {l2 : Nat} {l3 : Int} {l4 : Int} {l5 : Int}   (h1 : isLd l1) (h2 : isSt l2)  {k6 : Int → Int → Prop} (kk6 : ∀ (y4 : Int) (y5 : Int), k6 y4 y5 → WM C ad n I J R 0 0 6 [(0, vr 151), (1, vr l1), (2, vr l2), (3, vi l3), (4, vi y4), (5, vi y5)] []) (hw : p2_left_b6_body l1 l2 l3 I J R Q k6 l4 l5) : WM C ad n I J R 0 0 6 [(0, vr 151), (1, vr l1), (2, vr l2), (3, vi l3), (4, vi l4), (5, vi l5)] [] := by
  unfold p2_left_b6_body at hw
  refine wm_iload hC 5 dX2_left_6 rfl ?_
  refine wm_aload_n hC 0 dX2_left_8 rfl (k_ne0 kk_151 (by decide)) ?_
  refine x_getI hC 5 fl_X2_25 rfl kk_151 dX2_left_9 ?_
  refine wm_icmp_ge (tgt := 51) hC dX2_left_12 (by decide) hw (fun hw => ?_) (fun hw => ?_)
  · refine wm_aload_n hC 0 dX2_left_51 rfl (k_ne0 kk_151 (by decide)) ?_
    refine x_getI hC 5 fl_X2_25 rfl kk_151 dX2_left_52 ?_
    refine wm_if_ne (tgt := 62) hC dX2_left_55 (by decide) hw (fun hw => ?_) (fun hw => ?_)
    · refine wm_sipush hC dX2_left_58 (k := ?_)
      exact wm_ireturn hC hE dX2_left_61 ⟨trivial, ⟨hRF, hw⟩⟩
    · refine wm_aload_n hC 2 dX2_left_62 rfl (k_ne0 (st_k0 h2) (by decide)) ?_
      refine x_getI hC 0 fl_X2_61 rfl (st_k0 h2) dX2_left_63 ?_
      refine wm_iload hC 4 dX2_left_66 rfl ?_
      refine x_iadd hC dX2_left_68 hw (fun hw => ?_)
      refine wm_sipush hC dX2_left_69 (k := ?_)
      refine wm_icmp_le (tgt := 77) hC dX2_left_72 (by decide) hw (fun hw => ?_) (fun hw => ?_)
      · refine wm_iconst hC dX2_left_77 (k := ?_)
        refine wm_istore hC dX2_left_78 (by decide) (L2 := [(5, vi 0), (0, vr 151), (1, vr l1), (2, vr l2), (3, vi l3), (4, vi l4)]) rfl ?_
        refine wm_iconst hC dX2_left_80 (k := ?_)
        refine wm_istore hC dX2_left_81 (by decide) (L2 := [(6, vi 0), (5, vi 0), (0, vr 151), (1, vr l1), (2, vr l2), (3, vi l3), (4, vi l4)]) rfl ?_
        obtain ⟨f, hw⟩ := hw
        refine wm_sub [2, 3, 4, 5, 6, 1, 0] (L2 := [(0, vr 151), (1, vr l1), (2, vr l2), (3, vi l3), (4, vi l4), (5, vi 0), (6, vi 0)]) rfl ?_
        exact w2_left_b83 hC hRm hE h1 h2 f _ _ _ _ _ hRF hw
      · refine wm_iconst hC dX2_left_75 (k := ?_)
        exact wm_ireturn hC hE dX2_left_76 ⟨trivial, ⟨hRF, hw⟩⟩
  · refine wm_aload_n hC 0 dX2_left_15 rfl (k_ne0 kk_151 (by decide)) ?_
    refine x_getR3 hC 3 fl_X2_18 rfl kk_151 (rf_151_3 hRF) dX2_left_16 ?_
    refine wm_iconst hC dX2_left_19 (k := ?_)
    refine wm_iload hC 5 dX2_left_20 rfl ?_
    refine x_imul hC dX2_left_22 hw (fun hw => ?_)
    refine x_iald2 hC kk_157 kn_157 dX2_left_23 hw (fun hw => ?_)
    refine wm_iload hC 4 dX2_left_24 rfl ?_
    refine wm_icmp_le (tgt := 41) hC dX2_left_26 (by decide) hw (fun hw => ?_) (fun hw => ?_)
    · refine wm_iload hC 4 dX2_left_41 rfl ?_
      refine wm_istore hC dX2_left_43 (by decide) (L2 := [(4, vi l4), (0, vr 151), (1, vr l1), (2, vr l2), (3, vi l3), (5, vi l5)]) rfl ?_
      refine x_iinc hC 5 dX2_left_45 rfl (by decide) (L2 := [(5, vi (l5 + 1)), (4, vi l4), (0, vr 151), (1, vr l1), (2, vr l2), (3, vi l3)]) rfl hw (fun hw => ?_)
      refine wm_goto (tgt := 6) hC dX2_left_48 (by decide) ?_
      refine wm_sub [2, 3, 4, 5, 1, 0] (L2 := [(0, vr 151), (1, vr l1), (2, vr l2), (3, vi l3), (4, vi l4), (5, vi (l5 + 1))]) rfl ?_
      exact kk6 _ _ hw
    · refine wm_aload_n hC 0 dX2_left_29 rfl (k_ne0 kk_151 (by decide)) ?_
      refine x_getR3 hC 3 fl_X2_18 rfl kk_151 (rf_151_3 hRF) dX2_left_30 ?_
      refine wm_iconst hC dX2_left_33 (k := ?_)
      refine wm_iload hC 5 dX2_left_34 rfl ?_
      refine x_imul hC dX2_left_36 hw (fun hw => ?_)
      refine x_iald2 hC kk_157 kn_157 dX2_left_37 hw (fun hw => ?_)
      refine wm_goto (tgt := 43) hC dX2_left_38 (by decide) ?_
      refine wm_istore hC dX2_left_43 (by decide) (L2 := [(4, vi (I 157 (3 * l5))), (0, vr 151), (1, vr l1), (2, vr l2), (3, vi l3), (5, vi l5)]) rfl ?_
      refine x_iinc hC 5 dX2_left_45 rfl (by decide) (L2 := [(5, vi (l5 + 1)), (4, vi (I 157 (3 * l5))), (0, vr 151), (1, vr l1), (2, vr l2), (3, vi l3)]) rfl hw (fun hw => ?_)
      refine wm_goto (tgt := 6) hC dX2_left_48 (by decide) ?_
      refine wm_sub [2, 3, 4, 5, 1, 0] (L2 := [(0, vr 151), (1, vr l1), (2, vr l2), (3, vi l3), (4, vi (I 157 (3 * l5))), (5, vi (l5 + 1))]) rfl ?_
      exact kk6 _ _ hw
set_option maxRecDepth 20000 in
theorem w2_left_b6 {C : wX} {ad : Nat → Nat} {n : Nat} {I : mI} {J : mI} {R : mR} {Q : Int → mI → mI → mR → Prop} (hC : wOK C cX2_left 9 RX2) (hRm : wRm C 7 168 0 0) (hE : wEnd C (some .int) ad n (fun r I' J' R' => (True) ∧ (RF R' ∧ Q r I' J' R'))) (hRF : RF R) {l1 : Nat} {l2 : Nat} {l3 : Int}   (h1 : isLd l1) (h2 : isSt l2)  : ∀ (f : Nat) (l4 : Int) (l5 : Int), p2_left_b6 l1 l2 l3 I J R Q f l4 l5 → WM C ad n I J R 0 0 6 [(0, vr 151), (1, vr l1), (2, vr l2), (3, vi l3), (4, vi l4), (5, vi l5)] [] := by
  intro f
  induction f with
  | zero => intro l4 l5 hw; exact hw.elim
  | succ f ih => intro l4 l5 hw; exact w2_left_b6_body hC hRm hE hRF h1 h2 (fun a0 a1 aw => ih a0 a1 aw) hw
def p2_left (l1 : Nat) (l2 : Nat) (l3 : Int) (I : mI) (J : mI) (R : mR) (Q : Int → mI → mI → mR → Prop) : Prop := (∃ f, p2_left_b6 l1 l2 l3 I J R Q f 0 0)
set_option maxRecDepth 20000 in
theorem c2_left {ad : Nat → Nat} {n : Nat} {I J : mI} {R : mR} {Q : Int → mI → mI → mR → Prop}  (hRF : RF R) {l1 : Nat} {l2 : Nat} {l3 : Int}  (h1 : isLd l1) (h2 : isSt l2)  (hw : p2_left l1 l2 l3 I J R Q) : wMet yX2_left cX2_left 9 (some .int) 7 168 false ad n I J R [vr 151, vr l1, vr l2, vi l3] (fun r I' J' R' => (True) ∧ (RF R' ∧ Q r I' J' R')) := by
  refine wMet_of (by decide) (Nat.le_of_ble_eq_true rfl) (fun C hC hRm hE hS => ?_)
  refine (show WM C ad n I J R 0 0 0 [(0, vr 151), (1, vr l1), (2, vr l2), (3, vi l3)] [] from ?_)
  unfold p2_left at hw
  refine wm_iconst hC dX2_left_0 (k := ?_)
  refine wm_istore hC dX2_left_1 (by decide) (L2 := [(4, vi 0), (0, vr 151), (1, vr l1), (2, vr l2), (3, vi l3)]) rfl ?_
  refine wm_iconst hC dX2_left_3 (k := ?_)
  refine wm_istore hC dX2_left_4 (by decide) (L2 := [(5, vi 0), (4, vi 0), (0, vr 151), (1, vr l1), (2, vr l2), (3, vi l3)]) rfl ?_
  obtain ⟨f, hw⟩ := hw
  refine wm_sub [2, 3, 4, 5, 1, 0] (L2 := [(0, vr 151), (1, vr l1), (2, vr l2), (3, vi l3), (4, vi 0), (5, vi 0)]) rfl ?_
  exact w2_left_b6 hC hRm hE hRF h1 h2 f _ _ hw
def p11_tastes (l1 : Int) (I : mI) (J : mI) (R : mR) (Q : Int → mI → mI → mR → Prop) : Prop := (isLd (R 1 12) ∧ (p3_isThere (R 1 12) 0 l1 I (fun r1 => (if r1 = 0 then (Q (-1) I J R) else (isLd (R 1 12) ∧ (p2_left (R 1 12) 7 l1 I J R (fun r2 I1 J1 R1 => (Q r2 I1 J1 R1))))))))
set_option maxRecDepth 20000 in
theorem c11_tastes {ad : Nat → Nat} {n : Nat} {I J : mI} {R : mR} {Q : Int → mI → mI → mR → Prop}  (hRF : RF R) {l1 : Int}   (hw : p11_tastes l1 I J R Q) : wMet yX11_tastes cX11_tastes 2 (some .int) 8 196 false ad n I J R [vr 1, vi l1] (fun r I' J' R' => (True) ∧ (RF R' ∧ Q r I' J' R')) := by
  refine wMet_of (by decide) (Nat.le_of_ble_eq_true rfl) (fun C hC hRm hE hS => ?_)
  refine (show WM C ad n I J R 0 0 0 [(0, vr 1), (1, vi l1)] [] from ?_)
  unfold p11_tastes at hw
  refine wm_aload_n hC 0 dX11_tastes_0 rfl (k_ne0 kk_1 (by decide)) ?_
  refine x_getRD hC 12 fl_X11_57 rfl kk_1 dX11_tastes_1 hw (fun g1 hw => ?_)
  refine wm_iconst hC dX11_tastes_4 (k := ?_)
  refine wm_iload_n hC 1 dX11_tastes_5 rfl ?_
  refine y_callV_z_n hC hRm noS ml_X11_167 (ld_k0 g1) (c3_isThere hRF g1 hw) (Nat.le_of_ble_eq_true rfl) (Nat.le_of_ble_eq_true rfl) ⟨Nat.zero_le _, Nat.zero_le _⟩ rfl (st := []) rfl (Nat.le_of_ble_eq_true rfl) dX11_tastes_6 (fun r1 hw => ?_)
  refine wm_if_ne (tgt := 14) hC dX11_tastes_9 (by decide) hw (fun hw => ?_) (fun hw => ?_)
  · refine wm_iconst hC dX11_tastes_12 (k := ?_)
    exact wm_ireturn hC hE dX11_tastes_13 ⟨trivial, ⟨hRF, hw⟩⟩
  · refine wm_aload_n hC 0 dX11_tastes_14 rfl (k_ne0 kk_1 (by decide)) ?_
    refine x_getR3 hC 11 fl_X11_106 rfl kk_1 (rf_1_11 hRF) dX11_tastes_15 ?_
    refine wm_aload_n hC 0 dX11_tastes_18 rfl (k_ne0 kk_1 (by decide)) ?_
    refine x_getRD hC 12 fl_X11_57 rfl kk_1 dX11_tastes_19 hw (fun g2 hw => ?_)
    refine wm_aload_n hC 0 dX11_tastes_22 rfl (k_ne0 kk_1 (by decide)) ?_
    refine x_getR3 hC 2 fl_X11_26 rfl kk_1 (rf_1_2 hRF) dX11_tastes_23 ?_
    refine wm_iload_n hC 1 dX11_tastes_26 rfl ?_
    refine y_callV_i_IJR hC hRm noS ml_X11_254 kk_151 (c2_left hRF g2 isSt_7 hw) (Nat.le_of_ble_eq_true rfl) (Nat.le_of_ble_eq_true rfl) ⟨Nat.zero_le _, Nat.zero_le _⟩ rfl (st := []) rfl (Nat.le_of_ble_eq_true rfl) dX11_tastes_27 (fun r2 I1 J1 R1 hw => ?_)
    obtain ⟨rf1, hw⟩ := hw
    exact wm_ireturn hC hE dX11_tastes_30 ⟨trivial, ⟨rf1, hw⟩⟩
def p2_slotOf (l0 : Int) (l1 : Int) (Q : Int → Prop) : Prop := (rg (l0 - 1) ∧ (rg ((l0 - 1) * 6) ∧ (rg (((l0 - 1) * 6) + l1) ∧ (rg ((((l0 - 1) * 6) + l1) * 7) ∧ (Q ((((l0 - 1) * 6) + l1) * 7))))))
set_option maxRecDepth 20000 in
theorem c2_slotOf {ad : Nat → Nat} {n : Nat} {I J : mI} {R : mR} {Q : Int → Prop}  (hRF : RF R) {l0 : Int} {l1 : Int}   (hw : p2_slotOf l0 l1 Q) : wMet yX2_slotOf cX2_slotOf 2 (some .int) 1 12 false ad n I J R [vi l0, vi l1] (fun r I' J' R' => (I' = I ∧ J' = J ∧ R' = R) ∧ Q r) := by
  refine wMet_of (by decide) (Nat.le_of_ble_eq_true rfl) (fun C hC hRm hE hS => ?_)
  refine (show WM C ad n I J R 0 0 0 [(0, vi l0), (1, vi l1)] [] from ?_)
  unfold p2_slotOf at hw
  refine wm_iload_n hC 0 dX2_slotOf_0 rfl ?_
  refine wm_iconst hC dX2_slotOf_1 (k := ?_)
  refine x_isub hC dX2_slotOf_2 hw (fun hw => ?_)
  refine wm_bipush hC dX2_slotOf_3 (k := ?_)
  refine x_imul hC dX2_slotOf_5 hw (fun hw => ?_)
  refine wm_iload_n hC 1 dX2_slotOf_6 rfl ?_
  refine x_iadd hC dX2_slotOf_7 hw (fun hw => ?_)
  refine wm_bipush hC dX2_slotOf_8 (k := ?_)
  refine x_imul hC dX2_slotOf_10 hw (fun hw => ?_)
  exact wm_ireturn hC hE dX2_slotOf_11 ⟨⟨rfl, rfl, rfl⟩, hw⟩
def p2_count_b89_body (l1 : Nat) (l2 : Nat) (l3 : Int) (l4 : Int) (l5 : Int) (l6 : Int) (J : mI) (R : mR) (k11 : Int → mI → mI → mR → Prop) (k52 : Int → mI → mI → mR → Prop) (Q : mI → mI → mR → Prop) (k89 : Int → mI → Prop) (l7 : Int) (I : mI) : Prop := (if (I (l1 + 1) 2) ≤ l7 then (rg (l6 + 1) ∧ (k52 (l6 + 1) I J R)) else (p2_slotOf l6 l7 (fun r2 => (((0 : Int) ≤ l7 ∧ l7 < (6 : Int)) ∧ (rg (r2 + (I 155 l7)) ∧ (rg ((r2 + (I 155 l7)) + 1) ∧ (((0 : Int) ≤ ((r2 + (I 155 l7)) + 1) ∧ ((r2 + (I 155 l7)) + 1) < (1260 : Int)) ∧ (rg ((I 158 ((r2 + (I 155 l7)) + 1)) + 1) ∧ (((0 : Int) ≤ ((r2 + (I 155 l7)) + 1) ∧ ((r2 + (I 155 l7)) + 1) < (1260 : Int)) ∧ wLet (up I 158 ((r2 + (I 155 l7)) + 1) ((I 158 ((r2 + (I 155 l7)) + 1)) + 1)) (fun I6 => (rg (l7 + 1) ∧ (k89 (l7 + 1) I6))))))))))))
def p2_count_b89 (l1 : Nat) (l2 : Nat) (l3 : Int) (l4 : Int) (l5 : Int) (l6 : Int) (J : mI) (R : mR) (k11 : Int → mI → mI → mR → Prop) (k52 : Int → mI → mI → mR → Prop) (Q : mI → mI → mR → Prop) : Nat → Int → mI → Prop
  | 0 => fun _ _ => False
  | f + 1 => fun l7 I => p2_count_b89_body l1 l2 l3 l4 l5 l6 J R k11 k52 Q (p2_count_b89 l1 l2 l3 l4 l5 l6 J R k11 k52 Q f) l7 I
set_option maxRecDepth 20000 in
theorem w2_count_b89_body {C : wX} {ad : Nat → Nat} {n : Nat} {I J : mI} {R : mR} {Q : mI → mI → mR → Prop} (hC : wOK C cX2_count 8 RX2) (hRm : wRm C 7 168 0 0) (hE : wEnd C none ad n (fun _ I' J' R' => (True) ∧ (RF R' ∧ Q I' J' R'))) (hRF : RF R) {l1 : Nat} {l2 : Nat} {l3 : Int} {l4 : Int} {l5 : Int} {l6 : Int} {l7 : Int}  {k11 : Int → mI → mI → mR → Prop} {k52 : Int → mI → mI → mR → Prop} (h1 : isLd l1) (h2 : isSt l2) (kk11 : ∀ (y5 : Int) (I' : mI) (J' : mI) (R' : mR), RF R' → k11 y5 I' J' R' → WM C ad n I' J' R' 0 0 11 [(0, vr 151), (1, vr l1), (2, vr l2), (3, vi l3), (4, vi l4), (5, vi y5)] []) (kk52 : ∀ (y6 : Int) (I' : mI) (J' : mI) (R' : mR), RF R' → k52 y6 I' J' R' → WM C ad n I' J' R' 0 0 52 [(0, vr 151), (1, vr l1), (2, vr l2), (3, vi l3), (4, vi l4), (5, vi l5), (6, vi y6)] []) {k89 : Int → mI → Prop} (kk89 : ∀ (y7 : Int) (I' : mI), k89 y7 I' → WM C ad n I' J R 0 0 89 [(0, vr 151), (1, vr l1), (2, vr l2), (3, vi l3), (4, vi l4), (5, vi l5), (6, vi l6), (7, vi y7)] []) (hw : p2_count_b89_body l1 l2 l3 l4 l5 l6 J R k11 k52 Q k89 l7 I) : WM C ad n I J R 0 0 89 [(0, vr 151), (1, vr l1), (2, vr l2), (3, vi l3), (4, vi l4), (5, vi l5), (6, vi l6), (7, vi l7)] [] := by
  unfold p2_count_b89_body at hw
  refine wm_iload hC 7 dX2_count_89 rfl ?_
  refine wm_aload_n hC 1 dX2_count_91 rfl (k_ne0 (ld_k0 h1) (by decide)) ?_
  refine x_getR3 hC 0 fl_X2_93 rfl (ld_k0 h1) (rfd_0 hRF h1) dX2_count_92 ?_
  refine wm_iconst hC dX2_count_95 (k := ?_)
  refine x_ialdK hC (ld_k1 h1) (ld_n1 h1) (by decide) (by decide) dX2_count_96 ?_
  refine wm_icmp_ge (tgt := 135) hC dX2_count_97 (by decide) hw (fun hw => ?_) (fun hw => ?_)
  · refine x_iinc hC 6 dX2_count_135 rfl (by decide) (L2 := [(6, vi (l6 + 1)), (0, vr 151), (1, vr l1), (2, vr l2), (3, vi l3), (4, vi l4), (5, vi l5), (7, vi l7)]) rfl hw (fun hw => ?_)
    refine wm_goto (tgt := 52) hC dX2_count_138 (by decide) ?_
    refine wm_sub [1, 2, 3, 4, 5, 6, 0] (L2 := [(0, vr 151), (1, vr l1), (2, vr l2), (3, vi l3), (4, vi l4), (5, vi l5), (6, vi (l6 + 1))]) rfl ?_
    exact kk52 _ _ _ _ hRF hw
  · refine wm_aload_n hC 0 dX2_count_100 rfl (k_ne0 kk_151 (by decide)) ?_
    refine x_getR3 hC 4 fl_X2_22 rfl kk_151 (rf_151_4 hRF) dX2_count_101 ?_
    refine wm_iload hC 6 dX2_count_104 rfl ?_
    refine wm_iload hC 7 dX2_count_106 rfl ?_
    refine y_callS_i_n hC hRm noS ml_X2_96 (c2_slotOf hRF  hw) (Nat.le_of_ble_eq_true rfl) (Nat.le_of_ble_eq_true rfl) ⟨Nat.zero_le _, Nat.zero_le _⟩ rfl (st := [vr 158]) rfl (Nat.le_of_ble_eq_true rfl) dX2_count_108 (fun r2 hw => ?_)
    refine wm_aload_n hC 0 dX2_count_111 rfl (k_ne0 kk_151 (by decide)) ?_
    refine x_getR3 hC 2 fl_X2_12 rfl kk_151 (rf_151_2 hRF) dX2_count_112 ?_
    refine x_getR3 hC 5 fl_X2_84 rfl kk_152 (rfs_5 hRF isSt_152) dX2_count_115 ?_
    refine wm_iload hC 7 dX2_count_118 rfl ?_
    refine x_iald2 hC kk_155 kn_155 dX2_count_120 hw (fun hw => ?_)
    refine x_iadd hC dX2_count_121 hw (fun hw => ?_)
    refine wm_iconst hC dX2_count_122 (k := ?_)
    refine x_iadd hC dX2_count_123 hw (fun hw => ?_)
    refine wm_dup2_11 hC dX2_count_124 (k := ?_)
    refine x_iald2 hC kk_158 kn_158 dX2_count_125 hw (fun hw => ?_)
    refine wm_iconst hC dX2_count_126 (k := ?_)
    refine x_iadd hC dX2_count_127 hw (fun hw => ?_)
    refine x_iast2 hC kk_158 kn_158 dX2_count_128 hw (fun I6 hw => ?_)
    refine x_iinc hC 7 dX2_count_129 rfl (by decide) (L2 := [(7, vi (l7 + 1)), (0, vr 151), (1, vr l1), (2, vr l2), (3, vi l3), (4, vi l4), (5, vi l5), (6, vi l6)]) rfl hw (fun hw => ?_)
    refine wm_goto (tgt := 89) hC dX2_count_132 (by decide) ?_
    refine wm_sub [1, 2, 3, 4, 5, 6, 7, 0] (L2 := [(0, vr 151), (1, vr l1), (2, vr l2), (3, vi l3), (4, vi l4), (5, vi l5), (6, vi l6), (7, vi (l7 + 1))]) rfl ?_
    exact kk89 _ _ hw
set_option maxRecDepth 20000 in
theorem w2_count_b89 {C : wX} {ad : Nat → Nat} {n : Nat} {J : mI} {R : mR} {Q : mI → mI → mR → Prop} (hC : wOK C cX2_count 8 RX2) (hRm : wRm C 7 168 0 0) (hE : wEnd C none ad n (fun _ I' J' R' => (True) ∧ (RF R' ∧ Q I' J' R'))) (hRF : RF R) {l1 : Nat} {l2 : Nat} {l3 : Int} {l4 : Int} {l5 : Int} {l6 : Int}  {k11 : Int → mI → mI → mR → Prop} {k52 : Int → mI → mI → mR → Prop} (h1 : isLd l1) (h2 : isSt l2) (kk11 : ∀ (y5 : Int) (I' : mI) (J' : mI) (R' : mR), RF R' → k11 y5 I' J' R' → WM C ad n I' J' R' 0 0 11 [(0, vr 151), (1, vr l1), (2, vr l2), (3, vi l3), (4, vi l4), (5, vi y5)] []) (kk52 : ∀ (y6 : Int) (I' : mI) (J' : mI) (R' : mR), RF R' → k52 y6 I' J' R' → WM C ad n I' J' R' 0 0 52 [(0, vr 151), (1, vr l1), (2, vr l2), (3, vi l3), (4, vi l4), (5, vi l5), (6, vi y6)] []) : ∀ (f : Nat) (l7 : Int) (I : mI), p2_count_b89 l1 l2 l3 l4 l5 l6 J R k11 k52 Q f l7 I → WM C ad n I J R 0 0 89 [(0, vr 151), (1, vr l1), (2, vr l2), (3, vi l3), (4, vi l4), (5, vi l5), (6, vi l6), (7, vi l7)] [] := by
  intro f
  induction f with
  | zero => intro l7 I hw; exact hw.elim
  | succ f ih => intro l7 I hw; exact w2_count_b89_body hC hRm hE hRF h1 h2 kk11 kk52 (fun a0 a1 aw => ih a0 a1 aw) hw
def p2_count_b52_body (l1 : Nat) (l2 : Nat) (l3 : Int) (l4 : Int) (l5 : Int) (k11 : Int → mI → mI → mR → Prop) (Q : mI → mI → mR → Prop) (k52 : Int → mI → mI → mR → Prop) (l6 : Int) (I : mI) (J : mI) (R : mR) : Prop := (if (30 : Int) < l6 then (rg (l5 + 1) ∧ (k11 (l5 + 1) I J R)) else (rg ((I l2 0) + l6) ∧ (if (999 : Int) < ((I l2 0) + l6) then (rg (l5 + 1) ∧ (k11 (l5 + 1) I J R)) else (p0_pass l1 152 (-1) I J R (fun r1 I5 J1 R1 => (∃ f, p2_count_b89 l1 l2 l3 l4 l5 l6 J1 R1 k11 k52 Q f 0 I5))))))
def p2_count_b52 (l1 : Nat) (l2 : Nat) (l3 : Int) (l4 : Int) (l5 : Int) (k11 : Int → mI → mI → mR → Prop) (Q : mI → mI → mR → Prop) : Nat → Int → mI → mI → mR → Prop
  | 0 => fun _ _ _ _ => False
  | f + 1 => fun l6 I J R => p2_count_b52_body l1 l2 l3 l4 l5 k11 Q (p2_count_b52 l1 l2 l3 l4 l5 k11 Q f) l6 I J R
set_option maxRecDepth 20000 in
theorem w2_count_b52_body {C : wX} {ad : Nat → Nat} {n : Nat} {I J : mI} {R : mR} {Q : mI → mI → mR → Prop} (hC : wOK C cX2_count 8 RX2) (hRm : wRm C 7 168 0 0) (hE : wEnd C none ad n (fun _ I' J' R' => (True) ∧ (RF R' ∧ Q I' J' R'))) (hRF : RF R) {l1 : Nat} {l2 : Nat} {l3 : Int} {l4 : Int} {l5 : Int} {l6 : Int}  {k11 : Int → mI → mI → mR → Prop} (h1 : isLd l1) (h2 : isSt l2) (kk11 : ∀ (y5 : Int) (I' : mI) (J' : mI) (R' : mR), RF R' → k11 y5 I' J' R' → WM C ad n I' J' R' 0 0 11 [(0, vr 151), (1, vr l1), (2, vr l2), (3, vi l3), (4, vi l4), (5, vi y5)] []) {k52 : Int → mI → mI → mR → Prop} (kk52 : ∀ (y6 : Int) (I' : mI) (J' : mI) (R' : mR), RF R' → k52 y6 I' J' R' → WM C ad n I' J' R' 0 0 52 [(0, vr 151), (1, vr l1), (2, vr l2), (3, vi l3), (4, vi l4), (5, vi l5), (6, vi y6)] []) (hw : p2_count_b52_body l1 l2 l3 l4 l5 k11 Q k52 l6 I J R) : WM C ad n I J R 0 0 52 [(0, vr 151), (1, vr l1), (2, vr l2), (3, vi l3), (4, vi l4), (5, vi l5), (6, vi l6)] [] := by
  unfold p2_count_b52_body at hw
  refine wm_iload hC 6 dX2_count_52 rfl ?_
  refine wm_bipush hC dX2_count_54 (k := ?_)
  refine wm_icmp_gt (tgt := 141) hC dX2_count_56 (by decide) hw (fun hw => ?_) (fun hw => ?_)
  · refine x_iinc hC 5 dX2_count_141 rfl (by decide) (L2 := [(5, vi (l5 + 1)), (0, vr 151), (1, vr l1), (2, vr l2), (3, vi l3), (4, vi l4), (6, vi l6)]) rfl hw (fun hw => ?_)
    refine wm_goto (tgt := 11) hC dX2_count_144 (by decide) ?_
    refine wm_sub [1, 2, 3, 4, 5, 0] (L2 := [(0, vr 151), (1, vr l1), (2, vr l2), (3, vi l3), (4, vi l4), (5, vi (l5 + 1))]) rfl ?_
    exact kk11 _ _ _ _ hRF hw
  · refine wm_aload_n hC 2 dX2_count_59 rfl (k_ne0 (st_k0 h2) (by decide)) ?_
    refine x_getI hC 0 fl_X2_61 rfl (st_k0 h2) dX2_count_60 ?_
    refine wm_iload hC 6 dX2_count_63 rfl ?_
    refine x_iadd hC dX2_count_65 hw (fun hw => ?_)
    refine wm_sipush hC dX2_count_66 (k := ?_)
    refine wm_icmp_gt (tgt := 141) hC dX2_count_69 (by decide) hw (fun hw => ?_) (fun hw => ?_)
    · refine x_iinc hC 5 dX2_count_141 rfl (by decide) (L2 := [(5, vi (l5 + 1)), (0, vr 151), (1, vr l1), (2, vr l2), (3, vi l3), (4, vi l4), (6, vi l6)]) rfl hw (fun hw => ?_)
      refine wm_goto (tgt := 11) hC dX2_count_144 (by decide) ?_
      refine wm_sub [1, 2, 3, 4, 5, 0] (L2 := [(0, vr 151), (1, vr l1), (2, vr l2), (3, vi l3), (4, vi l4), (5, vi (l5 + 1))]) rfl ?_
      exact kk11 _ _ _ _ hRF hw
    · refine wm_aload_n hC 0 dX2_count_72 rfl (k_ne0 kk_151 (by decide)) ?_
      refine x_getR3 hC 1 fl_X2_42 rfl kk_151 (rf_151_1 hRF) dX2_count_73 ?_
      refine wm_aload_n hC 1 dX2_count_76 rfl (k_ne0 (ld_k0 h1) (by decide)) ?_
      refine wm_aload_n hC 0 dX2_count_77 rfl (k_ne0 kk_151 (by decide)) ?_
      refine x_getR3 hC 2 fl_X2_12 rfl kk_151 (rf_151_2 hRF) dX2_count_78 ?_
      refine wm_iconst hC dX2_count_81 (k := ?_)
      refine y_callV_z_IJR hC hRm noS ml_X2_78 kk_150 (c0_pass hRF h1 isSt_152 hw) (Nat.le_of_ble_eq_true rfl) (Nat.le_of_ble_eq_true rfl) ⟨Nat.zero_le _, Nat.zero_le _⟩ rfl (st := []) rfl (Nat.le_of_ble_eq_true rfl) dX2_count_82 (fun r1 I5 J1 R1 hw => ?_)
      obtain ⟨rf1, hw⟩ := hw
      refine wm_pop hC dX2_count_85 (k := ?_)
      refine wm_iconst hC dX2_count_86 (k := ?_)
      refine wm_istore hC dX2_count_87 (by decide) (L2 := [(7, vi 0), (0, vr 151), (1, vr l1), (2, vr l2), (3, vi l3), (4, vi l4), (5, vi l5), (6, vi l6)]) rfl ?_
      obtain ⟨f, hw⟩ := hw
      refine wm_sub [1, 2, 3, 4, 5, 6, 7, 0] (L2 := [(0, vr 151), (1, vr l1), (2, vr l2), (3, vi l3), (4, vi l4), (5, vi l5), (6, vi l6), (7, vi 0)]) rfl ?_
      exact w2_count_b89 hC hRm hE rf1 h1 h2 kk11 kk52 f _ _ hw
set_option maxRecDepth 20000 in
theorem w2_count_b52 {C : wX} {ad : Nat → Nat} {n : Nat}  {Q : mI → mI → mR → Prop} (hC : wOK C cX2_count 8 RX2) (hRm : wRm C 7 168 0 0) (hE : wEnd C none ad n (fun _ I' J' R' => (True) ∧ (RF R' ∧ Q I' J' R'))) {l1 : Nat} {l2 : Nat} {l3 : Int} {l4 : Int} {l5 : Int}  {k11 : Int → mI → mI → mR → Prop} (h1 : isLd l1) (h2 : isSt l2) (kk11 : ∀ (y5 : Int) (I' : mI) (J' : mI) (R' : mR), RF R' → k11 y5 I' J' R' → WM C ad n I' J' R' 0 0 11 [(0, vr 151), (1, vr l1), (2, vr l2), (3, vi l3), (4, vi l4), (5, vi y5)] []) : ∀ (f : Nat) (l6 : Int) (I : mI) (J : mI) (R : mR), RF R → p2_count_b52 l1 l2 l3 l4 l5 k11 Q f l6 I J R → WM C ad n I J R 0 0 52 [(0, vr 151), (1, vr l1), (2, vr l2), (3, vi l3), (4, vi l4), (5, vi l5), (6, vi l6)] [] := by
  intro f
  induction f with
  | zero => intro l6 I J R hRF hw; exact hw.elim
  | succ f ih => intro l6 I J R hRF hw; exact w2_count_b52_body hC hRm hE hRF h1 h2 kk11 (fun a0 a1 a2 a3 ar aw => ih a0 a1 a2 a3 ar aw) hw
def p2_count_b11_body (l1 : Nat) (l2 : Nat) (l3 : Int) (l4 : Int) (Q : mI → mI → mR → Prop) (k11 : Int → mI → mI → mR → Prop) (l5 : Int) (I : mI) (J : mI) (R : mR) : Prop := (if (10 : Int) ≤ l5 then (p1_suppose (-1) 0 I (fun I2 => (Q I2 J R))) else (if (bAnd (bShr l4 l5) 1) = 0 then (rg (l5 + 1) ∧ (k11 (l5 + 1) I J R)) else (p1_suppose l3 l5 I (fun I3 => (p7_take 152 l2 I3 (fun I4 => (∃ f, p2_count_b52 l1 l2 l3 l4 l5 k11 Q f 1 I4 J R)))))))
def p2_count_b11 (l1 : Nat) (l2 : Nat) (l3 : Int) (l4 : Int) (Q : mI → mI → mR → Prop) : Nat → Int → mI → mI → mR → Prop
  | 0 => fun _ _ _ _ => False
  | f + 1 => fun l5 I J R => p2_count_b11_body l1 l2 l3 l4 Q (p2_count_b11 l1 l2 l3 l4 Q f) l5 I J R
set_option maxRecDepth 20000 in
theorem w2_count_b11_body {C : wX} {ad : Nat → Nat} {n : Nat} {I J : mI} {R : mR} {Q : mI → mI → mR → Prop} (hC : wOK C cX2_count 8 RX2) (hRm : wRm C 7 168 0 0) (hE : wEnd C none ad n (fun _ I' J' R' => (True) ∧ (RF R' ∧ Q I' J' R'))) (hRF : RF R) {l1 : Nat} {l2 : Nat} {l3 : Int} {l4 : Int} {l5 : Int}   (h1 : isLd l1) (h2 : isSt l2)  {k11 : Int → mI → mI → mR → Prop} (kk11 : ∀ (y5 : Int) (I' : mI) (J' : mI) (R' : mR), RF R' → k11 y5 I' J' R' → WM C ad n I' J' R' 0 0 11 [(0, vr 151), (1, vr l1), (2, vr l2), (3, vi l3), (4, vi l4), (5, vi y5)] []) (hw : p2_count_b11_body l1 l2 l3 l4 Q k11 l5 I J R) : WM C ad n I J R 0 0 11 [(0, vr 151), (1, vr l1), (2, vr l2), (3, vi l3), (4, vi l4), (5, vi l5)] [] := by
  unfold p2_count_b11_body at hw
  refine wm_iload hC 5 dX2_count_11 rfl ?_
  refine wm_bipush hC dX2_count_13 (k := ?_)
  refine wm_icmp_ge (tgt := 147) hC dX2_count_15 (by decide) hw (fun hw => ?_) (fun hw => ?_)
  · refine wm_aload_n hC 0 dX2_count_147 rfl (k_ne0 kk_151 (by decide)) ?_
    refine x_getR3 hC 0 fl_X2_38 rfl kk_151 (rf_151_0 hRF) dX2_count_148 ?_
    refine wm_iconst hC dX2_count_151 (k := ?_)
    refine wm_iconst hC dX2_count_152 (k := ?_)
    refine y_callV_v_I hC hRm noS ml_X2_64 kk_146 (c1_suppose hRF  hw) (Nat.le_of_ble_eq_true rfl) (Nat.le_of_ble_eq_true rfl) ⟨Nat.zero_le _, Nat.zero_le _⟩ rfl (st := []) rfl (Nat.le_of_ble_eq_true rfl) dX2_count_153 (fun I2 hw => ?_)
    exact wm_return hC hE dX2_count_156 ⟨trivial, ⟨hRF, hw⟩⟩
  · refine wm_iload hC 4 dX2_count_18 rfl ?_
    refine wm_iload hC 5 dX2_count_20 rfl ?_
    refine wm_ishr hC dX2_count_22 ?_
    refine wm_iconst hC dX2_count_23 (k := ?_)
    refine wm_iand hC dX2_count_24 ?_
    refine wm_if_ne (tgt := 31) hC dX2_count_25 (by decide) hw (fun hw => ?_) (fun hw => ?_)
    · refine wm_goto (tgt := 141) hC dX2_count_28 (by decide) ?_
      refine x_iinc hC 5 dX2_count_141 rfl (by decide) (L2 := [(5, vi (l5 + 1)), (0, vr 151), (1, vr l1), (2, vr l2), (3, vi l3), (4, vi l4)]) rfl hw (fun hw => ?_)
      refine wm_goto (tgt := 11) hC dX2_count_144 (by decide) ?_
      refine wm_sub [1, 2, 3, 4, 5, 0] (L2 := [(0, vr 151), (1, vr l1), (2, vr l2), (3, vi l3), (4, vi l4), (5, vi (l5 + 1))]) rfl ?_
      exact kk11 _ _ _ _ hRF hw
    · refine wm_aload_n hC 0 dX2_count_31 rfl (k_ne0 kk_151 (by decide)) ?_
      refine x_getR3 hC 0 fl_X2_38 rfl kk_151 (rf_151_0 hRF) dX2_count_32 ?_
      refine wm_iload_n hC 3 dX2_count_35 rfl ?_
      refine wm_iload hC 5 dX2_count_36 rfl ?_
      refine y_callV_v_I hC hRm noS ml_X2_64 kk_146 (c1_suppose hRF  hw) (Nat.le_of_ble_eq_true rfl) (Nat.le_of_ble_eq_true rfl) ⟨Nat.zero_le _, Nat.zero_le _⟩ rfl (st := []) rfl (Nat.le_of_ble_eq_true rfl) dX2_count_38 (fun I3 hw => ?_)
      refine wm_aload_n hC 0 dX2_count_41 rfl (k_ne0 kk_151 (by decide)) ?_
      refine x_getR3 hC 2 fl_X2_12 rfl kk_151 (rf_151_2 hRF) dX2_count_42 ?_
      refine wm_aload_n hC 2 dX2_count_45 rfl (k_ne0 (st_k0 h2) (by decide)) ?_
      refine y_callV_v_I hC hRm noS ml_X2_70 kk_152 (c7_take hRF isSt_152 h2 hw) (Nat.le_of_ble_eq_true rfl) (Nat.le_of_ble_eq_true rfl) ⟨Nat.zero_le _, Nat.zero_le _⟩ rfl (st := []) rfl (Nat.le_of_ble_eq_true rfl) dX2_count_46 (fun I4 hw => ?_)
      refine wm_iconst hC dX2_count_49 (k := ?_)
      refine wm_istore hC dX2_count_50 (by decide) (L2 := [(6, vi 1), (0, vr 151), (1, vr l1), (2, vr l2), (3, vi l3), (4, vi l4), (5, vi l5)]) rfl ?_
      obtain ⟨f, hw⟩ := hw
      refine wm_sub [1, 2, 3, 4, 5, 6, 0] (L2 := [(0, vr 151), (1, vr l1), (2, vr l2), (3, vi l3), (4, vi l4), (5, vi l5), (6, vi 1)]) rfl ?_
      exact w2_count_b52 hC hRm hE h1 h2 kk11 f _ _ _ _ hRF hw
set_option maxRecDepth 20000 in
theorem w2_count_b11 {C : wX} {ad : Nat → Nat} {n : Nat}  {Q : mI → mI → mR → Prop} (hC : wOK C cX2_count 8 RX2) (hRm : wRm C 7 168 0 0) (hE : wEnd C none ad n (fun _ I' J' R' => (True) ∧ (RF R' ∧ Q I' J' R'))) {l1 : Nat} {l2 : Nat} {l3 : Int} {l4 : Int}   (h1 : isLd l1) (h2 : isSt l2)  : ∀ (f : Nat) (l5 : Int) (I : mI) (J : mI) (R : mR), RF R → p2_count_b11 l1 l2 l3 l4 Q f l5 I J R → WM C ad n I J R 0 0 11 [(0, vr 151), (1, vr l1), (2, vr l2), (3, vi l3), (4, vi l4), (5, vi l5)] [] := by
  intro f
  induction f with
  | zero => intro l5 I J R hRF hw; exact hw.elim
  | succ f ih => intro l5 I J R hRF hw; exact w2_count_b11_body hC hRm hE hRF h1 h2 (fun a0 a1 a2 a3 ar aw => ih a0 a1 a2 a3 ar aw) hw
def p2_count (l1 : Nat) (l2 : Nat) (l3 : Int) (l4 : Int) (I : mI) (J : mI) (R : mR) (Q : mI → mI → mR → Prop) : Prop := (wLet (fil I 158 1260 0) (fun I1 => (∃ f, p2_count_b11 l1 l2 l3 l4 Q f 0 I1 J R)))
set_option maxRecDepth 20000 in
theorem c2_count {ad : Nat → Nat} {n : Nat} {I J : mI} {R : mR} {Q : mI → mI → mR → Prop}  (hRF : RF R) {l1 : Nat} {l2 : Nat} {l3 : Int} {l4 : Int}  (h1 : isLd l1) (h2 : isSt l2)   (hw : p2_count l1 l2 l3 l4 I J R Q) : wMet yX2_count cX2_count 8 none 7 168 false ad n I J R [vr 151, vr l1, vr l2, vi l3, vi l4] (fun _ I' J' R' => (True) ∧ (RF R' ∧ Q I' J' R')) := by
  refine wMet_of (by decide) (Nat.le_of_ble_eq_true rfl) (fun C hC hRm hE hS => ?_)
  refine (show WM C ad n I J R 0 0 0 [(0, vr 151), (1, vr l1), (2, vr l2), (3, vi l3), (4, vi l4)] [] from ?_)
  unfold p2_count at hw
  refine wm_aload_n hC 0 dX2_count_0 rfl (k_ne0 kk_151 (by decide)) ?_
  refine x_getR3 hC 4 fl_X2_22 rfl kk_151 (rf_151_4 hRF) dX2_count_1 ?_
  refine wm_iconst hC dX2_count_4 (k := ?_)
  refine x_fill hC hRm ml_X2_87 kk_158 kn_158 (st := []) (Nat.le_of_ble_eq_true rfl) (Nat.le_of_ble_eq_true rfl) (Nat.le_of_ble_eq_true rfl) dX2_count_5 hw (fun I1 hw => ?_)
  refine wm_iconst hC dX2_count_8 (k := ?_)
  refine wm_istore hC dX2_count_9 (by decide) (L2 := [(5, vi 0), (0, vr 151), (1, vr l1), (2, vr l2), (3, vi l3), (4, vi l4)]) rfl ?_
  obtain ⟨f, hw⟩ := hw
  refine wm_sub [1, 2, 3, 4, 5, 0] (L2 := [(0, vr 151), (1, vr l1), (2, vr l2), (3, vi l3), (4, vi l4), (5, vi 0)]) rfl ?_
  exact w2_count_b11 hC hRm hE h1 h2 f _ _ _ _ hRF hw
def p2_findTelling_b95 (l1 : Int) (l2 : Int) (l3 : Int) (l4 : Int) (l5 : Int) (I : mI) (k7 : Int → mI → Prop) (k21 : Int → mI → Prop) (Q : mI → Prop) : Prop := (wLet (up I 151 6 l3) (fun I2 => (wLet (up I2 151 7 l4) (fun I3 => (wLet (up I3 151 8 l5) (fun I4 => (rg (l4 + 1) ∧ (k21 (l4 + 1) I4))))))))
set_option maxRecDepth 20000 in
theorem w2_findTelling_b95 {C : wX} {ad : Nat → Nat} {n : Nat} {I J : mI} {R : mR} {Q : mI → Prop} (hC : wOK C cX2_findTelling 8 RX2) (hRm : wRm C 2 33 0 0) (hE : wEnd C none ad n (fun _ I' J' R' => (J' = J ∧ R' = R) ∧ Q I')) (hRF : RF R) {l1 : Int} {l2 : Int} {l3 : Int} {l4 : Int} {l5 : Int}  {k7 : Int → mI → Prop} {k21 : Int → mI → Prop}  (kk7 : ∀ (y3 : Int) (I' : mI), k7 y3 I' → WM C ad n I' J R 0 0 7 [(0, vr 151), (1, vi l1), (2, vi l2), (3, vi y3)] []) (kk21 : ∀ (y4 : Int) (I' : mI), k21 y4 I' → WM C ad n I' J R 0 0 21 [(0, vr 151), (1, vi l1), (2, vi l2), (3, vi l3), (4, vi y4)] []) (hw : p2_findTelling_b95 l1 l2 l3 l4 l5 I k7 k21 Q) : WM C ad n I J R 0 0 95 [(0, vr 151), (1, vi l1), (2, vi l2), (3, vi l3), (4, vi l4), (5, vi l5)] [] := by
  unfold p2_findTelling_b95 at hw
  refine wm_aload_n hC 0 dX2_findTelling_95 rfl (k_ne0 kk_151 (by decide)) ?_
  refine wm_iload_n hC 3 dX2_findTelling_96 rfl ?_
  refine x_putI hC 6 fl_X2_29 rfl kk_151 dX2_findTelling_97 hw (fun I2 hw => ?_)
  refine wm_aload_n hC 0 dX2_findTelling_100 rfl (k_ne0 kk_151 (by decide)) ?_
  refine wm_iload hC 4 dX2_findTelling_101 rfl ?_
  refine x_putI hC 7 fl_X2_32 rfl kk_151 dX2_findTelling_103 hw (fun I3 hw => ?_)
  refine wm_aload_n hC 0 dX2_findTelling_106 rfl (k_ne0 kk_151 (by decide)) ?_
  refine wm_iload hC 5 dX2_findTelling_107 rfl ?_
  refine x_putI hC 8 fl_X2_35 rfl kk_151 dX2_findTelling_109 hw (fun I4 hw => ?_)
  refine x_iinc hC 4 dX2_findTelling_112 rfl (by decide) (L2 := [(4, vi (l4 + 1)), (0, vr 151), (1, vi l1), (2, vi l2), (3, vi l3), (5, vi l5)]) rfl hw (fun hw => ?_)
  refine wm_goto (tgt := 21) hC dX2_findTelling_115 (by decide) ?_
  refine wm_sub [1, 2, 3, 4, 0] (L2 := [(0, vr 151), (1, vi l1), (2, vi l2), (3, vi l3), (4, vi (l4 + 1))]) rfl ?_
  exact kk21 _ _ hw
def p2_findTelling_b33_body (l1 : Int) (l2 : Int) (l3 : Int) (l4 : Int) (I : mI) (k7 : Int → mI → Prop) (k21 : Int → mI → Prop) (Q : mI → Prop) (k33 : Int → Int → Prop) (l5 : Int) (l6 : Int) : Prop := (if (7 : Int) ≤ l6 then (if (I 151 8) = (-1) then (p2_findTelling_b95 l1 l2 l3 l4 l5 I k7 k21 Q) else (if (I 151 8) ≤ l5 then (rg (l4 + 1) ∧ (k21 (l4 + 1) I)) else (p2_findTelling_b95 l1 l2 l3 l4 l5 I k7 k21 Q))) else (p2_slotOf l3 l4 (fun r1 => (rg (r1 + l6) ∧ (((0 : Int) ≤ (r1 + l6) ∧ (r1 + l6) < (1260 : Int)) ∧ (if (I 158 (r1 + l6)) ≤ l5 then (rg (l6 + 1) ∧ (k33 l5 (l6 + 1))) else (rg (l6 + 1) ∧ (k33 (I 158 (r1 + l6)) (l6 + 1)))))))))
def p2_findTelling_b33 (l1 : Int) (l2 : Int) (l3 : Int) (l4 : Int) (I : mI) (k7 : Int → mI → Prop) (k21 : Int → mI → Prop) (Q : mI → Prop) : Nat → Int → Int → Prop
  | 0 => fun _ _ => False
  | f + 1 => fun l5 l6 => p2_findTelling_b33_body l1 l2 l3 l4 I k7 k21 Q (p2_findTelling_b33 l1 l2 l3 l4 I k7 k21 Q f) l5 l6
set_option maxRecDepth 20000 in
theorem w2_findTelling_b33_body {C : wX} {ad : Nat → Nat} {n : Nat} {I J : mI} {R : mR} {Q : mI → Prop} (hC : wOK C cX2_findTelling 8 RX2) (hRm : wRm C 2 33 0 0) (hE : wEnd C none ad n (fun _ I' J' R' => (J' = J ∧ R' = R) ∧ Q I')) (hRF : RF R) {l1 : Int} {l2 : Int} {l3 : Int} {l4 : Int} {l5 : Int} {l6 : Int}  {k7 : Int → mI → Prop} {k21 : Int → mI → Prop}  (kk7 : ∀ (y3 : Int) (I' : mI), k7 y3 I' → WM C ad n I' J R 0 0 7 [(0, vr 151), (1, vi l1), (2, vi l2), (3, vi y3)] []) (kk21 : ∀ (y4 : Int) (I' : mI), k21 y4 I' → WM C ad n I' J R 0 0 21 [(0, vr 151), (1, vi l1), (2, vi l2), (3, vi l3), (4, vi y4)] []) {k33 : Int → Int → Prop} (kk33 : ∀ (y5 : Int) (y6 : Int), k33 y5 y6 → WM C ad n I J R 0 0 33 [(0, vr 151), (1, vi l1), (2, vi l2), (3, vi l3), (4, vi l4), (5, vi y5), (6, vi y6)] []) (hw : p2_findTelling_b33_body l1 l2 l3 l4 I k7 k21 Q k33 l5 l6) : WM C ad n I J R 0 0 33 [(0, vr 151), (1, vi l1), (2, vi l2), (3, vi l3), (4, vi l4), (5, vi l5), (6, vi l6)] [] := by
  unfold p2_findTelling_b33_body at hw
  refine wm_iload hC 6 dX2_findTelling_33 rfl ?_
  refine wm_bipush hC dX2_findTelling_35 (k := ?_)
  refine wm_icmp_ge (tgt := 78) hC dX2_findTelling_37 (by decide) hw (fun hw => ?_) (fun hw => ?_)
  · refine wm_aload_n hC 0 dX2_findTelling_78 rfl (k_ne0 kk_151 (by decide)) ?_
    refine x_getI hC 8 fl_X2_35 rfl kk_151 dX2_findTelling_79 ?_
    refine wm_iconst hC dX2_findTelling_82 (k := ?_)
    refine wm_icmp_eq (tgt := 95) hC dX2_findTelling_83 (by decide) hw (fun hw => ?_) (fun hw => ?_)
    · refine wm_sub [0, 1, 2, 3, 4, 5] (L2 := [(0, vr 151), (1, vi l1), (2, vi l2), (3, vi l3), (4, vi l4), (5, vi l5)]) rfl ?_
      exact w2_findTelling_b95 hC hRm hE hRF kk7 kk21 hw
    · refine wm_iload hC 5 dX2_findTelling_86 rfl ?_
      refine wm_aload_n hC 0 dX2_findTelling_88 rfl (k_ne0 kk_151 (by decide)) ?_
      refine x_getI hC 8 fl_X2_35 rfl kk_151 dX2_findTelling_89 ?_
      refine wm_icmp_ge (tgt := 112) hC dX2_findTelling_92 (by decide) hw (fun hw => ?_) (fun hw => ?_)
      · refine x_iinc hC 4 dX2_findTelling_112 rfl (by decide) (L2 := [(4, vi (l4 + 1)), (0, vr 151), (1, vi l1), (2, vi l2), (3, vi l3), (5, vi l5), (6, vi l6)]) rfl hw (fun hw => ?_)
        refine wm_goto (tgt := 21) hC dX2_findTelling_115 (by decide) ?_
        refine wm_sub [1, 2, 3, 4, 0] (L2 := [(0, vr 151), (1, vi l1), (2, vi l2), (3, vi l3), (4, vi (l4 + 1))]) rfl ?_
        exact kk21 _ _ hw
      · refine wm_sub [0, 1, 2, 3, 4, 5] (L2 := [(0, vr 151), (1, vi l1), (2, vi l2), (3, vi l3), (4, vi l4), (5, vi l5)]) rfl ?_
        exact w2_findTelling_b95 hC hRm hE hRF kk7 kk21 hw
  · refine wm_aload_n hC 0 dX2_findTelling_40 rfl (k_ne0 kk_151 (by decide)) ?_
    refine x_getR3 hC 4 fl_X2_22 rfl kk_151 (rf_151_4 hRF) dX2_findTelling_41 ?_
    refine wm_iload_n hC 3 dX2_findTelling_44 rfl ?_
    refine wm_iload hC 4 dX2_findTelling_45 rfl ?_
    refine y_callS_i_n hC hRm noS ml_X2_96 (c2_slotOf hRF  hw) (Nat.le_of_ble_eq_true rfl) (Nat.le_of_ble_eq_true rfl) ⟨Nat.zero_le _, Nat.zero_le _⟩ rfl (st := [vr 158]) rfl (Nat.le_of_ble_eq_true rfl) dX2_findTelling_47 (fun r1 hw => ?_)
    refine wm_iload hC 6 dX2_findTelling_50 rfl ?_
    refine x_iadd hC dX2_findTelling_52 hw (fun hw => ?_)
    refine x_iald2 hC kk_158 kn_158 dX2_findTelling_53 hw (fun hw => ?_)
    refine wm_istore hC dX2_findTelling_54 (by decide) (L2 := [(7, vi (I 158 (r1 + l6))), (0, vr 151), (1, vi l1), (2, vi l2), (3, vi l3), (4, vi l4), (5, vi l5), (6, vi l6)]) rfl ?_
    refine wm_iload hC 0 dX2_findTelling_56 rfl ?_
    refine wm_iload hC 6 dX2_findTelling_58 rfl ?_
    refine wm_icmp_le (tgt := 68) hC dX2_findTelling_60 (by decide) hw (fun hw => ?_) (fun hw => ?_)
    · refine wm_iload hC 6 dX2_findTelling_68 rfl ?_
      refine wm_istore hC dX2_findTelling_70 (by decide) (L2 := [(5, vi l5), (7, vi (I 158 (r1 + l6))), (0, vr 151), (1, vi l1), (2, vi l2), (3, vi l3), (4, vi l4), (6, vi l6)]) rfl ?_
      refine x_iinc hC 7 dX2_findTelling_72 rfl (by decide) (L2 := [(6, vi (l6 + 1)), (5, vi l5), (7, vi (I 158 (r1 + l6))), (0, vr 151), (1, vi l1), (2, vi l2), (3, vi l3), (4, vi l4)]) rfl hw (fun hw => ?_)
      refine wm_goto (tgt := 33) hC dX2_findTelling_75 (by decide) ?_
      refine wm_sub [3, 4, 5, 6, 7, 1, 0] (L2 := [(0, vr 151), (1, vi l1), (2, vi l2), (3, vi l3), (4, vi l4), (5, vi l5), (6, vi (l6 + 1))]) rfl ?_
      exact kk33 _ _ hw
    · refine wm_iload hC 0 dX2_findTelling_63 rfl ?_
      refine wm_goto (tgt := 70) hC dX2_findTelling_65 (by decide) ?_
      refine wm_istore hC dX2_findTelling_70 (by decide) (L2 := [(5, vi (I 158 (r1 + l6))), (7, vi (I 158 (r1 + l6))), (0, vr 151), (1, vi l1), (2, vi l2), (3, vi l3), (4, vi l4), (6, vi l6)]) rfl ?_
      refine x_iinc hC 7 dX2_findTelling_72 rfl (by decide) (L2 := [(6, vi (l6 + 1)), (5, vi (I 158 (r1 + l6))), (7, vi (I 158 (r1 + l6))), (0, vr 151), (1, vi l1), (2, vi l2), (3, vi l3), (4, vi l4)]) rfl hw (fun hw => ?_)
      refine wm_goto (tgt := 33) hC dX2_findTelling_75 (by decide) ?_
      refine wm_sub [3, 4, 5, 6, 7, 1, 0] (L2 := [(0, vr 151), (1, vi l1), (2, vi l2), (3, vi l3), (4, vi l4), (5, vi (I 158 (r1 + l6))), (6, vi (l6 + 1))]) rfl ?_
      exact kk33 _ _ hw
set_option maxRecDepth 20000 in
theorem w2_findTelling_b33 {C : wX} {ad : Nat → Nat} {n : Nat} {I : mI} {J : mI} {R : mR} {Q : mI → Prop} (hC : wOK C cX2_findTelling 8 RX2) (hRm : wRm C 2 33 0 0) (hE : wEnd C none ad n (fun _ I' J' R' => (J' = J ∧ R' = R) ∧ Q I')) (hRF : RF R) {l1 : Int} {l2 : Int} {l3 : Int} {l4 : Int}  {k7 : Int → mI → Prop} {k21 : Int → mI → Prop}  (kk7 : ∀ (y3 : Int) (I' : mI), k7 y3 I' → WM C ad n I' J R 0 0 7 [(0, vr 151), (1, vi l1), (2, vi l2), (3, vi y3)] []) (kk21 : ∀ (y4 : Int) (I' : mI), k21 y4 I' → WM C ad n I' J R 0 0 21 [(0, vr 151), (1, vi l1), (2, vi l2), (3, vi l3), (4, vi y4)] []) : ∀ (f : Nat) (l5 : Int) (l6 : Int), p2_findTelling_b33 l1 l2 l3 l4 I k7 k21 Q f l5 l6 → WM C ad n I J R 0 0 33 [(0, vr 151), (1, vi l1), (2, vi l2), (3, vi l3), (4, vi l4), (5, vi l5), (6, vi l6)] [] := by
  intro f
  induction f with
  | zero => intro l5 l6 hw; exact hw.elim
  | succ f ih => intro l5 l6 hw; exact w2_findTelling_b33_body hC hRm hE hRF kk7 kk21 (fun a0 a1 aw => ih a0 a1 aw) hw
def p2_findTelling_b21_body (l1 : Int) (l2 : Int) (l3 : Int) (k7 : Int → mI → Prop) (Q : mI → Prop) (k21 : Int → mI → Prop) (l4 : Int) (I : mI) : Prop := (if l1 ≤ l4 then (rg (l3 + 1) ∧ (k7 (l3 + 1) I)) else (∃ f, p2_findTelling_b33 l1 l2 l3 l4 I k7 k21 Q f 0 0))
def p2_findTelling_b21 (l1 : Int) (l2 : Int) (l3 : Int) (k7 : Int → mI → Prop) (Q : mI → Prop) : Nat → Int → mI → Prop
  | 0 => fun _ _ => False
  | f + 1 => fun l4 I => p2_findTelling_b21_body l1 l2 l3 k7 Q (p2_findTelling_b21 l1 l2 l3 k7 Q f) l4 I
set_option maxRecDepth 20000 in
theorem w2_findTelling_b21_body {C : wX} {ad : Nat → Nat} {n : Nat} {I J : mI} {R : mR} {Q : mI → Prop} (hC : wOK C cX2_findTelling 8 RX2) (hRm : wRm C 2 33 0 0) (hE : wEnd C none ad n (fun _ I' J' R' => (J' = J ∧ R' = R) ∧ Q I')) (hRF : RF R) {l1 : Int} {l2 : Int} {l3 : Int} {l4 : Int}  {k7 : Int → mI → Prop}  (kk7 : ∀ (y3 : Int) (I' : mI), k7 y3 I' → WM C ad n I' J R 0 0 7 [(0, vr 151), (1, vi l1), (2, vi l2), (3, vi y3)] []) {k21 : Int → mI → Prop} (kk21 : ∀ (y4 : Int) (I' : mI), k21 y4 I' → WM C ad n I' J R 0 0 21 [(0, vr 151), (1, vi l1), (2, vi l2), (3, vi l3), (4, vi y4)] []) (hw : p2_findTelling_b21_body l1 l2 l3 k7 Q k21 l4 I) : WM C ad n I J R 0 0 21 [(0, vr 151), (1, vi l1), (2, vi l2), (3, vi l3), (4, vi l4)] [] := by
  unfold p2_findTelling_b21_body at hw
  refine wm_iload hC 4 dX2_findTelling_21 rfl ?_
  refine wm_iload_n hC 1 dX2_findTelling_23 rfl ?_
  refine wm_icmp_ge (tgt := 118) hC dX2_findTelling_24 (by decide) hw (fun hw => ?_) (fun hw => ?_)
  · refine x_iinc hC 3 dX2_findTelling_118 rfl (by decide) (L2 := [(3, vi (l3 + 1)), (0, vr 151), (1, vi l1), (2, vi l2), (4, vi l4)]) rfl hw (fun hw => ?_)
    refine wm_goto (tgt := 7) hC dX2_findTelling_121 (by decide) ?_
    refine wm_sub [1, 2, 3, 0] (L2 := [(0, vr 151), (1, vi l1), (2, vi l2), (3, vi (l3 + 1))]) rfl ?_
    exact kk7 _ _ hw
  · refine wm_iconst hC dX2_findTelling_27 (k := ?_)
    refine wm_istore hC dX2_findTelling_28 (by decide) (L2 := [(5, vi 0), (0, vr 151), (1, vi l1), (2, vi l2), (3, vi l3), (4, vi l4)]) rfl ?_
    refine wm_iconst hC dX2_findTelling_30 (k := ?_)
    refine wm_istore hC dX2_findTelling_31 (by decide) (L2 := [(6, vi 0), (5, vi 0), (0, vr 151), (1, vi l1), (2, vi l2), (3, vi l3), (4, vi l4)]) rfl ?_
    obtain ⟨f, hw⟩ := hw
    refine wm_sub [2, 3, 4, 5, 6, 1, 0] (L2 := [(0, vr 151), (1, vi l1), (2, vi l2), (3, vi l3), (4, vi l4), (5, vi 0), (6, vi 0)]) rfl ?_
    exact w2_findTelling_b33 hC hRm hE hRF kk7 kk21 f _ _ hw
set_option maxRecDepth 20000 in
theorem w2_findTelling_b21 {C : wX} {ad : Nat → Nat} {n : Nat} {J : mI} {R : mR} {Q : mI → Prop} (hC : wOK C cX2_findTelling 8 RX2) (hRm : wRm C 2 33 0 0) (hE : wEnd C none ad n (fun _ I' J' R' => (J' = J ∧ R' = R) ∧ Q I')) (hRF : RF R) {l1 : Int} {l2 : Int} {l3 : Int}  {k7 : Int → mI → Prop}  (kk7 : ∀ (y3 : Int) (I' : mI), k7 y3 I' → WM C ad n I' J R 0 0 7 [(0, vr 151), (1, vi l1), (2, vi l2), (3, vi y3)] []) : ∀ (f : Nat) (l4 : Int) (I : mI), p2_findTelling_b21 l1 l2 l3 k7 Q f l4 I → WM C ad n I J R 0 0 21 [(0, vr 151), (1, vi l1), (2, vi l2), (3, vi l3), (4, vi l4)] [] := by
  intro f
  induction f with
  | zero => intro l4 I hw; exact hw.elim
  | succ f ih => intro l4 I hw; exact w2_findTelling_b21_body hC hRm hE hRF kk7 (fun a0 a1 aw => ih a0 a1 aw) hw
def p2_findTelling_b7_body (l1 : Int) (l2 : Int) (Q : mI → Prop) (k7 : Int → mI → Prop) (l3 : Int) (I : mI) : Prop := (if (30 : Int) < l3 then (Q I) else (if l2 < l3 then (Q I) else (∃ f, p2_findTelling_b21 l1 l2 l3 k7 Q f 0 I)))
def p2_findTelling_b7 (l1 : Int) (l2 : Int) (Q : mI → Prop) : Nat → Int → mI → Prop
  | 0 => fun _ _ => False
  | f + 1 => fun l3 I => p2_findTelling_b7_body l1 l2 Q (p2_findTelling_b7 l1 l2 Q f) l3 I
set_option maxRecDepth 20000 in
theorem w2_findTelling_b7_body {C : wX} {ad : Nat → Nat} {n : Nat} {I J : mI} {R : mR} {Q : mI → Prop} (hC : wOK C cX2_findTelling 8 RX2) (hRm : wRm C 2 33 0 0) (hE : wEnd C none ad n (fun _ I' J' R' => (J' = J ∧ R' = R) ∧ Q I')) (hRF : RF R) {l1 : Int} {l2 : Int} {l3 : Int}     {k7 : Int → mI → Prop} (kk7 : ∀ (y3 : Int) (I' : mI), k7 y3 I' → WM C ad n I' J R 0 0 7 [(0, vr 151), (1, vi l1), (2, vi l2), (3, vi y3)] []) (hw : p2_findTelling_b7_body l1 l2 Q k7 l3 I) : WM C ad n I J R 0 0 7 [(0, vr 151), (1, vi l1), (2, vi l2), (3, vi l3)] [] := by
  unfold p2_findTelling_b7_body at hw
  refine wm_iload_n hC 3 dX2_findTelling_7 rfl ?_
  refine wm_bipush hC dX2_findTelling_8 (k := ?_)
  refine wm_icmp_gt (tgt := 124) hC dX2_findTelling_10 (by decide) hw (fun hw => ?_) (fun hw => ?_)
  · exact wm_return hC hE dX2_findTelling_124 ⟨⟨rfl, rfl⟩, hw⟩
  · refine wm_iload_n hC 3 dX2_findTelling_13 rfl ?_
    refine wm_iload_n hC 2 dX2_findTelling_14 rfl ?_
    refine wm_icmp_gt (tgt := 124) hC dX2_findTelling_15 (by decide) hw (fun hw => ?_) (fun hw => ?_)
    · exact wm_return hC hE dX2_findTelling_124 ⟨⟨rfl, rfl⟩, hw⟩
    · refine wm_iconst hC dX2_findTelling_18 (k := ?_)
      refine wm_istore hC dX2_findTelling_19 (by decide) (L2 := [(4, vi 0), (0, vr 151), (1, vi l1), (2, vi l2), (3, vi l3)]) rfl ?_
      obtain ⟨f, hw⟩ := hw
      refine wm_sub [1, 2, 3, 4, 0] (L2 := [(0, vr 151), (1, vi l1), (2, vi l2), (3, vi l3), (4, vi 0)]) rfl ?_
      exact w2_findTelling_b21 hC hRm hE hRF kk7 f _ _ hw
set_option maxRecDepth 20000 in
theorem w2_findTelling_b7 {C : wX} {ad : Nat → Nat} {n : Nat} {J : mI} {R : mR} {Q : mI → Prop} (hC : wOK C cX2_findTelling 8 RX2) (hRm : wRm C 2 33 0 0) (hE : wEnd C none ad n (fun _ I' J' R' => (J' = J ∧ R' = R) ∧ Q I')) (hRF : RF R) {l1 : Int} {l2 : Int}     : ∀ (f : Nat) (l3 : Int) (I : mI), p2_findTelling_b7 l1 l2 Q f l3 I → WM C ad n I J R 0 0 7 [(0, vr 151), (1, vi l1), (2, vi l2), (3, vi l3)] [] := by
  intro f
  induction f with
  | zero => intro l3 I hw; exact hw.elim
  | succ f ih => intro l3 I hw; exact w2_findTelling_b7_body hC hRm hE hRF  (fun a0 a1 aw => ih a0 a1 aw) hw
def p2_findTelling (l1 : Int) (l2 : Int) (I : mI) (Q : mI → Prop) : Prop := (wLet (up I 151 8 (-1)) (fun I1 => (∃ f, p2_findTelling_b7 l1 l2 Q f 1 I1)))
set_option maxRecDepth 20000 in
theorem c2_findTelling {ad : Nat → Nat} {n : Nat} {I J : mI} {R : mR} {Q : mI → Prop}  (hRF : RF R) {l1 : Int} {l2 : Int}    (hw : p2_findTelling l1 l2 I Q) : wMet yX2_findTelling cX2_findTelling 8 none 2 33 false ad n I J R [vr 151, vi l1, vi l2] (fun _ I' J' R' => (J' = J ∧ R' = R) ∧ Q I') := by
  refine wMet_of (by decide) (Nat.le_of_ble_eq_true rfl) (fun C hC hRm hE hS => ?_)
  refine (show WM C ad n I J R 0 0 0 [(0, vr 151), (1, vi l1), (2, vi l2)] [] from ?_)
  unfold p2_findTelling at hw
  refine wm_aload_n hC 0 dX2_findTelling_0 rfl (k_ne0 kk_151 (by decide)) ?_
  refine wm_iconst hC dX2_findTelling_1 (k := ?_)
  refine x_putI hC 8 fl_X2_35 rfl kk_151 dX2_findTelling_2 hw (fun I1 hw => ?_)
  refine wm_iconst hC dX2_findTelling_5 (k := ?_)
  refine wm_istore_n hC dX2_findTelling_6 (by decide) (L2 := [(3, vi 1), (0, vr 151), (1, vi l1), (2, vi l2)]) rfl ?_
  obtain ⟨f, hw⟩ := hw
  refine wm_sub [1, 2, 3, 0] (L2 := [(0, vr 151), (1, vi l1), (2, vi l2), (3, vi 1)]) rfl ?_
  exact w2_findTelling_b7 hC hRm hE hRF  f _ _ hw
def p11_tells (l1 : Int) (l2 : Int) (I : mI) (J : mI) (R : mR) (Q : Int → mI → mI → mR → Prop) : Prop := (isLd (R 1 12) ∧ (p3_isThere (R 1 12) 0 l1 I (fun r1 => (if r1 = 0 then (Q (-1) I J R) else (if l2 < 0 then (Q (-1) I J R) else (if (2 : Int) < l2 then (Q (-1) I J R) else (isLd (R 1 12) ∧ (if (I ((R 1 12) + 1) 2) = 0 then (Q (-1) I J R) else (if (I 7 0) < 999 then (isLd (R 1 12) ∧ (p2_left (R 1 12) 7 l1 I J R (fun r2 I1 J1 R1 => (if r2 = 0 then (Q (-1) I1 J1 R1) else (isLd (R1 1 12) ∧ (p2_count (R1 1 12) 7 l1 r2 I1 J1 R1 (fun I2 J2 R2 => (isLd (R2 1 12) ∧ (rg (999 - (I2 7 0)) ∧ (p2_findTelling (I2 ((R2 1 12) + 1) 2) (999 - (I2 7 0)) I2 (fun I3 => (if l2 = 0 then (Q (I3 151 6) I3 J2 R2) else (if l2 = 1 then (Q (I3 151 7) I3 J2 R2) else (Q (I3 151 8) I3 J2 R2)))))))))))))) else (Q (-1) I J R))))))))))
set_option maxRecDepth 20000 in
theorem c11_tells {ad : Nat → Nat} {n : Nat} {I J : mI} {R : mR} {Q : Int → mI → mI → mR → Prop}  (hRF : RF R) {l1 : Int} {l2 : Int}    (hw : p11_tells l1 l2 I J R Q) : wMet yX11_tells cX11_tells 4 (some .int) 8 196 false ad n I J R [vr 1, vi l1, vi l2] (fun r I' J' R' => (True) ∧ (RF R' ∧ Q r I' J' R')) := by
  refine wMet_of (by decide) (Nat.le_of_ble_eq_true rfl) (fun C hC hRm hE hS => ?_)
  refine (show WM C ad n I J R 0 0 0 [(0, vr 1), (1, vi l1), (2, vi l2)] [] from ?_)
  unfold p11_tells at hw
  refine wm_aload_n hC 0 dX11_tells_0 rfl (k_ne0 kk_1 (by decide)) ?_
  refine x_getRD hC 12 fl_X11_57 rfl kk_1 dX11_tells_1 hw (fun g1 hw => ?_)
  refine wm_iconst hC dX11_tells_4 (k := ?_)
  refine wm_iload_n hC 1 dX11_tells_5 rfl ?_
  refine y_callV_z_n hC hRm noS ml_X11_167 (ld_k0 g1) (c3_isThere hRF g1 hw) (Nat.le_of_ble_eq_true rfl) (Nat.le_of_ble_eq_true rfl) ⟨Nat.zero_le _, Nat.zero_le _⟩ rfl (st := []) rfl (Nat.le_of_ble_eq_true rfl) dX11_tells_6 (fun r1 hw => ?_)
  refine wm_if_eq (tgt := 46) hC dX11_tells_9 (by decide) hw (fun hw => ?_) (fun hw => ?_)
  · refine wm_iconst hC dX11_tells_46 (k := ?_)
    exact wm_ireturn hC hE dX11_tells_47 ⟨trivial, ⟨hRF, hw⟩⟩
  · refine wm_iload_n hC 2 dX11_tells_12 rfl ?_
    refine wm_if_lt (tgt := 46) hC dX11_tells_13 (by decide) hw (fun hw => ?_) (fun hw => ?_)
    · refine wm_iconst hC dX11_tells_46 (k := ?_)
      exact wm_ireturn hC hE dX11_tells_47 ⟨trivial, ⟨hRF, hw⟩⟩
    · refine wm_iload_n hC 2 dX11_tells_16 rfl ?_
      refine wm_iconst hC dX11_tells_17 (k := ?_)
      refine wm_icmp_gt (tgt := 46) hC dX11_tells_18 (by decide) hw (fun hw => ?_) (fun hw => ?_)
      · refine wm_iconst hC dX11_tells_46 (k := ?_)
        exact wm_ireturn hC hE dX11_tells_47 ⟨trivial, ⟨hRF, hw⟩⟩
      · refine wm_aload_n hC 0 dX11_tells_21 rfl (k_ne0 kk_1 (by decide)) ?_
        refine x_getRD hC 12 fl_X11_57 rfl kk_1 dX11_tells_22 hw (fun g2 hw => ?_)
        refine x_getR3 hC 0 fl_X11_145 rfl (ld_k0 g2) (rfd_0 hRF g2) dX11_tells_25 ?_
        refine wm_iconst hC dX11_tells_28 (k := ?_)
        refine x_ialdK hC (ld_k1 g2) (ld_n1 g2) (by decide) (by decide) dX11_tells_29 ?_
        refine wm_if_eq (tgt := 46) hC dX11_tells_30 (by decide) hw (fun hw => ?_) (fun hw => ?_)
        · refine wm_iconst hC dX11_tells_46 (k := ?_)
          exact wm_ireturn hC hE dX11_tells_47 ⟨trivial, ⟨hRF, hw⟩⟩
        · refine wm_aload_n hC 0 dX11_tells_33 rfl (k_ne0 kk_1 (by decide)) ?_
          refine x_getR3 hC 2 fl_X11_26 rfl kk_1 (rf_1_2 hRF) dX11_tells_34 ?_
          refine x_getI hC 0 fl_X11_147 rfl kk_7 dX11_tells_37 ?_
          refine wm_sipush hC dX11_tells_40 (k := ?_)
          refine wm_icmp_lt (tgt := 48) hC dX11_tells_43 (by decide) hw (fun hw => ?_) (fun hw => ?_)
          · refine wm_aload_n hC 0 dX11_tells_48 rfl (k_ne0 kk_1 (by decide)) ?_
            refine x_getR3 hC 11 fl_X11_106 rfl kk_1 (rf_1_11 hRF) dX11_tells_49 ?_
            refine wm_aload_n hC 0 dX11_tells_52 rfl (k_ne0 kk_1 (by decide)) ?_
            refine x_getRD hC 12 fl_X11_57 rfl kk_1 dX11_tells_53 hw (fun g3 hw => ?_)
            refine wm_aload_n hC 0 dX11_tells_56 rfl (k_ne0 kk_1 (by decide)) ?_
            refine x_getR3 hC 2 fl_X11_26 rfl kk_1 (rf_1_2 hRF) dX11_tells_57 ?_
            refine wm_iload_n hC 1 dX11_tells_60 rfl ?_
            refine y_callV_i_IJR hC hRm noS ml_X11_254 kk_151 (c2_left hRF g3 isSt_7 hw) (Nat.le_of_ble_eq_true rfl) (Nat.le_of_ble_eq_true rfl) ⟨Nat.zero_le _, Nat.zero_le _⟩ rfl (st := []) rfl (Nat.le_of_ble_eq_true rfl) dX11_tells_61 (fun r2 I1 J1 R1 hw => ?_)
            obtain ⟨rf1, hw⟩ := hw
            refine wm_istore_n hC dX11_tells_64 (by decide) (L2 := [(3, vi r2), (0, vr 1), (1, vi l1), (2, vi l2)]) rfl ?_
            refine wm_iload_n hC 0 dX11_tells_65 rfl ?_
            refine wm_if_ne (tgt := 71) hC dX11_tells_66 (by decide) hw (fun hw => ?_) (fun hw => ?_)
            · refine wm_iconst hC dX11_tells_69 (k := ?_)
              exact wm_ireturn hC hE dX11_tells_70 ⟨trivial, ⟨rf1, hw⟩⟩
            · refine wm_aload_n hC 1 dX11_tells_71 rfl (k_ne0 kk_1 (by decide)) ?_
              refine x_getR3 hC 11 fl_X11_106 rfl kk_1 (rf_1_11 rf1) dX11_tells_72 ?_
              refine wm_aload_n hC 1 dX11_tells_75 rfl (k_ne0 kk_1 (by decide)) ?_
              refine x_getRD hC 12 fl_X11_57 rfl kk_1 dX11_tells_76 hw (fun g4 hw => ?_)
              refine wm_aload_n hC 1 dX11_tells_79 rfl (k_ne0 kk_1 (by decide)) ?_
              refine x_getR3 hC 2 fl_X11_26 rfl kk_1 (rf_1_2 rf1) dX11_tells_80 ?_
              refine wm_iload_n hC 2 dX11_tells_83 rfl ?_
              refine wm_iload_n hC 0 dX11_tells_84 rfl ?_
              refine y_callV_v_IJR hC hRm noS ml_X11_258 kk_151 (c2_count rf1 g4 isSt_7 hw) (Nat.le_of_ble_eq_true rfl) (Nat.le_of_ble_eq_true rfl) ⟨Nat.zero_le _, Nat.zero_le _⟩ rfl (st := []) rfl (Nat.le_of_ble_eq_true rfl) dX11_tells_85 (fun I2 J2 R2 hw => ?_)
              obtain ⟨rf2, hw⟩ := hw
              refine wm_aload_n hC 1 dX11_tells_88 rfl (k_ne0 kk_1 (by decide)) ?_
              refine x_getR3 hC 11 fl_X11_106 rfl kk_1 (rf_1_11 rf2) dX11_tells_89 ?_
              refine wm_aload_n hC 1 dX11_tells_92 rfl (k_ne0 kk_1 (by decide)) ?_
              refine x_getRD hC 12 fl_X11_57 rfl kk_1 dX11_tells_93 hw (fun g5 hw => ?_)
              refine x_getR3 hC 0 fl_X11_145 rfl (ld_k0 g5) (rfd_0 rf2 g5) dX11_tells_96 ?_
              refine wm_iconst hC dX11_tells_99 (k := ?_)
              refine x_ialdK hC (ld_k1 g5) (ld_n1 g5) (by decide) (by decide) dX11_tells_100 ?_
              refine wm_sipush hC dX11_tells_101 (k := ?_)
              refine wm_aload_n hC 1 dX11_tells_104 rfl (k_ne0 kk_1 (by decide)) ?_
              refine x_getR3 hC 2 fl_X11_26 rfl kk_1 (rf_1_2 rf2) dX11_tells_105 ?_
              refine x_getI hC 0 fl_X11_147 rfl kk_7 dX11_tells_108 ?_
              refine x_isub hC dX11_tells_111 hw (fun hw => ?_)
              refine y_callV_v_I hC hRm noS ml_X11_261 kk_151 (c2_findTelling rf2  hw) (Nat.le_of_ble_eq_true rfl) (Nat.le_of_ble_eq_true rfl) ⟨Nat.zero_le _, Nat.zero_le _⟩ rfl (st := []) rfl (Nat.le_of_ble_eq_true rfl) dX11_tells_112 (fun I3 hw => ?_)
              refine wm_iload_n hC 3 dX11_tells_115 rfl ?_
              refine wm_if_ne (tgt := 129) hC dX11_tells_116 (by decide) hw (fun hw => ?_) (fun hw => ?_)
              · refine wm_aload_n hC 1 dX11_tells_119 rfl (k_ne0 kk_1 (by decide)) ?_
                refine x_getR3 hC 11 fl_X11_106 rfl kk_1 (rf_1_11 rf2) dX11_tells_120 ?_
                refine x_getI hC 6 fl_X11_265 rfl kk_151 dX11_tells_123 ?_
                refine wm_goto (tgt := 151) hC dX11_tells_126 (by decide) ?_
                exact wm_ireturn hC hE dX11_tells_151 ⟨trivial, ⟨rf2, hw⟩⟩
              · refine wm_iload_n hC 3 dX11_tells_129 rfl ?_
                refine wm_iconst hC dX11_tells_130 (k := ?_)
                refine wm_icmp_ne (tgt := 144) hC dX11_tells_131 (by decide) hw (fun hw => ?_) (fun hw => ?_)
                · refine wm_aload_n hC 1 dX11_tells_134 rfl (k_ne0 kk_1 (by decide)) ?_
                  refine x_getR3 hC 11 fl_X11_106 rfl kk_1 (rf_1_11 rf2) dX11_tells_135 ?_
                  refine x_getI hC 7 fl_X11_268 rfl kk_151 dX11_tells_138 ?_
                  refine wm_goto (tgt := 151) hC dX11_tells_141 (by decide) ?_
                  exact wm_ireturn hC hE dX11_tells_151 ⟨trivial, ⟨rf2, hw⟩⟩
                · refine wm_aload_n hC 1 dX11_tells_144 rfl (k_ne0 kk_1 (by decide)) ?_
                  refine x_getR3 hC 11 fl_X11_106 rfl kk_1 (rf_1_11 rf2) dX11_tells_145 ?_
                  refine x_getI hC 8 fl_X11_271 rfl kk_151 dX11_tells_148 ?_
                  exact wm_ireturn hC hE dX11_tells_151 ⟨trivial, ⟨rf2, hw⟩⟩
          · refine wm_iconst hC dX11_tells_46 (k := ?_)
            exact wm_ireturn hC hE dX11_tells_47 ⟨trivial, ⟨hRF, hw⟩⟩
def p11_thing (l1 : Int) (l2 : Int) (I : mI) (R : mR) (Q : Int → Prop) : Prop := (isLd (R 1 12) ∧ (p3_isThere (R 1 12) 2 l1 I (fun r1 => (if r1 = 0 then (Q (-1)) else (if l2 < 0 then (Q (-1)) else (if l2 ≤ 4 then (if l2 = 3 then (((0 : Int) ≤ l1 ∧ l1 < (6 : Int)) ∧ (Q (I 10 l1))) else (if l2 = 4 then (isLd (R 1 12) ∧ (((0 : Int) ≤ l1 ∧ l1 < (6 : Int)) ∧ (((0 : Int) ≤ (I ((R 1 12) + 4) l1) ∧ (I ((R 1 12) + 4) l1) < 64) ∧ (Q (bc (I ((R 1 12) + 4) l1)))))) else (isLd (R 1 12) ∧ (p3_traitOf (R 1 12) 2 l1 l2 I (fun r2 => (Q r2)))))) else (Q (-1))))))))
set_option maxRecDepth 20000 in
theorem c11_thing {ad : Nat → Nat} {n : Nat} {I J : mI} {R : mR} {Q : Int → Prop}  (hRF : RF R) {l1 : Int} {l2 : Int}    (hw : p11_thing l1 l2 I R Q) : wMet yX11_thing cX11_thing 3 (some .int) 2 36 false ad n I J R [vr 1, vi l1, vi l2] (fun r I' J' R' => (I' = I ∧ J' = J ∧ R' = R) ∧ Q r) := by
  refine wMet_of (by decide) (Nat.le_of_ble_eq_true rfl) (fun C hC hRm hE hS => ?_)
  refine (show WM C ad n I J R 0 0 0 [(0, vr 1), (1, vi l1), (2, vi l2)] [] from ?_)
  unfold p11_thing at hw
  refine wm_aload_n hC 0 dX11_thing_0 rfl (k_ne0 kk_1 (by decide)) ?_
  refine x_getRD hC 12 fl_X11_57 rfl kk_1 dX11_thing_1 hw (fun g1 hw => ?_)
  refine wm_iconst hC dX11_thing_4 (k := ?_)
  refine wm_iload_n hC 1 dX11_thing_5 rfl ?_
  refine y_callV_z_n hC hRm noS ml_X11_167 (ld_k0 g1) (c3_isThere hRF g1 hw) (Nat.le_of_ble_eq_true rfl) (Nat.le_of_ble_eq_true rfl) ⟨Nat.zero_le _, Nat.zero_le _⟩ rfl (st := []) rfl (Nat.le_of_ble_eq_true rfl) dX11_thing_6 (fun r1 hw => ?_)
  refine wm_if_eq (tgt := 21) hC dX11_thing_9 (by decide) hw (fun hw => ?_) (fun hw => ?_)
  · refine wm_iconst hC dX11_thing_21 (k := ?_)
    exact wm_ireturn hC hE dX11_thing_22 ⟨⟨rfl, rfl, rfl⟩, hw⟩
  · refine wm_iload_n hC 2 dX11_thing_12 rfl ?_
    refine wm_if_lt (tgt := 21) hC dX11_thing_13 (by decide) hw (fun hw => ?_) (fun hw => ?_)
    · refine wm_iconst hC dX11_thing_21 (k := ?_)
      exact wm_ireturn hC hE dX11_thing_22 ⟨⟨rfl, rfl, rfl⟩, hw⟩
    · refine wm_iload_n hC 2 dX11_thing_16 rfl ?_
      refine wm_iconst hC dX11_thing_17 (k := ?_)
      refine wm_icmp_le (tgt := 23) hC dX11_thing_18 (by decide) hw (fun hw => ?_) (fun hw => ?_)
      · refine wm_iload_n hC 2 dX11_thing_23 rfl ?_
        refine wm_iconst hC dX11_thing_24 (k := ?_)
        refine wm_icmp_ne (tgt := 38) hC dX11_thing_25 (by decide) hw (fun hw => ?_) (fun hw => ?_)
        · refine wm_aload_n hC 0 dX11_thing_28 rfl (k_ne0 kk_1 (by decide)) ?_
          refine x_getR3 hC 2 fl_X11_26 rfl kk_1 (rf_1_2 hRF) dX11_thing_29 ?_
          refine x_getR3 hC 5 fl_X11_157 rfl kk_7 (rfs_5 hRF isSt_7) dX11_thing_32 ?_
          refine wm_iload_n hC 1 dX11_thing_35 rfl ?_
          refine x_iald2 hC kk_10 kn_10 dX11_thing_36 hw (fun hw => ?_)
          exact wm_ireturn hC hE dX11_thing_37 ⟨⟨rfl, rfl, rfl⟩, hw⟩
        · refine wm_iload_n hC 2 dX11_thing_38 rfl ?_
          refine wm_iconst hC dX11_thing_39 (k := ?_)
          refine wm_icmp_ne (tgt := 56) hC dX11_thing_40 (by decide) hw (fun hw => ?_) (fun hw => ?_)
          · refine wm_aload_n hC 0 dX11_thing_43 rfl (k_ne0 kk_1 (by decide)) ?_
            refine x_getRD hC 12 fl_X11_57 rfl kk_1 dX11_thing_44 hw (fun g3 hw => ?_)
            refine x_getR3 hC 3 fl_X11_194 rfl (ld_k0 g3) (rfd_3 hRF g3) dX11_thing_47 ?_
            refine wm_iload_n hC 1 dX11_thing_50 rfl ?_
            refine x_iald2 hC (ld_k4 g3) (ld_n4 g3) dX11_thing_51 hw (fun hw => ?_)
            refine x_bitc hC hRm ml_X11_197 (st := []) (Nat.le_of_ble_eq_true rfl) (Nat.le_of_ble_eq_true rfl) (Nat.le_of_ble_eq_true rfl) dX11_thing_52 hw (fun hw => ?_)
            exact wm_ireturn hC hE dX11_thing_55 ⟨⟨rfl, rfl, rfl⟩, hw⟩
          · refine wm_aload_n hC 0 dX11_thing_56 rfl (k_ne0 kk_1 (by decide)) ?_
            refine x_getRD hC 12 fl_X11_57 rfl kk_1 dX11_thing_57 hw (fun g2 hw => ?_)
            refine wm_iconst hC dX11_thing_60 (k := ?_)
            refine wm_iload_n hC 1 dX11_thing_61 rfl ?_
            refine wm_iload_n hC 2 dX11_thing_62 rfl ?_
            refine y_callV_i_n hC hRm noS ml_X11_175 (ld_k0 g2) (c3_traitOf hRF g2 hw) (Nat.le_of_ble_eq_true rfl) (Nat.le_of_ble_eq_true rfl) ⟨Nat.zero_le _, Nat.zero_le _⟩ rfl (st := []) rfl (Nat.le_of_ble_eq_true rfl) dX11_thing_63 (fun r2 hw => ?_)
            exact wm_ireturn hC hE dX11_thing_66 ⟨⟨rfl, rfl, rfl⟩, hw⟩
      · refine wm_iconst hC dX11_thing_21 (k := ?_)
        exact wm_ireturn hC hE dX11_thing_22 ⟨⟨rfl, rfl, rfl⟩, hw⟩
def p4_takeBack (l1 : Nat) (I : mI) (Q : mI → Prop) : Prop := (if (I 17 2) ≤ 0 then (Q I) else (rg ((I 17 1) + 20) ∧ (rg (((I 17 1) + 20) - 1) ∧ (wLet (up I 17 1 (Int.tmod (((I 17 1) + 20) - 1) 20)) (fun I1 => (((0 : Int) ≤ (I1 17 1) ∧ (I1 17 1) < (20 : Int)) ∧ (p7_take l1 (19 + 5 * Int.toNat (I1 17 1)) I1 (fun I2 => (rg ((I2 17 2) - 1) ∧ (wLet (up I2 17 2 ((I2 17 2) - 1)) (fun I3 => (Q I3))))))))))))
set_option maxRecDepth 20000 in
theorem c4_takeBack {ad : Nat → Nat} {n : Nat} {I J : mI} {R : mR} {Q : mI → Prop}  (hRF : RF R) {l1 : Nat}  (h1 : isSt l1) (hw : p4_takeBack l1 I Q) : wMet yX4_takeBack cX4_takeBack 2 none 2 81 false ad n I J R [vr 17, vr l1] (fun _ I' J' R' => (J' = J ∧ R' = R) ∧ Q I') := by
  refine wMet_of (by decide) (Nat.le_of_ble_eq_true rfl) (fun C hC hRm hE hS => ?_)
  refine (show WM C ad n I J R 0 0 0 [(0, vr 17), (1, vr l1)] [] from ?_)
  unfold p4_takeBack at hw
  refine wm_aload_n hC 0 dX4_takeBack_0 rfl (k_ne0 kk_17 (by decide)) ?_
  refine x_getI hC 2 fl_X4_19 rfl kk_17 dX4_takeBack_1 ?_
  refine wm_if_le (tgt := 46) hC dX4_takeBack_4 (by decide) hw (fun hw => ?_) (fun hw => ?_)
  · exact wm_return hC hE dX4_takeBack_46 ⟨⟨rfl, rfl⟩, hw⟩
  · refine wm_aload_n hC 0 dX4_takeBack_7 rfl (k_ne0 kk_17 (by decide)) ?_
    refine wm_aload_n hC 0 dX4_takeBack_8 rfl (k_ne0 kk_17 (by decide)) ?_
    refine x_getI hC 1 fl_X4_15 rfl kk_17 dX4_takeBack_9 ?_
    refine wm_bipush hC dX4_takeBack_12 (k := ?_)
    refine x_iadd hC dX4_takeBack_14 hw (fun hw => ?_)
    refine wm_iconst hC dX4_takeBack_15 (k := ?_)
    refine x_isub hC dX4_takeBack_16 hw (fun hw => ?_)
    refine wm_bipush hC dX4_takeBack_17 (k := ?_)
    refine x_iremP hC (by decide) dX4_takeBack_19 ?_
    refine x_putI hC 1 fl_X4_15 rfl kk_17 dX4_takeBack_20 hw (fun I1 hw => ?_)
    refine wm_aload_n hC 1 dX4_takeBack_23 rfl (k_ne0 (st_k0 h1) (by decide)) ?_
    refine wm_aload_n hC 0 dX4_takeBack_24 rfl (k_ne0 kk_17 (by decide)) ?_
    refine x_getR3 hC 0 fl_X4_11 rfl kk_17 (rf_17_0 hRF) dX4_takeBack_25 ?_
    refine wm_aload_n hC 0 dX4_takeBack_28 rfl (k_ne0 kk_17 (by decide)) ?_
    refine x_getI hC 1 fl_X4_15 rfl kk_17 dX4_takeBack_29 ?_
    refine x_aald2 hC hRF dX4_takeBack_32 hw (fun g1 hw => ?_)
    refine y_callV_v_I hC hRm noS ml_X4_23 (st_k0 h1) (c7_take hRF h1 g1 hw) (Nat.le_of_ble_eq_true rfl) (Nat.le_of_ble_eq_true rfl) ⟨Nat.zero_le _, Nat.zero_le _⟩ rfl (st := []) rfl (Nat.le_of_ble_eq_true rfl) dX4_takeBack_33 (fun I2 hw => ?_)
    refine wm_aload_n hC 0 dX4_takeBack_36 rfl (k_ne0 kk_17 (by decide)) ?_
    refine wm_dup hC dX4_takeBack_37 (k := ?_)
    refine x_getI hC 2 fl_X4_19 rfl kk_17 dX4_takeBack_38 ?_
    refine wm_iconst hC dX4_takeBack_41 (k := ?_)
    refine x_isub hC dX4_takeBack_42 hw (fun hw => ?_)
    refine x_putI hC 2 fl_X4_19 rfl kk_17 dX4_takeBack_43 hw (fun I3 hw => ?_)
    exact wm_return hC hE dX4_takeBack_46 ⟨⟨rfl, rfl⟩, hw⟩
def p11_undo (I : mI) (Q : Int → mI → Prop) : Prop := (if (I 17 2) = 0 then (p11_refuseIt 4 I (fun r1 I2 => ((r1 = 0 ∨ r1 = 1) ∧ (Q r1 I2)))) else (p4_takeBack 7 I (fun I1 => (Q 1 I1))))
set_option maxRecDepth 20000 in
theorem c11_undo {ad : Nat → Nat} {n : Nat} {I J : mI} {R : mR} {Q : Int → mI → Prop}  (hRF : RF R)   (hw : p11_undo I Q) : wMet yX11_undo cX11_undo 1 (some .boolean) 3 102 false ad n I J R [vr 1] (fun r I' J' R' => (J' = J ∧ R' = R) ∧ Q r I') := by
  refine wMet_of (by decide) (Nat.le_of_ble_eq_true rfl) (fun C hC hRm hE hS => ?_)
  refine (show WM C ad n I J R 0 0 0 [(0, vr 1)] [] from ?_)
  unfold p11_undo at hw
  refine wm_aload_n hC 0 dX11_undo_0 rfl (k_ne0 kk_1 (by decide)) ?_
  refine x_getR3 hC 4 fl_X11_36 rfl kk_1 (rf_1_4 hRF) dX11_undo_1 ?_
  refine x_getI hC 2 fl_X11_139 rfl kk_17 dX11_undo_4 ?_
  refine wm_if_ne (tgt := 16) hC dX11_undo_7 (by decide) hw (fun hw => ?_) (fun hw => ?_)
  · refine wm_aload_n hC 0 dX11_undo_10 rfl (k_ne0 kk_1 (by decide)) ?_
    refine wm_iconst hC dX11_undo_11 (k := ?_)
    refine y_callV_z_I hC hRm noS ml_X11_125 kk_1 (c11_refuseIt hRF  hw) (Nat.le_of_ble_eq_true rfl) (Nat.le_of_ble_eq_true rfl) ⟨Nat.zero_le _, Nat.zero_le _⟩ rfl (st := []) rfl (Nat.le_of_ble_eq_true rfl) dX11_undo_12 (fun r1 I2 hw => ?_)
    obtain ⟨z01, hw⟩ := hw
    exact wm_zreturn hC hE z01 dX11_undo_15 ⟨⟨rfl, rfl⟩, hw⟩
  · refine wm_aload_n hC 0 dX11_undo_16 rfl (k_ne0 kk_1 (by decide)) ?_
    refine x_getR3 hC 4 fl_X11_36 rfl kk_1 (rf_1_4 hRF) dX11_undo_17 ?_
    refine wm_aload_n hC 0 dX11_undo_20 rfl (k_ne0 kk_1 (by decide)) ?_
    refine x_getR3 hC 2 fl_X11_26 rfl kk_1 (rf_1_2 hRF) dX11_undo_21 ?_
    refine y_callV_v_I hC hRm noS ml_X11_287 kk_17 (c4_takeBack hRF isSt_7 hw) (Nat.le_of_ble_eq_true rfl) (Nat.le_of_ble_eq_true rfl) ⟨Nat.zero_le _, Nat.zero_le _⟩ rfl (st := []) rfl (Nat.le_of_ble_eq_true rfl) dX11_undo_24 (fun I1 hw => ?_)
    refine wm_iconst hC dX11_undo_27 (k := ?_)
    exact wm_zreturn hC hE (Or.inr rfl) dX11_undo_28 ⟨⟨rfl, rfl⟩, hw⟩
def p11_word (l1 : Int) (l2 : Int) (I : mI) (J : mI) (R : mR) (Q : Int → mI → mI → mR → Prop) : Prop := (p11_areThere l1 l2 I R (fun r1 => (if r1 = 0 then (Q (-1) I J R) else (isLd (R 1 12) ∧ (p1_sit (R 1 12) 7 l2 I J R (fun I1 J1 R1 => (p1_wordOf l1 I1 J1 R1 (fun r2 I2 J2 => (Q r2 I2 J2 R1)))))))))
set_option maxRecDepth 20000 in
theorem c11_word {ad : Nat → Nat} {n : Nat} {I J : mI} {R : mR} {Q : Int → mI → mI → mR → Prop}  (hRF : RF R) {l1 : Int} {l2 : Int}    (hw : p11_word l1 l2 I J R Q) : wMet yX11_word cX11_word 3 (some .int) 5 114 false ad n I J R [vr 1, vi l1, vi l2] (fun r I' J' R' => (True) ∧ (RF R' ∧ Q r I' J' R')) := by
  refine wMet_of (by decide) (Nat.le_of_ble_eq_true rfl) (fun C hC hRm hE hS => ?_)
  refine (show WM C ad n I J R 0 0 0 [(0, vr 1), (1, vi l1), (2, vi l2)] [] from ?_)
  unfold p11_word at hw
  refine wm_aload_n hC 0 dX11_word_0 rfl (k_ne0 kk_1 (by decide)) ?_
  refine wm_iload_n hC 1 dX11_word_1 rfl ?_
  refine wm_iload_n hC 2 dX11_word_2 rfl ?_
  refine y_callV_z_n hC hRm noS ml_X11_202 kk_1 (c11_areThere hRF  hw) (Nat.le_of_ble_eq_true rfl) (Nat.le_of_ble_eq_true rfl) ⟨Nat.zero_le _, Nat.zero_le _⟩ rfl (st := []) rfl (Nat.le_of_ble_eq_true rfl) dX11_word_3 (fun r1 hw => ?_)
  refine wm_if_ne (tgt := 11) hC dX11_word_6 (by decide) hw (fun hw => ?_) (fun hw => ?_)
  · refine wm_iconst hC dX11_word_9 (k := ?_)
    exact wm_ireturn hC hE dX11_word_10 ⟨trivial, ⟨hRF, hw⟩⟩
  · refine wm_aload_n hC 0 dX11_word_11 rfl (k_ne0 kk_1 (by decide)) ?_
    refine x_getR3 hC 9 fl_X11_88 rfl kk_1 (rf_1_9 hRF) dX11_word_12 ?_
    refine wm_aload_n hC 0 dX11_word_15 rfl (k_ne0 kk_1 (by decide)) ?_
    refine x_getRD hC 12 fl_X11_57 rfl kk_1 dX11_word_16 hw (fun g1 hw => ?_)
    refine wm_aload_n hC 0 dX11_word_19 rfl (k_ne0 kk_1 (by decide)) ?_
    refine x_getR3 hC 2 fl_X11_26 rfl kk_1 (rf_1_2 hRF) dX11_word_20 ?_
    refine wm_iload_n hC 2 dX11_word_23 rfl ?_
    refine y_callV_v_IJR hC hRm noS ml_X11_187 kk_146 (c1_sit hRF g1 isSt_7 hw) (Nat.le_of_ble_eq_true rfl) (Nat.le_of_ble_eq_true rfl) ⟨Nat.zero_le _, Nat.zero_le _⟩ rfl (st := []) rfl (Nat.le_of_ble_eq_true rfl) dX11_word_24 (fun I1 J1 R1 hw => ?_)
    obtain ⟨rf1, hw⟩ := hw
    refine wm_aload_n hC 0 dX11_word_27 rfl (k_ne0 kk_1 (by decide)) ?_
    refine x_getR3 hC 9 fl_X11_88 rfl kk_1 (rf_1_9 rf1) dX11_word_28 ?_
    refine wm_iload_n hC 1 dX11_word_31 rfl ?_
    refine y_callV_i_IJ hC hRm noS ml_X11_210 kk_146 (c1_wordOf rf1  hw) (Nat.le_of_ble_eq_true rfl) (Nat.le_of_ble_eq_true rfl) ⟨Nat.zero_le _, Nat.zero_le _⟩ rfl (st := []) rfl (Nat.le_of_ble_eq_true rfl) dX11_word_32 (fun r2 I2 J2 hw => ?_)
    exact wm_ireturn hC hE dX11_word_35 ⟨trivial, ⟨rf1, hw⟩⟩
def p11_years_b34_body (l1 : Int) (Q : Int → mI → mI → mR → Prop) (k34 : Int → Int → mI → mI → mR → Prop) (l2 : Int) (l3 : Int) (I : mI) (J : mI) (R : mR) : Prop := (if l1 ≤ l3 then (Q l2 I J R) else (isLd (R 1 12) ∧ (p0_pass (R 1 12) 7 (-1) I J R (fun r4 I4 J1 R1 => (if r4 = 0 then (rg (l2 + 0) ∧ (rg (l3 + 1) ∧ (k34 (l2 + 0) (l3 + 1) I4 J1 R1))) else (rg (l2 + 1) ∧ (rg (l3 + 1) ∧ (k34 (l2 + 1) (l3 + 1) I4 J1 R1))))))))
def p11_years_b34 (l1 : Int) (Q : Int → mI → mI → mR → Prop) : Nat → Int → Int → mI → mI → mR → Prop
  | 0 => fun _ _ _ _ _ => False
  | f + 1 => fun l2 l3 I J R => p11_years_b34_body l1 Q (p11_years_b34 l1 Q f) l2 l3 I J R
set_option maxRecDepth 20000 in
theorem w11_years_b34_body {C : wX} {ad : Nat → Nat} {n : Nat} {I J : mI} {R : mR} {Q : Int → mI → mI → mR → Prop} (hC : wOK C cX11_years 4 RX11) (hRm : wRm C 7 168 0 0) (hE : wEnd C (some .int) ad n (fun r I' J' R' => (True) ∧ (RF R' ∧ Q r I' J' R'))) (hRF : RF R) {l1 : Int} {l2 : Int} {l3 : Int}     {k34 : Int → Int → mI → mI → mR → Prop} (kk34 : ∀ (y2 : Int) (y3 : Int) (I' : mI) (J' : mI) (R' : mR), RF R' → k34 y2 y3 I' J' R' → WM C ad n I' J' R' 0 0 34 [(0, vr 1), (1, vi l1), (2, vi y2), (3, vi y3)] []) (hw : p11_years_b34_body l1 Q k34 l2 l3 I J R) : WM C ad n I J R 0 0 34 [(0, vr 1), (1, vi l1), (2, vi l2), (3, vi l3)] [] := by
  unfold p11_years_b34_body at hw
  refine wm_iload_n hC 3 dX11_years_34 rfl ?_
  refine wm_iload_n hC 1 dX11_years_35 rfl ?_
  refine wm_icmp_ge (tgt := 72) hC dX11_years_36 (by decide) hw (fun hw => ?_) (fun hw => ?_)
  · refine wm_iload_n hC 2 dX11_years_72 rfl ?_
    exact wm_ireturn hC hE dX11_years_73 ⟨trivial, ⟨hRF, hw⟩⟩
  · refine wm_iload_n hC 2 dX11_years_39 rfl ?_
    refine wm_aload_n hC 0 dX11_years_40 rfl (k_ne0 kk_1 (by decide)) ?_
    refine x_getR3 hC 10 fl_X11_97 rfl kk_1 (rf_1_10 hRF) dX11_years_41 ?_
    refine wm_aload_n hC 0 dX11_years_44 rfl (k_ne0 kk_1 (by decide)) ?_
    refine x_getRD hC 12 fl_X11_57 rfl kk_1 dX11_years_45 hw (fun g1 hw => ?_)
    refine wm_aload_n hC 0 dX11_years_48 rfl (k_ne0 kk_1 (by decide)) ?_
    refine x_getR3 hC 2 fl_X11_26 rfl kk_1 (rf_1_2 hRF) dX11_years_49 ?_
    refine wm_iconst hC dX11_years_52 (k := ?_)
    refine y_callV_z_IJR hC hRm noS ml_X11_278 kk_150 (c0_pass hRF g1 isSt_7 hw) (Nat.le_of_ble_eq_true rfl) (Nat.le_of_ble_eq_true rfl) ⟨Nat.zero_le _, Nat.zero_le _⟩ rfl (st := [vi l2]) rfl (Nat.le_of_ble_eq_true rfl) dX11_years_53 (fun r4 I4 J1 R1 hw => ?_)
    obtain ⟨rf1, hw⟩ := hw
    refine wm_if_eq (tgt := 63) hC dX11_years_56 (by decide) hw (fun hw => ?_) (fun hw => ?_)
    · refine wm_iconst hC dX11_years_63 (k := ?_)
      refine x_iadd hC dX11_years_64 hw (fun hw => ?_)
      refine wm_istore_n hC dX11_years_65 (by decide) (L2 := [(2, vi (l2 + 0)), (0, vr 1), (1, vi l1), (3, vi l3)]) rfl ?_
      refine x_iinc hC 3 dX11_years_66 rfl (by decide) (L2 := [(3, vi (l3 + 1)), (2, vi (l2 + 0)), (0, vr 1), (1, vi l1)]) rfl hw (fun hw => ?_)
      refine wm_goto (tgt := 34) hC dX11_years_69 (by decide) ?_
      refine wm_sub [2, 3, 1, 0] (L2 := [(0, vr 1), (1, vi l1), (2, vi (l2 + 0)), (3, vi (l3 + 1))]) rfl ?_
      exact kk34 _ _ _ _ _ rf1 hw
    · refine wm_iconst hC dX11_years_59 (k := ?_)
      refine wm_goto (tgt := 64) hC dX11_years_60 (by decide) ?_
      refine x_iadd hC dX11_years_64 hw (fun hw => ?_)
      refine wm_istore_n hC dX11_years_65 (by decide) (L2 := [(2, vi (l2 + 1)), (0, vr 1), (1, vi l1), (3, vi l3)]) rfl ?_
      refine x_iinc hC 3 dX11_years_66 rfl (by decide) (L2 := [(3, vi (l3 + 1)), (2, vi (l2 + 1)), (0, vr 1), (1, vi l1)]) rfl hw (fun hw => ?_)
      refine wm_goto (tgt := 34) hC dX11_years_69 (by decide) ?_
      refine wm_sub [2, 3, 1, 0] (L2 := [(0, vr 1), (1, vi l1), (2, vi (l2 + 1)), (3, vi (l3 + 1))]) rfl ?_
      exact kk34 _ _ _ _ _ rf1 hw
set_option maxRecDepth 20000 in
theorem w11_years_b34 {C : wX} {ad : Nat → Nat} {n : Nat}  {Q : Int → mI → mI → mR → Prop} (hC : wOK C cX11_years 4 RX11) (hRm : wRm C 7 168 0 0) (hE : wEnd C (some .int) ad n (fun r I' J' R' => (True) ∧ (RF R' ∧ Q r I' J' R'))) {l1 : Int}     : ∀ (f : Nat) (l2 : Int) (l3 : Int) (I : mI) (J : mI) (R : mR), RF R → p11_years_b34 l1 Q f l2 l3 I J R → WM C ad n I J R 0 0 34 [(0, vr 1), (1, vi l1), (2, vi l2), (3, vi l3)] [] := by
  intro f
  induction f with
  | zero => intro l2 l3 I J R hRF hw; exact hw.elim
  | succ f ih => intro l2 l3 I J R hRF hw; exact w11_years_b34_body hC hRm hE hRF  (fun a0 a1 a2 a3 a4 ar aw => ih a0 a1 a2 a3 a4 ar aw) hw
def p11_years (l1 : Int) (I : mI) (J : mI) (R : mR) (Q : Int → mI → mI → mR → Prop) : Prop := (if l1 < 1 then (p11_refuse 2 I (fun r1 I1 => (Q r1 I1 J R))) else (p11_canPass l1 I (fun r2 => (if r2 = 0 then (p11_refuse 2 I (fun r3 I3 => (Q r3 I3 J R))) else (p4_add 7 I (fun I2 => (∃ f, p11_years_b34 l1 Q f 0 0 I2 J R)))))))
set_option maxRecDepth 20000 in
theorem c11_years {ad : Nat → Nat} {n : Nat} {I J : mI} {R : mR} {Q : Int → mI → mI → mR → Prop}  (hRF : RF R) {l1 : Int}   (hw : p11_years l1 I J R Q) : wMet yX11_years cX11_years 4 (some .int) 7 168 false ad n I J R [vr 1, vi l1] (fun r I' J' R' => (True) ∧ (RF R' ∧ Q r I' J' R')) := by
  refine wMet_of (by decide) (Nat.le_of_ble_eq_true rfl) (fun C hC hRm hE hS => ?_)
  refine (show WM C ad n I J R 0 0 0 [(0, vr 1), (1, vi l1)] [] from ?_)
  unfold p11_years at hw
  refine wm_iload_n hC 1 dX11_years_0 rfl ?_
  refine wm_iconst hC dX11_years_1 (k := ?_)
  refine wm_icmp_lt (tgt := 13) hC dX11_years_2 (by decide) hw (fun hw => ?_) (fun hw => ?_)
  · refine wm_aload_n hC 0 dX11_years_13 rfl (k_ne0 kk_1 (by decide)) ?_
    refine wm_iconst hC dX11_years_14 (k := ?_)
    refine y_callV_i_I hC hRm noS ml_X11_117 kk_1 (c11_refuse hRF  hw) (Nat.le_of_ble_eq_true rfl) (Nat.le_of_ble_eq_true rfl) ⟨Nat.zero_le _, Nat.zero_le _⟩ rfl (st := []) rfl (Nat.le_of_ble_eq_true rfl) dX11_years_15 (fun r1 I1 hw => ?_)
    exact wm_ireturn hC hE dX11_years_18 ⟨trivial, ⟨hRF, hw⟩⟩
  · refine wm_aload_n hC 0 dX11_years_5 rfl (k_ne0 kk_1 (by decide)) ?_
    refine wm_iload_n hC 1 dX11_years_6 rfl ?_
    refine y_callV_z_n hC hRm noS ml_X11_227 kk_1 (c11_canPass hRF  hw) (Nat.le_of_ble_eq_true rfl) (Nat.le_of_ble_eq_true rfl) ⟨Nat.zero_le _, Nat.zero_le _⟩ rfl (st := []) rfl (Nat.le_of_ble_eq_true rfl) dX11_years_7 (fun r2 hw => ?_)
    refine wm_if_ne (tgt := 19) hC dX11_years_10 (by decide) hw (fun hw => ?_) (fun hw => ?_)
    · refine wm_aload_n hC 0 dX11_years_13 rfl (k_ne0 kk_1 (by decide)) ?_
      refine wm_iconst hC dX11_years_14 (k := ?_)
      refine y_callV_i_I hC hRm noS ml_X11_117 kk_1 (c11_refuse hRF  hw) (Nat.le_of_ble_eq_true rfl) (Nat.le_of_ble_eq_true rfl) ⟨Nat.zero_le _, Nat.zero_le _⟩ rfl (st := []) rfl (Nat.le_of_ble_eq_true rfl) dX11_years_15 (fun r3 I3 hw => ?_)
      exact wm_ireturn hC hE dX11_years_18 ⟨trivial, ⟨hRF, hw⟩⟩
    · refine wm_aload_n hC 0 dX11_years_19 rfl (k_ne0 kk_1 (by decide)) ?_
      refine x_getR3 hC 4 fl_X11_36 rfl kk_1 (rf_1_4 hRF) dX11_years_20 ?_
      refine wm_aload_n hC 0 dX11_years_23 rfl (k_ne0 kk_1 (by decide)) ?_
      refine x_getR3 hC 2 fl_X11_26 rfl kk_1 (rf_1_2 hRF) dX11_years_24 ?_
      refine y_callV_v_I hC hRm noS ml_X11_274 kk_17 (c4_add hRF isSt_7 hw) (Nat.le_of_ble_eq_true rfl) (Nat.le_of_ble_eq_true rfl) ⟨Nat.zero_le _, Nat.zero_le _⟩ rfl (st := []) rfl (Nat.le_of_ble_eq_true rfl) dX11_years_27 (fun I2 hw => ?_)
      refine wm_iconst hC dX11_years_30 (k := ?_)
      refine wm_istore_n hC dX11_years_31 (by decide) (L2 := [(2, vi 0), (0, vr 1), (1, vi l1)]) rfl ?_
      refine wm_iconst hC dX11_years_32 (k := ?_)
      refine wm_istore_n hC dX11_years_33 (by decide) (L2 := [(3, vi 0), (2, vi 0), (0, vr 1), (1, vi l1)]) rfl ?_
      obtain ⟨f, hw⟩ := hw
      refine wm_sub [2, 3, 1, 0] (L2 := [(0, vr 1), (1, vi l1), (2, vi 0), (3, vi 0)]) rfl ?_
      exact w11_years_b34 hC hRm hE  f _ _ _ _ _ hRF hw
def p12_add (l1 : Int) (l2 : Int) (I : mI) (Q : mI → Prop) : Prop := (rg (1600 * (I 159 32)) ∧ (rg ((1600 * (I 159 32)) + (I 159 31)) ∧ (((0 : Int) ≤ ((1600 * (I 159 32)) + (I 159 31)) ∧ ((1600 * (I 159 32)) + (I 159 31)) < (3200 : Int)) ∧ wLet (up I 175 ((1600 * (I 159 32)) + (I 159 31)) l1) (fun I1 => (rg (1600 * (I1 159 32)) ∧ (rg ((1600 * (I1 159 32)) + (I1 159 31)) ∧ (((0 : Int) ≤ ((1600 * (I1 159 32)) + (I1 159 31)) ∧ ((1600 * (I1 159 32)) + (I1 159 31)) < (3200 : Int)) ∧ wLet (up I1 176 ((1600 * (I1 159 32)) + (I1 159 31)) l2) (fun I2 => (rg ((I2 159 31) + 1) ∧ (wLet (up I2 159 31 ((I2 159 31) + 1)) (fun I3 => (Q I3))))))))))))
set_option maxRecDepth 20000 in
theorem c12_add {ad : Nat → Nat} {n : Nat} {I J : mI} {R : mR} {Q : mI → Prop}  (hRF : RF R) {l1 : Int} {l2 : Int}    (hw : p12_add l1 l2 I Q) : wMet yX12_add cX12_add 3 none 1 12 false ad n I J R [vr 159, vi l1, vi l2] (fun _ I' J' R' => (J' = J ∧ R' = R) ∧ Q I') := by
  refine wMet_of (by decide) (Nat.le_of_ble_eq_true rfl) (fun C hC hRm hE hS => ?_)
  refine (show WM C ad n I J R 0 0 0 [(0, vr 159), (1, vi l1), (2, vi l2)] [] from ?_)
  unfold p12_add at hw
  refine wm_aload_n hC 0 dX12_add_0 rfl (k_ne0 kk_159 (by decide)) ?_
  refine x_getR3 hC 28 fl_X12_96 rfl kk_159 (rf_159_28 hRF) dX12_add_1 ?_
  refine wm_sipush hC dX12_add_4 (k := ?_)
  refine wm_aload_n hC 0 dX12_add_7 rfl (k_ne0 kk_159 (by decide)) ?_
  refine x_getI hC 32 fl_X12_109 rfl kk_159 dX12_add_8 ?_
  refine x_imul hC dX12_add_11 hw (fun hw => ?_)
  refine wm_aload_n hC 0 dX12_add_12 rfl (k_ne0 kk_159 (by decide)) ?_
  refine x_getI hC 31 fl_X12_106 rfl kk_159 dX12_add_13 ?_
  refine x_iadd hC dX12_add_16 hw (fun hw => ?_)
  refine wm_iload_n hC 1 dX12_add_17 rfl ?_
  refine x_iast2 hC kk_175 kn_175 dX12_add_18 hw (fun I1 hw => ?_)
  refine wm_aload_n hC 0 dX12_add_19 rfl (k_ne0 kk_159 (by decide)) ?_
  refine x_getR3 hC 29 fl_X12_99 rfl kk_159 (rf_159_29 hRF) dX12_add_20 ?_
  refine wm_sipush hC dX12_add_23 (k := ?_)
  refine wm_aload_n hC 0 dX12_add_26 rfl (k_ne0 kk_159 (by decide)) ?_
  refine x_getI hC 32 fl_X12_109 rfl kk_159 dX12_add_27 ?_
  refine x_imul hC dX12_add_30 hw (fun hw => ?_)
  refine wm_aload_n hC 0 dX12_add_31 rfl (k_ne0 kk_159 (by decide)) ?_
  refine x_getI hC 31 fl_X12_106 rfl kk_159 dX12_add_32 ?_
  refine x_iadd hC dX12_add_35 hw (fun hw => ?_)
  refine wm_iload_n hC 2 dX12_add_36 rfl ?_
  refine x_iast2 hC kk_176 kn_176 dX12_add_37 hw (fun I2 hw => ?_)
  refine wm_aload_n hC 0 dX12_add_38 rfl (k_ne0 kk_159 (by decide)) ?_
  refine wm_dup hC dX12_add_39 (k := ?_)
  refine x_getI hC 31 fl_X12_106 rfl kk_159 dX12_add_40 ?_
  refine wm_iconst hC dX12_add_43 (k := ?_)
  refine x_iadd hC dX12_add_44 hw (fun hw => ?_)
  refine x_putI hC 31 fl_X12_106 rfl kk_159 dX12_add_45 hw (fun I3 hw => ?_)
  exact wm_return hC hE dX12_add_48 ⟨⟨rfl, rfl⟩, hw⟩
def p12_isDigit (l0 : Int) (Q : Int → Prop) : Prop := (if l0 < 48 then (Q 0) else (if (57 : Int) < l0 then (Q 0) else (Q 1)))
set_option maxRecDepth 20000 in
theorem c12_isDigit {ad : Nat → Nat} {n : Nat} {I J : mI} {R : mR} {Q : Int → Prop}  (hRF : RF R) {l0 : Int}  (hw : p12_isDigit l0 Q) : wMet yX12_isDigit cX12_isDigit 1 (some .boolean) 1 12 false ad n I J R [vi l0] (fun r I' J' R' => (I' = I ∧ J' = J ∧ R' = R) ∧ Q r) := by
  refine wMet_of (by decide) (Nat.le_of_ble_eq_true rfl) (fun C hC hRm hE hS => ?_)
  refine (show WM C ad n I J R 0 0 0 [(0, vi l0)] [] from ?_)
  unfold p12_isDigit at hw
  refine wm_iload_n hC 0 dX12_isDigit_0 rfl ?_
  refine wm_bipush hC dX12_isDigit_1 (k := ?_)
  refine wm_icmp_lt (tgt := 16) hC dX12_isDigit_3 (by decide) hw (fun hw => ?_) (fun hw => ?_)
  · refine wm_iconst hC dX12_isDigit_16 (k := ?_)
    exact wm_zreturn hC hE (Or.inl rfl) dX12_isDigit_17 ⟨⟨rfl, rfl, rfl⟩, hw⟩
  · refine wm_iload_n hC 0 dX12_isDigit_6 rfl ?_
    refine wm_bipush hC dX12_isDigit_7 (k := ?_)
    refine wm_icmp_gt (tgt := 16) hC dX12_isDigit_9 (by decide) hw (fun hw => ?_) (fun hw => ?_)
    · refine wm_iconst hC dX12_isDigit_16 (k := ?_)
      exact wm_zreturn hC hE (Or.inl rfl) dX12_isDigit_17 ⟨⟨rfl, rfl, rfl⟩, hw⟩
    · refine wm_iconst hC dX12_isDigit_12 (k := ?_)
      refine wm_goto (tgt := 17) hC dX12_isDigit_13 (by decide) ?_
      exact wm_zreturn hC hE (Or.inr rfl) dX12_isDigit_17 ⟨⟨rfl, rfl, rfl⟩, hw⟩
def p12_isLetter (l0 : Int) (Q : Int → Prop) : Prop := (if l0 < 97 then (Q 0) else (if (122 : Int) < l0 then (Q 0) else (Q 1)))
set_option maxRecDepth 20000 in
theorem c12_isLetter {ad : Nat → Nat} {n : Nat} {I J : mI} {R : mR} {Q : Int → Prop}  (hRF : RF R) {l0 : Int}  (hw : p12_isLetter l0 Q) : wMet yX12_isLetter cX12_isLetter 1 (some .boolean) 1 12 false ad n I J R [vi l0] (fun r I' J' R' => (I' = I ∧ J' = J ∧ R' = R) ∧ Q r) := by
  refine wMet_of (by decide) (Nat.le_of_ble_eq_true rfl) (fun C hC hRm hE hS => ?_)
  refine (show WM C ad n I J R 0 0 0 [(0, vi l0)] [] from ?_)
  unfold p12_isLetter at hw
  refine wm_iload_n hC 0 dX12_isLetter_0 rfl ?_
  refine wm_bipush hC dX12_isLetter_1 (k := ?_)
  refine wm_icmp_lt (tgt := 16) hC dX12_isLetter_3 (by decide) hw (fun hw => ?_) (fun hw => ?_)
  · refine wm_iconst hC dX12_isLetter_16 (k := ?_)
    exact wm_zreturn hC hE (Or.inl rfl) dX12_isLetter_17 ⟨⟨rfl, rfl, rfl⟩, hw⟩
  · refine wm_iload_n hC 0 dX12_isLetter_6 rfl ?_
    refine wm_bipush hC dX12_isLetter_7 (k := ?_)
    refine wm_icmp_gt (tgt := 16) hC dX12_isLetter_9 (by decide) hw (fun hw => ?_) (fun hw => ?_)
    · refine wm_iconst hC dX12_isLetter_16 (k := ?_)
      exact wm_zreturn hC hE (Or.inl rfl) dX12_isLetter_17 ⟨⟨rfl, rfl, rfl⟩, hw⟩
    · refine wm_iconst hC dX12_isLetter_12 (k := ?_)
      refine wm_goto (tgt := 17) hC dX12_isLetter_13 (by decide) ?_
      exact wm_zreturn hC hE (Or.inr rfl) dX12_isLetter_17 ⟨⟨rfl, rfl, rfl⟩, hw⟩
