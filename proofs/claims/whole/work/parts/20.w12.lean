def p12_tastes (l1 : Int) (I : mI) (J : mI) (Q : Int → mI → mI → Prop) : Prop := (p12_isBlind l1 I (fun r1 => (if r1 = 0 then (Q (-1) I J) else (p12_tasteBits l1 I J (fun r2 I1 J1 => (Q r2 I1 J1))))))
set_option maxRecDepth 20000 in
theorem c12_tastes {ad : Nat → Nat} {n : Nat} {I J : mI} {R : mR} {Q : Int → mI → mI → Prop}  (hRF : RF R) {l1 : Int}   (hw : p12_tastes l1 I J Q) : wMet yX12_tastes cX12_tastes 2 (some .int) 10 240 false ad n I J R [vr 159, vi l1] (fun r I' J' R' => (R' = R) ∧ Q r I' J') := by
  refine wMet_of (by decide) (Nat.le_of_ble_eq_true rfl) (fun C hC hRm hE hS => ?_)
  refine (show WM C ad n I J R 0 0 0 [(0, vr 159), (1, vi l1)] [] from ?_)
  unfold p12_tastes at hw
  refine wm_aload_n hC 0 dX12_tastes_0 rfl (k_ne0 kk_159 (by decide)) ?_
  refine wm_iload_n hC 1 dX12_tastes_1 rfl ?_
  refine y_callV_z_n hC hRm noS ml_X12_507 kk_159 (c12_isBlind hRF  hw) (Nat.le_of_ble_eq_true rfl) (Nat.le_of_ble_eq_true rfl) ⟨Nat.zero_le _, Nat.zero_le _⟩ rfl (st := []) rfl (Nat.le_of_ble_eq_true rfl) dX12_tastes_2 (fun r1 hw => ?_)
  refine wm_if_eq (tgt := 16) hC dX12_tastes_5 (by decide) hw (fun hw => ?_) (fun hw => ?_)
  · refine wm_iconst hC dX12_tastes_16 (k := ?_)
    exact wm_ireturn hC hE dX12_tastes_17 ⟨rfl, hw⟩
  · refine wm_aload_n hC 0 dX12_tastes_8 rfl (k_ne0 kk_159 (by decide)) ?_
    refine wm_iload_n hC 1 dX12_tastes_9 rfl ?_
    refine y_callV_i_IJ hC hRm noS ml_X12_547 kk_159 (c12_tasteBits hRF  hw) (Nat.le_of_ble_eq_true rfl) (Nat.le_of_ble_eq_true rfl) ⟨Nat.zero_le _, Nat.zero_le _⟩ rfl (st := []) rfl (Nat.le_of_ble_eq_true rfl) dX12_tastes_10 (fun r2 I1 J1 hw => ?_)
    refine wm_goto (tgt := 17) hC dX12_tastes_13 (by decide) ?_
    exact wm_ireturn hC hE dX12_tastes_17 ⟨rfl, hw⟩
def p12_tells_b55_body (l2 : Int) (l3 : Int) (l6 : Int) (I : mI) (J : mI) (k36 : Int → Int → Int → Prop) (Q : Int → mI → mI → Prop) (k55 : Int → Int → Int → Prop) (l4 : Int) (l5 : Int) (l7 : Int) : Prop := (((0 : Int) ≤ (I 159 13) ∧ (I 159 13) < (2 : Int)) ∧ (if (I 167 (I 159 13)) ≤ l7 then (rg (l6 + 1) ∧ (k36 l4 l5 (l6 + 1))) else (p12_mostBy l3 l6 l7 I (fun r5 => (if r5 < l5 then (rg (6 * l6) ∧ (rg ((6 * l6) + l7) ∧ (rg (l7 + 1) ∧ (k55 ((6 * l6) + l7) r5 (l7 + 1))))) else (rg (l7 + 1) ∧ (k55 l4 l5 (l7 + 1))))))))
def p12_tells_b55 (l2 : Int) (l3 : Int) (l6 : Int) (I : mI) (J : mI) (k36 : Int → Int → Int → Prop) (Q : Int → mI → mI → Prop) : Nat → Int → Int → Int → Prop
  | 0 => fun _ _ _ => False
  | f + 1 => fun l4 l5 l7 => p12_tells_b55_body l2 l3 l6 I J k36 Q (p12_tells_b55 l2 l3 l6 I J k36 Q f) l4 l5 l7
set_option maxRecDepth 20000 in
theorem w12_tells_b55_body {C : wX} {ad : Nat → Nat} {n : Nat} {I J : mI} {R : mR} {Q : Int → mI → mI → Prop} (hC : wOK C cX12_tells 9 RX12) (hRm : wRm C 10 240 0 0) (hE : wEnd C (some .int) ad n (fun r I' J' R' => (R' = R) ∧ Q r I' J')) (hRF : RF R) {l2 : Int} {l3 : Int} {l6 : Int} {l4 : Int} {l5 : Int} {l7 : Int}  {k36 : Int → Int → Int → Prop}  (kk36 : ∀ (y4 : Int) (y5 : Int) (y6 : Int), k36 y4 y5 y6 → WM C ad n I J R 0 0 36 [(0, vr 159), (2, vi l2), (3, vi l3), (4, vi y4), (5, vi y5), (6, vi y6)] []) {k55 : Int → Int → Int → Prop} (kk55 : ∀ (y4 : Int) (y5 : Int) (y7 : Int), k55 y4 y5 y7 → WM C ad n I J R 0 0 55 [(0, vr 159), (2, vi l2), (3, vi l3), (4, vi y4), (5, vi y5), (6, vi l6), (7, vi y7)] []) (hw : p12_tells_b55_body l2 l3 l6 I J k36 Q k55 l4 l5 l7) : WM C ad n I J R 0 0 55 [(0, vr 159), (2, vi l2), (3, vi l3), (4, vi l4), (5, vi l5), (6, vi l6), (7, vi l7)] [] := by
  unfold p12_tells_b55_body at hw
  refine wm_iload hC 6 dX12_tells_55 rfl ?_
  refine wm_aload_n hC 0 dX12_tells_57 rfl (k_ne0 kk_159 (by decide)) ?_
  refine x_getR3 hC 20 fl_X12_72 rfl kk_159 (rf_159_20 hRF) dX12_tells_58 ?_
  refine wm_aload_n hC 0 dX12_tells_61 rfl (k_ne0 kk_159 (by decide)) ?_
  refine x_getI hC 13 fl_X12_51 rfl kk_159 dX12_tells_62 ?_
  refine x_iald2 hC kk_167 kn_167 dX12_tells_65 hw (fun hw => ?_)
  refine wm_icmp_ge (tgt := 110) hC dX12_tells_66 (by decide) hw (fun hw => ?_) (fun hw => ?_)
  · refine x_iinc hC 5 dX12_tells_110 rfl (by decide) (L2 := [(6, vi (l6 + 1)), (0, vr 159), (2, vi l2), (3, vi l3), (4, vi l4), (5, vi l5), (7, vi l7)]) rfl hw (fun hw => ?_)
    refine wm_goto (tgt := 36) hC dX12_tells_113 (by decide) ?_
    refine wm_sub [1, 2, 3, 4, 5, 0] (L2 := [(0, vr 159), (2, vi l2), (3, vi l3), (4, vi l4), (5, vi l5), (6, vi (l6 + 1))]) rfl ?_
    exact kk36 _ _ _ hw
  · refine wm_aload_n hC 0 dX12_tells_69 rfl (k_ne0 kk_159 (by decide)) ?_
    refine wm_iload_n hC 2 dX12_tells_70 rfl ?_
    refine wm_iload hC 5 dX12_tells_71 rfl ?_
    refine wm_iload hC 6 dX12_tells_73 rfl ?_
    refine y_callV_i_n hC hRm noS ml_X12_551 kk_159 (c12_mostBy hRF  hw) (Nat.le_of_ble_eq_true rfl) (Nat.le_of_ble_eq_true rfl) ⟨Nat.zero_le _, Nat.zero_le _⟩ rfl (st := []) rfl (Nat.le_of_ble_eq_true rfl) dX12_tells_75 (fun r5 hw => ?_)
    refine wm_istore hC dX12_tells_78 (by decide) (L2 := [(8, vi r5), (0, vr 159), (2, vi l2), (3, vi l3), (4, vi l4), (5, vi l5), (6, vi l6), (7, vi l7)]) rfl ?_
    refine wm_iload hC 0 dX12_tells_80 rfl ?_
    refine wm_iload hC 5 dX12_tells_82 rfl ?_
    refine wm_icmp_lt (tgt := 90) hC dX12_tells_84 (by decide) hw (fun hw => ?_) (fun hw => ?_)
    · refine wm_iload hC 0 dX12_tells_90 rfl ?_
      refine wm_istore hC dX12_tells_92 (by decide) (L2 := [(5, vi r5), (8, vi r5), (0, vr 159), (2, vi l2), (3, vi l3), (4, vi l4), (6, vi l6), (7, vi l7)]) rfl ?_
      refine wm_bipush hC dX12_tells_94 (k := ?_)
      refine wm_iload hC 6 dX12_tells_96 rfl ?_
      refine x_imul hC dX12_tells_98 hw (fun hw => ?_)
      refine wm_iload hC 7 dX12_tells_99 rfl ?_
      refine x_iadd hC dX12_tells_101 hw (fun hw => ?_)
      refine wm_istore hC dX12_tells_102 (by decide) (L2 := [(4, vi ((6 * l6) + l7)), (5, vi r5), (8, vi r5), (0, vr 159), (2, vi l2), (3, vi l3), (6, vi l6), (7, vi l7)]) rfl ?_
      refine x_iinc hC 7 dX12_tells_104 rfl (by decide) (L2 := [(7, vi (l7 + 1)), (4, vi ((6 * l6) + l7)), (5, vi r5), (8, vi r5), (0, vr 159), (2, vi l2), (3, vi l3), (6, vi l6)]) rfl hw (fun hw => ?_)
      refine wm_goto (tgt := 55) hC dX12_tells_107 (by decide) ?_
      refine wm_sub [4, 5, 6, 1, 2, 7, 0] (L2 := [(0, vr 159), (2, vi l2), (3, vi l3), (4, vi ((6 * l6) + l7)), (5, vi r5), (6, vi l6), (7, vi (l7 + 1))]) rfl ?_
      exact kk55 _ _ _ hw
    · refine wm_goto (tgt := 104) hC dX12_tells_87 (by decide) ?_
      refine x_iinc hC 7 dX12_tells_104 rfl (by decide) (L2 := [(7, vi (l7 + 1)), (8, vi r5), (0, vr 159), (2, vi l2), (3, vi l3), (4, vi l4), (5, vi l5), (6, vi l6)]) rfl hw (fun hw => ?_)
      refine wm_goto (tgt := 55) hC dX12_tells_107 (by decide) ?_
      refine wm_sub [2, 3, 4, 5, 6, 7, 0] (L2 := [(0, vr 159), (2, vi l2), (3, vi l3), (4, vi l4), (5, vi l5), (6, vi l6), (7, vi (l7 + 1))]) rfl ?_
      exact kk55 _ _ _ hw
set_option maxRecDepth 20000 in
theorem w12_tells_b55 {C : wX} {ad : Nat → Nat} {n : Nat} {I : mI} {J : mI} {R : mR} {Q : Int → mI → mI → Prop} (hC : wOK C cX12_tells 9 RX12) (hRm : wRm C 10 240 0 0) (hE : wEnd C (some .int) ad n (fun r I' J' R' => (R' = R) ∧ Q r I' J')) (hRF : RF R) {l2 : Int} {l3 : Int} {l6 : Int}  {k36 : Int → Int → Int → Prop}  (kk36 : ∀ (y4 : Int) (y5 : Int) (y6 : Int), k36 y4 y5 y6 → WM C ad n I J R 0 0 36 [(0, vr 159), (2, vi l2), (3, vi l3), (4, vi y4), (5, vi y5), (6, vi y6)] []) : ∀ (f : Nat) (l4 : Int) (l5 : Int) (l7 : Int), p12_tells_b55 l2 l3 l6 I J k36 Q f l4 l5 l7 → WM C ad n I J R 0 0 55 [(0, vr 159), (2, vi l2), (3, vi l3), (4, vi l4), (5, vi l5), (6, vi l6), (7, vi l7)] [] := by
  intro f
  induction f with
  | zero => intro l4 l5 l7 hw; exact hw.elim
  | succ f ih => intro l4 l5 l7 hw; exact w12_tells_b55_body hC hRm hE hRF kk36 (fun a0 a1 a2 aw => ih a0 a1 a2 aw) hw
def p12_tells_b116 (l2 : Int) (l4 : Int) (l5 : Int) (I : mI) (J : mI) (Q : Int → mI → mI → Prop) : Prop := (if l4 = (-1) then (Q (-1) I J) else (if l2 = 0 then (Q (Int.tdiv l4 6) I J) else (if l2 = 1 then (Q (Int.tmod l4 6) I J) else (Q l5 I J))))
set_option maxRecDepth 20000 in
theorem w12_tells_b116 {C : wX} {ad : Nat → Nat} {n : Nat} {I J : mI} {R : mR} {Q : Int → mI → mI → Prop} (hC : wOK C cX12_tells 9 RX12) (hRm : wRm C 10 240 0 0) (hE : wEnd C (some .int) ad n (fun r I' J' R' => (R' = R) ∧ Q r I' J')) (hRF : RF R) {l2 : Int} {l4 : Int} {l5 : Int}     (hw : p12_tells_b116 l2 l4 l5 I J Q) : WM C ad n I J R 0 0 116 [(2, vi l2), (4, vi l4), (5, vi l5)] [] := by
  unfold p12_tells_b116 at hw
  refine wm_iload hC 1 dX12_tells_116 rfl ?_
  refine wm_iconst hC dX12_tells_118 (k := ?_)
  refine wm_icmp_ne (tgt := 126) hC dX12_tells_119 (by decide) hw (fun hw => ?_) (fun hw => ?_)
  · refine wm_iconst hC dX12_tells_122 (k := ?_)
    refine wm_goto (tgt := 153) hC dX12_tells_123 (by decide) ?_
    exact wm_ireturn hC hE dX12_tells_153 ⟨rfl, hw⟩
  · refine wm_iload_n hC 0 dX12_tells_126 rfl ?_
    refine wm_if_ne (tgt := 138) hC dX12_tells_127 (by decide) hw (fun hw => ?_) (fun hw => ?_)
    · refine wm_iload hC 1 dX12_tells_130 rfl ?_
      refine wm_bipush hC dX12_tells_132 (k := ?_)
      refine x_idivP hC (by decide) dX12_tells_134 ?_
      refine wm_goto (tgt := 153) hC dX12_tells_135 (by decide) ?_
      exact wm_ireturn hC hE dX12_tells_153 ⟨rfl, hw⟩
    · refine wm_iload_n hC 0 dX12_tells_138 rfl ?_
      refine wm_iconst hC dX12_tells_139 (k := ?_)
      refine wm_icmp_ne (tgt := 151) hC dX12_tells_140 (by decide) hw (fun hw => ?_) (fun hw => ?_)
      · refine wm_iload hC 1 dX12_tells_143 rfl ?_
        refine wm_bipush hC dX12_tells_145 (k := ?_)
        refine x_iremP hC (by decide) dX12_tells_147 ?_
        refine wm_goto (tgt := 153) hC dX12_tells_148 (by decide) ?_
        exact wm_ireturn hC hE dX12_tells_153 ⟨rfl, hw⟩
      · refine wm_iload hC 2 dX12_tells_151 rfl ?_
        exact wm_ireturn hC hE dX12_tells_153 ⟨rfl, hw⟩
def p12_tells_b36_body (l2 : Int) (l3 : Int) (I : mI) (J : mI) (Q : Int → mI → mI → Prop) (k36 : Int → Int → Int → Prop) (l4 : Int) (l5 : Int) (l6 : Int) : Prop := (p12_isAhead l6 1 30 I (fun r4 => (if r4 = 0 then (p12_tells_b116 l2 l4 l5 I J Q) else (if l3 = 0 then (p12_tells_b116 l2 l4 l5 I J Q) else (∃ f, p12_tells_b55 l2 l3 l6 I J k36 Q f l4 l5 0)))))
def p12_tells_b36 (l2 : Int) (l3 : Int) (I : mI) (J : mI) (Q : Int → mI → mI → Prop) : Nat → Int → Int → Int → Prop
  | 0 => fun _ _ _ => False
  | f + 1 => fun l4 l5 l6 => p12_tells_b36_body l2 l3 I J Q (p12_tells_b36 l2 l3 I J Q f) l4 l5 l6
set_option maxRecDepth 20000 in
theorem w12_tells_b36_body {C : wX} {ad : Nat → Nat} {n : Nat} {I J : mI} {R : mR} {Q : Int → mI → mI → Prop} (hC : wOK C cX12_tells 9 RX12) (hRm : wRm C 10 240 0 0) (hE : wEnd C (some .int) ad n (fun r I' J' R' => (R' = R) ∧ Q r I' J')) (hRF : RF R) {l2 : Int} {l3 : Int} {l4 : Int} {l5 : Int} {l6 : Int}     {k36 : Int → Int → Int → Prop} (kk36 : ∀ (y4 : Int) (y5 : Int) (y6 : Int), k36 y4 y5 y6 → WM C ad n I J R 0 0 36 [(0, vr 159), (2, vi l2), (3, vi l3), (4, vi y4), (5, vi y5), (6, vi y6)] []) (hw : p12_tells_b36_body l2 l3 I J Q k36 l4 l5 l6) : WM C ad n I J R 0 0 36 [(0, vr 159), (2, vi l2), (3, vi l3), (4, vi l4), (5, vi l5), (6, vi l6)] [] := by
  unfold p12_tells_b36_body at hw
  refine wm_aload_n hC 0 dX12_tells_36 rfl (k_ne0 kk_159 (by decide)) ?_
  refine wm_iload hC 5 dX12_tells_37 rfl ?_
  refine wm_iconst hC dX12_tells_39 (k := ?_)
  refine wm_bipush hC dX12_tells_40 (k := ?_)
  refine y_callV_z_n hC hRm noS ml_X12_529 kk_159 (c12_isAhead hRF  hw) (Nat.le_of_ble_eq_true rfl) (Nat.le_of_ble_eq_true rfl) ⟨Nat.zero_le _, Nat.zero_le _⟩ rfl (st := []) rfl (Nat.le_of_ble_eq_true rfl) dX12_tells_42 (fun r4 hw => ?_)
  refine wm_if_eq (tgt := 116) hC dX12_tells_45 (by decide) hw (fun hw => ?_) (fun hw => ?_)
  · refine wm_sub [1, 3, 4] (L2 := [(2, vi l2), (4, vi l4), (5, vi l5)]) rfl ?_
    exact w12_tells_b116 hC hRm hE hRF  hw
  · refine wm_iload_n hC 2 dX12_tells_48 rfl ?_
    refine wm_if_eq (tgt := 116) hC dX12_tells_49 (by decide) hw (fun hw => ?_) (fun hw => ?_)
    · refine wm_sub [1, 3, 4] (L2 := [(2, vi l2), (4, vi l4), (5, vi l5)]) rfl ?_
      exact w12_tells_b116 hC hRm hE hRF  hw
    · refine wm_iconst hC dX12_tells_52 (k := ?_)
      refine wm_istore hC dX12_tells_53 (by decide) (L2 := [(7, vi 0), (0, vr 159), (2, vi l2), (3, vi l3), (4, vi l4), (5, vi l5), (6, vi l6)]) rfl ?_
      obtain ⟨f, hw⟩ := hw
      refine wm_sub [1, 2, 3, 4, 5, 6, 0] (L2 := [(0, vr 159), (2, vi l2), (3, vi l3), (4, vi l4), (5, vi l5), (6, vi l6), (7, vi 0)]) rfl ?_
      exact w12_tells_b55 hC hRm hE hRF kk36 f _ _ _ hw
set_option maxRecDepth 20000 in
theorem w12_tells_b36 {C : wX} {ad : Nat → Nat} {n : Nat} {I : mI} {J : mI} {R : mR} {Q : Int → mI → mI → Prop} (hC : wOK C cX12_tells 9 RX12) (hRm : wRm C 10 240 0 0) (hE : wEnd C (some .int) ad n (fun r I' J' R' => (R' = R) ∧ Q r I' J')) (hRF : RF R) {l2 : Int} {l3 : Int}     : ∀ (f : Nat) (l4 : Int) (l5 : Int) (l6 : Int), p12_tells_b36 l2 l3 I J Q f l4 l5 l6 → WM C ad n I J R 0 0 36 [(0, vr 159), (2, vi l2), (3, vi l3), (4, vi l4), (5, vi l5), (6, vi l6)] [] := by
  intro f
  induction f with
  | zero => intro l4 l5 l6 hw; exact hw.elim
  | succ f ih => intro l4 l5 l6 hw; exact w12_tells_b36_body hC hRm hE hRF  (fun a0 a1 a2 aw => ih a0 a1 a2 aw) hw
def p12_tells (l1 : Int) (l2 : Int) (I : mI) (J : mI) (Q : Int → mI → mI → Prop) : Prop := (p12_isBlind l1 I (fun r1 => (if r1 = 0 then (Q (-1) I J) else (p12_is l2 0 2 (fun r2 => (if r2 = 0 then (Q (-1) I J) else (p12_tasteBits l1 I J (fun r3 I1 J1 => (∃ f, p12_tells_b36 l2 r3 I1 J1 Q f (-1) 100000000 1)))))))))
set_option maxRecDepth 20000 in
theorem c12_tells {ad : Nat → Nat} {n : Nat} {I J : mI} {R : mR} {Q : Int → mI → mI → Prop}  (hRF : RF R) {l1 : Int} {l2 : Int}    (hw : p12_tells l1 l2 I J Q) : wMet yX12_tells cX12_tells 9 (some .int) 10 240 false ad n I J R [vr 159, vi l1, vi l2] (fun r I' J' R' => (R' = R) ∧ Q r I' J') := by
  refine wMet_of (by decide) (Nat.le_of_ble_eq_true rfl) (fun C hC hRm hE hS => ?_)
  refine (show WM C ad n I J R 0 0 0 [(0, vr 159), (1, vi l1), (2, vi l2)] [] from ?_)
  unfold p12_tells at hw
  refine wm_aload_n hC 0 dX12_tells_0 rfl (k_ne0 kk_159 (by decide)) ?_
  refine wm_iload_n hC 1 dX12_tells_1 rfl ?_
  refine y_callV_z_n hC hRm noS ml_X12_507 kk_159 (c12_isBlind hRF  hw) (Nat.le_of_ble_eq_true rfl) (Nat.le_of_ble_eq_true rfl) ⟨Nat.zero_le _, Nat.zero_le _⟩ rfl (st := []) rfl (Nat.le_of_ble_eq_true rfl) dX12_tells_2 (fun r1 hw => ?_)
  refine wm_if_eq (tgt := 17) hC dX12_tells_5 (by decide) hw (fun hw => ?_) (fun hw => ?_)
  · refine wm_iconst hC dX12_tells_17 (k := ?_)
    exact wm_ireturn hC hE dX12_tells_18 ⟨rfl, hw⟩
  · refine wm_iload_n hC 2 dX12_tells_8 rfl ?_
    refine wm_iconst hC dX12_tells_9 (k := ?_)
    refine wm_iconst hC dX12_tells_10 (k := ?_)
    refine y_callS_z_n hC hRm noS ml_X12_309 (c12_is hRF  hw) (Nat.le_of_ble_eq_true rfl) (Nat.le_of_ble_eq_true rfl) ⟨Nat.zero_le _, Nat.zero_le _⟩ rfl (st := []) rfl (Nat.le_of_ble_eq_true rfl) dX12_tells_11 (fun r2 hw => ?_)
    refine wm_if_ne (tgt := 19) hC dX12_tells_14 (by decide) hw (fun hw => ?_) (fun hw => ?_)
    · refine wm_iconst hC dX12_tells_17 (k := ?_)
      exact wm_ireturn hC hE dX12_tells_18 ⟨rfl, hw⟩
    · refine wm_aload_n hC 0 dX12_tells_19 rfl (k_ne0 kk_159 (by decide)) ?_
      refine wm_iload_n hC 1 dX12_tells_20 rfl ?_
      refine y_callV_i_IJ hC hRm noS ml_X12_547 kk_159 (c12_tasteBits hRF  hw) (Nat.le_of_ble_eq_true rfl) (Nat.le_of_ble_eq_true rfl) ⟨Nat.zero_le _, Nat.zero_le _⟩ rfl (st := []) rfl (Nat.le_of_ble_eq_true rfl) dX12_tells_21 (fun r3 I1 J1 hw => ?_)
      refine wm_istore_n hC dX12_tells_24 (by decide) (L2 := [(3, vi r3), (0, vr 159), (1, vi l1), (2, vi l2)]) rfl ?_
      refine wm_iconst hC dX12_tells_25 (k := ?_)
      refine wm_istore hC dX12_tells_26 (by decide) (L2 := [(4, vi (-1)), (3, vi r3), (0, vr 159), (1, vi l1), (2, vi l2)]) rfl ?_
      refine wm_ldcw hC (x := 100000000) tc_X12_550 rfl dX12_tells_28 (k := ?_)
      refine wm_istore hC dX12_tells_31 (by decide) (L2 := [(5, vi 100000000), (4, vi (-1)), (3, vi r3), (0, vr 159), (1, vi l1), (2, vi l2)]) rfl ?_
      refine wm_iconst hC dX12_tells_33 (k := ?_)
      refine wm_istore hC dX12_tells_34 (by decide) (L2 := [(6, vi 1), (5, vi 100000000), (4, vi (-1)), (3, vi r3), (0, vr 159), (1, vi l1), (2, vi l2)]) rfl ?_
      obtain ⟨f, hw⟩ := hw
      refine wm_sub [4, 6, 3, 2, 1, 0] (L2 := [(0, vr 159), (2, vi l2), (3, vi r3), (4, vi (-1)), (5, vi 100000000), (6, vi 1)]) rfl ?_
      exact w12_tells_b36 hC hRm hE hRF  f _ _ _ hw
def p12_thing (l1 : Int) (l2 : Int) (I : mI) (Q : Int → Prop) : Prop := (p12_isThing l1 I (fun r1 => (if r1 = 0 then (Q (-1)) else (if l2 = 0 then (rg (18 * (I 159 13)) ∧ (rg (3 * l1) ∧ (rg ((18 * (I 159 13)) + (3 * l1)) ∧ (rg (((18 * (I 159 13)) + (3 * l1)) + l2) ∧ (((0 : Int) ≤ (((18 * (I 159 13)) + (3 * l1)) + l2) ∧ (((18 * (I 159 13)) + (3 * l1)) + l2) < (36 : Int)) ∧ (Q (I 168 (((18 * (I 159 13)) + (3 * l1)) + l2)))))))) else (if l2 = 1 then (rg (18 * (I 159 13)) ∧ (rg (3 * l1) ∧ (rg ((18 * (I 159 13)) + (3 * l1)) ∧ (rg (((18 * (I 159 13)) + (3 * l1)) + l2) ∧ (((0 : Int) ≤ (((18 * (I 159 13)) + (3 * l1)) + l2) ∧ (((18 * (I 159 13)) + (3 * l1)) + l2) < (36 : Int)) ∧ (Q (I 168 (((18 * (I 159 13)) + (3 * l1)) + l2)))))))) else (if l2 = 2 then (rg (18 * (I 159 13)) ∧ (rg (3 * l1) ∧ (rg ((18 * (I 159 13)) + (3 * l1)) ∧ (rg (((18 * (I 159 13)) + (3 * l1)) + l2) ∧ (((0 : Int) ≤ (((18 * (I 159 13)) + (3 * l1)) + l2) ∧ (((18 * (I 159 13)) + (3 * l1)) + l2) < (36 : Int)) ∧ (Q (I 168 (((18 * (I 159 13)) + (3 * l1)) + l2)))))))) else (if l2 = 3 then (((0 : Int) ≤ l1 ∧ l1 < (132 : Int)) ∧ (Q (I 189 l1))) else (if l2 = 4 then (p12_nearSet l1 I (fun r2 => (p12_bits r2 (fun r3 => (Q r3))))) else (Q (-1))))))))))
set_option maxRecDepth 20000 in
theorem c12_thing {ad : Nat → Nat} {n : Nat} {I J : mI} {R : mR} {Q : Int → Prop}  (hRF : RF R) {l1 : Int} {l2 : Int}    (hw : p12_thing l1 l2 I Q) : wMet yX12_thing cX12_thing 3 (some .int) 2 34 false ad n I J R [vr 159, vi l1, vi l2] (fun r I' J' R' => (I' = I ∧ J' = J ∧ R' = R) ∧ Q r) := by
  refine wMet_of (by decide) (Nat.le_of_ble_eq_true rfl) (fun C hC hRm hE hS => ?_)
  refine (show WM C ad n I J R 0 0 0 [(0, vr 159), (1, vi l1), (2, vi l2)] [] from ?_)
  unfold p12_thing at hw
  refine wm_aload_n hC 0 dX12_thing_0 rfl (k_ne0 kk_159 (by decide)) ?_
  refine wm_iload_n hC 1 dX12_thing_1 rfl ?_
  refine y_callV_z_n hC hRm noS ml_X12_513 kk_159 (c12_isThing hRF  hw) (Nat.le_of_ble_eq_true rfl) (Nat.le_of_ble_eq_true rfl) ⟨Nat.zero_le _, Nat.zero_le _⟩ rfl (st := []) rfl (Nat.le_of_ble_eq_true rfl) dX12_thing_2 (fun r1 hw => ?_)
  refine wm_if_ne (tgt := 10) hC dX12_thing_5 (by decide) hw (fun hw => ?_) (fun hw => ?_)
  · refine wm_iconst hC dX12_thing_8 (k := ?_)
    exact wm_ireturn hC hE dX12_thing_9 ⟨⟨rfl, rfl, rfl⟩, hw⟩
  · refine wm_iload_n hC 2 dX12_thing_10 rfl ?_
    by_cases hc1 : l2 = 0
    · rw [if_pos hc1] at hw
      refine wm_tableIn (v := 0) (tgt := 44) hC dX12_thing_11 hc1 (by decide) (by decide) rfl rfl ?_
      refine wm_aload_n hC 0 dX12_thing_44 rfl (k_ne0 kk_159 (by decide)) ?_
      refine x_getR3 hC 21 fl_X12_75 rfl kk_159 (rf_159_21 hRF) dX12_thing_45 ?_
      refine wm_bipush hC dX12_thing_48 (k := ?_)
      refine wm_aload_n hC 0 dX12_thing_50 rfl (k_ne0 kk_159 (by decide)) ?_
      refine x_getI hC 13 fl_X12_51 rfl kk_159 dX12_thing_51 ?_
      refine x_imul hC dX12_thing_54 hw (fun hw => ?_)
      refine wm_iconst hC dX12_thing_55 (k := ?_)
      refine wm_iload_n hC 1 dX12_thing_56 rfl ?_
      refine x_imul hC dX12_thing_57 hw (fun hw => ?_)
      refine x_iadd hC dX12_thing_58 hw (fun hw => ?_)
      refine wm_iload_n hC 2 dX12_thing_59 rfl ?_
      refine x_iadd hC dX12_thing_60 hw (fun hw => ?_)
      refine x_iald2 hC kk_168 kn_168 dX12_thing_61 hw (fun hw => ?_)
      exact wm_ireturn hC hE dX12_thing_62 ⟨⟨rfl, rfl, rfl⟩, hw⟩
    rw [if_neg hc1] at hw
    by_cases hc2 : l2 = 1
    · rw [if_pos hc2] at hw
      refine wm_tableIn (v := 1) (tgt := 44) hC dX12_thing_11 hc2 (by decide) (by decide) rfl rfl ?_
      refine wm_aload_n hC 0 dX12_thing_44 rfl (k_ne0 kk_159 (by decide)) ?_
      refine x_getR3 hC 21 fl_X12_75 rfl kk_159 (rf_159_21 hRF) dX12_thing_45 ?_
      refine wm_bipush hC dX12_thing_48 (k := ?_)
      refine wm_aload_n hC 0 dX12_thing_50 rfl (k_ne0 kk_159 (by decide)) ?_
      refine x_getI hC 13 fl_X12_51 rfl kk_159 dX12_thing_51 ?_
      refine x_imul hC dX12_thing_54 hw (fun hw => ?_)
      refine wm_iconst hC dX12_thing_55 (k := ?_)
      refine wm_iload_n hC 1 dX12_thing_56 rfl ?_
      refine x_imul hC dX12_thing_57 hw (fun hw => ?_)
      refine x_iadd hC dX12_thing_58 hw (fun hw => ?_)
      refine wm_iload_n hC 2 dX12_thing_59 rfl ?_
      refine x_iadd hC dX12_thing_60 hw (fun hw => ?_)
      refine x_iald2 hC kk_168 kn_168 dX12_thing_61 hw (fun hw => ?_)
      exact wm_ireturn hC hE dX12_thing_62 ⟨⟨rfl, rfl, rfl⟩, hw⟩
    rw [if_neg hc2] at hw
    by_cases hc3 : l2 = 2
    · rw [if_pos hc3] at hw
      refine wm_tableIn (v := 2) (tgt := 44) hC dX12_thing_11 hc3 (by decide) (by decide) rfl rfl ?_
      refine wm_aload_n hC 0 dX12_thing_44 rfl (k_ne0 kk_159 (by decide)) ?_
      refine x_getR3 hC 21 fl_X12_75 rfl kk_159 (rf_159_21 hRF) dX12_thing_45 ?_
      refine wm_bipush hC dX12_thing_48 (k := ?_)
      refine wm_aload_n hC 0 dX12_thing_50 rfl (k_ne0 kk_159 (by decide)) ?_
      refine x_getI hC 13 fl_X12_51 rfl kk_159 dX12_thing_51 ?_
      refine x_imul hC dX12_thing_54 hw (fun hw => ?_)
      refine wm_iconst hC dX12_thing_55 (k := ?_)
      refine wm_iload_n hC 1 dX12_thing_56 rfl ?_
      refine x_imul hC dX12_thing_57 hw (fun hw => ?_)
      refine x_iadd hC dX12_thing_58 hw (fun hw => ?_)
      refine wm_iload_n hC 2 dX12_thing_59 rfl ?_
      refine x_iadd hC dX12_thing_60 hw (fun hw => ?_)
      refine x_iald2 hC kk_168 kn_168 dX12_thing_61 hw (fun hw => ?_)
      exact wm_ireturn hC hE dX12_thing_62 ⟨⟨rfl, rfl, rfl⟩, hw⟩
    rw [if_neg hc3] at hw
    by_cases hc4 : l2 = 3
    · rw [if_pos hc4] at hw
      refine wm_tableIn (v := 3) (tgt := 63) hC dX12_thing_11 hc4 (by decide) (by decide) rfl rfl ?_
      refine wm_aload_n hC 0 dX12_thing_63 rfl (k_ne0 kk_159 (by decide)) ?_
      refine x_getR3 hC 49 fl_X12_162 rfl kk_159 (rf_159_49 hRF) dX12_thing_64 ?_
      refine wm_iload_n hC 1 dX12_thing_67 rfl ?_
      refine x_iald2 hC kk_189 kn_189 dX12_thing_68 hw (fun hw => ?_)
      exact wm_ireturn hC hE dX12_thing_69 ⟨⟨rfl, rfl, rfl⟩, hw⟩
    rw [if_neg hc4] at hw
    by_cases hc5 : l2 = 4
    · rw [if_pos hc5] at hw
      refine wm_tableIn (v := 4) (tgt := 70) hC dX12_thing_11 hc5 (by decide) (by decide) rfl rfl ?_
      refine wm_aload_n hC 0 dX12_thing_70 rfl (k_ne0 kk_159 (by decide)) ?_
      refine wm_iload_n hC 1 dX12_thing_71 rfl ?_
      refine y_callV_i_n hC hRm noS ml_X12_501 kk_159 (c12_nearSet hRF  hw) (Nat.le_of_ble_eq_true rfl) (Nat.le_of_ble_eq_true rfl) ⟨Nat.zero_le _, Nat.zero_le _⟩ rfl (st := []) rfl (Nat.le_of_ble_eq_true rfl) dX12_thing_72 (fun r2 hw => ?_)
      refine y_callS_i_n hC hRm noS ml_X12_521 (c12_bits hRF  hw) (Nat.le_of_ble_eq_true rfl) (Nat.le_of_ble_eq_true rfl) ⟨Nat.zero_le _, Nat.zero_le _⟩ rfl (st := []) rfl (Nat.le_of_ble_eq_true rfl) dX12_thing_75 (fun r3 hw => ?_)
      exact wm_ireturn hC hE dX12_thing_78 ⟨⟨rfl, rfl, rfl⟩, hw⟩
    rw [if_neg hc5] at hw
    refine wm_tableOut (tgt := 79) hC dX12_thing_11 (by omega) rfl ?_
    refine wm_iconst hC dX12_thing_79 (k := ?_)
    exact wm_ireturn hC hE dX12_thing_80 ⟨⟨rfl, rfl, rfl⟩, hw⟩
def p12_undo (I : mI) (Q : Int → mI → Prop) : Prop := (if (I 159 53) = 0 then (p12_refuses 4 I (fun r2 I3 => (if r2 < 0 then (Q 0 I3) else (Q 1 I3)))) else (rg ((I 159 53) - 1) ∧ (wLet (up I 159 53 ((I 159 53) - 1)) (fun I1 => (p12_slot (I1 159 53) I1 (fun r1 => (p12_copies 0 r1 I1 (fun I2 => (Q 1 I2)))))))))
set_option maxRecDepth 20000 in
theorem c12_undo {ad : Nat → Nat} {n : Nat} {I J : mI} {R : mR} {Q : Int → mI → Prop}  (hRF : RF R)   (hw : p12_undo I Q) : wMet yX12_undo cX12_undo 1 (some .boolean) 2 35 false ad n I J R [vr 159] (fun r I' J' R' => (J' = J ∧ R' = R) ∧ Q r I') := by
  refine wMet_of (by decide) (Nat.le_of_ble_eq_true rfl) (fun C hC hRm hE hS => ?_)
  refine (show WM C ad n I J R 0 0 0 [(0, vr 159)] [] from ?_)
  unfold p12_undo at hw
  refine wm_aload_n hC 0 dX12_undo_0 rfl (k_ne0 kk_159 (by decide)) ?_
  refine x_getI hC 53 fl_X12_174 rfl kk_159 dX12_undo_1 ?_
  refine wm_if_ne (tgt := 21) hC dX12_undo_4 (by decide) hw (fun hw => ?_) (fun hw => ?_)
  · refine wm_aload_n hC 0 dX12_undo_7 rfl (k_ne0 kk_159 (by decide)) ?_
    refine wm_iconst hC dX12_undo_8 (k := ?_)
    refine y_callV_i_I hC hRm noS ml_X12_222 kk_159 (c12_refuses hRF  hw) (Nat.le_of_ble_eq_true rfl) (Nat.le_of_ble_eq_true rfl) ⟨Nat.zero_le _, Nat.zero_le _⟩ rfl (st := []) rfl (Nat.le_of_ble_eq_true rfl) dX12_undo_9 (fun r2 I3 hw => ?_)
    refine wm_if_lt (tgt := 19) hC dX12_undo_12 (by decide) hw (fun hw => ?_) (fun hw => ?_)
    · refine wm_iconst hC dX12_undo_19 (k := ?_)
      exact wm_zreturn hC hE (Or.inl rfl) dX12_undo_20 ⟨⟨rfl, rfl⟩, hw⟩
    · refine wm_iconst hC dX12_undo_15 (k := ?_)
      refine wm_goto (tgt := 20) hC dX12_undo_16 (by decide) ?_
      exact wm_zreturn hC hE (Or.inr rfl) dX12_undo_20 ⟨⟨rfl, rfl⟩, hw⟩
  · refine wm_aload_n hC 0 dX12_undo_21 rfl (k_ne0 kk_159 (by decide)) ?_
    refine wm_dup hC dX12_undo_22 (k := ?_)
    refine x_getI hC 53 fl_X12_174 rfl kk_159 dX12_undo_23 ?_
    refine wm_iconst hC dX12_undo_26 (k := ?_)
    refine x_isub hC dX12_undo_27 hw (fun hw => ?_)
    refine x_putI hC 53 fl_X12_174 rfl kk_159 dX12_undo_28 hw (fun I1 hw => ?_)
    refine wm_aload_n hC 0 dX12_undo_31 rfl (k_ne0 kk_159 (by decide)) ?_
    refine wm_iconst hC dX12_undo_32 (k := ?_)
    refine wm_aload_n hC 0 dX12_undo_33 rfl (k_ne0 kk_159 (by decide)) ?_
    refine wm_aload_n hC 0 dX12_undo_34 rfl (k_ne0 kk_159 (by decide)) ?_
    refine x_getI hC 53 fl_X12_174 rfl kk_159 dX12_undo_35 ?_
    refine y_callV_i_n hC hRm noS ml_X12_421 kk_159 (c12_slot hRF  hw) (Nat.le_of_ble_eq_true rfl) (Nat.le_of_ble_eq_true rfl) ⟨Nat.zero_le _, Nat.zero_le _⟩ rfl (st := [vi 0, vr 159]) rfl (Nat.le_of_ble_eq_true rfl) dX12_undo_38 (fun r1 hw => ?_)
    refine y_callV_v_I hC hRm noS ml_X12_424 kk_159 (c12_copies hRF  hw) (Nat.le_of_ble_eq_true rfl) (Nat.le_of_ble_eq_true rfl) ⟨Nat.zero_le _, Nat.zero_le _⟩ rfl (st := []) rfl (Nat.le_of_ble_eq_true rfl) dX12_undo_41 (fun I2 hw => ?_)
    refine wm_iconst hC dX12_undo_44 (k := ?_)
    exact wm_zreturn hC hE (Or.inr rfl) dX12_undo_45 ⟨⟨rfl, rfl⟩, hw⟩
def p12_word (l1 : Int) (l2 : Int) (I : mI) (J : mI) (Q : Int → mI → mI → Prop) : Prop := (p12_isBlind l1 I (fun r1 => (if r1 = 0 then (Q (-1) I J) else (p12_isThing l2 I (fun r2 => (if r2 = 0 then (Q (-1) I J) else (p12_hushes I (fun I1 => (p12_wordBy 0 l1 l2 I1 J (fun r3 I2 J1 => (Q r3 I2 J1)))))))))))
set_option maxRecDepth 20000 in
theorem c12_word {ad : Nat → Nat} {n : Nat} {I J : mI} {R : mR} {Q : Int → mI → mI → Prop}  (hRF : RF R) {l1 : Int} {l2 : Int}    (hw : p12_word l1 l2 I J Q) : wMet yX12_word cX12_word 3 (some .int) 6 140 false ad n I J R [vr 159, vi l1, vi l2] (fun r I' J' R' => (R' = R) ∧ Q r I' J') := by
  refine wMet_of (by decide) (Nat.le_of_ble_eq_true rfl) (fun C hC hRm hE hS => ?_)
  refine (show WM C ad n I J R 0 0 0 [(0, vr 159), (1, vi l1), (2, vi l2)] [] from ?_)
  unfold p12_word at hw
  refine wm_aload_n hC 0 dX12_word_0 rfl (k_ne0 kk_159 (by decide)) ?_
  refine wm_iload_n hC 1 dX12_word_1 rfl ?_
  refine y_callV_z_n hC hRm noS ml_X12_507 kk_159 (c12_isBlind hRF  hw) (Nat.le_of_ble_eq_true rfl) (Nat.le_of_ble_eq_true rfl) ⟨Nat.zero_le _, Nat.zero_le _⟩ rfl (st := []) rfl (Nat.le_of_ble_eq_true rfl) dX12_word_2 (fun r1 hw => ?_)
  refine wm_if_eq (tgt := 16) hC dX12_word_5 (by decide) hw (fun hw => ?_) (fun hw => ?_)
  · refine wm_iconst hC dX12_word_16 (k := ?_)
    exact wm_ireturn hC hE dX12_word_17 ⟨rfl, hw⟩
  · refine wm_aload_n hC 0 dX12_word_8 rfl (k_ne0 kk_159 (by decide)) ?_
    refine wm_iload_n hC 2 dX12_word_9 rfl ?_
    refine y_callV_z_n hC hRm noS ml_X12_513 kk_159 (c12_isThing hRF  hw) (Nat.le_of_ble_eq_true rfl) (Nat.le_of_ble_eq_true rfl) ⟨Nat.zero_le _, Nat.zero_le _⟩ rfl (st := []) rfl (Nat.le_of_ble_eq_true rfl) dX12_word_10 (fun r2 hw => ?_)
    refine wm_if_ne (tgt := 18) hC dX12_word_13 (by decide) hw (fun hw => ?_) (fun hw => ?_)
    · refine wm_iconst hC dX12_word_16 (k := ?_)
      exact wm_ireturn hC hE dX12_word_17 ⟨rfl, hw⟩
    · refine wm_aload_n hC 0 dX12_word_18 rfl (k_ne0 kk_159 (by decide)) ?_
      refine y_callV_v_I hC hRm noS ml_X12_467 kk_159 (c12_hushes hRF  hw) (Nat.le_of_ble_eq_true rfl) (Nat.le_of_ble_eq_true rfl) ⟨Nat.zero_le _, Nat.zero_le _⟩ rfl (st := []) rfl (Nat.le_of_ble_eq_true rfl) dX12_word_19 (fun I1 hw => ?_)
      refine wm_aload_n hC 0 dX12_word_22 rfl (k_ne0 kk_159 (by decide)) ?_
      refine wm_iconst hC dX12_word_23 (k := ?_)
      refine wm_iload_n hC 1 dX12_word_24 rfl ?_
      refine wm_iload_n hC 2 dX12_word_25 rfl ?_
      refine y_callV_i_IJ hC hRm noS ml_X12_470 kk_159 (c12_wordBy hRF  hw) (Nat.le_of_ble_eq_true rfl) (Nat.le_of_ble_eq_true rfl) ⟨Nat.zero_le _, Nat.zero_le _⟩ rfl (st := []) rfl (Nat.le_of_ble_eq_true rfl) dX12_word_26 (fun r3 I2 J1 hw => ?_)
      exact wm_ireturn hC hE dX12_word_29 ⟨rfl, hw⟩
def p12_years_b25_body (l1 : Int) (Q : Int → mI → mI → Prop) (k25 : Int → Int → mI → mI → Prop) (l2 : Int) (l3 : Int) (I : mI) (J : mI) : Prop := (if l1 ≤ l3 then (Q l2 I J) else (p12_ticks 0 (-1) I J (fun r3 I3 J1 => (if r3 = 0 then (rg (l2 + 0) ∧ (rg (l3 + 1) ∧ (k25 (l2 + 0) (l3 + 1) I3 J1))) else (rg (l2 + 1) ∧ (rg (l3 + 1) ∧ (k25 (l2 + 1) (l3 + 1) I3 J1)))))))
def p12_years_b25 (l1 : Int) (Q : Int → mI → mI → Prop) : Nat → Int → Int → mI → mI → Prop
  | 0 => fun _ _ _ _ => False
  | f + 1 => fun l2 l3 I J => p12_years_b25_body l1 Q (p12_years_b25 l1 Q f) l2 l3 I J
set_option maxRecDepth 20000 in
theorem w12_years_b25_body {C : wX} {ad : Nat → Nat} {n : Nat} {I J : mI} {R : mR} {Q : Int → mI → mI → Prop} (hC : wOK C cX12_years 4 RX12) (hRm : wRm C 9 214 0 0) (hE : wEnd C (some .int) ad n (fun r I' J' R' => (R' = R) ∧ Q r I' J')) (hRF : RF R) {l1 : Int} {l2 : Int} {l3 : Int}     {k25 : Int → Int → mI → mI → Prop} (kk25 : ∀ (y2 : Int) (y3 : Int) (I' : mI) (J' : mI), k25 y2 y3 I' J' → WM C ad n I' J' R 0 0 25 [(0, vr 159), (1, vi l1), (2, vi y2), (3, vi y3)] []) (hw : p12_years_b25_body l1 Q k25 l2 l3 I J) : WM C ad n I J R 0 0 25 [(0, vr 159), (1, vi l1), (2, vi l2), (3, vi l3)] [] := by
  unfold p12_years_b25_body at hw
  refine wm_iload_n hC 3 dX12_years_25 rfl ?_
  refine wm_iload_n hC 1 dX12_years_26 rfl ?_
  refine wm_icmp_ge (tgt := 53) hC dX12_years_27 (by decide) hw (fun hw => ?_) (fun hw => ?_)
  · refine wm_iload_n hC 2 dX12_years_53 rfl ?_
    exact wm_ireturn hC hE dX12_years_54 ⟨rfl, hw⟩
  · refine wm_iload_n hC 2 dX12_years_30 rfl ?_
    refine wm_aload_n hC 0 dX12_years_31 rfl (k_ne0 kk_159 (by decide)) ?_
    refine wm_iconst hC dX12_years_32 (k := ?_)
    refine wm_iconst hC dX12_years_33 (k := ?_)
    refine y_callV_z_IJ hC hRm noS ml_X12_526 kk_159 (c12_ticks hRF  hw) (Nat.le_of_ble_eq_true rfl) (Nat.le_of_ble_eq_true rfl) ⟨Nat.zero_le _, Nat.zero_le _⟩ rfl (st := [vi l2]) rfl (Nat.le_of_ble_eq_true rfl) dX12_years_34 (fun r3 I3 J1 hw => ?_)
    refine wm_if_eq (tgt := 44) hC dX12_years_37 (by decide) hw (fun hw => ?_) (fun hw => ?_)
    · refine wm_iconst hC dX12_years_44 (k := ?_)
      refine x_iadd hC dX12_years_45 hw (fun hw => ?_)
      refine wm_istore_n hC dX12_years_46 (by decide) (L2 := [(2, vi (l2 + 0)), (0, vr 159), (1, vi l1), (3, vi l3)]) rfl ?_
      refine x_iinc hC 3 dX12_years_47 rfl (by decide) (L2 := [(3, vi (l3 + 1)), (2, vi (l2 + 0)), (0, vr 159), (1, vi l1)]) rfl hw (fun hw => ?_)
      refine wm_goto (tgt := 25) hC dX12_years_50 (by decide) ?_
      refine wm_sub [2, 3, 1, 0] (L2 := [(0, vr 159), (1, vi l1), (2, vi (l2 + 0)), (3, vi (l3 + 1))]) rfl ?_
      exact kk25 _ _ _ _ hw
    · refine wm_iconst hC dX12_years_40 (k := ?_)
      refine wm_goto (tgt := 45) hC dX12_years_41 (by decide) ?_
      refine x_iadd hC dX12_years_45 hw (fun hw => ?_)
      refine wm_istore_n hC dX12_years_46 (by decide) (L2 := [(2, vi (l2 + 1)), (0, vr 159), (1, vi l1), (3, vi l3)]) rfl ?_
      refine x_iinc hC 3 dX12_years_47 rfl (by decide) (L2 := [(3, vi (l3 + 1)), (2, vi (l2 + 1)), (0, vr 159), (1, vi l1)]) rfl hw (fun hw => ?_)
      refine wm_goto (tgt := 25) hC dX12_years_50 (by decide) ?_
      refine wm_sub [2, 3, 1, 0] (L2 := [(0, vr 159), (1, vi l1), (2, vi (l2 + 1)), (3, vi (l3 + 1))]) rfl ?_
      exact kk25 _ _ _ _ hw
set_option maxRecDepth 20000 in
theorem w12_years_b25 {C : wX} {ad : Nat → Nat} {n : Nat} {R : mR} {Q : Int → mI → mI → Prop} (hC : wOK C cX12_years 4 RX12) (hRm : wRm C 9 214 0 0) (hE : wEnd C (some .int) ad n (fun r I' J' R' => (R' = R) ∧ Q r I' J')) (hRF : RF R) {l1 : Int}     : ∀ (f : Nat) (l2 : Int) (l3 : Int) (I : mI) (J : mI), p12_years_b25 l1 Q f l2 l3 I J → WM C ad n I J R 0 0 25 [(0, vr 159), (1, vi l1), (2, vi l2), (3, vi l3)] [] := by
  intro f
  induction f with
  | zero => intro l2 l3 I J hw; exact hw.elim
  | succ f ih => intro l2 l3 I J hw; exact w12_years_b25_body hC hRm hE hRF  (fun a0 a1 a2 a3 aw => ih a0 a1 a2 a3 aw) hw
def p12_years (l1 : Int) (I : mI) (J : mI) (Q : Int → mI → mI → Prop) : Prop := (p12_isAhead l1 1 40 I (fun r1 => (if r1 = 0 then (p12_refuses 2 I (fun r2 I2 => (Q r2 I2 J))) else (p12_keeps I (fun I1 => (∃ f, p12_years_b25 l1 Q f 0 0 I1 J))))))
set_option maxRecDepth 20000 in
theorem c12_years {ad : Nat → Nat} {n : Nat} {I J : mI} {R : mR} {Q : Int → mI → mI → Prop}  (hRF : RF R) {l1 : Int}   (hw : p12_years l1 I J Q) : wMet yX12_years cX12_years 4 (some .int) 9 214 false ad n I J R [vr 159, vi l1] (fun r I' J' R' => (R' = R) ∧ Q r I' J') := by
  refine wMet_of (by decide) (Nat.le_of_ble_eq_true rfl) (fun C hC hRm hE hS => ?_)
  refine (show WM C ad n I J R 0 0 0 [(0, vr 159), (1, vi l1)] [] from ?_)
  unfold p12_years at hw
  refine wm_aload_n hC 0 dX12_years_0 rfl (k_ne0 kk_159 (by decide)) ?_
  refine wm_iload_n hC 1 dX12_years_1 rfl ?_
  refine wm_iconst hC dX12_years_2 (k := ?_)
  refine wm_bipush hC dX12_years_3 (k := ?_)
  refine y_callV_z_n hC hRm noS ml_X12_529 kk_159 (c12_isAhead hRF  hw) (Nat.le_of_ble_eq_true rfl) (Nat.le_of_ble_eq_true rfl) ⟨Nat.zero_le _, Nat.zero_le _⟩ rfl (st := []) rfl (Nat.le_of_ble_eq_true rfl) dX12_years_5 (fun r1 hw => ?_)
  refine wm_if_ne (tgt := 17) hC dX12_years_8 (by decide) hw (fun hw => ?_) (fun hw => ?_)
  · refine wm_aload_n hC 0 dX12_years_11 rfl (k_ne0 kk_159 (by decide)) ?_
    refine wm_iconst hC dX12_years_12 (k := ?_)
    refine y_callV_i_I hC hRm noS ml_X12_222 kk_159 (c12_refuses hRF  hw) (Nat.le_of_ble_eq_true rfl) (Nat.le_of_ble_eq_true rfl) ⟨Nat.zero_le _, Nat.zero_le _⟩ rfl (st := []) rfl (Nat.le_of_ble_eq_true rfl) dX12_years_13 (fun r2 I2 hw => ?_)
    exact wm_ireturn hC hE dX12_years_16 ⟨rfl, hw⟩
  · refine wm_aload_n hC 0 dX12_years_17 rfl (k_ne0 kk_159 (by decide)) ?_
    refine y_callV_v_I hC hRm noS ml_X12_554 kk_159 (c12_keeps hRF  hw) (Nat.le_of_ble_eq_true rfl) (Nat.le_of_ble_eq_true rfl) ⟨Nat.zero_le _, Nat.zero_le _⟩ rfl (st := []) rfl (Nat.le_of_ble_eq_true rfl) dX12_years_18 (fun I1 hw => ?_)
    refine wm_iconst hC dX12_years_21 (k := ?_)
    refine wm_istore_n hC dX12_years_22 (by decide) (L2 := [(2, vi 0), (0, vr 159), (1, vi l1)]) rfl ?_
    refine wm_iconst hC dX12_years_23 (k := ?_)
    refine wm_istore_n hC dX12_years_24 (by decide) (L2 := [(3, vi 0), (2, vi 0), (0, vr 159), (1, vi l1)]) rfl ?_
    obtain ⟨f, hw⟩ := hw
    refine wm_sub [2, 3, 1, 0] (L2 := [(0, vr 159), (1, vi l1), (2, vi 0), (3, vi 0)]) rfl ?_
    exact w12_years_b25 hC hRm hE hRF  f _ _ _ _ hw
