def P12_tasteBits_b97_body (l0 : Nat) (l1 : Int) (l2 : Int) (l3 : Int) (l5 : Int) (I : mI) (J : mI) (R : mR) (k4 : Int → Int → mI → mI → Prop) (k31 : Int → Int → mI → mI → Prop) (Q : Int → mI → mI → Prop) (k97 : Int → Int → Prop) (l4 : Int) (l6 : Int) : Prop := (if (I l0 62) ≤ l6 then (P12_ticks l0 1 (-1) I J R (fun r2 I5 J1 => (rg (l5 + 1) ∧ (k31 l4 (l5 + 1) I5 J1)))) else (kK (R l0 63) = 21 ∧ (((0 : Int) ≤ l6 ∧ l6 < (kN (R l0 63) : Int)) ∧ (if (I (R l0 63) l6) = l5 then (kK (R l0 49) = 21 ∧ (kK (R l0 64) = 21 ∧ (((0 : Int) ≤ l6 ∧ l6 < (kN (R l0 64) : Int)) ∧ (rg (6 + (I (R l0 64) l6)) ∧ (((0 : Int) ≤ (6 + (I (R l0 64) l6)) ∧ (6 + (I (R l0 64) l6)) < (kN (R l0 49) : Int)) ∧ (kK (R l0 65) = 21 ∧ (((0 : Int) ≤ l6 ∧ l6 < (kN (R l0 65) : Int)) ∧ (if (I (R l0 49) (6 + (I (R l0 64) l6))) = (I (R l0 65) l6) then (rg (l4 + 1) ∧ (rg (l6 + 1) ∧ (k97 (l4 + 1) (l6 + 1)))) else (rg (l4 + 0) ∧ (rg (l6 + 1) ∧ (k97 (l4 + 0) (l6 + 1)))))))))))) else (rg (l4 + 0) ∧ (rg (l6 + 1) ∧ (k97 (l4 + 0) (l6 + 1))))))))
def P12_tasteBits_b97 (l0 : Nat) (l1 : Int) (l2 : Int) (l3 : Int) (l5 : Int) (I : mI) (J : mI) (R : mR) (k4 : Int → Int → mI → mI → Prop) (k31 : Int → Int → mI → mI → Prop) (Q : Int → mI → mI → Prop) : Nat → Int → Int → Prop
  | 0 => fun _ _ => False
  | f + 1 => fun l4 l6 => P12_tasteBits_b97_body l0 l1 l2 l3 l5 I J R k4 k31 Q (P12_tasteBits_b97 l0 l1 l2 l3 l5 I J R k4 k31 Q f) l4 l6
set_option maxRecDepth 20000 in
theorem W12_tasteBits_b97_body {C : wX} {ad : Nat → Nat} {n : Nat} {I J : mI} {R : mR} {Q : Int → mI → mI → Prop} (hC : wOK C cX12_tasteBits 7 RX12) (hRm : wRm C 9 214 0 0) (hE : wEnd C (some .int) ad n (fun r I' J' R' => (R' = R) ∧ Q r I' J')) {l0 : Nat} {l1 : Int} {l2 : Int} {l3 : Int} {l5 : Int} {l4 : Int} {l6 : Int}  {k4 : Int → Int → mI → mI → Prop} {k31 : Int → Int → mI → mI → Prop} (hk0 : kK l0 = 12) (kk4 : ∀ (y2 : Int) (y3 : Int) (I' : mI) (J' : mI), k4 y2 y3 I' J' → WM C ad n I' J' R 0 0 4 [(0, vr l0), (1, vi l1), (2, vi y2), (3, vi y3)] []) (kk31 : ∀ (y4 : Int) (y5 : Int) (I' : mI) (J' : mI), k31 y4 y5 I' J' → WM C ad n I' J' R 0 0 31 [(0, vr l0), (1, vi l1), (2, vi l2), (3, vi l3), (4, vi y4), (5, vi y5)] []) {k97 : Int → Int → Prop} (kk97 : ∀ (y4 : Int) (y6 : Int), k97 y4 y6 → WM C ad n I J R 0 0 97 [(0, vr l0), (1, vi l1), (2, vi l2), (3, vi l3), (4, vi y4), (5, vi l5), (6, vi y6)] []) (hw : P12_tasteBits_b97_body l0 l1 l2 l3 l5 I J R k4 k31 Q k97 l4 l6) : WM C ad n I J R 0 0 97 [(0, vr l0), (1, vi l1), (2, vi l2), (3, vi l3), (4, vi l4), (5, vi l5), (6, vi l6)] [] := by
  unfold P12_tasteBits_b97_body at hw
  refine wm_iload hC 6 dX12_tasteBits_97 rfl ?_
  refine wm_aload_n hC 0 dX12_tasteBits_99 rfl (k_ne0 hk0 (by decide)) ?_
  refine x_getI hC 62 fl_X12_201 rfl hk0 dX12_tasteBits_100 ?_
  refine wm_icmp_ge (tgt := 159) hC dX12_tasteBits_103 (by decide) hw (fun hw => ?_) (fun hw => ?_)
  · refine wm_aload_n hC 0 dX12_tasteBits_159 rfl (k_ne0 hk0 (by decide)) ?_
    refine wm_iconst hC dX12_tasteBits_160 (k := ?_)
    refine wm_iconst hC dX12_tasteBits_161 (k := ?_)
    refine y_callV_z_IJ hC hRm ml_X12_526 hk0 (C12_ticks hk0 hw) (Nat.le_of_ble_eq_true rfl) (Nat.le_of_ble_eq_true rfl) ⟨Nat.zero_le _, Nat.zero_le _⟩ rfl (st := []) rfl (Nat.le_of_ble_eq_true rfl) dX12_tasteBits_162 (fun r2 I5 J1 hw => ?_)
    refine wm_pop hC dX12_tasteBits_165 (k := ?_)
    refine x_iinc hC 5 dX12_tasteBits_166 rfl (by decide) (L2 := [(5, vi (l5 + 1)), (0, vr l0), (1, vi l1), (2, vi l2), (3, vi l3), (4, vi l4), (6, vi l6)]) rfl hw (fun hw => ?_)
    refine wm_goto (tgt := 31) hC dX12_tasteBits_169 (by decide) ?_
    refine wm_sub [1, 2, 3, 4, 5, 0] (L2 := [(0, vr l0), (1, vi l1), (2, vi l2), (3, vi l3), (4, vi l4), (5, vi (l5 + 1))]) rfl ?_
    exact kk31 _ _ _ _ hw
  · refine wm_iload hC 4 dX12_tasteBits_106 rfl ?_
    refine wm_aload_n hC 0 dX12_tasteBits_108 rfl (k_ne0 hk0 (by decide)) ?_
    refine x_getR2 hC 63 fl_X12_204 rfl hk0 dX12_tasteBits_109 hw (fun g7 hw => ?_)
    refine wm_iload hC 6 dX12_tasteBits_112 rfl ?_
    refine x_iald hC g7 dX12_tasteBits_114 hw (fun hw => ?_)
    refine wm_iload hC 5 dX12_tasteBits_115 rfl ?_
    refine wm_icmp_ne (tgt := 149) hC dX12_tasteBits_117 (by decide) hw (fun hw => ?_) (fun hw => ?_)
    · refine wm_aload_n hC 0 dX12_tasteBits_120 rfl (k_ne0 hk0 (by decide)) ?_
      refine x_getR2 hC 49 fl_X12_162 rfl hk0 dX12_tasteBits_121 hw (fun g8 hw => ?_)
      refine wm_bipush hC dX12_tasteBits_124 (k := ?_)
      refine wm_aload_n hC 0 dX12_tasteBits_126 rfl (k_ne0 hk0 (by decide)) ?_
      refine x_getR2 hC 64 fl_X12_207 rfl hk0 dX12_tasteBits_127 hw (fun g9 hw => ?_)
      refine wm_iload hC 6 dX12_tasteBits_130 rfl ?_
      refine x_iald hC g9 dX12_tasteBits_132 hw (fun hw => ?_)
      refine x_iadd hC dX12_tasteBits_133 hw (fun hw => ?_)
      refine x_iald hC g8 dX12_tasteBits_134 hw (fun hw => ?_)
      refine wm_aload_n hC 0 dX12_tasteBits_135 rfl (k_ne0 hk0 (by decide)) ?_
      refine x_getR2 hC 65 fl_X12_210 rfl hk0 dX12_tasteBits_136 hw (fun g10 hw => ?_)
      refine wm_iload hC 6 dX12_tasteBits_139 rfl ?_
      refine x_iald hC g10 dX12_tasteBits_141 hw (fun hw => ?_)
      refine wm_icmp_ne (tgt := 149) hC dX12_tasteBits_142 (by decide) hw (fun hw => ?_) (fun hw => ?_)
      · refine wm_iconst hC dX12_tasteBits_145 (k := ?_)
        refine wm_goto (tgt := 150) hC dX12_tasteBits_146 (by decide) ?_
        refine x_iadd hC dX12_tasteBits_150 hw (fun hw => ?_)
        refine wm_istore hC dX12_tasteBits_151 (by decide) (L2 := [(4, vi (l4 + 1)), (0, vr l0), (1, vi l1), (2, vi l2), (3, vi l3), (5, vi l5), (6, vi l6)]) rfl ?_
        refine x_iinc hC 6 dX12_tasteBits_153 rfl (by decide) (L2 := [(6, vi (l6 + 1)), (4, vi (l4 + 1)), (0, vr l0), (1, vi l1), (2, vi l2), (3, vi l3), (5, vi l5)]) rfl hw (fun hw => ?_)
        refine wm_goto (tgt := 97) hC dX12_tasteBits_156 (by decide) ?_
        refine wm_sub [2, 3, 4, 5, 1, 6, 0] (L2 := [(0, vr l0), (1, vi l1), (2, vi l2), (3, vi l3), (4, vi (l4 + 1)), (5, vi l5), (6, vi (l6 + 1))]) rfl ?_
        exact kk97 _ _ hw
      · refine wm_iconst hC dX12_tasteBits_149 (k := ?_)
        refine x_iadd hC dX12_tasteBits_150 hw (fun hw => ?_)
        refine wm_istore hC dX12_tasteBits_151 (by decide) (L2 := [(4, vi (l4 + 0)), (0, vr l0), (1, vi l1), (2, vi l2), (3, vi l3), (5, vi l5), (6, vi l6)]) rfl ?_
        refine x_iinc hC 6 dX12_tasteBits_153 rfl (by decide) (L2 := [(6, vi (l6 + 1)), (4, vi (l4 + 0)), (0, vr l0), (1, vi l1), (2, vi l2), (3, vi l3), (5, vi l5)]) rfl hw (fun hw => ?_)
        refine wm_goto (tgt := 97) hC dX12_tasteBits_156 (by decide) ?_
        refine wm_sub [2, 3, 4, 5, 1, 6, 0] (L2 := [(0, vr l0), (1, vi l1), (2, vi l2), (3, vi l3), (4, vi (l4 + 0)), (5, vi l5), (6, vi (l6 + 1))]) rfl ?_
        exact kk97 _ _ hw
    · refine wm_iconst hC dX12_tasteBits_149 (k := ?_)
      refine x_iadd hC dX12_tasteBits_150 hw (fun hw => ?_)
      refine wm_istore hC dX12_tasteBits_151 (by decide) (L2 := [(4, vi (l4 + 0)), (0, vr l0), (1, vi l1), (2, vi l2), (3, vi l3), (5, vi l5), (6, vi l6)]) rfl ?_
      refine x_iinc hC 6 dX12_tasteBits_153 rfl (by decide) (L2 := [(6, vi (l6 + 1)), (4, vi (l4 + 0)), (0, vr l0), (1, vi l1), (2, vi l2), (3, vi l3), (5, vi l5)]) rfl hw (fun hw => ?_)
      refine wm_goto (tgt := 97) hC dX12_tasteBits_156 (by decide) ?_
      refine wm_sub [2, 3, 4, 5, 1, 6, 0] (L2 := [(0, vr l0), (1, vi l1), (2, vi l2), (3, vi l3), (4, vi (l4 + 0)), (5, vi l5), (6, vi (l6 + 1))]) rfl ?_
      exact kk97 _ _ hw
set_option maxRecDepth 20000 in
theorem W12_tasteBits_b97 {C : wX} {ad : Nat → Nat} {n : Nat} {I J : mI} {R : mR} {Q : Int → mI → mI → Prop} (hC : wOK C cX12_tasteBits 7 RX12) (hRm : wRm C 9 214 0 0) (hE : wEnd C (some .int) ad n (fun r I' J' R' => (R' = R) ∧ Q r I' J')) {l0 : Nat} {l1 : Int} {l2 : Int} {l3 : Int} {l5 : Int}  {k4 : Int → Int → mI → mI → Prop} {k31 : Int → Int → mI → mI → Prop} (hk0 : kK l0 = 12) (kk4 : ∀ (y2 : Int) (y3 : Int) (I' : mI) (J' : mI), k4 y2 y3 I' J' → WM C ad n I' J' R 0 0 4 [(0, vr l0), (1, vi l1), (2, vi y2), (3, vi y3)] []) (kk31 : ∀ (y4 : Int) (y5 : Int) (I' : mI) (J' : mI), k31 y4 y5 I' J' → WM C ad n I' J' R 0 0 31 [(0, vr l0), (1, vi l1), (2, vi l2), (3, vi l3), (4, vi y4), (5, vi y5)] []) : ∀ (f : Nat) (l4 : Int) (l6 : Int), P12_tasteBits_b97 l0 l1 l2 l3 l5 I J R k4 k31 Q f l4 l6 → WM C ad n I J R 0 0 97 [(0, vr l0), (1, vi l1), (2, vi l2), (3, vi l3), (4, vi l4), (5, vi l5), (6, vi l6)] [] := by
  intro f
  induction f with
  | zero => intro l4 l6 hw; exact hw.elim
  | succ f ih => intro l4 l6 hw; exact W12_tasteBits_b97_body hC hRm hE hk0 kk4 kk31 (fun a0 a1 hw => ih a0 a1 hw) hw
def P12_tasteBits_b46_body (l0 : Nat) (l1 : Int) (l2 : Int) (l3 : Int) (l4 : Int) (l5 : Int) (J : mI) (R : mR) (k4 : Int → Int → mI → mI → Prop) (k31 : Int → Int → mI → mI → Prop) (Q : Int → mI → mI → Prop) (k46 : Int → mI → Prop) (l6 : Int) (I : mI) : Prop := (kK (R l0 20) = 21 ∧ (((0 : Int) ≤ (I l0 13) ∧ (I l0 13) < (kN (R l0 20) : Int)) ∧ (if (I (R l0 20) (I l0 13)) ≤ l6 then (∃ f, P12_tasteBits_b97 l0 l1 l2 l3 l5 I J R k4 k31 Q f l4 0) else (kK (R l0 66) = 21 ∧ (rg (31 * l3) ∧ (rg ((31 * l3) + l5) ∧ (rg (6 * ((31 * l3) + l5)) ∧ (rg ((6 * ((31 * l3) + l5)) + l6) ∧ (kK (R l0 49) = 21 ∧ (rg (6 + l6) ∧ (((0 : Int) ≤ (6 + l6) ∧ (6 + l6) < (kN (R l0 49) : Int)) ∧ (((0 : Int) ≤ ((6 * ((31 * l3) + l5)) + l6) ∧ ((6 * ((31 * l3) + l5)) + l6) < (kN (R l0 66) : Int)) ∧ wLet (up I (R l0 66) ((6 * ((31 * l3) + l5)) + l6) (I (R l0 49) (6 + l6))) (fun I4 => (rg (l6 + 1) ∧ (k46 (l6 + 1) I4)))))))))))))))
def P12_tasteBits_b46 (l0 : Nat) (l1 : Int) (l2 : Int) (l3 : Int) (l4 : Int) (l5 : Int) (J : mI) (R : mR) (k4 : Int → Int → mI → mI → Prop) (k31 : Int → Int → mI → mI → Prop) (Q : Int → mI → mI → Prop) : Nat → Int → mI → Prop
  | 0 => fun _ _ => False
  | f + 1 => fun l6 I => P12_tasteBits_b46_body l0 l1 l2 l3 l4 l5 J R k4 k31 Q (P12_tasteBits_b46 l0 l1 l2 l3 l4 l5 J R k4 k31 Q f) l6 I
set_option maxRecDepth 20000 in
theorem W12_tasteBits_b46_body {C : wX} {ad : Nat → Nat} {n : Nat} {I J : mI} {R : mR} {Q : Int → mI → mI → Prop} (hC : wOK C cX12_tasteBits 7 RX12) (hRm : wRm C 9 214 0 0) (hE : wEnd C (some .int) ad n (fun r I' J' R' => (R' = R) ∧ Q r I' J')) {l0 : Nat} {l1 : Int} {l2 : Int} {l3 : Int} {l4 : Int} {l5 : Int} {l6 : Int}  {k4 : Int → Int → mI → mI → Prop} {k31 : Int → Int → mI → mI → Prop} (hk0 : kK l0 = 12) (kk4 : ∀ (y2 : Int) (y3 : Int) (I' : mI) (J' : mI), k4 y2 y3 I' J' → WM C ad n I' J' R 0 0 4 [(0, vr l0), (1, vi l1), (2, vi y2), (3, vi y3)] []) (kk31 : ∀ (y4 : Int) (y5 : Int) (I' : mI) (J' : mI), k31 y4 y5 I' J' → WM C ad n I' J' R 0 0 31 [(0, vr l0), (1, vi l1), (2, vi l2), (3, vi l3), (4, vi y4), (5, vi y5)] []) {k46 : Int → mI → Prop} (kk46 : ∀ (y6 : Int) (I' : mI), k46 y6 I' → WM C ad n I' J R 0 0 46 [(0, vr l0), (1, vi l1), (2, vi l2), (3, vi l3), (4, vi l4), (5, vi l5), (6, vi y6)] []) (hw : P12_tasteBits_b46_body l0 l1 l2 l3 l4 l5 J R k4 k31 Q k46 l6 I) : WM C ad n I J R 0 0 46 [(0, vr l0), (1, vi l1), (2, vi l2), (3, vi l3), (4, vi l4), (5, vi l5), (6, vi l6)] [] := by
  unfold P12_tasteBits_b46_body at hw
  refine wm_iload hC 6 dX12_tasteBits_46 rfl ?_
  refine wm_aload_n hC 0 dX12_tasteBits_48 rfl (k_ne0 hk0 (by decide)) ?_
  refine x_getR2 hC 20 fl_X12_72 rfl hk0 dX12_tasteBits_49 hw (fun g4 hw => ?_)
  refine wm_aload_n hC 0 dX12_tasteBits_52 rfl (k_ne0 hk0 (by decide)) ?_
  refine x_getI hC 13 fl_X12_51 rfl hk0 dX12_tasteBits_53 ?_
  refine x_iald hC g4 dX12_tasteBits_56 hw (fun hw => ?_)
  refine wm_icmp_ge (tgt := 94) hC dX12_tasteBits_57 (by decide) hw (fun hw => ?_) (fun hw => ?_)
  · refine wm_iconst hC dX12_tasteBits_94 (k := ?_)
    refine wm_istore hC dX12_tasteBits_95 (by decide) (L2 := [(6, vi 0), (0, vr l0), (1, vi l1), (2, vi l2), (3, vi l3), (4, vi l4), (5, vi l5)]) rfl ?_
    obtain ⟨f, hw⟩ := hw
    refine wm_sub [1, 2, 3, 4, 5, 6, 0] (L2 := [(0, vr l0), (1, vi l1), (2, vi l2), (3, vi l3), (4, vi l4), (5, vi l5), (6, vi 0)]) rfl ?_
    exact W12_tasteBits_b97 hC hRm hE hk0 kk4 kk31 f _ _ hw
  · refine wm_aload_n hC 0 dX12_tasteBits_60 rfl (k_ne0 hk0 (by decide)) ?_
    refine x_getR2 hC 66 fl_X12_213 rfl hk0 dX12_tasteBits_61 hw (fun g5 hw => ?_)
    refine wm_bipush hC dX12_tasteBits_64 (k := ?_)
    refine wm_bipush hC dX12_tasteBits_66 (k := ?_)
    refine wm_iload_n hC 3 dX12_tasteBits_68 rfl ?_
    refine x_imul hC dX12_tasteBits_69 hw (fun hw => ?_)
    refine wm_iload hC 5 dX12_tasteBits_70 rfl ?_
    refine x_iadd hC dX12_tasteBits_72 hw (fun hw => ?_)
    refine x_imul hC dX12_tasteBits_73 hw (fun hw => ?_)
    refine wm_iload hC 6 dX12_tasteBits_74 rfl ?_
    refine x_iadd hC dX12_tasteBits_76 hw (fun hw => ?_)
    refine wm_aload_n hC 0 dX12_tasteBits_77 rfl (k_ne0 hk0 (by decide)) ?_
    refine x_getR2 hC 49 fl_X12_162 rfl hk0 dX12_tasteBits_78 hw (fun g6 hw => ?_)
    refine wm_bipush hC dX12_tasteBits_81 (k := ?_)
    refine wm_iload hC 6 dX12_tasteBits_83 rfl ?_
    refine x_iadd hC dX12_tasteBits_85 hw (fun hw => ?_)
    refine x_iald hC g6 dX12_tasteBits_86 hw (fun hw => ?_)
    refine x_iast hC g5 dX12_tasteBits_87 hw (fun I4 hw => ?_)
    refine x_iinc hC 6 dX12_tasteBits_88 rfl (by decide) (L2 := [(6, vi (l6 + 1)), (0, vr l0), (1, vi l1), (2, vi l2), (3, vi l3), (4, vi l4), (5, vi l5)]) rfl hw (fun hw => ?_)
    refine wm_goto (tgt := 46) hC dX12_tasteBits_91 (by decide) ?_
    refine wm_sub [1, 2, 3, 4, 5, 6, 0] (L2 := [(0, vr l0), (1, vi l1), (2, vi l2), (3, vi l3), (4, vi l4), (5, vi l5), (6, vi (l6 + 1))]) rfl ?_
    exact kk46 _ _ hw
set_option maxRecDepth 20000 in
theorem W12_tasteBits_b46 {C : wX} {ad : Nat → Nat} {n : Nat} {J : mI} {R : mR} {Q : Int → mI → mI → Prop} (hC : wOK C cX12_tasteBits 7 RX12) (hRm : wRm C 9 214 0 0) (hE : wEnd C (some .int) ad n (fun r I' J' R' => (R' = R) ∧ Q r I' J')) {l0 : Nat} {l1 : Int} {l2 : Int} {l3 : Int} {l4 : Int} {l5 : Int}  {k4 : Int → Int → mI → mI → Prop} {k31 : Int → Int → mI → mI → Prop} (hk0 : kK l0 = 12) (kk4 : ∀ (y2 : Int) (y3 : Int) (I' : mI) (J' : mI), k4 y2 y3 I' J' → WM C ad n I' J' R 0 0 4 [(0, vr l0), (1, vi l1), (2, vi y2), (3, vi y3)] []) (kk31 : ∀ (y4 : Int) (y5 : Int) (I' : mI) (J' : mI), k31 y4 y5 I' J' → WM C ad n I' J' R 0 0 31 [(0, vr l0), (1, vi l1), (2, vi l2), (3, vi l3), (4, vi y4), (5, vi y5)] []) : ∀ (f : Nat) (l6 : Int) (I : mI), P12_tasteBits_b46 l0 l1 l2 l3 l4 l5 J R k4 k31 Q f l6 I → WM C ad n I J R 0 0 46 [(0, vr l0), (1, vi l1), (2, vi l2), (3, vi l3), (4, vi l4), (5, vi l5), (6, vi l6)] [] := by
  intro f
  induction f with
  | zero => intro l6 I hw; exact hw.elim
  | succ f ih => intro l6 I hw; exact W12_tasteBits_b46_body hC hRm hE hk0 kk4 kk31 (fun a0 a1 hw => ih a0 a1 hw) hw
def P12_tasteBits_b31_body (l0 : Nat) (l1 : Int) (l2 : Int) (l3 : Int) (R : mR) (k4 : Int → Int → mI → mI → Prop) (Q : Int → mI → mI → Prop) (k31 : Int → Int → mI → mI → Prop) (l4 : Int) (l5 : Int) (I : mI) (J : mI) : Prop := (P12_isAhead l0 l5 0 30 I R (fun r1 => (if r1 = 0 then (if l4 = (I l0 62) then (rg (l3 + 1) ∧ (k4 (bOr l2 (bShl 1 l3)) (l3 + 1) I J)) else (rg (l3 + 1) ∧ (k4 (bOr l2 0) (l3 + 1) I J))) else (∃ f, P12_tasteBits_b46 l0 l1 l2 l3 l4 l5 J R k4 k31 Q f 0 I))))
def P12_tasteBits_b31 (l0 : Nat) (l1 : Int) (l2 : Int) (l3 : Int) (R : mR) (k4 : Int → Int → mI → mI → Prop) (Q : Int → mI → mI → Prop) : Nat → Int → Int → mI → mI → Prop
  | 0 => fun _ _ _ _ => False
  | f + 1 => fun l4 l5 I J => P12_tasteBits_b31_body l0 l1 l2 l3 R k4 Q (P12_tasteBits_b31 l0 l1 l2 l3 R k4 Q f) l4 l5 I J
set_option maxRecDepth 20000 in
theorem W12_tasteBits_b31_body {C : wX} {ad : Nat → Nat} {n : Nat} {I J : mI} {R : mR} {Q : Int → mI → mI → Prop} (hC : wOK C cX12_tasteBits 7 RX12) (hRm : wRm C 9 214 0 0) (hE : wEnd C (some .int) ad n (fun r I' J' R' => (R' = R) ∧ Q r I' J')) {l0 : Nat} {l1 : Int} {l2 : Int} {l3 : Int} {l4 : Int} {l5 : Int}  {k4 : Int → Int → mI → mI → Prop} (hk0 : kK l0 = 12) (kk4 : ∀ (y2 : Int) (y3 : Int) (I' : mI) (J' : mI), k4 y2 y3 I' J' → WM C ad n I' J' R 0 0 4 [(0, vr l0), (1, vi l1), (2, vi y2), (3, vi y3)] []) {k31 : Int → Int → mI → mI → Prop} (kk31 : ∀ (y4 : Int) (y5 : Int) (I' : mI) (J' : mI), k31 y4 y5 I' J' → WM C ad n I' J' R 0 0 31 [(0, vr l0), (1, vi l1), (2, vi l2), (3, vi l3), (4, vi y4), (5, vi y5)] []) (hw : P12_tasteBits_b31_body l0 l1 l2 l3 R k4 Q k31 l4 l5 I J) : WM C ad n I J R 0 0 31 [(0, vr l0), (1, vi l1), (2, vi l2), (3, vi l3), (4, vi l4), (5, vi l5)] [] := by
  unfold P12_tasteBits_b31_body at hw
  refine wm_aload_n hC 0 dX12_tasteBits_31 rfl (k_ne0 hk0 (by decide)) ?_
  refine wm_iload hC 5 dX12_tasteBits_32 rfl ?_
  refine wm_iconst hC dX12_tasteBits_34 (k := ?_)
  refine wm_bipush hC dX12_tasteBits_35 (k := ?_)
  refine y_callV_z_n hC hRm ml_X12_529 hk0 (C12_isAhead hk0 hw) (Nat.le_of_ble_eq_true rfl) (Nat.le_of_ble_eq_true rfl) ⟨Nat.zero_le _, Nat.zero_le _⟩ rfl (st := []) rfl (Nat.le_of_ble_eq_true rfl) dX12_tasteBits_37 (fun r1 hw => ?_)
  refine wm_if_eq (tgt := 172) hC dX12_tasteBits_40 (by decide) hw (fun hw => ?_) (fun hw => ?_)
  · refine wm_iload_n hC 2 dX12_tasteBits_172 rfl ?_
    refine wm_iload hC 4 dX12_tasteBits_173 rfl ?_
    refine wm_aload_n hC 0 dX12_tasteBits_175 rfl (k_ne0 hk0 (by decide)) ?_
    refine x_getI hC 62 fl_X12_201 rfl hk0 dX12_tasteBits_176 ?_
    refine wm_icmp_ne (tgt := 188) hC dX12_tasteBits_179 (by decide) hw (fun hw => ?_) (fun hw => ?_)
    · refine wm_iconst hC dX12_tasteBits_182 (k := ?_)
      refine wm_iload_n hC 3 dX12_tasteBits_183 rfl ?_
      refine wm_ishl hC dX12_tasteBits_184 ?_
      refine wm_goto (tgt := 189) hC dX12_tasteBits_185 (by decide) ?_
      refine wm_ior hC dX12_tasteBits_189 ?_
      refine wm_istore_n hC dX12_tasteBits_190 (by decide) (L2 := [(2, vi (bOr l2 (bShl 1 l3))), (0, vr l0), (1, vi l1), (3, vi l3), (4, vi l4), (5, vi l5)]) rfl ?_
      refine x_iinc hC 3 dX12_tasteBits_191 rfl (by decide) (L2 := [(3, vi (l3 + 1)), (2, vi (bOr l2 (bShl 1 l3))), (0, vr l0), (1, vi l1), (4, vi l4), (5, vi l5)]) rfl hw (fun hw => ?_)
      refine wm_goto (tgt := 4) hC dX12_tasteBits_194 (by decide) ?_
      refine wm_sub [2, 3, 1, 0] (L2 := [(0, vr l0), (1, vi l1), (2, vi (bOr l2 (bShl 1 l3))), (3, vi (l3 + 1))]) rfl ?_
      exact kk4 _ _ _ _ hw
    · refine wm_iconst hC dX12_tasteBits_188 (k := ?_)
      refine wm_ior hC dX12_tasteBits_189 ?_
      refine wm_istore_n hC dX12_tasteBits_190 (by decide) (L2 := [(2, vi (bOr l2 0)), (0, vr l0), (1, vi l1), (3, vi l3), (4, vi l4), (5, vi l5)]) rfl ?_
      refine x_iinc hC 3 dX12_tasteBits_191 rfl (by decide) (L2 := [(3, vi (l3 + 1)), (2, vi (bOr l2 0)), (0, vr l0), (1, vi l1), (4, vi l4), (5, vi l5)]) rfl hw (fun hw => ?_)
      refine wm_goto (tgt := 4) hC dX12_tasteBits_194 (by decide) ?_
      refine wm_sub [2, 3, 1, 0] (L2 := [(0, vr l0), (1, vi l1), (2, vi (bOr l2 0)), (3, vi (l3 + 1))]) rfl ?_
      exact kk4 _ _ _ _ hw
  · refine wm_iconst hC dX12_tasteBits_43 (k := ?_)
    refine wm_istore hC dX12_tasteBits_44 (by decide) (L2 := [(6, vi 0), (0, vr l0), (1, vi l1), (2, vi l2), (3, vi l3), (4, vi l4), (5, vi l5)]) rfl ?_
    obtain ⟨f, hw⟩ := hw
    refine wm_sub [1, 2, 3, 4, 5, 6, 0] (L2 := [(0, vr l0), (1, vi l1), (2, vi l2), (3, vi l3), (4, vi l4), (5, vi l5), (6, vi 0)]) rfl ?_
    exact W12_tasteBits_b46 hC hRm hE hk0 kk4 kk31 f _ _ hw
set_option maxRecDepth 20000 in
theorem W12_tasteBits_b31 {C : wX} {ad : Nat → Nat} {n : Nat} {R : mR} {Q : Int → mI → mI → Prop} (hC : wOK C cX12_tasteBits 7 RX12) (hRm : wRm C 9 214 0 0) (hE : wEnd C (some .int) ad n (fun r I' J' R' => (R' = R) ∧ Q r I' J')) {l0 : Nat} {l1 : Int} {l2 : Int} {l3 : Int}  {k4 : Int → Int → mI → mI → Prop} (hk0 : kK l0 = 12) (kk4 : ∀ (y2 : Int) (y3 : Int) (I' : mI) (J' : mI), k4 y2 y3 I' J' → WM C ad n I' J' R 0 0 4 [(0, vr l0), (1, vi l1), (2, vi y2), (3, vi y3)] []) : ∀ (f : Nat) (l4 : Int) (l5 : Int) (I : mI) (J : mI), P12_tasteBits_b31 l0 l1 l2 l3 R k4 Q f l4 l5 I J → WM C ad n I J R 0 0 31 [(0, vr l0), (1, vi l1), (2, vi l2), (3, vi l3), (4, vi l4), (5, vi l5)] [] := by
  intro f
  induction f with
  | zero => intro l4 l5 I J hw; exact hw.elim
  | succ f ih => intro l4 l5 I J hw; exact W12_tasteBits_b31_body hC hRm hE hk0 kk4 (fun a0 a1 a2 a3 hw => ih a0 a1 a2 a3 hw) hw
def P12_tasteBits_b4_body (l0 : Nat) (l1 : Int) (R : mR) (Q : Int → mI → mI → Prop) (k4 : Int → Int → mI → mI → Prop) (l2 : Int) (l3 : Int) (I : mI) (J : mI) : Prop := (if (9 : Int) < l3 then (kK (R l0 55) = 21 ∧ (rg (3 * l1) ∧ (kK (R l0 15) = 21 ∧ (rg (18 * (I l0 13)) ∧ (rg (3 * l1) ∧ (rg ((18 * (I l0 13)) + (3 * l1)) ∧ (((0 : Int) ≤ ((18 * (I l0 13)) + (3 * l1)) ∧ ((18 * (I l0 13)) + (3 * l1)) < (kN (R l0 15) : Int)) ∧ (((0 : Int) ≤ (3 * l1) ∧ (3 * l1) < (kN (R l0 55) : Int)) ∧ wLet (up I (R l0 55) (3 * l1) (I (R l0 15) ((18 * (I l0 13)) + (3 * l1)))) (fun I1 => (Q l2 I1 J)))))))))) else (P12_copies l0 1 0 I R (fun I2 => (kK (R l0 55) = 21 ∧ (rg (3 * l1) ∧ (((0 : Int) ≤ (3 * l1) ∧ (3 * l1) < (kN (R l0 55) : Int)) ∧ wLet (up I2 (R l0 55) (3 * l1) l3) (fun I3 => (∃ f, P12_tasteBits_b31 l0 l1 l2 l3 R k4 Q f 0 0 I3 J))))))))
def P12_tasteBits_b4 (l0 : Nat) (l1 : Int) (R : mR) (Q : Int → mI → mI → Prop) : Nat → Int → Int → mI → mI → Prop
  | 0 => fun _ _ _ _ => False
  | f + 1 => fun l2 l3 I J => P12_tasteBits_b4_body l0 l1 R Q (P12_tasteBits_b4 l0 l1 R Q f) l2 l3 I J
set_option maxRecDepth 20000 in
theorem W12_tasteBits_b4_body {C : wX} {ad : Nat → Nat} {n : Nat} {I J : mI} {R : mR} {Q : Int → mI → mI → Prop} (hC : wOK C cX12_tasteBits 7 RX12) (hRm : wRm C 9 214 0 0) (hE : wEnd C (some .int) ad n (fun r I' J' R' => (R' = R) ∧ Q r I' J')) {l0 : Nat} {l1 : Int} {l2 : Int} {l3 : Int}   (hk0 : kK l0 = 12)  {k4 : Int → Int → mI → mI → Prop} (kk4 : ∀ (y2 : Int) (y3 : Int) (I' : mI) (J' : mI), k4 y2 y3 I' J' → WM C ad n I' J' R 0 0 4 [(0, vr l0), (1, vi l1), (2, vi y2), (3, vi y3)] []) (hw : P12_tasteBits_b4_body l0 l1 R Q k4 l2 l3 I J) : WM C ad n I J R 0 0 4 [(0, vr l0), (1, vi l1), (2, vi l2), (3, vi l3)] [] := by
  unfold P12_tasteBits_b4_body at hw
  refine wm_iload_n hC 3 dX12_tasteBits_4 rfl ?_
  refine wm_bipush hC dX12_tasteBits_5 (k := ?_)
  refine wm_icmp_gt (tgt := 197) hC dX12_tasteBits_7 (by decide) hw (fun hw => ?_) (fun hw => ?_)
  · refine wm_aload_n hC 0 dX12_tasteBits_197 rfl (k_ne0 hk0 (by decide)) ?_
    refine x_getR2 hC 55 fl_X12_180 rfl hk0 dX12_tasteBits_198 hw (fun g1 hw => ?_)
    refine wm_iconst hC dX12_tasteBits_201 (k := ?_)
    refine wm_iload_n hC 1 dX12_tasteBits_202 rfl ?_
    refine x_imul hC dX12_tasteBits_203 hw (fun hw => ?_)
    refine wm_aload_n hC 0 dX12_tasteBits_204 rfl (k_ne0 hk0 (by decide)) ?_
    refine x_getR2 hC 15 fl_X12_57 rfl hk0 dX12_tasteBits_205 hw (fun g2 hw => ?_)
    refine wm_bipush hC dX12_tasteBits_208 (k := ?_)
    refine wm_aload_n hC 0 dX12_tasteBits_210 rfl (k_ne0 hk0 (by decide)) ?_
    refine x_getI hC 13 fl_X12_51 rfl hk0 dX12_tasteBits_211 ?_
    refine x_imul hC dX12_tasteBits_214 hw (fun hw => ?_)
    refine wm_iconst hC dX12_tasteBits_215 (k := ?_)
    refine wm_iload_n hC 1 dX12_tasteBits_216 rfl ?_
    refine x_imul hC dX12_tasteBits_217 hw (fun hw => ?_)
    refine x_iadd hC dX12_tasteBits_218 hw (fun hw => ?_)
    refine x_iald hC g2 dX12_tasteBits_219 hw (fun hw => ?_)
    refine x_iast hC g1 dX12_tasteBits_220 hw (fun I1 hw => ?_)
    refine wm_iload_n hC 2 dX12_tasteBits_221 rfl ?_
    exact wm_ireturn hC hE dX12_tasteBits_222 ⟨rfl, hw⟩
  · refine wm_aload_n hC 0 dX12_tasteBits_10 rfl (k_ne0 hk0 (by decide)) ?_
    refine wm_iconst hC dX12_tasteBits_11 (k := ?_)
    refine wm_iconst hC dX12_tasteBits_12 (k := ?_)
    refine y_callV_v_I hC hRm ml_X12_424 hk0 (C12_copies hk0 hw) (Nat.le_of_ble_eq_true rfl) (Nat.le_of_ble_eq_true rfl) ⟨Nat.zero_le _, Nat.zero_le _⟩ rfl (st := []) rfl (Nat.le_of_ble_eq_true rfl) dX12_tasteBits_13 (fun I2 hw => ?_)
    refine wm_aload_n hC 0 dX12_tasteBits_16 rfl (k_ne0 hk0 (by decide)) ?_
    refine x_getR2 hC 55 fl_X12_180 rfl hk0 dX12_tasteBits_17 hw (fun g3 hw => ?_)
    refine wm_iconst hC dX12_tasteBits_20 (k := ?_)
    refine wm_iload_n hC 1 dX12_tasteBits_21 rfl ?_
    refine x_imul hC dX12_tasteBits_22 hw (fun hw => ?_)
    refine wm_iload_n hC 3 dX12_tasteBits_23 rfl ?_
    refine x_iast hC g3 dX12_tasteBits_24 hw (fun I3 hw => ?_)
    refine wm_iconst hC dX12_tasteBits_25 (k := ?_)
    refine wm_istore hC dX12_tasteBits_26 (by decide) (L2 := [(4, vi 0), (0, vr l0), (1, vi l1), (2, vi l2), (3, vi l3)]) rfl ?_
    refine wm_iconst hC dX12_tasteBits_28 (k := ?_)
    refine wm_istore hC dX12_tasteBits_29 (by decide) (L2 := [(5, vi 0), (4, vi 0), (0, vr l0), (1, vi l1), (2, vi l2), (3, vi l3)]) rfl ?_
    obtain ⟨f, hw⟩ := hw
    refine wm_sub [2, 3, 4, 5, 1, 0] (L2 := [(0, vr l0), (1, vi l1), (2, vi l2), (3, vi l3), (4, vi 0), (5, vi 0)]) rfl ?_
    exact W12_tasteBits_b31 hC hRm hE hk0 kk4 f _ _ _ _ hw
set_option maxRecDepth 20000 in
theorem W12_tasteBits_b4 {C : wX} {ad : Nat → Nat} {n : Nat} {R : mR} {Q : Int → mI → mI → Prop} (hC : wOK C cX12_tasteBits 7 RX12) (hRm : wRm C 9 214 0 0) (hE : wEnd C (some .int) ad n (fun r I' J' R' => (R' = R) ∧ Q r I' J')) {l0 : Nat} {l1 : Int}   (hk0 : kK l0 = 12)  : ∀ (f : Nat) (l2 : Int) (l3 : Int) (I : mI) (J : mI), P12_tasteBits_b4 l0 l1 R Q f l2 l3 I J → WM C ad n I J R 0 0 4 [(0, vr l0), (1, vi l1), (2, vi l2), (3, vi l3)] [] := by
  intro f
  induction f with
  | zero => intro l2 l3 I J hw; exact hw.elim
  | succ f ih => intro l2 l3 I J hw; exact W12_tasteBits_b4_body hC hRm hE hk0 (fun a0 a1 a2 a3 hw => ih a0 a1 a2 a3 hw) hw
def P12_tasteBits (l0 : Nat) (l1 : Int) (I : mI) (J : mI) (R : mR) (Q : Int → mI → mI → Prop) : Prop := (∃ f, P12_tasteBits_b4 l0 l1 R Q f 0 0 I J)
set_option maxRecDepth 20000 in
theorem C12_tasteBits {ad : Nat → Nat} {n : Nat} {I J : mI} {R : mR} {Q : Int → mI → mI → Prop} {l0 : Nat} {l1 : Int} (hk0 : kK l0 = 12) (hw : P12_tasteBits l0 l1 I J R Q) : wMet yX12_tasteBits cX12_tasteBits 7 (some .int) 9 214 ad n I J R [vr l0, vi l1] (fun r I' J' R' => (R' = R) ∧ Q r I' J') := by
  refine wMet_of (by decide) (Nat.le_of_ble_eq_true rfl) (fun C hC hRm hE => ?_)
  refine (show WM C ad n I J R 0 0 0 [(0, vr l0), (1, vi l1)] [] from ?_)
  unfold P12_tasteBits at hw
  refine wm_iconst hC dX12_tasteBits_0 (k := ?_)
  refine wm_istore_n hC dX12_tasteBits_1 (by decide) (L2 := [(2, vi 0), (0, vr l0), (1, vi l1)]) rfl ?_
  refine wm_iconst hC dX12_tasteBits_2 (k := ?_)
  refine wm_istore_n hC dX12_tasteBits_3 (by decide) (L2 := [(3, vi 0), (2, vi 0), (0, vr l0), (1, vi l1)]) rfl ?_
  obtain ⟨f, hw⟩ := hw
  refine wm_sub [2, 3, 1, 0] (L2 := [(0, vr l0), (1, vi l1), (2, vi 0), (3, vi 0)]) rfl ?_
  exact W12_tasteBits_b4 hC hRm hE hk0 f _ _ _ _ hw
def P12_tastes (l0 : Nat) (l1 : Int) (I : mI) (J : mI) (R : mR) (Q : Int → mI → mI → Prop) : Prop := (P12_isBlind l0 l1 I R (fun r1 => (if r1 = 0 then (Q (-1) I J) else (P12_tasteBits l0 l1 I J R (fun r2 I1 J1 => (Q r2 I1 J1))))))
set_option maxRecDepth 20000 in
theorem C12_tastes {ad : Nat → Nat} {n : Nat} {I J : mI} {R : mR} {Q : Int → mI → mI → Prop} {l0 : Nat} {l1 : Int} (hk0 : kK l0 = 12) (hw : P12_tastes l0 l1 I J R Q) : wMet yX12_tastes cX12_tastes 2 (some .int) 10 240 ad n I J R [vr l0, vi l1] (fun r I' J' R' => (R' = R) ∧ Q r I' J') := by
  refine wMet_of (by decide) (Nat.le_of_ble_eq_true rfl) (fun C hC hRm hE => ?_)
  refine (show WM C ad n I J R 0 0 0 [(0, vr l0), (1, vi l1)] [] from ?_)
  unfold P12_tastes at hw
  refine wm_aload_n hC 0 dX12_tastes_0 rfl (k_ne0 hk0 (by decide)) ?_
  refine wm_iload_n hC 1 dX12_tastes_1 rfl ?_
  refine y_callV_z_n hC hRm ml_X12_507 hk0 (C12_isBlind hk0 hw) (Nat.le_of_ble_eq_true rfl) (Nat.le_of_ble_eq_true rfl) ⟨Nat.zero_le _, Nat.zero_le _⟩ rfl (st := []) rfl (Nat.le_of_ble_eq_true rfl) dX12_tastes_2 (fun r1 hw => ?_)
  refine wm_if_eq (tgt := 16) hC dX12_tastes_5 (by decide) hw (fun hw => ?_) (fun hw => ?_)
  · refine wm_iconst hC dX12_tastes_16 (k := ?_)
    exact wm_ireturn hC hE dX12_tastes_17 ⟨rfl, hw⟩
  · refine wm_aload_n hC 0 dX12_tastes_8 rfl (k_ne0 hk0 (by decide)) ?_
    refine wm_iload_n hC 1 dX12_tastes_9 rfl ?_
    refine y_callV_i_IJ hC hRm ml_X12_547 hk0 (C12_tasteBits hk0 hw) (Nat.le_of_ble_eq_true rfl) (Nat.le_of_ble_eq_true rfl) ⟨Nat.zero_le _, Nat.zero_le _⟩ rfl (st := []) rfl (Nat.le_of_ble_eq_true rfl) dX12_tastes_10 (fun r2 I1 J1 hw => ?_)
    refine wm_goto (tgt := 17) hC dX12_tastes_13 (by decide) ?_
    exact wm_ireturn hC hE dX12_tastes_17 ⟨rfl, hw⟩
def P12_mostBy_b19_body (l0 : Nat) (l1 : Int) (l2 : Int) (l3 : Int) (l4 : Int) (l5 : Int) (I : mI) (R : mR) (k6 : Int → Int → Prop) (Q : Int → Prop) (k19 : Int → Int → Prop) (l6 : Int) (l7 : Int) : Prop := (if (9 : Int) < l7 then (if l6 ≤ l4 then (rg (l5 + 1) ∧ (k6 l4 (l5 + 1))) else (rg (l5 + 1) ∧ (k6 l6 (l5 + 1)))) else (P12_has2 l1 l5 (fun r1 => (if r1 = 0 then (rg (l6 + 0) ∧ (rg (l7 + 1) ∧ (k19 (l6 + 0) (l7 + 1)))) else (P12_has2 l1 l7 (fun r2 => (if r2 = 0 then (rg (l6 + 0) ∧ (rg (l7 + 1) ∧ (k19 (l6 + 0) (l7 + 1)))) else (kK (R l0 66) = 21 ∧ (rg (31 * l5) ∧ (rg ((31 * l5) + l2) ∧ (rg (6 * ((31 * l5) + l2)) ∧ (rg ((6 * ((31 * l5) + l2)) + l3) ∧ (((0 : Int) ≤ ((6 * ((31 * l5) + l2)) + l3) ∧ ((6 * ((31 * l5) + l2)) + l3) < (kN (R l0 66) : Int)) ∧ (kK (R l0 66) = 21 ∧ (rg (31 * l7) ∧ (rg ((31 * l7) + l2) ∧ (rg (6 * ((31 * l7) + l2)) ∧ (rg ((6 * ((31 * l7) + l2)) + l3) ∧ (((0 : Int) ≤ ((6 * ((31 * l7) + l2)) + l3) ∧ ((6 * ((31 * l7) + l2)) + l3) < (kN (R l0 66) : Int)) ∧ (if (I (R l0 66) ((6 * ((31 * l5) + l2)) + l3)) = (I (R l0 66) ((6 * ((31 * l7) + l2)) + l3)) then (rg (l6 + 1) ∧ (rg (l7 + 1) ∧ (k19 (l6 + 1) (l7 + 1)))) else (rg (l6 + 0) ∧ (rg (l7 + 1) ∧ (k19 (l6 + 0) (l7 + 1))))))))))))))))))))))))
def P12_mostBy_b19 (l0 : Nat) (l1 : Int) (l2 : Int) (l3 : Int) (l4 : Int) (l5 : Int) (I : mI) (R : mR) (k6 : Int → Int → Prop) (Q : Int → Prop) : Nat → Int → Int → Prop
  | 0 => fun _ _ => False
  | f + 1 => fun l6 l7 => P12_mostBy_b19_body l0 l1 l2 l3 l4 l5 I R k6 Q (P12_mostBy_b19 l0 l1 l2 l3 l4 l5 I R k6 Q f) l6 l7
set_option maxRecDepth 20000 in
theorem W12_mostBy_b19_body {C : wX} {ad : Nat → Nat} {n : Nat} {I J : mI} {R : mR} {Q : Int → Prop} (hC : wOK C cX12_mostBy 8 RX12) (hRm : wRm C 2 33 0 0) (hE : wEnd C (some .int) ad n (fun r I' J' R' => (I' = I ∧ J' = J ∧ R' = R) ∧ Q r)) {l0 : Nat} {l1 : Int} {l2 : Int} {l3 : Int} {l4 : Int} {l5 : Int} {l6 : Int} {l7 : Int}  {k6 : Int → Int → Prop} (hk0 : kK l0 = 12) (kk6 : ∀ (y4 : Int) (y5 : Int), k6 y4 y5 → WM C ad n I J R 0 0 6 [(0, vr l0), (1, vi l1), (2, vi l2), (3, vi l3), (4, vi y4), (5, vi y5)] []) {k19 : Int → Int → Prop} (kk19 : ∀ (y6 : Int) (y7 : Int), k19 y6 y7 → WM C ad n I J R 0 0 19 [(0, vr l0), (1, vi l1), (2, vi l2), (3, vi l3), (4, vi l4), (5, vi l5), (6, vi y6), (7, vi y7)] []) (hw : P12_mostBy_b19_body l0 l1 l2 l3 l4 l5 I R k6 Q k19 l6 l7) : WM C ad n I J R 0 0 19 [(0, vr l0), (1, vi l1), (2, vi l2), (3, vi l3), (4, vi l4), (5, vi l5), (6, vi l6), (7, vi l7)] [] := by
  unfold P12_mostBy_b19_body at hw
  refine wm_iload hC 7 dX12_mostBy_19 rfl ?_
  refine wm_bipush hC dX12_mostBy_21 (k := ?_)
  refine wm_icmp_gt (tgt := 97) hC dX12_mostBy_23 (by decide) hw (fun hw => ?_) (fun hw => ?_)
  · refine wm_iload hC 6 dX12_mostBy_97 rfl ?_
    refine wm_iload hC 4 dX12_mostBy_99 rfl ?_
    refine wm_icmp_le (tgt := 109) hC dX12_mostBy_101 (by decide) hw (fun hw => ?_) (fun hw => ?_)
    · refine wm_iload hC 4 dX12_mostBy_109 rfl ?_
      refine wm_istore hC dX12_mostBy_111 (by decide) (L2 := [(4, vi l4), (0, vr l0), (1, vi l1), (2, vi l2), (3, vi l3), (5, vi l5), (6, vi l6), (7, vi l7)]) rfl ?_
      refine x_iinc hC 5 dX12_mostBy_113 rfl (by decide) (L2 := [(5, vi (l5 + 1)), (4, vi l4), (0, vr l0), (1, vi l1), (2, vi l2), (3, vi l3), (6, vi l6), (7, vi l7)]) rfl hw (fun hw => ?_)
      refine wm_goto (tgt := 6) hC dX12_mostBy_116 (by decide) ?_
      refine wm_sub [2, 3, 4, 5, 1, 0] (L2 := [(0, vr l0), (1, vi l1), (2, vi l2), (3, vi l3), (4, vi l4), (5, vi (l5 + 1))]) rfl ?_
      exact kk6 _ _ hw
    · refine wm_iload hC 6 dX12_mostBy_104 rfl ?_
      refine wm_goto (tgt := 111) hC dX12_mostBy_106 (by decide) ?_
      refine wm_istore hC dX12_mostBy_111 (by decide) (L2 := [(4, vi l6), (0, vr l0), (1, vi l1), (2, vi l2), (3, vi l3), (5, vi l5), (6, vi l6), (7, vi l7)]) rfl ?_
      refine x_iinc hC 5 dX12_mostBy_113 rfl (by decide) (L2 := [(5, vi (l5 + 1)), (4, vi l6), (0, vr l0), (1, vi l1), (2, vi l2), (3, vi l3), (6, vi l6), (7, vi l7)]) rfl hw (fun hw => ?_)
      refine wm_goto (tgt := 6) hC dX12_mostBy_116 (by decide) ?_
      refine wm_sub [2, 3, 4, 5, 1, 0] (L2 := [(0, vr l0), (1, vi l1), (2, vi l2), (3, vi l3), (4, vi l6), (5, vi (l5 + 1))]) rfl ?_
      exact kk6 _ _ hw
  · refine wm_iload hC 6 dX12_mostBy_26 rfl ?_
    refine wm_iload_n hC 1 dX12_mostBy_28 rfl ?_
    refine wm_iload hC 5 dX12_mostBy_29 rfl ?_
    refine y_callS_z_n hC hRm ml_X12_351 (C12_has2  hw) (Nat.le_of_ble_eq_true rfl) (Nat.le_of_ble_eq_true rfl) ⟨Nat.zero_le _, Nat.zero_le _⟩ rfl (st := [vi l6]) rfl (Nat.le_of_ble_eq_true rfl) dX12_mostBy_31 (fun r1 hw => ?_)
    refine wm_if_eq (tgt := 87) hC dX12_mostBy_34 (by decide) hw (fun hw => ?_) (fun hw => ?_)
    · refine wm_iconst hC dX12_mostBy_87 (k := ?_)
      refine x_iadd hC dX12_mostBy_88 hw (fun hw => ?_)
      refine wm_istore hC dX12_mostBy_89 (by decide) (L2 := [(6, vi (l6 + 0)), (0, vr l0), (1, vi l1), (2, vi l2), (3, vi l3), (4, vi l4), (5, vi l5), (7, vi l7)]) rfl ?_
      refine x_iinc hC 7 dX12_mostBy_91 rfl (by decide) (L2 := [(7, vi (l7 + 1)), (6, vi (l6 + 0)), (0, vr l0), (1, vi l1), (2, vi l2), (3, vi l3), (4, vi l4), (5, vi l5)]) rfl hw (fun hw => ?_)
      refine wm_goto (tgt := 19) hC dX12_mostBy_94 (by decide) ?_
      refine wm_sub [2, 3, 4, 5, 6, 7, 1, 0] (L2 := [(0, vr l0), (1, vi l1), (2, vi l2), (3, vi l3), (4, vi l4), (5, vi l5), (6, vi (l6 + 0)), (7, vi (l7 + 1))]) rfl ?_
      exact kk19 _ _ hw
    · refine wm_iload_n hC 1 dX12_mostBy_37 rfl ?_
      refine wm_iload hC 7 dX12_mostBy_38 rfl ?_
      refine y_callS_z_n hC hRm ml_X12_351 (C12_has2  hw) (Nat.le_of_ble_eq_true rfl) (Nat.le_of_ble_eq_true rfl) ⟨Nat.zero_le _, Nat.zero_le _⟩ rfl (st := [vi l6]) rfl (Nat.le_of_ble_eq_true rfl) dX12_mostBy_40 (fun r2 hw => ?_)
      refine wm_if_eq (tgt := 87) hC dX12_mostBy_43 (by decide) hw (fun hw => ?_) (fun hw => ?_)
      · refine wm_iconst hC dX12_mostBy_87 (k := ?_)
        refine x_iadd hC dX12_mostBy_88 hw (fun hw => ?_)
        refine wm_istore hC dX12_mostBy_89 (by decide) (L2 := [(6, vi (l6 + 0)), (0, vr l0), (1, vi l1), (2, vi l2), (3, vi l3), (4, vi l4), (5, vi l5), (7, vi l7)]) rfl ?_
        refine x_iinc hC 7 dX12_mostBy_91 rfl (by decide) (L2 := [(7, vi (l7 + 1)), (6, vi (l6 + 0)), (0, vr l0), (1, vi l1), (2, vi l2), (3, vi l3), (4, vi l4), (5, vi l5)]) rfl hw (fun hw => ?_)
        refine wm_goto (tgt := 19) hC dX12_mostBy_94 (by decide) ?_
        refine wm_sub [2, 3, 4, 5, 6, 7, 1, 0] (L2 := [(0, vr l0), (1, vi l1), (2, vi l2), (3, vi l3), (4, vi l4), (5, vi l5), (6, vi (l6 + 0)), (7, vi (l7 + 1))]) rfl ?_
        exact kk19 _ _ hw
      · refine wm_aload_n hC 0 dX12_mostBy_46 rfl (k_ne0 hk0 (by decide)) ?_
        refine x_getR2 hC 66 fl_X12_213 rfl hk0 dX12_mostBy_47 hw (fun g1 hw => ?_)
        refine wm_bipush hC dX12_mostBy_50 (k := ?_)
        refine wm_bipush hC dX12_mostBy_52 (k := ?_)
        refine wm_iload hC 5 dX12_mostBy_54 rfl ?_
        refine x_imul hC dX12_mostBy_56 hw (fun hw => ?_)
        refine wm_iload_n hC 2 dX12_mostBy_57 rfl ?_
        refine x_iadd hC dX12_mostBy_58 hw (fun hw => ?_)
        refine x_imul hC dX12_mostBy_59 hw (fun hw => ?_)
        refine wm_iload_n hC 3 dX12_mostBy_60 rfl ?_
        refine x_iadd hC dX12_mostBy_61 hw (fun hw => ?_)
        refine x_iald hC g1 dX12_mostBy_62 hw (fun hw => ?_)
        refine wm_aload_n hC 0 dX12_mostBy_63 rfl (k_ne0 hk0 (by decide)) ?_
        refine x_getR2 hC 66 fl_X12_213 rfl hk0 dX12_mostBy_64 hw (fun g2 hw => ?_)
        refine wm_bipush hC dX12_mostBy_67 (k := ?_)
        refine wm_bipush hC dX12_mostBy_69 (k := ?_)
        refine wm_iload hC 7 dX12_mostBy_71 rfl ?_
        refine x_imul hC dX12_mostBy_73 hw (fun hw => ?_)
        refine wm_iload_n hC 2 dX12_mostBy_74 rfl ?_
        refine x_iadd hC dX12_mostBy_75 hw (fun hw => ?_)
        refine x_imul hC dX12_mostBy_76 hw (fun hw => ?_)
        refine wm_iload_n hC 3 dX12_mostBy_77 rfl ?_
        refine x_iadd hC dX12_mostBy_78 hw (fun hw => ?_)
        refine x_iald hC g2 dX12_mostBy_79 hw (fun hw => ?_)
        refine wm_icmp_ne (tgt := 87) hC dX12_mostBy_80 (by decide) hw (fun hw => ?_) (fun hw => ?_)
        · refine wm_iconst hC dX12_mostBy_83 (k := ?_)
          refine wm_goto (tgt := 88) hC dX12_mostBy_84 (by decide) ?_
          refine x_iadd hC dX12_mostBy_88 hw (fun hw => ?_)
          refine wm_istore hC dX12_mostBy_89 (by decide) (L2 := [(6, vi (l6 + 1)), (0, vr l0), (1, vi l1), (2, vi l2), (3, vi l3), (4, vi l4), (5, vi l5), (7, vi l7)]) rfl ?_
          refine x_iinc hC 7 dX12_mostBy_91 rfl (by decide) (L2 := [(7, vi (l7 + 1)), (6, vi (l6 + 1)), (0, vr l0), (1, vi l1), (2, vi l2), (3, vi l3), (4, vi l4), (5, vi l5)]) rfl hw (fun hw => ?_)
          refine wm_goto (tgt := 19) hC dX12_mostBy_94 (by decide) ?_
          refine wm_sub [2, 3, 4, 5, 6, 7, 1, 0] (L2 := [(0, vr l0), (1, vi l1), (2, vi l2), (3, vi l3), (4, vi l4), (5, vi l5), (6, vi (l6 + 1)), (7, vi (l7 + 1))]) rfl ?_
          exact kk19 _ _ hw
        · refine wm_iconst hC dX12_mostBy_87 (k := ?_)
          refine x_iadd hC dX12_mostBy_88 hw (fun hw => ?_)
          refine wm_istore hC dX12_mostBy_89 (by decide) (L2 := [(6, vi (l6 + 0)), (0, vr l0), (1, vi l1), (2, vi l2), (3, vi l3), (4, vi l4), (5, vi l5), (7, vi l7)]) rfl ?_
          refine x_iinc hC 7 dX12_mostBy_91 rfl (by decide) (L2 := [(7, vi (l7 + 1)), (6, vi (l6 + 0)), (0, vr l0), (1, vi l1), (2, vi l2), (3, vi l3), (4, vi l4), (5, vi l5)]) rfl hw (fun hw => ?_)
          refine wm_goto (tgt := 19) hC dX12_mostBy_94 (by decide) ?_
          refine wm_sub [2, 3, 4, 5, 6, 7, 1, 0] (L2 := [(0, vr l0), (1, vi l1), (2, vi l2), (3, vi l3), (4, vi l4), (5, vi l5), (6, vi (l6 + 0)), (7, vi (l7 + 1))]) rfl ?_
          exact kk19 _ _ hw
set_option maxRecDepth 20000 in
theorem W12_mostBy_b19 {C : wX} {ad : Nat → Nat} {n : Nat} {I J : mI} {R : mR} {Q : Int → Prop} (hC : wOK C cX12_mostBy 8 RX12) (hRm : wRm C 2 33 0 0) (hE : wEnd C (some .int) ad n (fun r I' J' R' => (I' = I ∧ J' = J ∧ R' = R) ∧ Q r)) {l0 : Nat} {l1 : Int} {l2 : Int} {l3 : Int} {l4 : Int} {l5 : Int}  {k6 : Int → Int → Prop} (hk0 : kK l0 = 12) (kk6 : ∀ (y4 : Int) (y5 : Int), k6 y4 y5 → WM C ad n I J R 0 0 6 [(0, vr l0), (1, vi l1), (2, vi l2), (3, vi l3), (4, vi y4), (5, vi y5)] []) : ∀ (f : Nat) (l6 : Int) (l7 : Int), P12_mostBy_b19 l0 l1 l2 l3 l4 l5 I R k6 Q f l6 l7 → WM C ad n I J R 0 0 19 [(0, vr l0), (1, vi l1), (2, vi l2), (3, vi l3), (4, vi l4), (5, vi l5), (6, vi l6), (7, vi l7)] [] := by
  intro f
  induction f with
  | zero => intro l6 l7 hw; exact hw.elim
  | succ f ih => intro l6 l7 hw; exact W12_mostBy_b19_body hC hRm hE hk0 kk6 (fun a0 a1 hw => ih a0 a1 hw) hw
def P12_mostBy_b6_body (l0 : Nat) (l1 : Int) (l2 : Int) (l3 : Int) (I : mI) (R : mR) (Q : Int → Prop) (k6 : Int → Int → Prop) (l4 : Int) (l5 : Int) : Prop := (if (9 : Int) < l5 then (Q l4) else (∃ f, P12_mostBy_b19 l0 l1 l2 l3 l4 l5 I R k6 Q f 0 0))
def P12_mostBy_b6 (l0 : Nat) (l1 : Int) (l2 : Int) (l3 : Int) (I : mI) (R : mR) (Q : Int → Prop) : Nat → Int → Int → Prop
  | 0 => fun _ _ => False
  | f + 1 => fun l4 l5 => P12_mostBy_b6_body l0 l1 l2 l3 I R Q (P12_mostBy_b6 l0 l1 l2 l3 I R Q f) l4 l5
set_option maxRecDepth 20000 in
theorem W12_mostBy_b6_body {C : wX} {ad : Nat → Nat} {n : Nat} {I J : mI} {R : mR} {Q : Int → Prop} (hC : wOK C cX12_mostBy 8 RX12) (hRm : wRm C 2 33 0 0) (hE : wEnd C (some .int) ad n (fun r I' J' R' => (I' = I ∧ J' = J ∧ R' = R) ∧ Q r)) {l0 : Nat} {l1 : Int} {l2 : Int} {l3 : Int} {l4 : Int} {l5 : Int}   (hk0 : kK l0 = 12)  {k6 : Int → Int → Prop} (kk6 : ∀ (y4 : Int) (y5 : Int), k6 y4 y5 → WM C ad n I J R 0 0 6 [(0, vr l0), (1, vi l1), (2, vi l2), (3, vi l3), (4, vi y4), (5, vi y5)] []) (hw : P12_mostBy_b6_body l0 l1 l2 l3 I R Q k6 l4 l5) : WM C ad n I J R 0 0 6 [(0, vr l0), (1, vi l1), (2, vi l2), (3, vi l3), (4, vi l4), (5, vi l5)] [] := by
  unfold P12_mostBy_b6_body at hw
  refine wm_iload hC 5 dX12_mostBy_6 rfl ?_
  refine wm_bipush hC dX12_mostBy_8 (k := ?_)
  refine wm_icmp_gt (tgt := 119) hC dX12_mostBy_10 (by decide) hw (fun hw => ?_) (fun hw => ?_)
  · refine wm_iload hC 4 dX12_mostBy_119 rfl ?_
    exact wm_ireturn hC hE dX12_mostBy_121 ⟨⟨rfl, rfl, rfl⟩, hw⟩
  · refine wm_iconst hC dX12_mostBy_13 (k := ?_)
    refine wm_istore hC dX12_mostBy_14 (by decide) (L2 := [(6, vi 0), (0, vr l0), (1, vi l1), (2, vi l2), (3, vi l3), (4, vi l4), (5, vi l5)]) rfl ?_
    refine wm_iconst hC dX12_mostBy_16 (k := ?_)
    refine wm_istore hC dX12_mostBy_17 (by decide) (L2 := [(7, vi 0), (6, vi 0), (0, vr l0), (1, vi l1), (2, vi l2), (3, vi l3), (4, vi l4), (5, vi l5)]) rfl ?_
    obtain ⟨f, hw⟩ := hw
    refine wm_sub [2, 3, 4, 5, 6, 7, 1, 0] (L2 := [(0, vr l0), (1, vi l1), (2, vi l2), (3, vi l3), (4, vi l4), (5, vi l5), (6, vi 0), (7, vi 0)]) rfl ?_
    exact W12_mostBy_b19 hC hRm hE hk0 kk6 f _ _ hw
set_option maxRecDepth 20000 in
theorem W12_mostBy_b6 {C : wX} {ad : Nat → Nat} {n : Nat} {I J : mI} {R : mR} {Q : Int → Prop} (hC : wOK C cX12_mostBy 8 RX12) (hRm : wRm C 2 33 0 0) (hE : wEnd C (some .int) ad n (fun r I' J' R' => (I' = I ∧ J' = J ∧ R' = R) ∧ Q r)) {l0 : Nat} {l1 : Int} {l2 : Int} {l3 : Int}   (hk0 : kK l0 = 12)  : ∀ (f : Nat) (l4 : Int) (l5 : Int), P12_mostBy_b6 l0 l1 l2 l3 I R Q f l4 l5 → WM C ad n I J R 0 0 6 [(0, vr l0), (1, vi l1), (2, vi l2), (3, vi l3), (4, vi l4), (5, vi l5)] [] := by
  intro f
  induction f with
  | zero => intro l4 l5 hw; exact hw.elim
  | succ f ih => intro l4 l5 hw; exact W12_mostBy_b6_body hC hRm hE hk0 (fun a0 a1 hw => ih a0 a1 hw) hw
def P12_mostBy (l0 : Nat) (l1 : Int) (l2 : Int) (l3 : Int) (I : mI) (R : mR) (Q : Int → Prop) : Prop := (∃ f, P12_mostBy_b6 l0 l1 l2 l3 I R Q f 0 0)
set_option maxRecDepth 20000 in
theorem C12_mostBy {ad : Nat → Nat} {n : Nat} {I J : mI} {R : mR} {Q : Int → Prop} {l0 : Nat} {l1 : Int} {l2 : Int} {l3 : Int} (hk0 : kK l0 = 12) (hw : P12_mostBy l0 l1 l2 l3 I R Q) : wMet yX12_mostBy cX12_mostBy 8 (some .int) 2 33 ad n I J R [vr l0, vi l1, vi l2, vi l3] (fun r I' J' R' => (I' = I ∧ J' = J ∧ R' = R) ∧ Q r) := by
  refine wMet_of (by decide) (Nat.le_of_ble_eq_true rfl) (fun C hC hRm hE => ?_)
  refine (show WM C ad n I J R 0 0 0 [(0, vr l0), (1, vi l1), (2, vi l2), (3, vi l3)] [] from ?_)
  unfold P12_mostBy at hw
  refine wm_iconst hC dX12_mostBy_0 (k := ?_)
  refine wm_istore hC dX12_mostBy_1 (by decide) (L2 := [(4, vi 0), (0, vr l0), (1, vi l1), (2, vi l2), (3, vi l3)]) rfl ?_
  refine wm_iconst hC dX12_mostBy_3 (k := ?_)
  refine wm_istore hC dX12_mostBy_4 (by decide) (L2 := [(5, vi 0), (4, vi 0), (0, vr l0), (1, vi l1), (2, vi l2), (3, vi l3)]) rfl ?_
  obtain ⟨f, hw⟩ := hw
  refine wm_sub [2, 3, 4, 5, 1, 0] (L2 := [(0, vr l0), (1, vi l1), (2, vi l2), (3, vi l3), (4, vi 0), (5, vi 0)]) rfl ?_
  exact W12_mostBy_b6 hC hRm hE hk0 f _ _ hw
def P12_tells_b55_body (l0 : Nat) (l2 : Int) (l3 : Int) (l6 : Int) (I : mI) (J : mI) (R : mR) (k36 : Int → Int → Int → Prop) (Q : Int → mI → mI → Prop) (k55 : Int → Int → Int → Prop) (l4 : Int) (l5 : Int) (l7 : Int) : Prop := (kK (R l0 20) = 21 ∧ (((0 : Int) ≤ (I l0 13) ∧ (I l0 13) < (kN (R l0 20) : Int)) ∧ (if (I (R l0 20) (I l0 13)) ≤ l7 then (rg (l6 + 1) ∧ (k36 l4 l5 (l6 + 1))) else (P12_mostBy l0 l3 l6 l7 I R (fun r5 => (if r5 < l5 then (rg (6 * l6) ∧ (rg ((6 * l6) + l7) ∧ (rg (l7 + 1) ∧ (k55 ((6 * l6) + l7) r5 (l7 + 1))))) else (rg (l7 + 1) ∧ (k55 l4 l5 (l7 + 1)))))))))
def P12_tells_b55 (l0 : Nat) (l2 : Int) (l3 : Int) (l6 : Int) (I : mI) (J : mI) (R : mR) (k36 : Int → Int → Int → Prop) (Q : Int → mI → mI → Prop) : Nat → Int → Int → Int → Prop
  | 0 => fun _ _ _ => False
  | f + 1 => fun l4 l5 l7 => P12_tells_b55_body l0 l2 l3 l6 I J R k36 Q (P12_tells_b55 l0 l2 l3 l6 I J R k36 Q f) l4 l5 l7
set_option maxRecDepth 20000 in
theorem W12_tells_b55_body {C : wX} {ad : Nat → Nat} {n : Nat} {I J : mI} {R : mR} {Q : Int → mI → mI → Prop} (hC : wOK C cX12_tells 9 RX12) (hRm : wRm C 10 240 0 0) (hE : wEnd C (some .int) ad n (fun r I' J' R' => (R' = R) ∧ Q r I' J')) {l0 : Nat} {l2 : Int} {l3 : Int} {l6 : Int} {l4 : Int} {l5 : Int} {l7 : Int}  {k36 : Int → Int → Int → Prop} (hk0 : kK l0 = 12) (kk36 : ∀ (y4 : Int) (y5 : Int) (y6 : Int), k36 y4 y5 y6 → WM C ad n I J R 0 0 36 [(0, vr l0), (2, vi l2), (3, vi l3), (4, vi y4), (5, vi y5), (6, vi y6)] []) {k55 : Int → Int → Int → Prop} (kk55 : ∀ (y4 : Int) (y5 : Int) (y7 : Int), k55 y4 y5 y7 → WM C ad n I J R 0 0 55 [(0, vr l0), (2, vi l2), (3, vi l3), (4, vi y4), (5, vi y5), (6, vi l6), (7, vi y7)] []) (hw : P12_tells_b55_body l0 l2 l3 l6 I J R k36 Q k55 l4 l5 l7) : WM C ad n I J R 0 0 55 [(0, vr l0), (2, vi l2), (3, vi l3), (4, vi l4), (5, vi l5), (6, vi l6), (7, vi l7)] [] := by
  unfold P12_tells_b55_body at hw
  refine wm_iload hC 6 dX12_tells_55 rfl ?_
  refine wm_aload_n hC 0 dX12_tells_57 rfl (k_ne0 hk0 (by decide)) ?_
  refine x_getR2 hC 20 fl_X12_72 rfl hk0 dX12_tells_58 hw (fun g1 hw => ?_)
  refine wm_aload_n hC 0 dX12_tells_61 rfl (k_ne0 hk0 (by decide)) ?_
  refine x_getI hC 13 fl_X12_51 rfl hk0 dX12_tells_62 ?_
  refine x_iald hC g1 dX12_tells_65 hw (fun hw => ?_)
  refine wm_icmp_ge (tgt := 110) hC dX12_tells_66 (by decide) hw (fun hw => ?_) (fun hw => ?_)
  · refine x_iinc hC 5 dX12_tells_110 rfl (by decide) (L2 := [(6, vi (l6 + 1)), (0, vr l0), (2, vi l2), (3, vi l3), (4, vi l4), (5, vi l5), (7, vi l7)]) rfl hw (fun hw => ?_)
    refine wm_goto (tgt := 36) hC dX12_tells_113 (by decide) ?_
    refine wm_sub [1, 2, 3, 4, 5, 0] (L2 := [(0, vr l0), (2, vi l2), (3, vi l3), (4, vi l4), (5, vi l5), (6, vi (l6 + 1))]) rfl ?_
    exact kk36 _ _ _ hw
  · refine wm_aload_n hC 0 dX12_tells_69 rfl (k_ne0 hk0 (by decide)) ?_
    refine wm_iload_n hC 2 dX12_tells_70 rfl ?_
    refine wm_iload hC 5 dX12_tells_71 rfl ?_
    refine wm_iload hC 6 dX12_tells_73 rfl ?_
    refine y_callV_i_n hC hRm ml_X12_551 hk0 (C12_mostBy hk0 hw) (Nat.le_of_ble_eq_true rfl) (Nat.le_of_ble_eq_true rfl) ⟨Nat.zero_le _, Nat.zero_le _⟩ rfl (st := []) rfl (Nat.le_of_ble_eq_true rfl) dX12_tells_75 (fun r5 hw => ?_)
    refine wm_istore hC dX12_tells_78 (by decide) (L2 := [(8, vi r5), (0, vr l0), (2, vi l2), (3, vi l3), (4, vi l4), (5, vi l5), (6, vi l6), (7, vi l7)]) rfl ?_
    refine wm_iload hC 0 dX12_tells_80 rfl ?_
    refine wm_iload hC 5 dX12_tells_82 rfl ?_
    refine wm_icmp_lt (tgt := 90) hC dX12_tells_84 (by decide) hw (fun hw => ?_) (fun hw => ?_)
    · refine wm_iload hC 0 dX12_tells_90 rfl ?_
      refine wm_istore hC dX12_tells_92 (by decide) (L2 := [(5, vi r5), (8, vi r5), (0, vr l0), (2, vi l2), (3, vi l3), (4, vi l4), (6, vi l6), (7, vi l7)]) rfl ?_
      refine wm_bipush hC dX12_tells_94 (k := ?_)
      refine wm_iload hC 6 dX12_tells_96 rfl ?_
      refine x_imul hC dX12_tells_98 hw (fun hw => ?_)
      refine wm_iload hC 7 dX12_tells_99 rfl ?_
      refine x_iadd hC dX12_tells_101 hw (fun hw => ?_)
      refine wm_istore hC dX12_tells_102 (by decide) (L2 := [(4, vi ((6 * l6) + l7)), (5, vi r5), (8, vi r5), (0, vr l0), (2, vi l2), (3, vi l3), (6, vi l6), (7, vi l7)]) rfl ?_
      refine x_iinc hC 7 dX12_tells_104 rfl (by decide) (L2 := [(7, vi (l7 + 1)), (4, vi ((6 * l6) + l7)), (5, vi r5), (8, vi r5), (0, vr l0), (2, vi l2), (3, vi l3), (6, vi l6)]) rfl hw (fun hw => ?_)
      refine wm_goto (tgt := 55) hC dX12_tells_107 (by decide) ?_
      refine wm_sub [4, 5, 6, 1, 2, 7, 0] (L2 := [(0, vr l0), (2, vi l2), (3, vi l3), (4, vi ((6 * l6) + l7)), (5, vi r5), (6, vi l6), (7, vi (l7 + 1))]) rfl ?_
      exact kk55 _ _ _ hw
    · refine wm_goto (tgt := 104) hC dX12_tells_87 (by decide) ?_
      refine x_iinc hC 7 dX12_tells_104 rfl (by decide) (L2 := [(7, vi (l7 + 1)), (8, vi r5), (0, vr l0), (2, vi l2), (3, vi l3), (4, vi l4), (5, vi l5), (6, vi l6)]) rfl hw (fun hw => ?_)
      refine wm_goto (tgt := 55) hC dX12_tells_107 (by decide) ?_
      refine wm_sub [2, 3, 4, 5, 6, 7, 0] (L2 := [(0, vr l0), (2, vi l2), (3, vi l3), (4, vi l4), (5, vi l5), (6, vi l6), (7, vi (l7 + 1))]) rfl ?_
      exact kk55 _ _ _ hw
set_option maxRecDepth 20000 in
theorem W12_tells_b55 {C : wX} {ad : Nat → Nat} {n : Nat} {I J : mI} {R : mR} {Q : Int → mI → mI → Prop} (hC : wOK C cX12_tells 9 RX12) (hRm : wRm C 10 240 0 0) (hE : wEnd C (some .int) ad n (fun r I' J' R' => (R' = R) ∧ Q r I' J')) {l0 : Nat} {l2 : Int} {l3 : Int} {l6 : Int}  {k36 : Int → Int → Int → Prop} (hk0 : kK l0 = 12) (kk36 : ∀ (y4 : Int) (y5 : Int) (y6 : Int), k36 y4 y5 y6 → WM C ad n I J R 0 0 36 [(0, vr l0), (2, vi l2), (3, vi l3), (4, vi y4), (5, vi y5), (6, vi y6)] []) : ∀ (f : Nat) (l4 : Int) (l5 : Int) (l7 : Int), P12_tells_b55 l0 l2 l3 l6 I J R k36 Q f l4 l5 l7 → WM C ad n I J R 0 0 55 [(0, vr l0), (2, vi l2), (3, vi l3), (4, vi l4), (5, vi l5), (6, vi l6), (7, vi l7)] [] := by
  intro f
  induction f with
  | zero => intro l4 l5 l7 hw; exact hw.elim
  | succ f ih => intro l4 l5 l7 hw; exact W12_tells_b55_body hC hRm hE hk0 kk36 (fun a0 a1 a2 hw => ih a0 a1 a2 hw) hw
def P12_tells_b116 (l2 : Int) (l4 : Int) (l5 : Int) (I : mI) (J : mI) (R : mR) (Q : Int → mI → mI → Prop) : Prop := (if l4 = (-1) then (Q (-1) I J) else (if l2 = 0 then (Q (Int.tdiv l4 6) I J) else (if l2 = 1 then (Q (Int.tmod l4 6) I J) else (Q l5 I J))))
set_option maxRecDepth 20000 in
theorem W12_tells_b116 {C : wX} {ad : Nat → Nat} {n : Nat} {I J : mI} {R : mR} {Q : Int → mI → mI → Prop} (hC : wOK C cX12_tells 9 RX12) (hRm : wRm C 10 240 0 0) (hE : wEnd C (some .int) ad n (fun r I' J' R' => (R' = R) ∧ Q r I' J')) {l2 : Int} {l4 : Int} {l5 : Int}     (hw : P12_tells_b116 l2 l4 l5 I J R Q) : WM C ad n I J R 0 0 116 [(2, vi l2), (4, vi l4), (5, vi l5)] [] := by
  unfold P12_tells_b116 at hw
  refine wm_iload hC 1 dX12_tells_116 rfl ?_
  refine wm_iconst hC dX12_tells_118 (k := ?_)
  refine wm_icmp_ne (tgt := 126) hC dX12_tells_119 (by decide) hw (fun hw => ?_) (fun hw => ?_)
  · refine wm_iconst hC dX12_tells_122 (k := ?_)
    refine wm_goto (tgt := 153) hC dX12_tells_123 (by decide) ?_
    exact wm_ireturn hC hE dX12_tells_153 ⟨rfl, hw⟩
  · refine wm_iload_n hC 0 dX12_tells_126 rfl ?_
    refine wm_if_ne (tgt := 138) hC dX12_tells_127 (by decide) hw (fun hw => ?_) (fun hw => ?_)
    · refine wm_iload hC 1 dX12_tells_130 rfl ?_
      refine wm_bipush hC dX12_tells_132 (k := ?_)
      refine x_idivP hC (by decide) dX12_tells_134 ?_
      refine wm_goto (tgt := 153) hC dX12_tells_135 (by decide) ?_
      exact wm_ireturn hC hE dX12_tells_153 ⟨rfl, hw⟩
    · refine wm_iload_n hC 0 dX12_tells_138 rfl ?_
      refine wm_iconst hC dX12_tells_139 (k := ?_)
      refine wm_icmp_ne (tgt := 151) hC dX12_tells_140 (by decide) hw (fun hw => ?_) (fun hw => ?_)
      · refine wm_iload hC 1 dX12_tells_143 rfl ?_
        refine wm_bipush hC dX12_tells_145 (k := ?_)
        refine x_iremP hC (by decide) dX12_tells_147 ?_
        refine wm_goto (tgt := 153) hC dX12_tells_148 (by decide) ?_
        exact wm_ireturn hC hE dX12_tells_153 ⟨rfl, hw⟩
      · refine wm_iload hC 2 dX12_tells_151 rfl ?_
        exact wm_ireturn hC hE dX12_tells_153 ⟨rfl, hw⟩
def P12_tells_b36_body (l0 : Nat) (l2 : Int) (l3 : Int) (I : mI) (J : mI) (R : mR) (Q : Int → mI → mI → Prop) (k36 : Int → Int → Int → Prop) (l4 : Int) (l5 : Int) (l6 : Int) : Prop := (P12_isAhead l0 l6 1 30 I R (fun r4 => (if r4 = 0 then (P12_tells_b116 l2 l4 l5 I J R Q) else (if l3 = 0 then (P12_tells_b116 l2 l4 l5 I J R Q) else (∃ f, P12_tells_b55 l0 l2 l3 l6 I J R k36 Q f l4 l5 0)))))
def P12_tells_b36 (l0 : Nat) (l2 : Int) (l3 : Int) (I : mI) (J : mI) (R : mR) (Q : Int → mI → mI → Prop) : Nat → Int → Int → Int → Prop
  | 0 => fun _ _ _ => False
  | f + 1 => fun l4 l5 l6 => P12_tells_b36_body l0 l2 l3 I J R Q (P12_tells_b36 l0 l2 l3 I J R Q f) l4 l5 l6
set_option maxRecDepth 20000 in
theorem W12_tells_b36_body {C : wX} {ad : Nat → Nat} {n : Nat} {I J : mI} {R : mR} {Q : Int → mI → mI → Prop} (hC : wOK C cX12_tells 9 RX12) (hRm : wRm C 10 240 0 0) (hE : wEnd C (some .int) ad n (fun r I' J' R' => (R' = R) ∧ Q r I' J')) {l0 : Nat} {l2 : Int} {l3 : Int} {l4 : Int} {l5 : Int} {l6 : Int}   (hk0 : kK l0 = 12)  {k36 : Int → Int → Int → Prop} (kk36 : ∀ (y4 : Int) (y5 : Int) (y6 : Int), k36 y4 y5 y6 → WM C ad n I J R 0 0 36 [(0, vr l0), (2, vi l2), (3, vi l3), (4, vi y4), (5, vi y5), (6, vi y6)] []) (hw : P12_tells_b36_body l0 l2 l3 I J R Q k36 l4 l5 l6) : WM C ad n I J R 0 0 36 [(0, vr l0), (2, vi l2), (3, vi l3), (4, vi l4), (5, vi l5), (6, vi l6)] [] := by
  unfold P12_tells_b36_body at hw
  refine wm_aload_n hC 0 dX12_tells_36 rfl (k_ne0 hk0 (by decide)) ?_
  refine wm_iload hC 5 dX12_tells_37 rfl ?_
  refine wm_iconst hC dX12_tells_39 (k := ?_)
  refine wm_bipush hC dX12_tells_40 (k := ?_)
  refine y_callV_z_n hC hRm ml_X12_529 hk0 (C12_isAhead hk0 hw) (Nat.le_of_ble_eq_true rfl) (Nat.le_of_ble_eq_true rfl) ⟨Nat.zero_le _, Nat.zero_le _⟩ rfl (st := []) rfl (Nat.le_of_ble_eq_true rfl) dX12_tells_42 (fun r4 hw => ?_)
  refine wm_if_eq (tgt := 116) hC dX12_tells_45 (by decide) hw (fun hw => ?_) (fun hw => ?_)
  · refine wm_sub [1, 3, 4] (L2 := [(2, vi l2), (4, vi l4), (5, vi l5)]) rfl ?_
    exact W12_tells_b116 hC hRm hE  hw
  · refine wm_iload_n hC 2 dX12_tells_48 rfl ?_
    refine wm_if_eq (tgt := 116) hC dX12_tells_49 (by decide) hw (fun hw => ?_) (fun hw => ?_)
    · refine wm_sub [1, 3, 4] (L2 := [(2, vi l2), (4, vi l4), (5, vi l5)]) rfl ?_
      exact W12_tells_b116 hC hRm hE  hw
    · refine wm_iconst hC dX12_tells_52 (k := ?_)
      refine wm_istore hC dX12_tells_53 (by decide) (L2 := [(7, vi 0), (0, vr l0), (2, vi l2), (3, vi l3), (4, vi l4), (5, vi l5), (6, vi l6)]) rfl ?_
      obtain ⟨f, hw⟩ := hw
      refine wm_sub [1, 2, 3, 4, 5, 6, 0] (L2 := [(0, vr l0), (2, vi l2), (3, vi l3), (4, vi l4), (5, vi l5), (6, vi l6), (7, vi 0)]) rfl ?_
      exact W12_tells_b55 hC hRm hE hk0 kk36 f _ _ _ hw
set_option maxRecDepth 20000 in
theorem W12_tells_b36 {C : wX} {ad : Nat → Nat} {n : Nat} {I J : mI} {R : mR} {Q : Int → mI → mI → Prop} (hC : wOK C cX12_tells 9 RX12) (hRm : wRm C 10 240 0 0) (hE : wEnd C (some .int) ad n (fun r I' J' R' => (R' = R) ∧ Q r I' J')) {l0 : Nat} {l2 : Int} {l3 : Int}   (hk0 : kK l0 = 12)  : ∀ (f : Nat) (l4 : Int) (l5 : Int) (l6 : Int), P12_tells_b36 l0 l2 l3 I J R Q f l4 l5 l6 → WM C ad n I J R 0 0 36 [(0, vr l0), (2, vi l2), (3, vi l3), (4, vi l4), (5, vi l5), (6, vi l6)] [] := by
  intro f
  induction f with
  | zero => intro l4 l5 l6 hw; exact hw.elim
  | succ f ih => intro l4 l5 l6 hw; exact W12_tells_b36_body hC hRm hE hk0 (fun a0 a1 a2 hw => ih a0 a1 a2 hw) hw
def P12_tells (l0 : Nat) (l1 : Int) (l2 : Int) (I : mI) (J : mI) (R : mR) (Q : Int → mI → mI → Prop) : Prop := (P12_isBlind l0 l1 I R (fun r1 => (if r1 = 0 then (Q (-1) I J) else (P12_is l2 0 2 (fun r2 => (if r2 = 0 then (Q (-1) I J) else (P12_tasteBits l0 l1 I J R (fun r3 I1 J1 => (∃ f, P12_tells_b36 l0 l2 r3 I1 J1 R Q f (-1) 100000000 1)))))))))
set_option maxRecDepth 20000 in
theorem C12_tells {ad : Nat → Nat} {n : Nat} {I J : mI} {R : mR} {Q : Int → mI → mI → Prop} {l0 : Nat} {l1 : Int} {l2 : Int} (hk0 : kK l0 = 12) (hw : P12_tells l0 l1 l2 I J R Q) : wMet yX12_tells cX12_tells 9 (some .int) 10 240 ad n I J R [vr l0, vi l1, vi l2] (fun r I' J' R' => (R' = R) ∧ Q r I' J') := by
  refine wMet_of (by decide) (Nat.le_of_ble_eq_true rfl) (fun C hC hRm hE => ?_)
  refine (show WM C ad n I J R 0 0 0 [(0, vr l0), (1, vi l1), (2, vi l2)] [] from ?_)
  unfold P12_tells at hw
  refine wm_aload_n hC 0 dX12_tells_0 rfl (k_ne0 hk0 (by decide)) ?_
  refine wm_iload_n hC 1 dX12_tells_1 rfl ?_
  refine y_callV_z_n hC hRm ml_X12_507 hk0 (C12_isBlind hk0 hw) (Nat.le_of_ble_eq_true rfl) (Nat.le_of_ble_eq_true rfl) ⟨Nat.zero_le _, Nat.zero_le _⟩ rfl (st := []) rfl (Nat.le_of_ble_eq_true rfl) dX12_tells_2 (fun r1 hw => ?_)
  refine wm_if_eq (tgt := 17) hC dX12_tells_5 (by decide) hw (fun hw => ?_) (fun hw => ?_)
  · refine wm_iconst hC dX12_tells_17 (k := ?_)
    exact wm_ireturn hC hE dX12_tells_18 ⟨rfl, hw⟩
  · refine wm_iload_n hC 2 dX12_tells_8 rfl ?_
    refine wm_iconst hC dX12_tells_9 (k := ?_)
    refine wm_iconst hC dX12_tells_10 (k := ?_)
    refine y_callS_z_n hC hRm ml_X12_309 (C12_is  hw) (Nat.le_of_ble_eq_true rfl) (Nat.le_of_ble_eq_true rfl) ⟨Nat.zero_le _, Nat.zero_le _⟩ rfl (st := []) rfl (Nat.le_of_ble_eq_true rfl) dX12_tells_11 (fun r2 hw => ?_)
    refine wm_if_ne (tgt := 19) hC dX12_tells_14 (by decide) hw (fun hw => ?_) (fun hw => ?_)
    · refine wm_iconst hC dX12_tells_17 (k := ?_)
      exact wm_ireturn hC hE dX12_tells_18 ⟨rfl, hw⟩
    · refine wm_aload_n hC 0 dX12_tells_19 rfl (k_ne0 hk0 (by decide)) ?_
      refine wm_iload_n hC 1 dX12_tells_20 rfl ?_
      refine y_callV_i_IJ hC hRm ml_X12_547 hk0 (C12_tasteBits hk0 hw) (Nat.le_of_ble_eq_true rfl) (Nat.le_of_ble_eq_true rfl) ⟨Nat.zero_le _, Nat.zero_le _⟩ rfl (st := []) rfl (Nat.le_of_ble_eq_true rfl) dX12_tells_21 (fun r3 I1 J1 hw => ?_)
      refine wm_istore_n hC dX12_tells_24 (by decide) (L2 := [(3, vi r3), (0, vr l0), (1, vi l1), (2, vi l2)]) rfl ?_
      refine wm_iconst hC dX12_tells_25 (k := ?_)
      refine wm_istore hC dX12_tells_26 (by decide) (L2 := [(4, vi (-1)), (3, vi r3), (0, vr l0), (1, vi l1), (2, vi l2)]) rfl ?_
      refine wm_ldcw hC (x := 100000000) tc_X12_550 rfl dX12_tells_28 (k := ?_)
      refine wm_istore hC dX12_tells_31 (by decide) (L2 := [(5, vi 100000000), (4, vi (-1)), (3, vi r3), (0, vr l0), (1, vi l1), (2, vi l2)]) rfl ?_
      refine wm_iconst hC dX12_tells_33 (k := ?_)
      refine wm_istore hC dX12_tells_34 (by decide) (L2 := [(6, vi 1), (5, vi 100000000), (4, vi (-1)), (3, vi r3), (0, vr l0), (1, vi l1), (2, vi l2)]) rfl ?_
      obtain ⟨f, hw⟩ := hw
      refine wm_sub [4, 6, 3, 2, 1, 0] (L2 := [(0, vr l0), (2, vi l2), (3, vi r3), (4, vi (-1)), (5, vi 100000000), (6, vi 1)]) rfl ?_
      exact W12_tells_b36 hC hRm hE hk0 f _ _ _ hw
def P12_years_b25_body (l0 : Nat) (l1 : Int) (R : mR) (Q : Int → mI → mI → Prop) (k25 : Int → Int → mI → mI → Prop) (l2 : Int) (l3 : Int) (I : mI) (J : mI) : Prop := (if l1 ≤ l3 then (Q l2 I J) else (P12_ticks l0 0 (-1) I J R (fun r3 I3 J1 => (if r3 = 0 then (rg (l2 + 0) ∧ (rg (l3 + 1) ∧ (k25 (l2 + 0) (l3 + 1) I3 J1))) else (rg (l2 + 1) ∧ (rg (l3 + 1) ∧ (k25 (l2 + 1) (l3 + 1) I3 J1)))))))
def P12_years_b25 (l0 : Nat) (l1 : Int) (R : mR) (Q : Int → mI → mI → Prop) : Nat → Int → Int → mI → mI → Prop
  | 0 => fun _ _ _ _ => False
  | f + 1 => fun l2 l3 I J => P12_years_b25_body l0 l1 R Q (P12_years_b25 l0 l1 R Q f) l2 l3 I J
set_option maxRecDepth 20000 in
theorem W12_years_b25_body {C : wX} {ad : Nat → Nat} {n : Nat} {I J : mI} {R : mR} {Q : Int → mI → mI → Prop} (hC : wOK C cX12_years 4 RX12) (hRm : wRm C 9 214 0 0) (hE : wEnd C (some .int) ad n (fun r I' J' R' => (R' = R) ∧ Q r I' J')) {l0 : Nat} {l1 : Int} {l2 : Int} {l3 : Int}   (hk0 : kK l0 = 12)  {k25 : Int → Int → mI → mI → Prop} (kk25 : ∀ (y2 : Int) (y3 : Int) (I' : mI) (J' : mI), k25 y2 y3 I' J' → WM C ad n I' J' R 0 0 25 [(0, vr l0), (1, vi l1), (2, vi y2), (3, vi y3)] []) (hw : P12_years_b25_body l0 l1 R Q k25 l2 l3 I J) : WM C ad n I J R 0 0 25 [(0, vr l0), (1, vi l1), (2, vi l2), (3, vi l3)] [] := by
  unfold P12_years_b25_body at hw
  refine wm_iload_n hC 3 dX12_years_25 rfl ?_
  refine wm_iload_n hC 1 dX12_years_26 rfl ?_
  refine wm_icmp_ge (tgt := 53) hC dX12_years_27 (by decide) hw (fun hw => ?_) (fun hw => ?_)
  · refine wm_iload_n hC 2 dX12_years_53 rfl ?_
    exact wm_ireturn hC hE dX12_years_54 ⟨rfl, hw⟩
  · refine wm_iload_n hC 2 dX12_years_30 rfl ?_
    refine wm_aload_n hC 0 dX12_years_31 rfl (k_ne0 hk0 (by decide)) ?_
    refine wm_iconst hC dX12_years_32 (k := ?_)
    refine wm_iconst hC dX12_years_33 (k := ?_)
    refine y_callV_z_IJ hC hRm ml_X12_526 hk0 (C12_ticks hk0 hw) (Nat.le_of_ble_eq_true rfl) (Nat.le_of_ble_eq_true rfl) ⟨Nat.zero_le _, Nat.zero_le _⟩ rfl (st := [vi l2]) rfl (Nat.le_of_ble_eq_true rfl) dX12_years_34 (fun r3 I3 J1 hw => ?_)
    refine wm_if_eq (tgt := 44) hC dX12_years_37 (by decide) hw (fun hw => ?_) (fun hw => ?_)
    · refine wm_iconst hC dX12_years_44 (k := ?_)
      refine x_iadd hC dX12_years_45 hw (fun hw => ?_)
      refine wm_istore_n hC dX12_years_46 (by decide) (L2 := [(2, vi (l2 + 0)), (0, vr l0), (1, vi l1), (3, vi l3)]) rfl ?_
      refine x_iinc hC 3 dX12_years_47 rfl (by decide) (L2 := [(3, vi (l3 + 1)), (2, vi (l2 + 0)), (0, vr l0), (1, vi l1)]) rfl hw (fun hw => ?_)
      refine wm_goto (tgt := 25) hC dX12_years_50 (by decide) ?_
      refine wm_sub [2, 3, 1, 0] (L2 := [(0, vr l0), (1, vi l1), (2, vi (l2 + 0)), (3, vi (l3 + 1))]) rfl ?_
      exact kk25 _ _ _ _ hw
    · refine wm_iconst hC dX12_years_40 (k := ?_)
      refine wm_goto (tgt := 45) hC dX12_years_41 (by decide) ?_
      refine x_iadd hC dX12_years_45 hw (fun hw => ?_)
      refine wm_istore_n hC dX12_years_46 (by decide) (L2 := [(2, vi (l2 + 1)), (0, vr l0), (1, vi l1), (3, vi l3)]) rfl ?_
      refine x_iinc hC 3 dX12_years_47 rfl (by decide) (L2 := [(3, vi (l3 + 1)), (2, vi (l2 + 1)), (0, vr l0), (1, vi l1)]) rfl hw (fun hw => ?_)
      refine wm_goto (tgt := 25) hC dX12_years_50 (by decide) ?_
      refine wm_sub [2, 3, 1, 0] (L2 := [(0, vr l0), (1, vi l1), (2, vi (l2 + 1)), (3, vi (l3 + 1))]) rfl ?_
      exact kk25 _ _ _ _ hw
set_option maxRecDepth 20000 in
theorem W12_years_b25 {C : wX} {ad : Nat → Nat} {n : Nat} {R : mR} {Q : Int → mI → mI → Prop} (hC : wOK C cX12_years 4 RX12) (hRm : wRm C 9 214 0 0) (hE : wEnd C (some .int) ad n (fun r I' J' R' => (R' = R) ∧ Q r I' J')) {l0 : Nat} {l1 : Int}   (hk0 : kK l0 = 12)  : ∀ (f : Nat) (l2 : Int) (l3 : Int) (I : mI) (J : mI), P12_years_b25 l0 l1 R Q f l2 l3 I J → WM C ad n I J R 0 0 25 [(0, vr l0), (1, vi l1), (2, vi l2), (3, vi l3)] [] := by
  intro f
  induction f with
  | zero => intro l2 l3 I J hw; exact hw.elim
  | succ f ih => intro l2 l3 I J hw; exact W12_years_b25_body hC hRm hE hk0 (fun a0 a1 a2 a3 hw => ih a0 a1 a2 a3 hw) hw
def P12_years (l0 : Nat) (l1 : Int) (I : mI) (J : mI) (R : mR) (Q : Int → mI → mI → Prop) : Prop := (P12_isAhead l0 l1 1 40 I R (fun r1 => (if r1 = 0 then (P12_refuses l0 2 I R (fun r2 I2 => (Q r2 I2 J))) else (P12_keeps l0 I R (fun I1 => (∃ f, P12_years_b25 l0 l1 R Q f 0 0 I1 J))))))
set_option maxRecDepth 20000 in
theorem C12_years {ad : Nat → Nat} {n : Nat} {I J : mI} {R : mR} {Q : Int → mI → mI → Prop} {l0 : Nat} {l1 : Int} (hk0 : kK l0 = 12) (hw : P12_years l0 l1 I J R Q) : wMet yX12_years cX12_years 4 (some .int) 9 214 ad n I J R [vr l0, vi l1] (fun r I' J' R' => (R' = R) ∧ Q r I' J') := by
  refine wMet_of (by decide) (Nat.le_of_ble_eq_true rfl) (fun C hC hRm hE => ?_)
  refine (show WM C ad n I J R 0 0 0 [(0, vr l0), (1, vi l1)] [] from ?_)
  unfold P12_years at hw
  refine wm_aload_n hC 0 dX12_years_0 rfl (k_ne0 hk0 (by decide)) ?_
  refine wm_iload_n hC 1 dX12_years_1 rfl ?_
  refine wm_iconst hC dX12_years_2 (k := ?_)
  refine wm_bipush hC dX12_years_3 (k := ?_)
  refine y_callV_z_n hC hRm ml_X12_529 hk0 (C12_isAhead hk0 hw) (Nat.le_of_ble_eq_true rfl) (Nat.le_of_ble_eq_true rfl) ⟨Nat.zero_le _, Nat.zero_le _⟩ rfl (st := []) rfl (Nat.le_of_ble_eq_true rfl) dX12_years_5 (fun r1 hw => ?_)
  refine wm_if_ne (tgt := 17) hC dX12_years_8 (by decide) hw (fun hw => ?_) (fun hw => ?_)
  · refine wm_aload_n hC 0 dX12_years_11 rfl (k_ne0 hk0 (by decide)) ?_
    refine wm_iconst hC dX12_years_12 (k := ?_)
    refine y_callV_i_I hC hRm ml_X12_222 hk0 (C12_refuses hk0 hw) (Nat.le_of_ble_eq_true rfl) (Nat.le_of_ble_eq_true rfl) ⟨Nat.zero_le _, Nat.zero_le _⟩ rfl (st := []) rfl (Nat.le_of_ble_eq_true rfl) dX12_years_13 (fun r2 I2 hw => ?_)
    exact wm_ireturn hC hE dX12_years_16 ⟨rfl, hw⟩
  · refine wm_aload_n hC 0 dX12_years_17 rfl (k_ne0 hk0 (by decide)) ?_
    refine y_callV_v_I hC hRm ml_X12_554 hk0 (C12_keeps hk0 hw) (Nat.le_of_ble_eq_true rfl) (Nat.le_of_ble_eq_true rfl) ⟨Nat.zero_le _, Nat.zero_le _⟩ rfl (st := []) rfl (Nat.le_of_ble_eq_true rfl) dX12_years_18 (fun I1 hw => ?_)
    refine wm_iconst hC dX12_years_21 (k := ?_)
    refine wm_istore_n hC dX12_years_22 (by decide) (L2 := [(2, vi 0), (0, vr l0), (1, vi l1)]) rfl ?_
    refine wm_iconst hC dX12_years_23 (k := ?_)
    refine wm_istore_n hC dX12_years_24 (by decide) (L2 := [(3, vi 0), (2, vi 0), (0, vr l0), (1, vi l1)]) rfl ?_
    obtain ⟨f, hw⟩ := hw
    refine wm_sub [2, 3, 1, 0] (L2 := [(0, vr l0), (1, vi l1), (2, vi 0), (3, vi 0)]) rfl ?_
    exact W12_years_b25 hC hRm hE hk0 f _ _ _ _ hw
def P12_draw (l0 : Nat) (l1 : Int) (J : mI) (Q : Int → mI → Prop) : Prop := (rl (1103515245 * (J l0 54)) ∧ (rl ((1103515245 * (J l0 54)) + 12345) ∧ (wLet (up J l0 54 (Int.tmod ((1103515245 * (J l0 54)) + 12345) 2147483648)) (fun J1 => (l1 ≠ 0 ∧ (rg (Int.tmod (Int.tdiv (J1 l0 54) 64) l1) ∧ (Q (Int.tmod (Int.tdiv (J1 l0 54) 64) l1) J1)))))))
set_option maxRecDepth 20000 in
theorem C12_draw {ad : Nat → Nat} {n : Nat} {I J : mI} {R : mR} {Q : Int → mI → Prop} {l0 : Nat} {l1 : Int} (hk0 : kK l0 = 12) (hw : P12_draw l0 l1 J Q) : wMet yX12_draw cX12_draw 2 (some .int) 1 12 ad n I J R [vr l0, vi l1] (fun r I' J' R' => (I' = I ∧ R' = R) ∧ Q r J') := by
  refine wMet_of (by decide) (Nat.le_of_ble_eq_true rfl) (fun C hC hRm hE => ?_)
  refine (show WM C ad n I J R 0 0 0 [(0, vr l0), (1, vi l1)] [] from ?_)
  unfold P12_draw at hw
  refine wm_aload_n hC 0 dX12_draw_0 rfl (k_ne0 hk0 (by decide)) ?_
  refine wm_ldc2 hC (x := 1103515245) tc_X12_557 rfl dX12_draw_1 (k := ?_)
  refine wm_aload_n hC 0 dX12_draw_4 rfl (k_ne0 hk0 (by decide)) ?_
  refine x_getJ hC 54 fl_X12_177 rfl hk0 dX12_draw_5 ?_
  refine x_lmul hC dX12_draw_8 hw (fun hw => ?_)
  refine wm_ldc2 hC (x := 12345) tc_X12_559 rfl dX12_draw_9 (k := ?_)
  refine x_ladd hC dX12_draw_12 hw (fun hw => ?_)
  refine wm_ldc2 hC (x := 2147483648) tc_X12_561 rfl dX12_draw_13 (k := ?_)
  refine x_lremP hC (by decide) dX12_draw_16 ?_
  refine x_putJ hC 54 fl_X12_177 rfl hk0 dX12_draw_17 hw (fun J1 hw => ?_)
  refine wm_aload_n hC 0 dX12_draw_20 rfl (k_ne0 hk0 (by decide)) ?_
  refine x_getJ hC 54 fl_X12_177 rfl hk0 dX12_draw_21 ?_
  refine wm_ldc2 hC (x := 64) tc_X12_563 rfl dX12_draw_24 (k := ?_)
  refine x_ldivP hC (by decide) dX12_draw_27 ?_
  refine wm_iload_n hC 1 dX12_draw_28 rfl ?_
  refine wm_i2l hC dX12_draw_29 ?_
  refine x_lrem hC dX12_draw_30 hw (fun hw => ?_)
  refine x_l2i hC dX12_draw_31 hw (fun hw => ?_)
  exact wm_ireturn hC hE dX12_draw_32 ⟨⟨rfl, rfl⟩, hw⟩
def P12_chance_b78 (l0 : Nat) (l1 : Int) (l3 : Int) (l4 : Int) (s0 : Int) (s1 : Int) (I : mI) (J : mI) (R : mR) (k25 : Int → Int → mI → mI → Prop) (Q : Int → mI → mI → Prop) : Prop := (rg (s0 + s1) ∧ (if l4 = 0 then (P12_ticks l0 0 (-1) I J R (fun r4 I3 J2 => (rg (l3 + 1) ∧ (k25 (s0 + s1) (l3 + 1) I3 J2)))) else (kK (R l0 14) = 21 ∧ (((0 : Int) ≤ (I l0 13) ∧ (I l0 13) < (kN (R l0 14) : Int)) ∧ (P12_draw l0 (I (R l0 14) (I l0 13)) J (fun r5 J3 => (P12_ticks l0 0 r5 I J3 R (fun r6 I4 J4 => (rg (l3 + 1) ∧ (k25 (s0 + s1) (l3 + 1) I4 J4))))))))))
set_option maxRecDepth 20000 in
theorem W12_chance_b78 {C : wX} {ad : Nat → Nat} {n : Nat} {I J : mI} {R : mR} {Q : Int → mI → mI → Prop} (hC : wOK C cX12_chance 5 RX12) (hRm : wRm C 9 214 0 0) (hE : wEnd C (some .int) ad n (fun r I' J' R' => (R' = R) ∧ Q r I' J')) {l0 : Nat} {l1 : Int} {l3 : Int} {l4 : Int} {s0 : Int} {s1 : Int}  {k25 : Int → Int → mI → mI → Prop} (hk0 : kK l0 = 12) (kk25 : ∀ (y2 : Int) (y3 : Int) (I' : mI) (J' : mI), k25 y2 y3 I' J' → WM C ad n I' J' R 0 0 25 [(0, vr l0), (1, vi l1), (2, vi y2), (3, vi y3)] []) (hw : P12_chance_b78 l0 l1 l3 l4 s0 s1 I J R k25 Q) : WM C ad n I J R 0 0 78 [(0, vr l0), (1, vi l1), (3, vi l3), (4, vi l4)] [vi s1, vi s0] := by
  unfold P12_chance_b78 at hw
  refine x_iadd hC dX12_chance_78 hw (fun hw => ?_)
  refine wm_istore_n hC dX12_chance_79 (by decide) (L2 := [(2, vi (s0 + s1)), (0, vr l0), (1, vi l1), (3, vi l3), (4, vi l4)]) rfl ?_
  refine wm_aload_n hC 1 dX12_chance_80 rfl (k_ne0 hk0 (by decide)) ?_
  refine wm_iconst hC dX12_chance_81 (k := ?_)
  refine wm_iload hC 4 dX12_chance_82 rfl ?_
  refine wm_if_eq (tgt := 103) hC dX12_chance_84 (by decide) hw (fun hw => ?_) (fun hw => ?_)
  · refine wm_iconst hC dX12_chance_103 (k := ?_)
    refine y_callV_z_IJ hC hRm ml_X12_526 hk0 (C12_ticks hk0 hw) (Nat.le_of_ble_eq_true rfl) (Nat.le_of_ble_eq_true rfl) ⟨Nat.zero_le _, Nat.zero_le _⟩ rfl (st := []) rfl (Nat.le_of_ble_eq_true rfl) dX12_chance_104 (fun r4 I3 J2 hw => ?_)
    refine wm_pop hC dX12_chance_107 (k := ?_)
    refine x_iinc hC 3 dX12_chance_108 rfl (by decide) (L2 := [(3, vi (l3 + 1)), (2, vi (s0 + s1)), (0, vr l0), (1, vi l1), (4, vi l4)]) rfl hw (fun hw => ?_)
    refine wm_goto (tgt := 25) hC dX12_chance_111 (by decide) ?_
    refine wm_sub [2, 3, 1, 0] (L2 := [(0, vr l0), (1, vi l1), (2, vi (s0 + s1)), (3, vi (l3 + 1))]) rfl ?_
    exact kk25 _ _ _ _ hw
  · refine wm_aload_n hC 1 dX12_chance_87 rfl (k_ne0 hk0 (by decide)) ?_
    refine wm_aload_n hC 1 dX12_chance_88 rfl (k_ne0 hk0 (by decide)) ?_
    refine x_getR2 hC 14 fl_X12_54 rfl hk0 dX12_chance_89 hw (fun g3 hw => ?_)
    refine wm_aload_n hC 1 dX12_chance_92 rfl (k_ne0 hk0 (by decide)) ?_
    refine x_getI hC 13 fl_X12_51 rfl hk0 dX12_chance_93 ?_
    refine x_iald hC g3 dX12_chance_96 hw (fun hw => ?_)
    refine y_callV_i_J hC hRm ml_X12_565 hk0 (C12_draw hk0 hw) (Nat.le_of_ble_eq_true rfl) (Nat.le_of_ble_eq_true rfl) ⟨Nat.zero_le _, Nat.zero_le _⟩ rfl (st := [vi 0, vr l0]) rfl (Nat.le_of_ble_eq_true rfl) dX12_chance_97 (fun r5 J3 hw => ?_)
    refine wm_goto (tgt := 104) hC dX12_chance_100 (by decide) ?_
    refine y_callV_z_IJ hC hRm ml_X12_526 hk0 (C12_ticks hk0 hw) (Nat.le_of_ble_eq_true rfl) (Nat.le_of_ble_eq_true rfl) ⟨Nat.zero_le _, Nat.zero_le _⟩ rfl (st := []) rfl (Nat.le_of_ble_eq_true rfl) dX12_chance_104 (fun r6 I4 J4 hw => ?_)
    refine wm_pop hC dX12_chance_107 (k := ?_)
    refine x_iinc hC 3 dX12_chance_108 rfl (by decide) (L2 := [(3, vi (l3 + 1)), (2, vi (s0 + s1)), (0, vr l0), (1, vi l1), (4, vi l4)]) rfl hw (fun hw => ?_)
    refine wm_goto (tgt := 25) hC dX12_chance_111 (by decide) ?_
    refine wm_sub [2, 3, 1, 0] (L2 := [(0, vr l0), (1, vi l1), (2, vi (s0 + s1)), (3, vi (l3 + 1))]) rfl ?_
    exact kk25 _ _ _ _ hw
def P12_chance_b65 (l0 : Nat) (l1 : Int) (l2 : Int) (l3 : Int) (s0 : Int) (I : mI) (J : mI) (R : mR) (k25 : Int → Int → mI → mI → Prop) (Q : Int → mI → mI → Prop) : Prop := (if s0 = 0 then (P12_chance_b78 l0 l1 l3 s0 l2 0 I J R k25 Q) else (P12_chance_b78 l0 l1 l3 s0 l2 1 I J R k25 Q))
set_option maxRecDepth 20000 in
theorem W12_chance_b65 {C : wX} {ad : Nat → Nat} {n : Nat} {I J : mI} {R : mR} {Q : Int → mI → mI → Prop} (hC : wOK C cX12_chance 5 RX12) (hRm : wRm C 9 214 0 0) (hE : wEnd C (some .int) ad n (fun r I' J' R' => (R' = R) ∧ Q r I' J')) {l0 : Nat} {l1 : Int} {l2 : Int} {l3 : Int} {s0 : Int}  {k25 : Int → Int → mI → mI → Prop} (hk0 : kK l0 = 12) (kk25 : ∀ (y2 : Int) (y3 : Int) (I' : mI) (J' : mI), k25 y2 y3 I' J' → WM C ad n I' J' R 0 0 25 [(0, vr l0), (1, vi l1), (2, vi y2), (3, vi y3)] []) (hw : P12_chance_b65 l0 l1 l2 l3 s0 I J R k25 Q) : WM C ad n I J R 0 0 65 [(0, vr l0), (1, vi l1), (2, vi l2), (3, vi l3)] [vi s0] := by
  unfold P12_chance_b65 at hw
  refine wm_istore hC dX12_chance_65 (by decide) (L2 := [(4, vi s0), (0, vr l0), (1, vi l1), (2, vi l2), (3, vi l3)]) rfl ?_
  refine wm_iload_n hC 3 dX12_chance_67 rfl ?_
  refine wm_iload hC 0 dX12_chance_68 rfl ?_
  refine wm_if_eq (tgt := 77) hC dX12_chance_70 (by decide) hw (fun hw => ?_) (fun hw => ?_)
  · refine wm_iconst hC dX12_chance_77 (k := ?_)
    refine wm_sub [1, 2, 4, 0] (L2 := [(0, vr l0), (1, vi l1), (3, vi l3), (4, vi s0)]) rfl ?_
    exact W12_chance_b78 hC hRm hE hk0 kk25 hw
  · refine wm_iconst hC dX12_chance_73 (k := ?_)
    refine wm_goto (tgt := 78) hC dX12_chance_74 (by decide) ?_
    refine wm_sub [1, 2, 4, 0] (L2 := [(0, vr l0), (1, vi l1), (3, vi l3), (4, vi s0)]) rfl ?_
    exact W12_chance_b78 hC hRm hE hk0 kk25 hw
def P12_chance_b64 (l0 : Nat) (l1 : Int) (l2 : Int) (l3 : Int) (I : mI) (J : mI) (R : mR) (k25 : Int → Int → mI → mI → Prop) (Q : Int → mI → mI → Prop) : Prop := (P12_chance_b65 l0 l1 l2 l3 0 I J R k25 Q)
set_option maxRecDepth 20000 in
theorem W12_chance_b64 {C : wX} {ad : Nat → Nat} {n : Nat} {I J : mI} {R : mR} {Q : Int → mI → mI → Prop} (hC : wOK C cX12_chance 5 RX12) (hRm : wRm C 9 214 0 0) (hE : wEnd C (some .int) ad n (fun r I' J' R' => (R' = R) ∧ Q r I' J')) {l0 : Nat} {l1 : Int} {l2 : Int} {l3 : Int}  {k25 : Int → Int → mI → mI → Prop} (hk0 : kK l0 = 12) (kk25 : ∀ (y2 : Int) (y3 : Int) (I' : mI) (J' : mI), k25 y2 y3 I' J' → WM C ad n I' J' R 0 0 25 [(0, vr l0), (1, vi l1), (2, vi y2), (3, vi y3)] []) (hw : P12_chance_b64 l0 l1 l2 l3 I J R k25 Q) : WM C ad n I J R 0 0 64 [(0, vr l0), (1, vi l1), (2, vi l2), (3, vi l3)] [] := by
  unfold P12_chance_b64 at hw
  refine wm_iconst hC dX12_chance_64 (k := ?_)
  exact W12_chance_b65 hC hRm hE hk0 kk25 hw
def P12_chance_b25_body (l0 : Nat) (l1 : Int) (R : mR) (Q : Int → mI → mI → Prop) (k25 : Int → Int → mI → mI → Prop) (l2 : Int) (l3 : Int) (I : mI) (J : mI) : Prop := (if l1 ≤ l3 then (Q l2 I J) else (P12_draw l0 100 J (fun r3 J1 => (kK (R l0 25) = 21 ∧ (((0 : Int) ≤ (I l0 13) ∧ (I l0 13) < (kN (R l0 25) : Int)) ∧ (if (I (R l0 25) (I l0 13)) ≤ r3 then (P12_chance_b64 l0 l1 l2 l3 I J1 R k25 Q) else (kK (R l0 14) = 21 ∧ (((0 : Int) ≤ (I l0 13) ∧ (I l0 13) < (kN (R l0 14) : Int)) ∧ (if (I (R l0 14) (I l0 13)) ≤ 0 then (P12_chance_b64 l0 l1 l2 l3 I J1 R k25 Q) else (P12_chance_b65 l0 l1 l2 l3 1 I J1 R k25 Q))))))))))
def P12_chance_b25 (l0 : Nat) (l1 : Int) (R : mR) (Q : Int → mI → mI → Prop) : Nat → Int → Int → mI → mI → Prop
  | 0 => fun _ _ _ _ => False
  | f + 1 => fun l2 l3 I J => P12_chance_b25_body l0 l1 R Q (P12_chance_b25 l0 l1 R Q f) l2 l3 I J
set_option maxRecDepth 20000 in
theorem W12_chance_b25_body {C : wX} {ad : Nat → Nat} {n : Nat} {I J : mI} {R : mR} {Q : Int → mI → mI → Prop} (hC : wOK C cX12_chance 5 RX12) (hRm : wRm C 9 214 0 0) (hE : wEnd C (some .int) ad n (fun r I' J' R' => (R' = R) ∧ Q r I' J')) {l0 : Nat} {l1 : Int} {l2 : Int} {l3 : Int}   (hk0 : kK l0 = 12)  {k25 : Int → Int → mI → mI → Prop} (kk25 : ∀ (y2 : Int) (y3 : Int) (I' : mI) (J' : mI), k25 y2 y3 I' J' → WM C ad n I' J' R 0 0 25 [(0, vr l0), (1, vi l1), (2, vi y2), (3, vi y3)] []) (hw : P12_chance_b25_body l0 l1 R Q k25 l2 l3 I J) : WM C ad n I J R 0 0 25 [(0, vr l0), (1, vi l1), (2, vi l2), (3, vi l3)] [] := by
  unfold P12_chance_b25_body at hw
  refine wm_iload_n hC 3 dX12_chance_25 rfl ?_
  refine wm_iload_n hC 1 dX12_chance_26 rfl ?_
  refine wm_icmp_ge (tgt := 114) hC dX12_chance_27 (by decide) hw (fun hw => ?_) (fun hw => ?_)
  · refine wm_iload_n hC 2 dX12_chance_114 rfl ?_
    exact wm_ireturn hC hE dX12_chance_115 ⟨rfl, hw⟩
  · refine wm_aload_n hC 0 dX12_chance_30 rfl (k_ne0 hk0 (by decide)) ?_
    refine wm_bipush hC dX12_chance_31 (k := ?_)
    refine y_callV_i_J hC hRm ml_X12_565 hk0 (C12_draw hk0 hw) (Nat.le_of_ble_eq_true rfl) (Nat.le_of_ble_eq_true rfl) ⟨Nat.zero_le _, Nat.zero_le _⟩ rfl (st := []) rfl (Nat.le_of_ble_eq_true rfl) dX12_chance_33 (fun r3 J1 hw => ?_)
    refine wm_aload_n hC 0 dX12_chance_36 rfl (k_ne0 hk0 (by decide)) ?_
    refine x_getR2 hC 25 fl_X12_87 rfl hk0 dX12_chance_37 hw (fun g1 hw => ?_)
    refine wm_aload_n hC 0 dX12_chance_40 rfl (k_ne0 hk0 (by decide)) ?_
    refine x_getI hC 13 fl_X12_51 rfl hk0 dX12_chance_41 ?_
    refine x_iald hC g1 dX12_chance_44 hw (fun hw => ?_)
    refine wm_icmp_ge (tgt := 64) hC dX12_chance_45 (by decide) hw (fun hw => ?_) (fun hw => ?_)
    · exact W12_chance_b64 hC hRm hE hk0 kk25 hw
    · refine wm_aload_n hC 0 dX12_chance_48 rfl (k_ne0 hk0 (by decide)) ?_
      refine x_getR2 hC 14 fl_X12_54 rfl hk0 dX12_chance_49 hw (fun g2 hw => ?_)
      refine wm_aload_n hC 0 dX12_chance_52 rfl (k_ne0 hk0 (by decide)) ?_
      refine x_getI hC 13 fl_X12_51 rfl hk0 dX12_chance_53 ?_
      refine x_iald hC g2 dX12_chance_56 hw (fun hw => ?_)
      refine wm_if_le (tgt := 64) hC dX12_chance_57 (by decide) hw (fun hw => ?_) (fun hw => ?_)
      · exact W12_chance_b64 hC hRm hE hk0 kk25 hw
      · refine wm_iconst hC dX12_chance_60 (k := ?_)
        refine wm_goto (tgt := 65) hC dX12_chance_61 (by decide) ?_
        exact W12_chance_b65 hC hRm hE hk0 kk25 hw
set_option maxRecDepth 20000 in
theorem W12_chance_b25 {C : wX} {ad : Nat → Nat} {n : Nat} {R : mR} {Q : Int → mI → mI → Prop} (hC : wOK C cX12_chance 5 RX12) (hRm : wRm C 9 214 0 0) (hE : wEnd C (some .int) ad n (fun r I' J' R' => (R' = R) ∧ Q r I' J')) {l0 : Nat} {l1 : Int}   (hk0 : kK l0 = 12)  : ∀ (f : Nat) (l2 : Int) (l3 : Int) (I : mI) (J : mI), P12_chance_b25 l0 l1 R Q f l2 l3 I J → WM C ad n I J R 0 0 25 [(0, vr l0), (1, vi l1), (2, vi l2), (3, vi l3)] [] := by
  intro f
  induction f with
  | zero => intro l2 l3 I J hw; exact hw.elim
  | succ f ih => intro l2 l3 I J hw; exact W12_chance_b25_body hC hRm hE hk0 (fun a0 a1 a2 a3 hw => ih a0 a1 a2 a3 hw) hw
def P12_chance (l0 : Nat) (l1 : Int) (I : mI) (J : mI) (R : mR) (Q : Int → mI → mI → Prop) : Prop := (P12_isAhead l0 l1 1 40 I R (fun r1 => (if r1 = 0 then (P12_refuses l0 2 I R (fun r2 I2 => (Q r2 I2 J))) else (P12_keeps l0 I R (fun I1 => (∃ f, P12_chance_b25 l0 l1 R Q f 0 0 I1 J))))))
set_option maxRecDepth 20000 in
theorem C12_chance {ad : Nat → Nat} {n : Nat} {I J : mI} {R : mR} {Q : Int → mI → mI → Prop} {l0 : Nat} {l1 : Int} (hk0 : kK l0 = 12) (hw : P12_chance l0 l1 I J R Q) : wMet yX12_chance cX12_chance 5 (some .int) 9 214 ad n I J R [vr l0, vi l1] (fun r I' J' R' => (R' = R) ∧ Q r I' J') := by
  refine wMet_of (by decide) (Nat.le_of_ble_eq_true rfl) (fun C hC hRm hE => ?_)
  refine (show WM C ad n I J R 0 0 0 [(0, vr l0), (1, vi l1)] [] from ?_)
  unfold P12_chance at hw
  refine wm_aload_n hC 0 dX12_chance_0 rfl (k_ne0 hk0 (by decide)) ?_
  refine wm_iload_n hC 1 dX12_chance_1 rfl ?_
  refine wm_iconst hC dX12_chance_2 (k := ?_)
  refine wm_bipush hC dX12_chance_3 (k := ?_)
  refine y_callV_z_n hC hRm ml_X12_529 hk0 (C12_isAhead hk0 hw) (Nat.le_of_ble_eq_true rfl) (Nat.le_of_ble_eq_true rfl) ⟨Nat.zero_le _, Nat.zero_le _⟩ rfl (st := []) rfl (Nat.le_of_ble_eq_true rfl) dX12_chance_5 (fun r1 hw => ?_)
  refine wm_if_ne (tgt := 17) hC dX12_chance_8 (by decide) hw (fun hw => ?_) (fun hw => ?_)
  · refine wm_aload_n hC 0 dX12_chance_11 rfl (k_ne0 hk0 (by decide)) ?_
    refine wm_iconst hC dX12_chance_12 (k := ?_)
    refine y_callV_i_I hC hRm ml_X12_222 hk0 (C12_refuses hk0 hw) (Nat.le_of_ble_eq_true rfl) (Nat.le_of_ble_eq_true rfl) ⟨Nat.zero_le _, Nat.zero_le _⟩ rfl (st := []) rfl (Nat.le_of_ble_eq_true rfl) dX12_chance_13 (fun r2 I2 hw => ?_)
    exact wm_ireturn hC hE dX12_chance_16 ⟨rfl, hw⟩
  · refine wm_aload_n hC 0 dX12_chance_17 rfl (k_ne0 hk0 (by decide)) ?_
    refine y_callV_v_I hC hRm ml_X12_554 hk0 (C12_keeps hk0 hw) (Nat.le_of_ble_eq_true rfl) (Nat.le_of_ble_eq_true rfl) ⟨Nat.zero_le _, Nat.zero_le _⟩ rfl (st := []) rfl (Nat.le_of_ble_eq_true rfl) dX12_chance_18 (fun I1 hw => ?_)
    refine wm_iconst hC dX12_chance_21 (k := ?_)
    refine wm_istore_n hC dX12_chance_22 (by decide) (L2 := [(2, vi 0), (0, vr l0), (1, vi l1)]) rfl ?_
    refine wm_iconst hC dX12_chance_23 (k := ?_)
    refine wm_istore_n hC dX12_chance_24 (by decide) (L2 := [(3, vi 0), (2, vi 0), (0, vr l0), (1, vi l1)]) rfl ?_
    obtain ⟨f, hw⟩ := hw
    refine wm_sub [2, 3, 1, 0] (L2 := [(0, vr l0), (1, vi l1), (2, vi 0), (3, vi 0)]) rfl ?_
    exact W12_chance_b25 hC hRm hE hk0 f _ _ _ _ hw
def P12_paint_b31 (l0 : Nat) (I : mI) (R : mR) (Q : Int → mI → Prop) : Prop := (P12_refuses l0 3 I R (fun r3 I3 => (if r3 < 0 then (Q 0 I3) else (Q 1 I3))))
set_option maxRecDepth 20000 in
theorem W12_paint_b31 {C : wX} {ad : Nat → Nat} {n : Nat} {I J : mI} {R : mR} {Q : Int → mI → Prop} (hC : wOK C cX12_paint 3 RX12) (hRm : wRm C 3 55 0 0) (hE : wEnd C (some .boolean) ad n (fun r I' J' R' => (J' = J ∧ R' = R) ∧ Q r I')) {l0 : Nat}   (hk0 : kK l0 = 12)  (hw : P12_paint_b31 l0 I R Q) : WM C ad n I J R 0 0 31 [(0, vr l0)] [] := by
  unfold P12_paint_b31 at hw
  refine wm_aload_n hC 0 dX12_paint_31 rfl (k_ne0 hk0 (by decide)) ?_
  refine wm_iconst hC dX12_paint_32 (k := ?_)
  refine y_callV_i_I hC hRm ml_X12_222 hk0 (C12_refuses hk0 hw) (Nat.le_of_ble_eq_true rfl) (Nat.le_of_ble_eq_true rfl) ⟨Nat.zero_le _, Nat.zero_le _⟩ rfl (st := []) rfl (Nat.le_of_ble_eq_true rfl) dX12_paint_33 (fun r3 I3 hw => ?_)
  refine wm_if_lt (tgt := 43) hC dX12_paint_36 (by decide) hw (fun hw => ?_) (fun hw => ?_)
  · refine wm_iconst hC dX12_paint_43 (k := ?_)
    exact wm_zreturn hC hE (Or.inl rfl) dX12_paint_44 ⟨⟨rfl, rfl⟩, hw⟩
  · refine wm_iconst hC dX12_paint_39 (k := ?_)
    refine wm_goto (tgt := 44) hC dX12_paint_40 (by decide) ?_
    exact wm_zreturn hC hE (Or.inr rfl) dX12_paint_44 ⟨⟨rfl, rfl⟩, hw⟩
def P12_paint_b21 (l0 : Nat) (l1 : Int) (l2 : Int) (I : mI) (R : mR) (Q : Int → mI → Prop) : Prop := (kK (R l0 49) = 21 ∧ (((0 : Int) ≤ l1 ∧ l1 < (kN (R l0 49) : Int)) ∧ (if (I (R l0 49) l1) = l2 then (P12_paint_b31 l0 I R Q) else (P12_keeps l0 I R (fun I1 => (kK (R l0 49) = 21 ∧ (((0 : Int) ≤ l1 ∧ l1 < (kN (R l0 49) : Int)) ∧ wLet (up I1 (R l0 49) l1 l2) (fun I2 => (Q 1 I2)))))))))
set_option maxRecDepth 20000 in
theorem W12_paint_b21 {C : wX} {ad : Nat → Nat} {n : Nat} {I J : mI} {R : mR} {Q : Int → mI → Prop} (hC : wOK C cX12_paint 3 RX12) (hRm : wRm C 3 55 0 0) (hE : wEnd C (some .boolean) ad n (fun r I' J' R' => (J' = J ∧ R' = R) ∧ Q r I')) {l0 : Nat} {l1 : Int} {l2 : Int}   (hk0 : kK l0 = 12)  (hw : P12_paint_b21 l0 l1 l2 I R Q) : WM C ad n I J R 0 0 21 [(0, vr l0), (1, vi l1), (2, vi l2)] [] := by
  unfold P12_paint_b21 at hw
  refine wm_aload_n hC 0 dX12_paint_21 rfl (k_ne0 hk0 (by decide)) ?_
  refine x_getR2 hC 49 fl_X12_162 rfl hk0 dX12_paint_22 hw (fun g1 hw => ?_)
  refine wm_iload_n hC 1 dX12_paint_25 rfl ?_
  refine x_iald hC g1 dX12_paint_26 hw (fun hw => ?_)
  refine wm_iload_n hC 2 dX12_paint_27 rfl ?_
  refine wm_icmp_ne (tgt := 45) hC dX12_paint_28 (by decide) hw (fun hw => ?_) (fun hw => ?_)
  · refine wm_sub [0] (L2 := [(0, vr l0)]) rfl ?_
    exact W12_paint_b31 hC hRm hE hk0 hw
  · refine wm_aload_n hC 0 dX12_paint_45 rfl (k_ne0 hk0 (by decide)) ?_
    refine y_callV_v_I hC hRm ml_X12_554 hk0 (C12_keeps hk0 hw) (Nat.le_of_ble_eq_true rfl) (Nat.le_of_ble_eq_true rfl) ⟨Nat.zero_le _, Nat.zero_le _⟩ rfl (st := []) rfl (Nat.le_of_ble_eq_true rfl) dX12_paint_46 (fun I1 hw => ?_)
    refine wm_aload_n hC 0 dX12_paint_49 rfl (k_ne0 hk0 (by decide)) ?_
    refine x_getR2 hC 49 fl_X12_162 rfl hk0 dX12_paint_50 hw (fun g2 hw => ?_)
    refine wm_iload_n hC 1 dX12_paint_53 rfl ?_
    refine wm_iload_n hC 2 dX12_paint_54 rfl ?_
    refine x_iast hC g2 dX12_paint_55 hw (fun I2 hw => ?_)
    refine wm_iconst hC dX12_paint_56 (k := ?_)
    exact wm_zreturn hC hE (Or.inr rfl) dX12_paint_57 ⟨⟨rfl, rfl⟩, hw⟩
def P12_paint (l0 : Nat) (l1 : Int) (l2 : Int) (I : mI) (R : mR) (Q : Int → mI → Prop) : Prop := (P12_isThing l0 l1 I R (fun r1 => (if r1 = 0 then (P12_paint_b31 l0 I R Q) else (if l2 = (-1) then (P12_paint_b21 l0 l1 l2 I R Q) else (P12_isColour l0 l2 I R (fun r2 => (if r2 = 0 then (P12_paint_b31 l0 I R Q) else (P12_paint_b21 l0 l1 l2 I R Q))))))))
set_option maxRecDepth 20000 in
theorem C12_paint {ad : Nat → Nat} {n : Nat} {I J : mI} {R : mR} {Q : Int → mI → Prop} {l0 : Nat} {l1 : Int} {l2 : Int} (hk0 : kK l0 = 12) (hw : P12_paint l0 l1 l2 I R Q) : wMet yX12_paint cX12_paint 3 (some .boolean) 3 55 ad n I J R [vr l0, vi l1, vi l2] (fun r I' J' R' => (J' = J ∧ R' = R) ∧ Q r I') := by
  refine wMet_of (by decide) (Nat.le_of_ble_eq_true rfl) (fun C hC hRm hE => ?_)
  refine (show WM C ad n I J R 0 0 0 [(0, vr l0), (1, vi l1), (2, vi l2)] [] from ?_)
  unfold P12_paint at hw
  refine wm_aload_n hC 0 dX12_paint_0 rfl (k_ne0 hk0 (by decide)) ?_
  refine wm_iload_n hC 1 dX12_paint_1 rfl ?_
  refine y_callV_z_n hC hRm ml_X12_513 hk0 (C12_isThing hk0 hw) (Nat.le_of_ble_eq_true rfl) (Nat.le_of_ble_eq_true rfl) ⟨Nat.zero_le _, Nat.zero_le _⟩ rfl (st := []) rfl (Nat.le_of_ble_eq_true rfl) dX12_paint_2 (fun r1 hw => ?_)
  refine wm_if_eq (tgt := 31) hC dX12_paint_5 (by decide) hw (fun hw => ?_) (fun hw => ?_)
  · refine wm_sub [0] (L2 := [(0, vr l0)]) rfl ?_
    exact W12_paint_b31 hC hRm hE hk0 hw
  · refine wm_iload_n hC 2 dX12_paint_8 rfl ?_
    refine wm_iconst hC dX12_paint_9 (k := ?_)
    refine wm_icmp_eq (tgt := 21) hC dX12_paint_10 (by decide) hw (fun hw => ?_) (fun hw => ?_)
    · exact W12_paint_b21 hC hRm hE hk0 hw
    · refine wm_aload_n hC 0 dX12_paint_13 rfl (k_ne0 hk0 (by decide)) ?_
      refine wm_iload_n hC 2 dX12_paint_14 rfl ?_
      refine y_callV_z_n hC hRm ml_X12_510 hk0 (C12_isColour hk0 hw) (Nat.le_of_ble_eq_true rfl) (Nat.le_of_ble_eq_true rfl) ⟨Nat.zero_le _, Nat.zero_le _⟩ rfl (st := []) rfl (Nat.le_of_ble_eq_true rfl) dX12_paint_15 (fun r2 hw => ?_)
      refine wm_if_eq (tgt := 31) hC dX12_paint_18 (by decide) hw (fun hw => ?_) (fun hw => ?_)
      · refine wm_sub [0] (L2 := [(0, vr l0)]) rfl ?_
        exact W12_paint_b31 hC hRm hE hk0 hw
      · exact W12_paint_b21 hC hRm hE hk0 hw
def P12_swap_b21 (l0 : Nat) (I : mI) (R : mR) (Q : Int → mI → Prop) : Prop := (P12_refuses l0 3 I R (fun r3 I4 => (if r3 < 0 then (Q 0 I4) else (Q 1 I4))))
set_option maxRecDepth 20000 in
theorem W12_swap_b21 {C : wX} {ad : Nat → Nat} {n : Nat} {I J : mI} {R : mR} {Q : Int → mI → Prop} (hC : wOK C cX12_swap 4 RX12) (hRm : wRm C 3 55 0 0) (hE : wEnd C (some .boolean) ad n (fun r I' J' R' => (J' = J ∧ R' = R) ∧ Q r I')) {l0 : Nat}   (hk0 : kK l0 = 12)  (hw : P12_swap_b21 l0 I R Q) : WM C ad n I J R 0 0 21 [(0, vr l0)] [] := by
  unfold P12_swap_b21 at hw
  refine wm_aload_n hC 0 dX12_swap_21 rfl (k_ne0 hk0 (by decide)) ?_
  refine wm_iconst hC dX12_swap_22 (k := ?_)
  refine y_callV_i_I hC hRm ml_X12_222 hk0 (C12_refuses hk0 hw) (Nat.le_of_ble_eq_true rfl) (Nat.le_of_ble_eq_true rfl) ⟨Nat.zero_le _, Nat.zero_le _⟩ rfl (st := []) rfl (Nat.le_of_ble_eq_true rfl) dX12_swap_23 (fun r3 I4 hw => ?_)
  refine wm_if_lt (tgt := 33) hC dX12_swap_26 (by decide) hw (fun hw => ?_) (fun hw => ?_)
  · refine wm_iconst hC dX12_swap_33 (k := ?_)
    exact wm_zreturn hC hE (Or.inl rfl) dX12_swap_34 ⟨⟨rfl, rfl⟩, hw⟩
  · refine wm_iconst hC dX12_swap_29 (k := ?_)
    refine wm_goto (tgt := 34) hC dX12_swap_30 (by decide) ?_
    exact wm_zreturn hC hE (Or.inr rfl) dX12_swap_34 ⟨⟨rfl, rfl⟩, hw⟩
def P12_swap (l0 : Nat) (l1 : Int) (l2 : Int) (I : mI) (R : mR) (Q : Int → mI → Prop) : Prop := (P12_isBlind l0 l1 I R (fun r1 => (if r1 = 0 then (P12_swap_b21 l0 I R Q) else (P12_isBlind l0 l2 I R (fun r2 => (if r2 = 0 then (P12_swap_b21 l0 I R Q) else (if l1 = l2 then (P12_swap_b21 l0 I R Q) else (P12_keeps l0 I R (fun I1 => (kK (R l0 47) = 21 ∧ (((0 : Int) ≤ l1 ∧ l1 < (kN (R l0 47) : Int)) ∧ (kK (R l0 47) = 21 ∧ (kK (R l0 47) = 21 ∧ (((0 : Int) ≤ l2 ∧ l2 < (kN (R l0 47) : Int)) ∧ (((0 : Int) ≤ l1 ∧ l1 < (kN (R l0 47) : Int)) ∧ wLet (up I1 (R l0 47) l1 (I1 (R l0 47) l2)) (fun I2 => (kK (R l0 47) = 21 ∧ (((0 : Int) ≤ l2 ∧ l2 < (kN (R l0 47) : Int)) ∧ wLet (up I2 (R l0 47) l2 (I1 (R l0 47) l1)) (fun I3 => (Q 1 I3))))))))))))))))))))
set_option maxRecDepth 20000 in
theorem C12_swap {ad : Nat → Nat} {n : Nat} {I J : mI} {R : mR} {Q : Int → mI → Prop} {l0 : Nat} {l1 : Int} {l2 : Int} (hk0 : kK l0 = 12) (hw : P12_swap l0 l1 l2 I R Q) : wMet yX12_swap cX12_swap 4 (some .boolean) 3 55 ad n I J R [vr l0, vi l1, vi l2] (fun r I' J' R' => (J' = J ∧ R' = R) ∧ Q r I') := by
  refine wMet_of (by decide) (Nat.le_of_ble_eq_true rfl) (fun C hC hRm hE => ?_)
  refine (show WM C ad n I J R 0 0 0 [(0, vr l0), (1, vi l1), (2, vi l2)] [] from ?_)
  unfold P12_swap at hw
  refine wm_aload_n hC 0 dX12_swap_0 rfl (k_ne0 hk0 (by decide)) ?_
  refine wm_iload_n hC 1 dX12_swap_1 rfl ?_
  refine y_callV_z_n hC hRm ml_X12_507 hk0 (C12_isBlind hk0 hw) (Nat.le_of_ble_eq_true rfl) (Nat.le_of_ble_eq_true rfl) ⟨Nat.zero_le _, Nat.zero_le _⟩ rfl (st := []) rfl (Nat.le_of_ble_eq_true rfl) dX12_swap_2 (fun r1 hw => ?_)
  refine wm_if_eq (tgt := 21) hC dX12_swap_5 (by decide) hw (fun hw => ?_) (fun hw => ?_)
  · refine wm_sub [0] (L2 := [(0, vr l0)]) rfl ?_
    exact W12_swap_b21 hC hRm hE hk0 hw
  · refine wm_aload_n hC 0 dX12_swap_8 rfl (k_ne0 hk0 (by decide)) ?_
    refine wm_iload_n hC 2 dX12_swap_9 rfl ?_
    refine y_callV_z_n hC hRm ml_X12_507 hk0 (C12_isBlind hk0 hw) (Nat.le_of_ble_eq_true rfl) (Nat.le_of_ble_eq_true rfl) ⟨Nat.zero_le _, Nat.zero_le _⟩ rfl (st := []) rfl (Nat.le_of_ble_eq_true rfl) dX12_swap_10 (fun r2 hw => ?_)
    refine wm_if_eq (tgt := 21) hC dX12_swap_13 (by decide) hw (fun hw => ?_) (fun hw => ?_)
    · refine wm_sub [0] (L2 := [(0, vr l0)]) rfl ?_
      exact W12_swap_b21 hC hRm hE hk0 hw
    · refine wm_iload_n hC 1 dX12_swap_16 rfl ?_
      refine wm_iload_n hC 2 dX12_swap_17 rfl ?_
      refine wm_icmp_ne (tgt := 35) hC dX12_swap_18 (by decide) hw (fun hw => ?_) (fun hw => ?_)
      · refine wm_sub [0] (L2 := [(0, vr l0)]) rfl ?_
        exact W12_swap_b21 hC hRm hE hk0 hw
      · refine wm_aload_n hC 0 dX12_swap_35 rfl (k_ne0 hk0 (by decide)) ?_
        refine y_callV_v_I hC hRm ml_X12_554 hk0 (C12_keeps hk0 hw) (Nat.le_of_ble_eq_true rfl) (Nat.le_of_ble_eq_true rfl) ⟨Nat.zero_le _, Nat.zero_le _⟩ rfl (st := []) rfl (Nat.le_of_ble_eq_true rfl) dX12_swap_36 (fun I1 hw => ?_)
        refine wm_aload_n hC 0 dX12_swap_39 rfl (k_ne0 hk0 (by decide)) ?_
        refine x_getR2 hC 47 fl_X12_156 rfl hk0 dX12_swap_40 hw (fun g1 hw => ?_)
        refine wm_iload_n hC 1 dX12_swap_43 rfl ?_
        refine x_iald hC g1 dX12_swap_44 hw (fun hw => ?_)
        refine wm_istore_n hC dX12_swap_45 (by decide) (L2 := [(3, vi (I1 (R l0 47) l1)), (0, vr l0), (1, vi l1), (2, vi l2)]) rfl ?_
        refine wm_aload_n hC 1 dX12_swap_46 rfl (k_ne0 hk0 (by decide)) ?_
        refine x_getR2 hC 47 fl_X12_156 rfl hk0 dX12_swap_47 hw (fun g2 hw => ?_)
        refine wm_iload_n hC 2 dX12_swap_50 rfl ?_
        refine wm_aload_n hC 1 dX12_swap_51 rfl (k_ne0 hk0 (by decide)) ?_
        refine x_getR2 hC 47 fl_X12_156 rfl hk0 dX12_swap_52 hw (fun g3 hw => ?_)
        refine wm_iload_n hC 3 dX12_swap_55 rfl ?_
        refine x_iald hC g3 dX12_swap_56 hw (fun hw => ?_)
        refine x_iast hC g2 dX12_swap_57 hw (fun I2 hw => ?_)
        refine wm_aload_n hC 1 dX12_swap_58 rfl (k_ne0 hk0 (by decide)) ?_
        refine x_getR2 hC 47 fl_X12_156 rfl hk0 dX12_swap_59 hw (fun g4 hw => ?_)
        refine wm_iload_n hC 3 dX12_swap_62 rfl ?_
        refine wm_iload_n hC 0 dX12_swap_63 rfl ?_
        refine x_iast hC g4 dX12_swap_64 hw (fun I3 hw => ?_)
        refine wm_iconst hC dX12_swap_65 (k := ?_)
        exact wm_zreturn hC hE (Or.inr rfl) dX12_swap_66 ⟨⟨rfl, rfl⟩, hw⟩
def P12_fill_b21 (l0 : Nat) (I : mI) (R : mR) (Q : Int → mI → Prop) : Prop := (P12_refuses l0 3 I R (fun r2 I3 => (if r2 < 0 then (Q 0 I3) else (Q 1 I3))))
set_option maxRecDepth 20000 in
theorem W12_fill_b21 {C : wX} {ad : Nat → Nat} {n : Nat} {I J : mI} {R : mR} {Q : Int → mI → Prop} (hC : wOK C cX12_fill 2 RX12) (hRm : wRm C 3 55 0 0) (hE : wEnd C (some .boolean) ad n (fun r I' J' R' => (J' = J ∧ R' = R) ∧ Q r I')) {l0 : Nat}   (hk0 : kK l0 = 12)  (hw : P12_fill_b21 l0 I R Q) : WM C ad n I J R 0 0 21 [(0, vr l0)] [] := by
  unfold P12_fill_b21 at hw
  refine wm_aload_n hC 0 dX12_fill_21 rfl (k_ne0 hk0 (by decide)) ?_
  refine wm_iconst hC dX12_fill_22 (k := ?_)
  refine y_callV_i_I hC hRm ml_X12_222 hk0 (C12_refuses hk0 hw) (Nat.le_of_ble_eq_true rfl) (Nat.le_of_ble_eq_true rfl) ⟨Nat.zero_le _, Nat.zero_le _⟩ rfl (st := []) rfl (Nat.le_of_ble_eq_true rfl) dX12_fill_23 (fun r2 I3 hw => ?_)
  refine wm_if_lt (tgt := 33) hC dX12_fill_26 (by decide) hw (fun hw => ?_) (fun hw => ?_)
  · refine wm_iconst hC dX12_fill_33 (k := ?_)
    exact wm_zreturn hC hE (Or.inl rfl) dX12_fill_34 ⟨⟨rfl, rfl⟩, hw⟩
  · refine wm_iconst hC dX12_fill_29 (k := ?_)
    refine wm_goto (tgt := 34) hC dX12_fill_30 (by decide) ?_
    exact wm_zreturn hC hE (Or.inr rfl) dX12_fill_34 ⟨⟨rfl, rfl⟩, hw⟩
def P12_fill (l0 : Nat) (l1 : Int) (I : mI) (R : mR) (Q : Int → mI → Prop) : Prop := (P12_is l1 0 9999 (fun r1 => (if r1 = 0 then (P12_fill_b21 l0 I R Q) else (kK (R l0 46) = 21 ∧ (((0 : Int) ≤ (0 : Int) ∧ (0 : Int) < (kN (R l0 46) : Int)) ∧ (if (I (R l0 46) (0 : Int)) = l1 then (P12_fill_b21 l0 I R Q) else (P12_keeps l0 I R (fun I1 => (kK (R l0 46) = 21 ∧ (((0 : Int) ≤ (0 : Int) ∧ (0 : Int) < (kN (R l0 46) : Int)) ∧ wLet (up I1 (R l0 46) (0 : Int) l1) (fun I2 => (Q 1 I2))))))))))))
set_option maxRecDepth 20000 in
theorem C12_fill {ad : Nat → Nat} {n : Nat} {I J : mI} {R : mR} {Q : Int → mI → Prop} {l0 : Nat} {l1 : Int} (hk0 : kK l0 = 12) (hw : P12_fill l0 l1 I R Q) : wMet yX12_fill cX12_fill 2 (some .boolean) 3 55 ad n I J R [vr l0, vi l1] (fun r I' J' R' => (J' = J ∧ R' = R) ∧ Q r I') := by
  refine wMet_of (by decide) (Nat.le_of_ble_eq_true rfl) (fun C hC hRm hE => ?_)
  refine (show WM C ad n I J R 0 0 0 [(0, vr l0), (1, vi l1)] [] from ?_)
  unfold P12_fill at hw
  refine wm_iload_n hC 1 dX12_fill_0 rfl ?_
  refine wm_iconst hC dX12_fill_1 (k := ?_)
  refine wm_sipush hC dX12_fill_2 (k := ?_)
  refine y_callS_z_n hC hRm ml_X12_309 (C12_is  hw) (Nat.le_of_ble_eq_true rfl) (Nat.le_of_ble_eq_true rfl) ⟨Nat.zero_le _, Nat.zero_le _⟩ rfl (st := []) rfl (Nat.le_of_ble_eq_true rfl) dX12_fill_5 (fun r1 hw => ?_)
  refine wm_if_eq (tgt := 21) hC dX12_fill_8 (by decide) hw (fun hw => ?_) (fun hw => ?_)
  · refine wm_sub [0] (L2 := [(0, vr l0)]) rfl ?_
    exact W12_fill_b21 hC hRm hE hk0 hw
  · refine wm_aload_n hC 0 dX12_fill_11 rfl (k_ne0 hk0 (by decide)) ?_
    refine x_getR2 hC 46 fl_X12_153 rfl hk0 dX12_fill_12 hw (fun g1 hw => ?_)
    refine wm_iconst hC dX12_fill_15 (k := ?_)
    refine x_iald hC g1 dX12_fill_16 hw (fun hw => ?_)
    refine wm_iload_n hC 1 dX12_fill_17 rfl ?_
    refine wm_icmp_ne (tgt := 35) hC dX12_fill_18 (by decide) hw (fun hw => ?_) (fun hw => ?_)
    · refine wm_sub [0] (L2 := [(0, vr l0)]) rfl ?_
      exact W12_fill_b21 hC hRm hE hk0 hw
    · refine wm_aload_n hC 0 dX12_fill_35 rfl (k_ne0 hk0 (by decide)) ?_
      refine y_callV_v_I hC hRm ml_X12_554 hk0 (C12_keeps hk0 hw) (Nat.le_of_ble_eq_true rfl) (Nat.le_of_ble_eq_true rfl) ⟨Nat.zero_le _, Nat.zero_le _⟩ rfl (st := []) rfl (Nat.le_of_ble_eq_true rfl) dX12_fill_36 (fun I1 hw => ?_)
      refine wm_aload_n hC 0 dX12_fill_39 rfl (k_ne0 hk0 (by decide)) ?_
      refine x_getR2 hC 46 fl_X12_153 rfl hk0 dX12_fill_40 hw (fun g2 hw => ?_)
      refine wm_iconst hC dX12_fill_43 (k := ?_)
      refine wm_iload_n hC 1 dX12_fill_44 rfl ?_
      refine x_iast hC g2 dX12_fill_45 hw (fun I2 hw => ?_)
      refine wm_iconst hC dX12_fill_46 (k := ?_)
      exact wm_zreturn hC hE (Or.inr rfl) dX12_fill_47 ⟨⟨rfl, rfl⟩, hw⟩
def P12_seed (l0 : Nat) (l1 : Int) (I : mI) (J : mI) (R : mR) (Q : Int → mI → mI → Prop) : Prop := (if (0 : Int) ≤ l1 then (wLet (up J l0 54 l1) (fun J1 => (Q 1 I J1))) else (P12_refuses l0 5 I R (fun r1 I1 => (if r1 < 0 then (Q 0 I1 J) else (Q 1 I1 J)))))
set_option maxRecDepth 20000 in
theorem C12_seed {ad : Nat → Nat} {n : Nat} {I J : mI} {R : mR} {Q : Int → mI → mI → Prop} {l0 : Nat} {l1 : Int} (hk0 : kK l0 = 12) (hw : P12_seed l0 l1 I J R Q) : wMet yX12_seed cX12_seed 2 (some .boolean) 2 33 ad n I J R [vr l0, vi l1] (fun r I' J' R' => (R' = R) ∧ Q r I' J') := by
  refine wMet_of (by decide) (Nat.le_of_ble_eq_true rfl) (fun C hC hRm hE => ?_)
  refine (show WM C ad n I J R 0 0 0 [(0, vr l0), (1, vi l1)] [] from ?_)
  unfold P12_seed at hw
  refine wm_iload_n hC 1 dX12_seed_0 rfl ?_
  refine wm_if_ge (tgt := 18) hC dX12_seed_1 (by decide) hw (fun hw => ?_) (fun hw => ?_)
  · refine wm_aload_n hC 0 dX12_seed_18 rfl (k_ne0 hk0 (by decide)) ?_
    refine wm_iload_n hC 1 dX12_seed_19 rfl ?_
    refine wm_i2l hC dX12_seed_20 ?_
    refine x_putJ hC 54 fl_X12_177 rfl hk0 dX12_seed_21 hw (fun J1 hw => ?_)
    refine wm_iconst hC dX12_seed_24 (k := ?_)
    exact wm_zreturn hC hE (Or.inr rfl) dX12_seed_25 ⟨rfl, hw⟩
  · refine wm_aload_n hC 0 dX12_seed_4 rfl (k_ne0 hk0 (by decide)) ?_
    refine wm_iconst hC dX12_seed_5 (k := ?_)
    refine y_callV_i_I hC hRm ml_X12_222 hk0 (C12_refuses hk0 hw) (Nat.le_of_ble_eq_true rfl) (Nat.le_of_ble_eq_true rfl) ⟨Nat.zero_le _, Nat.zero_le _⟩ rfl (st := []) rfl (Nat.le_of_ble_eq_true rfl) dX12_seed_6 (fun r1 I1 hw => ?_)
    refine wm_if_lt (tgt := 16) hC dX12_seed_9 (by decide) hw (fun hw => ?_) (fun hw => ?_)
    · refine wm_iconst hC dX12_seed_16 (k := ?_)
      exact wm_zreturn hC hE (Or.inl rfl) dX12_seed_17 ⟨rfl, hw⟩
    · refine wm_iconst hC dX12_seed_12 (k := ?_)
      refine wm_goto (tgt := 17) hC dX12_seed_13 (by decide) ?_
      exact wm_zreturn hC hE (Or.inr rfl) dX12_seed_17 ⟨rfl, hw⟩
def P12_kept (l0 : Nat) (l1 : Int) (l2 : Int) (I : mI) (R : mR) (Q : Int → Prop) : Prop := (kK (R l0 50) = 21 ∧ (((0 : Int) ≤ (0 : Int) ∧ (0 : Int) < (kN (R l0 50) : Int)) ∧ (rg ((I (R l0 50) (0 : Int)) - 1) ∧ (P12_is l1 0 ((I (R l0 50) (0 : Int)) - 1) (fun r1 => (if r1 = 0 then (Q (-1)) else (P12_is l2 0 2 (fun r2 => (if r2 = 0 then (Q (-1)) else (kK (R l0 51) = 21 ∧ (rg (3 * l1) ∧ (rg ((3 * l1) + l2) ∧ (((0 : Int) ≤ ((3 * l1) + l2) ∧ ((3 * l1) + l2) < (kN (R l0 51) : Int)) ∧ (Q (I (R l0 51) ((3 * l1) + l2))))))))))))))))
set_option maxRecDepth 20000 in
theorem C12_kept {ad : Nat → Nat} {n : Nat} {I J : mI} {R : mR} {Q : Int → Prop} {l0 : Nat} {l1 : Int} {l2 : Int} (hk0 : kK l0 = 12) (hw : P12_kept l0 l1 l2 I R Q) : wMet yX12_kept cX12_kept 3 (some .int) 2 34 ad n I J R [vr l0, vi l1, vi l2] (fun r I' J' R' => (I' = I ∧ J' = J ∧ R' = R) ∧ Q r) := by
  refine wMet_of (by decide) (Nat.le_of_ble_eq_true rfl) (fun C hC hRm hE => ?_)
  refine (show WM C ad n I J R 0 0 0 [(0, vr l0), (1, vi l1), (2, vi l2)] [] from ?_)
  unfold P12_kept at hw
  refine wm_iload_n hC 1 dX12_kept_0 rfl ?_
  refine wm_iconst hC dX12_kept_1 (k := ?_)
  refine wm_aload_n hC 0 dX12_kept_2 rfl (k_ne0 hk0 (by decide)) ?_
  refine x_getR2 hC 50 fl_X12_165 rfl hk0 dX12_kept_3 hw (fun g1 hw => ?_)
  refine wm_iconst hC dX12_kept_6 (k := ?_)
  refine x_iald hC g1 dX12_kept_7 hw (fun hw => ?_)
  refine wm_iconst hC dX12_kept_8 (k := ?_)
  refine x_isub hC dX12_kept_9 hw (fun hw => ?_)
  refine y_callS_z_n hC hRm ml_X12_309 (C12_is  hw) (Nat.le_of_ble_eq_true rfl) (Nat.le_of_ble_eq_true rfl) ⟨Nat.zero_le _, Nat.zero_le _⟩ rfl (st := []) rfl (Nat.le_of_ble_eq_true rfl) dX12_kept_10 (fun r1 hw => ?_)
  refine wm_if_eq (tgt := 38) hC dX12_kept_13 (by decide) hw (fun hw => ?_) (fun hw => ?_)
  · refine wm_iconst hC dX12_kept_38 (k := ?_)
    exact wm_ireturn hC hE dX12_kept_39 ⟨⟨rfl, rfl, rfl⟩, hw⟩
  · refine wm_iload_n hC 2 dX12_kept_16 rfl ?_
    refine wm_iconst hC dX12_kept_17 (k := ?_)
    refine wm_iconst hC dX12_kept_18 (k := ?_)
    refine y_callS_z_n hC hRm ml_X12_309 (C12_is  hw) (Nat.le_of_ble_eq_true rfl) (Nat.le_of_ble_eq_true rfl) ⟨Nat.zero_le _, Nat.zero_le _⟩ rfl (st := []) rfl (Nat.le_of_ble_eq_true rfl) dX12_kept_19 (fun r2 hw => ?_)
    refine wm_if_eq (tgt := 38) hC dX12_kept_22 (by decide) hw (fun hw => ?_) (fun hw => ?_)
    · refine wm_iconst hC dX12_kept_38 (k := ?_)
      exact wm_ireturn hC hE dX12_kept_39 ⟨⟨rfl, rfl, rfl⟩, hw⟩
    · refine wm_aload_n hC 0 dX12_kept_25 rfl (k_ne0 hk0 (by decide)) ?_
      refine x_getR2 hC 51 fl_X12_168 rfl hk0 dX12_kept_26 hw (fun g2 hw => ?_)
      refine wm_iconst hC dX12_kept_29 (k := ?_)
      refine wm_iload_n hC 1 dX12_kept_30 rfl ?_
      refine x_imul hC dX12_kept_31 hw (fun hw => ?_)
      refine wm_iload_n hC 2 dX12_kept_32 rfl ?_
      refine x_iadd hC dX12_kept_33 hw (fun hw => ?_)
      refine x_iald hC g2 dX12_kept_34 hw (fun hw => ?_)
      refine wm_goto (tgt := 39) hC dX12_kept_35 (by decide) ?_
      exact wm_ireturn hC hE dX12_kept_39 ⟨⟨rfl, rfl, rfl⟩, hw⟩
def P12_writes (l0 : Nat) (l1 : Int) (I : mI) (R : mR) (Q : mI → Prop) : Prop := (kK (R l0 67) = 21 ∧ (((0 : Int) ≤ (I l0 68) ∧ (I l0 68) < (kN (R l0 67) : Int)) ∧ wLet (up I (R l0 67) (I l0 68) (bAnd l1 255)) (fun I1 => (rg ((I1 l0 68) + 1) ∧ (wLet (up I1 l0 68 ((I1 l0 68) + 1)) (fun I2 => (Q I2)))))))
set_option maxRecDepth 20000 in
theorem C12_writes {ad : Nat → Nat} {n : Nat} {I J : mI} {R : mR} {Q : mI → Prop} {l0 : Nat} {l1 : Int} (hk0 : kK l0 = 12) (hw : P12_writes l0 l1 I R Q) : wMet yX12_writes cX12_writes 2 none 1 12 ad n I J R [vr l0, vi l1] (fun _ I' J' R' => (J' = J ∧ R' = R) ∧ Q I') := by
  refine wMet_of (by decide) (Nat.le_of_ble_eq_true rfl) (fun C hC hRm hE => ?_)
  refine (show WM C ad n I J R 0 0 0 [(0, vr l0), (1, vi l1)] [] from ?_)
  unfold P12_writes at hw
  refine wm_aload_n hC 0 dX12_writes_0 rfl (k_ne0 hk0 (by decide)) ?_
  refine x_getR2 hC 67 fl_X12_216 rfl hk0 dX12_writes_1 hw (fun g1 hw => ?_)
  refine wm_aload_n hC 0 dX12_writes_4 rfl (k_ne0 hk0 (by decide)) ?_
  refine x_getI hC 68 fl_X12_219 rfl hk0 dX12_writes_5 ?_
  refine wm_iload_n hC 1 dX12_writes_8 rfl ?_
  refine wm_sipush hC dX12_writes_9 (k := ?_)
  refine wm_iand hC dX12_writes_12 ?_
  refine x_iast hC g1 dX12_writes_13 hw (fun I1 hw => ?_)
  refine wm_aload_n hC 0 dX12_writes_14 rfl (k_ne0 hk0 (by decide)) ?_
  refine wm_dup hC dX12_writes_15 (k := ?_)
  refine x_getI hC 68 fl_X12_219 rfl hk0 dX12_writes_16 ?_
  refine wm_iconst hC dX12_writes_19 (k := ?_)
  refine x_iadd hC dX12_writes_20 hw (fun hw => ?_)
  refine x_putI hC 68 fl_X12_219 rfl hk0 dX12_writes_21 hw (fun I2 hw => ?_)
  exact wm_return hC hE dX12_writes_24 ⟨⟨rfl, rfl⟩, hw⟩
def P12_image_b150_body (l0 : Nat) (I : mI) (R : mR) (Q : Int → mI → Prop) (k150 : Int → Int → Prop) (l1 : Int) (l2 : Int) : Prop := (if (I l0 68) ≤ l2 then (P12_writes l0 l1 I R (fun I9 => (Q (I9 l0 68) I9))) else (rg (5 * l1) ∧ (kK (R l0 67) = 21 ∧ (((0 : Int) ≤ l2 ∧ l2 < (kN (R l0 67) : Int)) ∧ (rg ((5 * l1) + (I (R l0 67) l2)) ∧ (wLet (Int.tmod ((5 * l1) + (I (R l0 67) l2)) 251) (fun x1 => (rg (l2 + 1) ∧ (k150 x1 (l2 + 1))))))))))
def P12_image_b150 (l0 : Nat) (I : mI) (R : mR) (Q : Int → mI → Prop) : Nat → Int → Int → Prop
  | 0 => fun _ _ => False
  | f + 1 => fun l1 l2 => P12_image_b150_body l0 I R Q (P12_image_b150 l0 I R Q f) l1 l2
set_option maxRecDepth 20000 in
theorem W12_image_b150_body {C : wX} {ad : Nat → Nat} {n : Nat} {I J : mI} {R : mR} {Q : Int → mI → Prop} (hC : wOK C cX12_image 3 RX12) (hRm : wRm C 2 33 0 0) (hE : wEnd C (some .int) ad n (fun r I' J' R' => (J' = J ∧ R' = R) ∧ Q r I')) {l0 : Nat} {l1 : Int} {l2 : Int}   (hk0 : kK l0 = 12)  {k150 : Int → Int → Prop} (kk150 : ∀ (y1 : Int) (y2 : Int), k150 y1 y2 → WM C ad n I J R 0 0 150 [(0, vr l0), (1, vi y1), (2, vi y2)] []) (hw : P12_image_b150_body l0 I R Q k150 l1 l2) : WM C ad n I J R 0 0 150 [(0, vr l0), (1, vi l1), (2, vi l2)] [] := by
  unfold P12_image_b150_body at hw
  refine wm_iload_n hC 2 dX12_image_150 rfl ?_
  refine wm_aload_n hC 0 dX12_image_151 rfl (k_ne0 hk0 (by decide)) ?_
  refine x_getI hC 68 fl_X12_219 rfl hk0 dX12_image_152 ?_
  refine wm_icmp_ge (tgt := 179) hC dX12_image_155 (by decide) hw (fun hw => ?_) (fun hw => ?_)
  · refine wm_aload_n hC 0 dX12_image_179 rfl (k_ne0 hk0 (by decide)) ?_
    refine wm_iload_n hC 1 dX12_image_180 rfl ?_
    refine y_callV_v_I hC hRm ml_X12_568 hk0 (C12_writes hk0 hw) (Nat.le_of_ble_eq_true rfl) (Nat.le_of_ble_eq_true rfl) ⟨Nat.zero_le _, Nat.zero_le _⟩ rfl (st := []) rfl (Nat.le_of_ble_eq_true rfl) dX12_image_181 (fun I9 hw => ?_)
    refine wm_aload_n hC 0 dX12_image_184 rfl (k_ne0 hk0 (by decide)) ?_
    refine x_getI hC 68 fl_X12_219 rfl hk0 dX12_image_185 ?_
    exact wm_ireturn hC hE dX12_image_188 ⟨⟨rfl, rfl⟩, hw⟩
  · refine wm_iconst hC dX12_image_158 (k := ?_)
    refine wm_iload_n hC 1 dX12_image_159 rfl ?_
    refine x_imul hC dX12_image_160 hw (fun hw => ?_)
    refine wm_aload_n hC 0 dX12_image_161 rfl (k_ne0 hk0 (by decide)) ?_
    refine x_getR2 hC 67 fl_X12_216 rfl hk0 dX12_image_162 hw (fun g11 hw => ?_)
    refine wm_iload_n hC 2 dX12_image_165 rfl ?_
    refine x_iald hC g11 dX12_image_166 hw (fun hw => ?_)
    refine x_iadd hC dX12_image_167 hw (fun hw => ?_)
    refine wm_sipush hC dX12_image_168 (k := ?_)
    refine x_iremP hC (by decide) dX12_image_171 ?_
    refine x_nameI hw (fun x1 hw => ?_)
    refine wm_istore_n hC dX12_image_172 (by decide) (L2 := [(1, vi x1), (0, vr l0), (2, vi l2)]) rfl ?_
    refine x_iinc hC 2 dX12_image_173 rfl (by decide) (L2 := [(2, vi (l2 + 1)), (1, vi x1), (0, vr l0)]) rfl hw (fun hw => ?_)
    refine wm_goto (tgt := 150) hC dX12_image_176 (by decide) ?_
    refine wm_sub [2, 1, 0] (L2 := [(0, vr l0), (1, vi x1), (2, vi (l2 + 1))]) rfl ?_
    exact kk150 _ _ hw
set_option maxRecDepth 20000 in
theorem W12_image_b150 {C : wX} {ad : Nat → Nat} {n : Nat} {I J : mI} {R : mR} {Q : Int → mI → Prop} (hC : wOK C cX12_image 3 RX12) (hRm : wRm C 2 33 0 0) (hE : wEnd C (some .int) ad n (fun r I' J' R' => (J' = J ∧ R' = R) ∧ Q r I')) {l0 : Nat}   (hk0 : kK l0 = 12)  : ∀ (f : Nat) (l1 : Int) (l2 : Int), P12_image_b150 l0 I R Q f l1 l2 → WM C ad n I J R 0 0 150 [(0, vr l0), (1, vi l1), (2, vi l2)] [] := by
  intro f
  induction f with
  | zero => intro l1 l2 hw; exact hw.elim
  | succ f ih => intro l1 l2 hw; exact W12_image_b150_body hC hRm hE hk0 (fun a0 a1 hw => ih a0 a1 hw) hw
def P12_image_b115_body (l0 : Nat) (R : mR) (Q : Int → mI → Prop) (k115 : Int → mI → Prop) (l1 : Int) (I : mI) : Prop := (kK (R l0 20) = 21 ∧ (((0 : Int) ≤ (I l0 13) ∧ (I l0 13) < (kN (R l0 20) : Int)) ∧ (if (I (R l0 20) (I l0 13)) ≤ l1 then (∃ f, P12_image_b150 l0 I R Q f 229 0) else (kK (R l0 49) = 21 ∧ (((0 : Int) ≤ l1 ∧ l1 < (kN (R l0 49) : Int)) ∧ (P12_writes l0 (I (R l0 49) l1) I R (fun I8 => (rg (l1 + 1) ∧ (k115 (l1 + 1) I8)))))))))
def P12_image_b115 (l0 : Nat) (R : mR) (Q : Int → mI → Prop) : Nat → Int → mI → Prop
  | 0 => fun _ _ => False
  | f + 1 => fun l1 I => P12_image_b115_body l0 R Q (P12_image_b115 l0 R Q f) l1 I
set_option maxRecDepth 20000 in
theorem W12_image_b115_body {C : wX} {ad : Nat → Nat} {n : Nat} {I J : mI} {R : mR} {Q : Int → mI → Prop} (hC : wOK C cX12_image 3 RX12) (hRm : wRm C 2 33 0 0) (hE : wEnd C (some .int) ad n (fun r I' J' R' => (J' = J ∧ R' = R) ∧ Q r I')) {l0 : Nat} {l1 : Int}   (hk0 : kK l0 = 12)  {k115 : Int → mI → Prop} (kk115 : ∀ (y1 : Int) (I' : mI), k115 y1 I' → WM C ad n I' J R 0 0 115 [(0, vr l0), (1, vi y1)] []) (hw : P12_image_b115_body l0 R Q k115 l1 I) : WM C ad n I J R 0 0 115 [(0, vr l0), (1, vi l1)] [] := by
  unfold P12_image_b115_body at hw
  refine wm_iload_n hC 1 dX12_image_115 rfl ?_
  refine wm_aload_n hC 0 dX12_image_116 rfl (k_ne0 hk0 (by decide)) ?_
  refine x_getR2 hC 20 fl_X12_72 rfl hk0 dX12_image_117 hw (fun g9 hw => ?_)
  refine wm_aload_n hC 0 dX12_image_120 rfl (k_ne0 hk0 (by decide)) ?_
  refine x_getI hC 13 fl_X12_51 rfl hk0 dX12_image_121 ?_
  refine x_iald hC g9 dX12_image_124 hw (fun hw => ?_)
  refine wm_icmp_ge (tgt := 144) hC dX12_image_125 (by decide) hw (fun hw => ?_) (fun hw => ?_)
  · refine wm_sipush hC dX12_image_144 (k := ?_)
    refine wm_istore_n hC dX12_image_147 (by decide) (L2 := [(1, vi 229), (0, vr l0)]) rfl ?_
    refine wm_iconst hC dX12_image_148 (k := ?_)
    refine wm_istore_n hC dX12_image_149 (by decide) (L2 := [(2, vi 0), (1, vi 229), (0, vr l0)]) rfl ?_
    obtain ⟨f, hw⟩ := hw
    refine wm_sub [2, 1, 0] (L2 := [(0, vr l0), (1, vi 229), (2, vi 0)]) rfl ?_
    exact W12_image_b150 hC hRm hE hk0 f _ _ hw
  · refine wm_aload_n hC 0 dX12_image_128 rfl (k_ne0 hk0 (by decide)) ?_
    refine wm_aload_n hC 0 dX12_image_129 rfl (k_ne0 hk0 (by decide)) ?_
    refine x_getR2 hC 49 fl_X12_162 rfl hk0 dX12_image_130 hw (fun g10 hw => ?_)
    refine wm_iload_n hC 1 dX12_image_133 rfl ?_
    refine x_iald hC g10 dX12_image_134 hw (fun hw => ?_)
    refine y_callV_v_I hC hRm ml_X12_568 hk0 (C12_writes hk0 hw) (Nat.le_of_ble_eq_true rfl) (Nat.le_of_ble_eq_true rfl) ⟨Nat.zero_le _, Nat.zero_le _⟩ rfl (st := []) rfl (Nat.le_of_ble_eq_true rfl) dX12_image_135 (fun I8 hw => ?_)
    refine x_iinc hC 1 dX12_image_138 rfl (by decide) (L2 := [(1, vi (l1 + 1)), (0, vr l0)]) rfl hw (fun hw => ?_)
    refine wm_goto (tgt := 115) hC dX12_image_141 (by decide) ?_
    refine wm_sub [1, 0] (L2 := [(0, vr l0), (1, vi (l1 + 1))]) rfl ?_
    exact kk115 _ _ hw
set_option maxRecDepth 20000 in
theorem W12_image_b115 {C : wX} {ad : Nat → Nat} {n : Nat} {J : mI} {R : mR} {Q : Int → mI → Prop} (hC : wOK C cX12_image 3 RX12) (hRm : wRm C 2 33 0 0) (hE : wEnd C (some .int) ad n (fun r I' J' R' => (J' = J ∧ R' = R) ∧ Q r I')) {l0 : Nat}   (hk0 : kK l0 = 12)  : ∀ (f : Nat) (l1 : Int) (I : mI), P12_image_b115 l0 R Q f l1 I → WM C ad n I J R 0 0 115 [(0, vr l0), (1, vi l1)] [] := by
  intro f
  induction f with
  | zero => intro l1 I hw; exact hw.elim
  | succ f ih => intro l1 I hw; exact W12_image_b115_body hC hRm hE hk0 (fun a0 a1 hw => ih a0 a1 hw) hw
def P12_image_b84_body (l0 : Nat) (R : mR) (Q : Int → mI → Prop) (k84 : Int → mI → Prop) (l1 : Int) (I : mI) : Prop := (kK (R l0 14) = 21 ∧ (((0 : Int) ≤ (I l0 13) ∧ (I l0 13) < (kN (R l0 14) : Int)) ∧ (if (I (R l0 14) (I l0 13)) ≤ l1 then (∃ f, P12_image_b115 l0 R Q f 0 I) else (kK (R l0 48) = 21 ∧ (((0 : Int) ≤ l1 ∧ l1 < (kN (R l0 48) : Int)) ∧ (P12_writes l0 (I (R l0 48) l1) I R (fun I7 => (rg (l1 + 1) ∧ (k84 (l1 + 1) I7)))))))))
def P12_image_b84 (l0 : Nat) (R : mR) (Q : Int → mI → Prop) : Nat → Int → mI → Prop
  | 0 => fun _ _ => False
  | f + 1 => fun l1 I => P12_image_b84_body l0 R Q (P12_image_b84 l0 R Q f) l1 I
set_option maxRecDepth 20000 in
theorem W12_image_b84_body {C : wX} {ad : Nat → Nat} {n : Nat} {I J : mI} {R : mR} {Q : Int → mI → Prop} (hC : wOK C cX12_image 3 RX12) (hRm : wRm C 2 33 0 0) (hE : wEnd C (some .int) ad n (fun r I' J' R' => (J' = J ∧ R' = R) ∧ Q r I')) {l0 : Nat} {l1 : Int}   (hk0 : kK l0 = 12)  {k84 : Int → mI → Prop} (kk84 : ∀ (y1 : Int) (I' : mI), k84 y1 I' → WM C ad n I' J R 0 0 84 [(0, vr l0), (1, vi y1)] []) (hw : P12_image_b84_body l0 R Q k84 l1 I) : WM C ad n I J R 0 0 84 [(0, vr l0), (1, vi l1)] [] := by
  unfold P12_image_b84_body at hw
  refine wm_iload_n hC 1 dX12_image_84 rfl ?_
  refine wm_aload_n hC 0 dX12_image_85 rfl (k_ne0 hk0 (by decide)) ?_
  refine x_getR2 hC 14 fl_X12_54 rfl hk0 dX12_image_86 hw (fun g7 hw => ?_)
  refine wm_aload_n hC 0 dX12_image_89 rfl (k_ne0 hk0 (by decide)) ?_
  refine x_getI hC 13 fl_X12_51 rfl hk0 dX12_image_90 ?_
  refine x_iald hC g7 dX12_image_93 hw (fun hw => ?_)
  refine wm_icmp_ge (tgt := 113) hC dX12_image_94 (by decide) hw (fun hw => ?_) (fun hw => ?_)
  · refine wm_iconst hC dX12_image_113 (k := ?_)
    refine wm_istore_n hC dX12_image_114 (by decide) (L2 := [(1, vi 0), (0, vr l0)]) rfl ?_
    obtain ⟨f, hw⟩ := hw
    refine wm_sub [1, 0] (L2 := [(0, vr l0), (1, vi 0)]) rfl ?_
    exact W12_image_b115 hC hRm hE hk0 f _ _ hw
  · refine wm_aload_n hC 0 dX12_image_97 rfl (k_ne0 hk0 (by decide)) ?_
    refine wm_aload_n hC 0 dX12_image_98 rfl (k_ne0 hk0 (by decide)) ?_
    refine x_getR2 hC 48 fl_X12_159 rfl hk0 dX12_image_99 hw (fun g8 hw => ?_)
    refine wm_iload_n hC 1 dX12_image_102 rfl ?_
    refine x_iald hC g8 dX12_image_103 hw (fun hw => ?_)
    refine y_callV_v_I hC hRm ml_X12_568 hk0 (C12_writes hk0 hw) (Nat.le_of_ble_eq_true rfl) (Nat.le_of_ble_eq_true rfl) ⟨Nat.zero_le _, Nat.zero_le _⟩ rfl (st := []) rfl (Nat.le_of_ble_eq_true rfl) dX12_image_104 (fun I7 hw => ?_)
    refine x_iinc hC 1 dX12_image_107 rfl (by decide) (L2 := [(1, vi (l1 + 1)), (0, vr l0)]) rfl hw (fun hw => ?_)
    refine wm_goto (tgt := 84) hC dX12_image_110 (by decide) ?_
    refine wm_sub [1, 0] (L2 := [(0, vr l0), (1, vi (l1 + 1))]) rfl ?_
    exact kk84 _ _ hw
set_option maxRecDepth 20000 in
theorem W12_image_b84 {C : wX} {ad : Nat → Nat} {n : Nat} {J : mI} {R : mR} {Q : Int → mI → Prop} (hC : wOK C cX12_image 3 RX12) (hRm : wRm C 2 33 0 0) (hE : wEnd C (some .int) ad n (fun r I' J' R' => (J' = J ∧ R' = R) ∧ Q r I')) {l0 : Nat}   (hk0 : kK l0 = 12)  : ∀ (f : Nat) (l1 : Int) (I : mI), P12_image_b84 l0 R Q f l1 I → WM C ad n I J R 0 0 84 [(0, vr l0), (1, vi l1)] [] := by
  intro f
  induction f with
  | zero => intro l1 I hw; exact hw.elim
  | succ f ih => intro l1 I hw; exact W12_image_b84_body hC hRm hE hk0 (fun a0 a1 hw => ih a0 a1 hw) hw
def P12_image_b53_body (l0 : Nat) (R : mR) (Q : Int → mI → Prop) (k53 : Int → mI → Prop) (l1 : Int) (I : mI) : Prop := (kK (R l0 14) = 21 ∧ (((0 : Int) ≤ (I l0 13) ∧ (I l0 13) < (kN (R l0 14) : Int)) ∧ (if (I (R l0 14) (I l0 13)) ≤ l1 then (∃ f, P12_image_b84 l0 R Q f 0 I) else (kK (R l0 47) = 21 ∧ (((0 : Int) ≤ l1 ∧ l1 < (kN (R l0 47) : Int)) ∧ (P12_writes l0 (I (R l0 47) l1) I R (fun I6 => (rg (l1 + 1) ∧ (k53 (l1 + 1) I6)))))))))
def P12_image_b53 (l0 : Nat) (R : mR) (Q : Int → mI → Prop) : Nat → Int → mI → Prop
  | 0 => fun _ _ => False
  | f + 1 => fun l1 I => P12_image_b53_body l0 R Q (P12_image_b53 l0 R Q f) l1 I
set_option maxRecDepth 20000 in
theorem W12_image_b53_body {C : wX} {ad : Nat → Nat} {n : Nat} {I J : mI} {R : mR} {Q : Int → mI → Prop} (hC : wOK C cX12_image 3 RX12) (hRm : wRm C 2 33 0 0) (hE : wEnd C (some .int) ad n (fun r I' J' R' => (J' = J ∧ R' = R) ∧ Q r I')) {l0 : Nat} {l1 : Int}   (hk0 : kK l0 = 12)  {k53 : Int → mI → Prop} (kk53 : ∀ (y1 : Int) (I' : mI), k53 y1 I' → WM C ad n I' J R 0 0 53 [(0, vr l0), (1, vi y1)] []) (hw : P12_image_b53_body l0 R Q k53 l1 I) : WM C ad n I J R 0 0 53 [(0, vr l0), (1, vi l1)] [] := by
  unfold P12_image_b53_body at hw
  refine wm_iload_n hC 1 dX12_image_53 rfl ?_
  refine wm_aload_n hC 0 dX12_image_54 rfl (k_ne0 hk0 (by decide)) ?_
  refine x_getR2 hC 14 fl_X12_54 rfl hk0 dX12_image_55 hw (fun g5 hw => ?_)
  refine wm_aload_n hC 0 dX12_image_58 rfl (k_ne0 hk0 (by decide)) ?_
  refine x_getI hC 13 fl_X12_51 rfl hk0 dX12_image_59 ?_
  refine x_iald hC g5 dX12_image_62 hw (fun hw => ?_)
  refine wm_icmp_ge (tgt := 82) hC dX12_image_63 (by decide) hw (fun hw => ?_) (fun hw => ?_)
  · refine wm_iconst hC dX12_image_82 (k := ?_)
    refine wm_istore_n hC dX12_image_83 (by decide) (L2 := [(1, vi 0), (0, vr l0)]) rfl ?_
    obtain ⟨f, hw⟩ := hw
    refine wm_sub [1, 0] (L2 := [(0, vr l0), (1, vi 0)]) rfl ?_
    exact W12_image_b84 hC hRm hE hk0 f _ _ hw
  · refine wm_aload_n hC 0 dX12_image_66 rfl (k_ne0 hk0 (by decide)) ?_
    refine wm_aload_n hC 0 dX12_image_67 rfl (k_ne0 hk0 (by decide)) ?_
    refine x_getR2 hC 47 fl_X12_156 rfl hk0 dX12_image_68 hw (fun g6 hw => ?_)
    refine wm_iload_n hC 1 dX12_image_71 rfl ?_
    refine x_iald hC g6 dX12_image_72 hw (fun hw => ?_)
    refine y_callV_v_I hC hRm ml_X12_568 hk0 (C12_writes hk0 hw) (Nat.le_of_ble_eq_true rfl) (Nat.le_of_ble_eq_true rfl) ⟨Nat.zero_le _, Nat.zero_le _⟩ rfl (st := []) rfl (Nat.le_of_ble_eq_true rfl) dX12_image_73 (fun I6 hw => ?_)
    refine x_iinc hC 1 dX12_image_76 rfl (by decide) (L2 := [(1, vi (l1 + 1)), (0, vr l0)]) rfl hw (fun hw => ?_)
    refine wm_goto (tgt := 53) hC dX12_image_79 (by decide) ?_
    refine wm_sub [1, 0] (L2 := [(0, vr l0), (1, vi (l1 + 1))]) rfl ?_
    exact kk53 _ _ hw
set_option maxRecDepth 20000 in
theorem W12_image_b53 {C : wX} {ad : Nat → Nat} {n : Nat} {J : mI} {R : mR} {Q : Int → mI → Prop} (hC : wOK C cX12_image 3 RX12) (hRm : wRm C 2 33 0 0) (hE : wEnd C (some .int) ad n (fun r I' J' R' => (J' = J ∧ R' = R) ∧ Q r I')) {l0 : Nat}   (hk0 : kK l0 = 12)  : ∀ (f : Nat) (l1 : Int) (I : mI), P12_image_b53 l0 R Q f l1 I → WM C ad n I J R 0 0 53 [(0, vr l0), (1, vi l1)] [] := by
  intro f
  induction f with
  | zero => intro l1 I hw; exact hw.elim
  | succ f ih => intro l1 I hw; exact W12_image_b53_body hC hRm hE hk0 (fun a0 a1 hw => ih a0 a1 hw) hw
def P12_image (l0 : Nat) (I : mI) (R : mR) (Q : Int → mI → Prop) : Prop := (wLet (up I l0 68 0) (fun I1 => (kK (R l0 45) = 21 ∧ (((0 : Int) ≤ (0 : Int) ∧ (0 : Int) < (kN (R l0 45) : Int)) ∧ (P12_writes l0 (bShr (I1 (R l0 45) (0 : Int)) 8) I1 R (fun I2 => (kK (R l0 45) = 21 ∧ (((0 : Int) ≤ (0 : Int) ∧ (0 : Int) < (kN (R l0 45) : Int)) ∧ (P12_writes l0 (I2 (R l0 45) (0 : Int)) I2 R (fun I3 => (kK (R l0 46) = 21 ∧ (((0 : Int) ≤ (0 : Int) ∧ (0 : Int) < (kN (R l0 46) : Int)) ∧ (P12_writes l0 (bShr (I3 (R l0 46) (0 : Int)) 8) I3 R (fun I4 => (kK (R l0 46) = 21 ∧ (((0 : Int) ≤ (0 : Int) ∧ (0 : Int) < (kN (R l0 46) : Int)) ∧ (P12_writes l0 (I4 (R l0 46) (0 : Int)) I4 R (fun I5 => (∃ f, P12_image_b53 l0 R Q f 0 I5)))))))))))))))))))
set_option maxRecDepth 20000 in
theorem C12_image {ad : Nat → Nat} {n : Nat} {I J : mI} {R : mR} {Q : Int → mI → Prop} {l0 : Nat} (hk0 : kK l0 = 12) (hw : P12_image l0 I R Q) : wMet yX12_image cX12_image 3 (some .int) 2 33 ad n I J R [vr l0] (fun r I' J' R' => (J' = J ∧ R' = R) ∧ Q r I') := by
  refine wMet_of (by decide) (Nat.le_of_ble_eq_true rfl) (fun C hC hRm hE => ?_)
  refine (show WM C ad n I J R 0 0 0 [(0, vr l0)] [] from ?_)
  unfold P12_image at hw
  refine wm_aload_n hC 0 dX12_image_0 rfl (k_ne0 hk0 (by decide)) ?_
  refine wm_iconst hC dX12_image_1 (k := ?_)
  refine x_putI hC 68 fl_X12_219 rfl hk0 dX12_image_2 hw (fun I1 hw => ?_)
  refine wm_aload_n hC 0 dX12_image_5 rfl (k_ne0 hk0 (by decide)) ?_
  refine wm_aload_n hC 0 dX12_image_6 rfl (k_ne0 hk0 (by decide)) ?_
  refine x_getR2 hC 45 fl_X12_150 rfl hk0 dX12_image_7 hw (fun g1 hw => ?_)
  refine wm_iconst hC dX12_image_10 (k := ?_)
  refine x_iald hC g1 dX12_image_11 hw (fun hw => ?_)
  refine wm_bipush hC dX12_image_12 (k := ?_)
  refine wm_ishr hC dX12_image_14 ?_
  refine y_callV_v_I hC hRm ml_X12_568 hk0 (C12_writes hk0 hw) (Nat.le_of_ble_eq_true rfl) (Nat.le_of_ble_eq_true rfl) ⟨Nat.zero_le _, Nat.zero_le _⟩ rfl (st := []) rfl (Nat.le_of_ble_eq_true rfl) dX12_image_15 (fun I2 hw => ?_)
  refine wm_aload_n hC 0 dX12_image_18 rfl (k_ne0 hk0 (by decide)) ?_
  refine wm_aload_n hC 0 dX12_image_19 rfl (k_ne0 hk0 (by decide)) ?_
  refine x_getR2 hC 45 fl_X12_150 rfl hk0 dX12_image_20 hw (fun g2 hw => ?_)
  refine wm_iconst hC dX12_image_23 (k := ?_)
  refine x_iald hC g2 dX12_image_24 hw (fun hw => ?_)
  refine y_callV_v_I hC hRm ml_X12_568 hk0 (C12_writes hk0 hw) (Nat.le_of_ble_eq_true rfl) (Nat.le_of_ble_eq_true rfl) ⟨Nat.zero_le _, Nat.zero_le _⟩ rfl (st := []) rfl (Nat.le_of_ble_eq_true rfl) dX12_image_25 (fun I3 hw => ?_)
  refine wm_aload_n hC 0 dX12_image_28 rfl (k_ne0 hk0 (by decide)) ?_
  refine wm_aload_n hC 0 dX12_image_29 rfl (k_ne0 hk0 (by decide)) ?_
  refine x_getR2 hC 46 fl_X12_153 rfl hk0 dX12_image_30 hw (fun g3 hw => ?_)
  refine wm_iconst hC dX12_image_33 (k := ?_)
  refine x_iald hC g3 dX12_image_34 hw (fun hw => ?_)
  refine wm_bipush hC dX12_image_35 (k := ?_)
  refine wm_ishr hC dX12_image_37 ?_
  refine y_callV_v_I hC hRm ml_X12_568 hk0 (C12_writes hk0 hw) (Nat.le_of_ble_eq_true rfl) (Nat.le_of_ble_eq_true rfl) ⟨Nat.zero_le _, Nat.zero_le _⟩ rfl (st := []) rfl (Nat.le_of_ble_eq_true rfl) dX12_image_38 (fun I4 hw => ?_)
  refine wm_aload_n hC 0 dX12_image_41 rfl (k_ne0 hk0 (by decide)) ?_
  refine wm_aload_n hC 0 dX12_image_42 rfl (k_ne0 hk0 (by decide)) ?_
  refine x_getR2 hC 46 fl_X12_153 rfl hk0 dX12_image_43 hw (fun g4 hw => ?_)
  refine wm_iconst hC dX12_image_46 (k := ?_)
  refine x_iald hC g4 dX12_image_47 hw (fun hw => ?_)
  refine y_callV_v_I hC hRm ml_X12_568 hk0 (C12_writes hk0 hw) (Nat.le_of_ble_eq_true rfl) (Nat.le_of_ble_eq_true rfl) ⟨Nat.zero_le _, Nat.zero_le _⟩ rfl (st := []) rfl (Nat.le_of_ble_eq_true rfl) dX12_image_48 (fun I5 hw => ?_)
  refine wm_iconst hC dX12_image_51 (k := ?_)
  refine wm_istore_n hC dX12_image_52 (by decide) (L2 := [(1, vi 0), (0, vr l0)]) rfl ?_
  obtain ⟨f, hw⟩ := hw
  refine wm_sub [1, 0] (L2 := [(0, vr l0), (1, vi 0)]) rfl ?_
  exact W12_image_b53 hC hRm hE hk0 f _ _ hw
def P12_octet (l0 : Nat) (l1 : Int) (I : mI) (R : mR) (Q : Int → Prop) : Prop := (rg ((I l0 68) - 1) ∧ (P12_is l1 0 ((I l0 68) - 1) (fun r1 => (if r1 = 0 then (Q (-1)) else (kK (R l0 67) = 21 ∧ (((0 : Int) ≤ l1 ∧ l1 < (kN (R l0 67) : Int)) ∧ (Q (I (R l0 67) l1))))))))
set_option maxRecDepth 20000 in
theorem C12_octet {ad : Nat → Nat} {n : Nat} {I J : mI} {R : mR} {Q : Int → Prop} {l0 : Nat} {l1 : Int} (hk0 : kK l0 = 12) (hw : P12_octet l0 l1 I R Q) : wMet yX12_octet cX12_octet 2 (some .int) 2 34 ad n I J R [vr l0, vi l1] (fun r I' J' R' => (I' = I ∧ J' = J ∧ R' = R) ∧ Q r) := by
  refine wMet_of (by decide) (Nat.le_of_ble_eq_true rfl) (fun C hC hRm hE => ?_)
  refine (show WM C ad n I J R 0 0 0 [(0, vr l0), (1, vi l1)] [] from ?_)
  unfold P12_octet at hw
  refine wm_iload_n hC 1 dX12_octet_0 rfl ?_
  refine wm_iconst hC dX12_octet_1 (k := ?_)
  refine wm_aload_n hC 0 dX12_octet_2 rfl (k_ne0 hk0 (by decide)) ?_
  refine x_getI hC 68 fl_X12_219 rfl hk0 dX12_octet_3 ?_
  refine wm_iconst hC dX12_octet_6 (k := ?_)
  refine x_isub hC dX12_octet_7 hw (fun hw => ?_)
  refine y_callS_z_n hC hRm ml_X12_309 (C12_is  hw) (Nat.le_of_ble_eq_true rfl) (Nat.le_of_ble_eq_true rfl) ⟨Nat.zero_le _, Nat.zero_le _⟩ rfl (st := []) rfl (Nat.le_of_ble_eq_true rfl) dX12_octet_8 (fun r1 hw => ?_)
  refine wm_if_eq (tgt := 23) hC dX12_octet_11 (by decide) hw (fun hw => ?_) (fun hw => ?_)
  · refine wm_iconst hC dX12_octet_23 (k := ?_)
    exact wm_ireturn hC hE dX12_octet_24 ⟨⟨rfl, rfl, rfl⟩, hw⟩
  · refine wm_aload_n hC 0 dX12_octet_14 rfl (k_ne0 hk0 (by decide)) ?_
    refine x_getR2 hC 67 fl_X12_216 rfl hk0 dX12_octet_15 hw (fun g1 hw => ?_)
    refine wm_iload_n hC 1 dX12_octet_18 rfl ?_
    refine x_iald hC g1 dX12_octet_19 hw (fun hw => ?_)
    refine wm_goto (tgt := 24) hC dX12_octet_20 (by decide) ?_
    exact wm_ireturn hC hE dX12_octet_24 ⟨⟨rfl, rfl, rfl⟩, hw⟩
def P12_comesOn_b337 (l0 : Nat) (l2 : Int) (l5 : Int) (l6 : Int) (I : mI) (R : mR) (k289 : Int → mI → Prop) (Q : Int → mI → Prop) : Prop := (kK (R l0 49) = 21 ∧ (rg (6 + l5) ∧ (if l6 = 255 then (((0 : Int) ≤ (6 + l5) ∧ (6 + l5) < (kN (R l0 49) : Int)) ∧ wLet (up I (R l0 49) (6 + l5) (-1)) (fun I8 => (rg (l5 + 1) ∧ (k289 (l5 + 1) I8)))) else (((0 : Int) ≤ (6 + l5) ∧ (6 + l5) < (kN (R l0 49) : Int)) ∧ wLet (up I (R l0 49) (6 + l5) l6) (fun I7 => (rg (l5 + 1) ∧ (k289 (l5 + 1) I7)))))))
set_option maxRecDepth 20000 in
theorem W12_comesOn_b337 {C : wX} {ad : Nat → Nat} {n : Nat} {I J : mI} {R : mR} {Q : Int → mI → Prop} (hC : wOK C cX12_comesOn 8 RX12) (hRm : wRm C 2 35 0 0) (hE : wEnd C (some .boolean) ad n (fun r I' J' R' => (J' = J ∧ R' = R) ∧ Q r I')) {l0 : Nat} {l2 : Int} {l5 : Int} {l6 : Int}  {k289 : Int → mI → Prop} (hk0 : kK l0 = 12) (kk289 : ∀ (y5 : Int) (I' : mI), k289 y5 I' → WM C ad n I' J R 0 0 289 [(0, vr l0), (2, vi l2), (5, vi y5)] []) (hw : P12_comesOn_b337 l0 l2 l5 l6 I R k289 Q) : WM C ad n I J R 0 0 337 [(0, vr l0), (2, vi l2), (5, vi l5), (6, vi l6)] [] := by
  unfold P12_comesOn_b337 at hw
  refine wm_aload_n hC 0 dX12_comesOn_337 rfl (k_ne0 hk0 (by decide)) ?_
  refine x_getR2 hC 49 fl_X12_162 rfl hk0 dX12_comesOn_338 hw (fun g22 hw => ?_)
  refine wm_bipush hC dX12_comesOn_341 (k := ?_)
  refine wm_iload hC 2 dX12_comesOn_343 rfl ?_
  refine x_iadd hC dX12_comesOn_345 hw (fun hw => ?_)
  refine wm_iload hC 3 dX12_comesOn_346 rfl ?_
  refine wm_sipush hC dX12_comesOn_348 (k := ?_)
  refine wm_icmp_ne (tgt := 358) hC dX12_comesOn_351 (by decide) hw (fun hw => ?_) (fun hw => ?_)
  · refine wm_iconst hC dX12_comesOn_354 (k := ?_)
    refine wm_goto (tgt := 360) hC dX12_comesOn_355 (by decide) ?_
    refine x_iast hC g22 dX12_comesOn_360 hw (fun I8 hw => ?_)
    refine x_iinc hC 2 dX12_comesOn_361 rfl (by decide) (L2 := [(5, vi (l5 + 1)), (0, vr l0), (2, vi l2), (6, vi l6)]) rfl hw (fun hw => ?_)
    refine wm_goto (tgt := 289) hC dX12_comesOn_364 (by decide) ?_
    refine wm_sub [1, 2, 0] (L2 := [(0, vr l0), (2, vi l2), (5, vi (l5 + 1))]) rfl ?_
    exact kk289 _ _ hw
  · refine wm_iload hC 3 dX12_comesOn_358 rfl ?_
    refine x_iast hC g22 dX12_comesOn_360 hw (fun I7 hw => ?_)
    refine x_iinc hC 2 dX12_comesOn_361 rfl (by decide) (L2 := [(5, vi (l5 + 1)), (0, vr l0), (2, vi l2), (6, vi l6)]) rfl hw (fun hw => ?_)
    refine wm_goto (tgt := 289) hC dX12_comesOn_364 (by decide) ?_
    refine wm_sub [1, 2, 0] (L2 := [(0, vr l0), (2, vi l2), (5, vi (l5 + 1))]) rfl ?_
    exact kk289 _ _ hw
def P12_comesOn_b289_body (l0 : Nat) (l2 : Int) (R : mR) (Q : Int → mI → Prop) (k289 : Int → mI → Prop) (l5 : Int) (I : mI) : Prop := (kK (R l0 20) = 21 ∧ (((0 : Int) ≤ (I l0 13) ∧ (I l0 13) < (kN (R l0 20) : Int)) ∧ (if (I (R l0 20) (I l0 13)) ≤ l5 then (Q 1 I) else (kK (R l0 0) = 21 ∧ (rg (2 * l2) ∧ (rg (4 + (2 * l2)) ∧ (rg ((4 + (2 * l2)) + l5) ∧ (((0 : Int) ≤ ((4 + (2 * l2)) + l5) ∧ ((4 + (2 * l2)) + l5) < (kN (R l0 0) : Int)) ∧ (wLet (I (R l0 0) ((4 + (2 * l2)) + l5)) (fun x5 => (if x5 = 255 then (P12_comesOn_b337 l0 l2 l5 x5 I R k289 Q) else (P12_isColour l0 x5 I R (fun r3 => (if r3 = 0 then (Q 0 I) else (P12_comesOn_b337 l0 l2 l5 x5 I R k289 Q)))))))))))))))
def P12_comesOn_b289 (l0 : Nat) (l2 : Int) (R : mR) (Q : Int → mI → Prop) : Nat → Int → mI → Prop
  | 0 => fun _ _ => False
  | f + 1 => fun l5 I => P12_comesOn_b289_body l0 l2 R Q (P12_comesOn_b289 l0 l2 R Q f) l5 I
set_option maxRecDepth 20000 in
theorem W12_comesOn_b289_body {C : wX} {ad : Nat → Nat} {n : Nat} {I J : mI} {R : mR} {Q : Int → mI → Prop} (hC : wOK C cX12_comesOn 8 RX12) (hRm : wRm C 2 35 0 0) (hE : wEnd C (some .boolean) ad n (fun r I' J' R' => (J' = J ∧ R' = R) ∧ Q r I')) {l0 : Nat} {l2 : Int} {l5 : Int}   (hk0 : kK l0 = 12)  {k289 : Int → mI → Prop} (kk289 : ∀ (y5 : Int) (I' : mI), k289 y5 I' → WM C ad n I' J R 0 0 289 [(0, vr l0), (2, vi l2), (5, vi y5)] []) (hw : P12_comesOn_b289_body l0 l2 R Q k289 l5 I) : WM C ad n I J R 0 0 289 [(0, vr l0), (2, vi l2), (5, vi l5)] [] := by
  unfold P12_comesOn_b289_body at hw
  refine wm_iload hC 2 dX12_comesOn_289 rfl ?_
  refine wm_aload_n hC 0 dX12_comesOn_291 rfl (k_ne0 hk0 (by decide)) ?_
  refine x_getR2 hC 20 fl_X12_72 rfl hk0 dX12_comesOn_292 hw (fun g20 hw => ?_)
  refine wm_aload_n hC 0 dX12_comesOn_295 rfl (k_ne0 hk0 (by decide)) ?_
  refine x_getI hC 13 fl_X12_51 rfl hk0 dX12_comesOn_296 ?_
  refine x_iald hC g20 dX12_comesOn_299 hw (fun hw => ?_)
  refine wm_icmp_ge (tgt := 367) hC dX12_comesOn_300 (by decide) hw (fun hw => ?_) (fun hw => ?_)
  · refine wm_iconst hC dX12_comesOn_367 (k := ?_)
    exact wm_zreturn hC hE (Or.inr rfl) dX12_comesOn_368 ⟨⟨rfl, rfl⟩, hw⟩
  · refine wm_aload_n hC 0 dX12_comesOn_303 rfl (k_ne0 hk0 (by decide)) ?_
    refine x_getR2 hC 0 fl_X12_7 rfl hk0 dX12_comesOn_304 hw (fun g21 hw => ?_)
    refine wm_iconst hC dX12_comesOn_307 (k := ?_)
    refine wm_iconst hC dX12_comesOn_308 (k := ?_)
    refine wm_iload_n hC 1 dX12_comesOn_309 rfl ?_
    refine x_imul hC dX12_comesOn_310 hw (fun hw => ?_)
    refine x_iadd hC dX12_comesOn_311 hw (fun hw => ?_)
    refine wm_iload hC 2 dX12_comesOn_312 rfl ?_
    refine x_iadd hC dX12_comesOn_314 hw (fun hw => ?_)
    refine x_iald hC g21 dX12_comesOn_315 hw (fun hw => ?_)
    refine x_nameI hw (fun x5 hw => ?_)
    refine wm_istore hC dX12_comesOn_316 (by decide) (L2 := [(6, vi x5), (0, vr l0), (2, vi l2), (5, vi l5)]) rfl ?_
    refine wm_iload hC 0 dX12_comesOn_318 rfl ?_
    refine wm_sipush hC dX12_comesOn_320 (k := ?_)
    refine wm_icmp_eq (tgt := 337) hC dX12_comesOn_323 (by decide) hw (fun hw => ?_) (fun hw => ?_)
    · refine wm_sub [1, 2, 3, 0] (L2 := [(0, vr l0), (2, vi l2), (5, vi l5), (6, vi x5)]) rfl ?_
      exact W12_comesOn_b337 hC hRm hE hk0 kk289 hw
    · refine wm_aload_n hC 1 dX12_comesOn_326 rfl (k_ne0 hk0 (by decide)) ?_
      refine wm_iload hC 0 dX12_comesOn_327 rfl ?_
      refine y_callV_z_n hC hRm ml_X12_510 hk0 (C12_isColour hk0 hw) (Nat.le_of_ble_eq_true rfl) (Nat.le_of_ble_eq_true rfl) ⟨Nat.zero_le _, Nat.zero_le _⟩ rfl (st := []) rfl (Nat.le_of_ble_eq_true rfl) dX12_comesOn_329 (fun r3 hw => ?_)
      refine wm_if_ne (tgt := 337) hC dX12_comesOn_332 (by decide) hw (fun hw => ?_) (fun hw => ?_)
      · refine wm_iconst hC dX12_comesOn_335 (k := ?_)
        exact wm_zreturn hC hE (Or.inl rfl) dX12_comesOn_336 ⟨⟨rfl, rfl⟩, hw⟩
      · refine wm_sub [1, 2, 3, 0] (L2 := [(0, vr l0), (2, vi l2), (5, vi l5), (6, vi x5)]) rfl ?_
        exact W12_comesOn_b337 hC hRm hE hk0 kk289 hw
set_option maxRecDepth 20000 in
theorem W12_comesOn_b289 {C : wX} {ad : Nat → Nat} {n : Nat} {J : mI} {R : mR} {Q : Int → mI → Prop} (hC : wOK C cX12_comesOn 8 RX12) (hRm : wRm C 2 35 0 0) (hE : wEnd C (some .boolean) ad n (fun r I' J' R' => (J' = J ∧ R' = R) ∧ Q r I')) {l0 : Nat} {l2 : Int}   (hk0 : kK l0 = 12)  : ∀ (f : Nat) (l5 : Int) (I : mI), P12_comesOn_b289 l0 l2 R Q f l5 I → WM C ad n I J R 0 0 289 [(0, vr l0), (2, vi l2), (5, vi l5)] [] := by
  intro f
  induction f with
  | zero => intro l5 I hw; exact hw.elim
  | succ f ih => intro l5 I hw; exact W12_comesOn_b289_body hC hRm hE hk0 (fun a0 a1 hw => ih a0 a1 hw) hw
def P12_comesOn_b189_body (l0 : Nat) (l2 : Int) (R : mR) (Q : Int → mI → Prop) (k189 : Int → Int → mI → Prop) (l4 : Int) (l5 : Int) (I : mI) : Prop := (if l2 ≤ l5 then (∃ f, P12_comesOn_b289 l0 l2 R Q f 0 I) else (kK (R l0 0) = 21 ∧ (rg (4 + l5) ∧ (((0 : Int) ≤ (4 + l5) ∧ (4 + l5) < (kN (R l0 0) : Int)) ∧ (wLet (I (R l0 0) (4 + l5)) (fun x3 => (kK (R l0 0) = 21 ∧ (rg (4 + l2) ∧ (rg ((4 + l2) + l5) ∧ (((0 : Int) ≤ ((4 + l2) + l5) ∧ ((4 + l2) + l5) < (kN (R l0 0) : Int)) ∧ (wLet (I (R l0 0) ((4 + l2) + l5)) (fun x4 => (P12_isBlind l0 x3 I R (fun r1 => (if r1 = 0 then (Q 0 I) else (P12_has2 l4 x3 (fun r2 => (if r2 = 0 then (if x4 ≤ 9 then (kK (R l0 47) = 21 ∧ (rg (6 + l5) ∧ (((0 : Int) ≤ (6 + l5) ∧ (6 + l5) < (kN (R l0 47) : Int)) ∧ wLet (up I (R l0 47) (6 + l5) x3) (fun I5 => (kK (R l0 48) = 21 ∧ (rg (6 + l5) ∧ (((0 : Int) ≤ (6 + l5) ∧ (6 + l5) < (kN (R l0 48) : Int)) ∧ wLet (up I5 (R l0 48) (6 + l5) x4) (fun I6 => (rg (l5 + 1) ∧ (k189 (bOr l4 (bShl 1 x3)) (l5 + 1) I6)))))))))) else (Q 0 I)) else (Q 0 I)))))))))))))))))))
def P12_comesOn_b189 (l0 : Nat) (l2 : Int) (R : mR) (Q : Int → mI → Prop) : Nat → Int → Int → mI → Prop
  | 0 => fun _ _ _ => False
  | f + 1 => fun l4 l5 I => P12_comesOn_b189_body l0 l2 R Q (P12_comesOn_b189 l0 l2 R Q f) l4 l5 I
set_option maxRecDepth 20000 in
theorem W12_comesOn_b189_body {C : wX} {ad : Nat → Nat} {n : Nat} {I J : mI} {R : mR} {Q : Int → mI → Prop} (hC : wOK C cX12_comesOn 8 RX12) (hRm : wRm C 2 35 0 0) (hE : wEnd C (some .boolean) ad n (fun r I' J' R' => (J' = J ∧ R' = R) ∧ Q r I')) {l0 : Nat} {l2 : Int} {l4 : Int} {l5 : Int}   (hk0 : kK l0 = 12)  {k189 : Int → Int → mI → Prop} (kk189 : ∀ (y4 : Int) (y5 : Int) (I' : mI), k189 y4 y5 I' → WM C ad n I' J R 0 0 189 [(0, vr l0), (2, vi l2), (4, vi y4), (5, vi y5)] []) (hw : P12_comesOn_b189_body l0 l2 R Q k189 l4 l5 I) : WM C ad n I J R 0 0 189 [(0, vr l0), (2, vi l2), (4, vi l4), (5, vi l5)] [] := by
  unfold P12_comesOn_b189_body at hw
  refine wm_iload hC 3 dX12_comesOn_189 rfl ?_
  refine wm_iload_n hC 1 dX12_comesOn_191 rfl ?_
  refine wm_icmp_ge (tgt := 286) hC dX12_comesOn_192 (by decide) hw (fun hw => ?_) (fun hw => ?_)
  · refine wm_iconst hC dX12_comesOn_286 (k := ?_)
    refine wm_istore hC dX12_comesOn_287 (by decide) (L2 := [(5, vi 0), (0, vr l0), (2, vi l2), (4, vi l4)]) rfl ?_
    obtain ⟨f, hw⟩ := hw
    refine wm_sub [1, 2, 0] (L2 := [(0, vr l0), (2, vi l2), (5, vi 0)]) rfl ?_
    exact W12_comesOn_b289 hC hRm hE hk0 f _ _ hw
  · refine wm_aload_n hC 0 dX12_comesOn_195 rfl (k_ne0 hk0 (by decide)) ?_
    refine x_getR2 hC 0 fl_X12_7 rfl hk0 dX12_comesOn_196 hw (fun g16 hw => ?_)
    refine wm_iconst hC dX12_comesOn_199 (k := ?_)
    refine wm_iload hC 3 dX12_comesOn_200 rfl ?_
    refine x_iadd hC dX12_comesOn_202 hw (fun hw => ?_)
    refine x_iald hC g16 dX12_comesOn_203 hw (fun hw => ?_)
    refine x_nameI hw (fun x3 hw => ?_)
    refine wm_istore hC dX12_comesOn_204 (by decide) (L2 := [(6, vi x3), (0, vr l0), (2, vi l2), (4, vi l4), (5, vi l5)]) rfl ?_
    refine wm_aload_n hC 1 dX12_comesOn_206 rfl (k_ne0 hk0 (by decide)) ?_
    refine x_getR2 hC 0 fl_X12_7 rfl hk0 dX12_comesOn_207 hw (fun g17 hw => ?_)
    refine wm_iconst hC dX12_comesOn_210 (k := ?_)
    refine wm_iload_n hC 2 dX12_comesOn_211 rfl ?_
    refine x_iadd hC dX12_comesOn_212 hw (fun hw => ?_)
    refine wm_iload hC 4 dX12_comesOn_213 rfl ?_
    refine x_iadd hC dX12_comesOn_215 hw (fun hw => ?_)
    refine x_iald hC g17 dX12_comesOn_216 hw (fun hw => ?_)
    refine x_nameI hw (fun x4 hw => ?_)
    refine wm_istore hC dX12_comesOn_217 (by decide) (L2 := [(7, vi x4), (6, vi x3), (0, vr l0), (2, vi l2), (4, vi l4), (5, vi l5)]) rfl ?_
    refine wm_aload_n hC 2 dX12_comesOn_219 rfl (k_ne0 hk0 (by decide)) ?_
    refine wm_iload hC 1 dX12_comesOn_220 rfl ?_
    refine y_callV_z_n hC hRm ml_X12_507 hk0 (C12_isBlind hk0 hw) (Nat.le_of_ble_eq_true rfl) (Nat.le_of_ble_eq_true rfl) ⟨Nat.zero_le _, Nat.zero_le _⟩ rfl (st := []) rfl (Nat.le_of_ble_eq_true rfl) dX12_comesOn_222 (fun r1 hw => ?_)
    refine wm_if_eq (tgt := 245) hC dX12_comesOn_225 (by decide) hw (fun hw => ?_) (fun hw => ?_)
    · refine wm_iconst hC dX12_comesOn_245 (k := ?_)
      exact wm_zreturn hC hE (Or.inl rfl) dX12_comesOn_246 ⟨⟨rfl, rfl⟩, hw⟩
    · refine wm_iload hC 4 dX12_comesOn_228 rfl ?_
      refine wm_iload hC 1 dX12_comesOn_230 rfl ?_
      refine y_callS_z_n hC hRm ml_X12_351 (C12_has2  hw) (Nat.le_of_ble_eq_true rfl) (Nat.le_of_ble_eq_true rfl) ⟨Nat.zero_le _, Nat.zero_le _⟩ rfl (st := []) rfl (Nat.le_of_ble_eq_true rfl) dX12_comesOn_232 (fun r2 hw => ?_)
      refine wm_if_ne (tgt := 245) hC dX12_comesOn_235 (by decide) hw (fun hw => ?_) (fun hw => ?_)
      · refine wm_iload hC 0 dX12_comesOn_238 rfl ?_
        refine wm_bipush hC dX12_comesOn_240 (k := ?_)
        refine wm_icmp_le (tgt := 247) hC dX12_comesOn_242 (by decide) hw (fun hw => ?_) (fun hw => ?_)
        · refine wm_iload hC 4 dX12_comesOn_247 rfl ?_
          refine wm_iconst hC dX12_comesOn_249 (k := ?_)
          refine wm_iload hC 1 dX12_comesOn_250 rfl ?_
          refine wm_ishl hC dX12_comesOn_252 ?_
          refine wm_ior hC dX12_comesOn_253 ?_
          refine wm_istore hC dX12_comesOn_254 (by decide) (L2 := [(4, vi (bOr l4 (bShl 1 x3))), (7, vi x4), (6, vi x3), (0, vr l0), (2, vi l2), (5, vi l5)]) rfl ?_
          refine wm_aload_n hC 3 dX12_comesOn_256 rfl (k_ne0 hk0 (by decide)) ?_
          refine x_getR2 hC 47 fl_X12_156 rfl hk0 dX12_comesOn_257 hw (fun g18 hw => ?_)
          refine wm_bipush hC dX12_comesOn_260 (k := ?_)
          refine wm_iload hC 5 dX12_comesOn_262 rfl ?_
          refine x_iadd hC dX12_comesOn_264 hw (fun hw => ?_)
          refine wm_iload hC 2 dX12_comesOn_265 rfl ?_
          refine x_iast hC g18 dX12_comesOn_267 hw (fun I5 hw => ?_)
          refine wm_aload_n hC 3 dX12_comesOn_268 rfl (k_ne0 hk0 (by decide)) ?_
          refine x_getR2 hC 48 fl_X12_159 rfl hk0 dX12_comesOn_269 hw (fun g19 hw => ?_)
          refine wm_bipush hC dX12_comesOn_272 (k := ?_)
          refine wm_iload hC 5 dX12_comesOn_274 rfl ?_
          refine x_iadd hC dX12_comesOn_276 hw (fun hw => ?_)
          refine wm_iload hC 1 dX12_comesOn_277 rfl ?_
          refine x_iast hC g19 dX12_comesOn_279 hw (fun I6 hw => ?_)
          refine x_iinc hC 5 dX12_comesOn_280 rfl (by decide) (L2 := [(5, vi (l5 + 1)), (4, vi (bOr l4 (bShl 1 x3))), (7, vi x4), (6, vi x3), (0, vr l0), (2, vi l2)]) rfl hw (fun hw => ?_)
          refine wm_goto (tgt := 189) hC dX12_comesOn_283 (by decide) ?_
          refine wm_sub [4, 5, 1, 0] (L2 := [(0, vr l0), (2, vi l2), (4, vi (bOr l4 (bShl 1 x3))), (5, vi (l5 + 1))]) rfl ?_
          exact kk189 _ _ _ hw
        · refine wm_iconst hC dX12_comesOn_245 (k := ?_)
          exact wm_zreturn hC hE (Or.inl rfl) dX12_comesOn_246 ⟨⟨rfl, rfl⟩, hw⟩
      · refine wm_iconst hC dX12_comesOn_245 (k := ?_)
        exact wm_zreturn hC hE (Or.inl rfl) dX12_comesOn_246 ⟨⟨rfl, rfl⟩, hw⟩
set_option maxRecDepth 20000 in
theorem W12_comesOn_b189 {C : wX} {ad : Nat → Nat} {n : Nat} {J : mI} {R : mR} {Q : Int → mI → Prop} (hC : wOK C cX12_comesOn 8 RX12) (hRm : wRm C 2 35 0 0) (hE : wEnd C (some .boolean) ad n (fun r I' J' R' => (J' = J ∧ R' = R) ∧ Q r I')) {l0 : Nat} {l2 : Int}   (hk0 : kK l0 = 12)  : ∀ (f : Nat) (l4 : Int) (l5 : Int) (I : mI), P12_comesOn_b189 l0 l2 R Q f l4 l5 I → WM C ad n I J R 0 0 189 [(0, vr l0), (2, vi l2), (4, vi l4), (5, vi l5)] [] := by
  intro f
  induction f with
  | zero => intro l4 l5 I hw; exact hw.elim
  | succ f ih => intro l4 l5 I hw; exact W12_comesOn_b189_body hC hRm hE hk0 (fun a0 a1 a2 hw => ih a0 a1 a2 hw) hw
def P12_comesOn_b82_body (l0 : Nat) (l1 : Int) (l2 : Int) (I : mI) (R : mR) (Q : Int → mI → Prop) (k82 : Int → Int → Prop) (l3 : Int) (l4 : Int) : Prop := (rg (l1 - 1) ∧ (if (l1 - 1) ≤ l4 then (kK (R l0 0) = 21 ∧ (rg (l1 - 1) ∧ (((0 : Int) ≤ (l1 - 1) ∧ (l1 - 1) < (kN (R l0 0) : Int)) ∧ (if (I (R l0 0) (l1 - 1)) = l3 then (P12_copies l0 1 0 I R (fun I1 => (kK (R l0 45) = 21 ∧ (kK (R l0 0) = 21 ∧ (((0 : Int) ≤ (0 : Int) ∧ (0 : Int) < (kN (R l0 0) : Int)) ∧ (kK (R l0 0) = 21 ∧ (((0 : Int) ≤ (1 : Int) ∧ (1 : Int) < (kN (R l0 0) : Int)) ∧ (((0 : Int) ≤ (1 : Int) ∧ (1 : Int) < (kN (R l0 45) : Int)) ∧ wLet (up I1 (R l0 45) (1 : Int) (bOr (bShl (I1 (R l0 0) (0 : Int)) 8) (I1 (R l0 0) (1 : Int)))) (fun I2 => (kK (R l0 46) = 21 ∧ (kK (R l0 0) = 21 ∧ (((0 : Int) ≤ (2 : Int) ∧ (2 : Int) < (kN (R l0 0) : Int)) ∧ (kK (R l0 0) = 21 ∧ (((0 : Int) ≤ (3 : Int) ∧ (3 : Int) < (kN (R l0 0) : Int)) ∧ (((0 : Int) ≤ (1 : Int) ∧ (1 : Int) < (kN (R l0 46) : Int)) ∧ wLet (up I2 (R l0 46) (1 : Int) (bOr (bShl (I2 (R l0 0) (2 : Int)) 8) (I2 (R l0 0) (3 : Int)))) (fun I3 => (kK (R l0 50) = 21 ∧ (((0 : Int) ≤ (1 : Int) ∧ (1 : Int) < (kN (R l0 50) : Int)) ∧ wLet (up I3 (R l0 50) (1 : Int) 0) (fun I4 => (∃ f, P12_comesOn_b189 l0 l2 R Q f 0 0 I4)))))))))))))))))))) else (Q 0 I))))) else (rg (5 * l3) ∧ (kK (R l0 0) = 21 ∧ (((0 : Int) ≤ l4 ∧ l4 < (kN (R l0 0) : Int)) ∧ (rg ((5 * l3) + (I (R l0 0) l4)) ∧ (wLet (Int.tmod ((5 * l3) + (I (R l0 0) l4)) 251) (fun x2 => (rg (l4 + 1) ∧ (k82 x2 (l4 + 1)))))))))))
def P12_comesOn_b82 (l0 : Nat) (l1 : Int) (l2 : Int) (I : mI) (R : mR) (Q : Int → mI → Prop) : Nat → Int → Int → Prop
  | 0 => fun _ _ => False
  | f + 1 => fun l3 l4 => P12_comesOn_b82_body l0 l1 l2 I R Q (P12_comesOn_b82 l0 l1 l2 I R Q f) l3 l4
set_option maxRecDepth 20000 in
theorem W12_comesOn_b82_body {C : wX} {ad : Nat → Nat} {n : Nat} {I J : mI} {R : mR} {Q : Int → mI → Prop} (hC : wOK C cX12_comesOn 8 RX12) (hRm : wRm C 2 35 0 0) (hE : wEnd C (some .boolean) ad n (fun r I' J' R' => (J' = J ∧ R' = R) ∧ Q r I')) {l0 : Nat} {l1 : Int} {l2 : Int} {l3 : Int} {l4 : Int}   (hk0 : kK l0 = 12)  {k82 : Int → Int → Prop} (kk82 : ∀ (y3 : Int) (y4 : Int), k82 y3 y4 → WM C ad n I J R 0 0 82 [(0, vr l0), (1, vi l1), (2, vi l2), (3, vi y3), (4, vi y4)] []) (hw : P12_comesOn_b82_body l0 l1 l2 I R Q k82 l3 l4) : WM C ad n I J R 0 0 82 [(0, vr l0), (1, vi l1), (2, vi l2), (3, vi l3), (4, vi l4)] [] := by
  unfold P12_comesOn_b82_body at hw
  refine wm_iload hC 4 dX12_comesOn_82 rfl ?_
  refine wm_iload_n hC 1 dX12_comesOn_84 rfl ?_
  refine wm_iconst hC dX12_comesOn_85 (k := ?_)
  refine x_isub hC dX12_comesOn_86 hw (fun hw => ?_)
  refine wm_icmp_ge (tgt := 112) hC dX12_comesOn_87 (by decide) hw (fun hw => ?_) (fun hw => ?_)
  · refine wm_aload_n hC 0 dX12_comesOn_112 rfl (k_ne0 hk0 (by decide)) ?_
    refine x_getR2 hC 0 fl_X12_7 rfl hk0 dX12_comesOn_113 hw (fun g7 hw => ?_)
    refine wm_iload_n hC 1 dX12_comesOn_116 rfl ?_
    refine wm_iconst hC dX12_comesOn_117 (k := ?_)
    refine x_isub hC dX12_comesOn_118 hw (fun hw => ?_)
    refine x_iald hC g7 dX12_comesOn_119 hw (fun hw => ?_)
    refine wm_iload_n hC 3 dX12_comesOn_120 rfl ?_
    refine wm_icmp_eq (tgt := 126) hC dX12_comesOn_121 (by decide) hw (fun hw => ?_) (fun hw => ?_)
    · refine wm_aload_n hC 0 dX12_comesOn_126 rfl (k_ne0 hk0 (by decide)) ?_
      refine wm_iconst hC dX12_comesOn_127 (k := ?_)
      refine wm_iconst hC dX12_comesOn_128 (k := ?_)
      refine y_callV_v_I hC hRm ml_X12_424 hk0 (C12_copies hk0 hw) (Nat.le_of_ble_eq_true rfl) (Nat.le_of_ble_eq_true rfl) ⟨Nat.zero_le _, Nat.zero_le _⟩ rfl (st := []) rfl (Nat.le_of_ble_eq_true rfl) dX12_comesOn_129 (fun I1 hw => ?_)
      refine wm_aload_n hC 0 dX12_comesOn_132 rfl (k_ne0 hk0 (by decide)) ?_
      refine x_getR2 hC 45 fl_X12_150 rfl hk0 dX12_comesOn_133 hw (fun g8 hw => ?_)
      refine wm_iconst hC dX12_comesOn_136 (k := ?_)
      refine wm_aload_n hC 0 dX12_comesOn_137 rfl (k_ne0 hk0 (by decide)) ?_
      refine x_getR2 hC 0 fl_X12_7 rfl hk0 dX12_comesOn_138 hw (fun g9 hw => ?_)
      refine wm_iconst hC dX12_comesOn_141 (k := ?_)
      refine x_iald hC g9 dX12_comesOn_142 hw (fun hw => ?_)
      refine wm_bipush hC dX12_comesOn_143 (k := ?_)
      refine wm_ishl hC dX12_comesOn_145 ?_
      refine wm_aload_n hC 0 dX12_comesOn_146 rfl (k_ne0 hk0 (by decide)) ?_
      refine x_getR2 hC 0 fl_X12_7 rfl hk0 dX12_comesOn_147 hw (fun g10 hw => ?_)
      refine wm_iconst hC dX12_comesOn_150 (k := ?_)
      refine x_iald hC g10 dX12_comesOn_151 hw (fun hw => ?_)
      refine wm_ior hC dX12_comesOn_152 ?_
      refine x_iast hC g8 dX12_comesOn_153 hw (fun I2 hw => ?_)
      refine wm_aload_n hC 0 dX12_comesOn_154 rfl (k_ne0 hk0 (by decide)) ?_
      refine x_getR2 hC 46 fl_X12_153 rfl hk0 dX12_comesOn_155 hw (fun g11 hw => ?_)
      refine wm_iconst hC dX12_comesOn_158 (k := ?_)
      refine wm_aload_n hC 0 dX12_comesOn_159 rfl (k_ne0 hk0 (by decide)) ?_
      refine x_getR2 hC 0 fl_X12_7 rfl hk0 dX12_comesOn_160 hw (fun g12 hw => ?_)
      refine wm_iconst hC dX12_comesOn_163 (k := ?_)
      refine x_iald hC g12 dX12_comesOn_164 hw (fun hw => ?_)
      refine wm_bipush hC dX12_comesOn_165 (k := ?_)
      refine wm_ishl hC dX12_comesOn_167 ?_
      refine wm_aload_n hC 0 dX12_comesOn_168 rfl (k_ne0 hk0 (by decide)) ?_
      refine x_getR2 hC 0 fl_X12_7 rfl hk0 dX12_comesOn_169 hw (fun g13 hw => ?_)
      refine wm_iconst hC dX12_comesOn_172 (k := ?_)
      refine x_iald hC g13 dX12_comesOn_173 hw (fun hw => ?_)
      refine wm_ior hC dX12_comesOn_174 ?_
      refine x_iast hC g11 dX12_comesOn_175 hw (fun I3 hw => ?_)
      refine wm_aload_n hC 0 dX12_comesOn_176 rfl (k_ne0 hk0 (by decide)) ?_
      refine x_getR2 hC 50 fl_X12_165 rfl hk0 dX12_comesOn_177 hw (fun g14 hw => ?_)
      refine wm_iconst hC dX12_comesOn_180 (k := ?_)
      refine wm_iconst hC dX12_comesOn_181 (k := ?_)
      refine x_iast hC g14 dX12_comesOn_182 hw (fun I4 hw => ?_)
      refine wm_iconst hC dX12_comesOn_183 (k := ?_)
      refine wm_istore hC dX12_comesOn_184 (by decide) (L2 := [(4, vi 0), (0, vr l0), (1, vi l1), (2, vi l2), (3, vi l3)]) rfl ?_
      refine wm_iconst hC dX12_comesOn_186 (k := ?_)
      refine wm_istore hC dX12_comesOn_187 (by decide) (L2 := [(5, vi 0), (4, vi 0), (0, vr l0), (1, vi l1), (2, vi l2), (3, vi l3)]) rfl ?_
      obtain ⟨f, hw⟩ := hw
      refine wm_sub [2, 4, 1, 0] (L2 := [(0, vr l0), (2, vi l2), (4, vi 0), (5, vi 0)]) rfl ?_
      exact W12_comesOn_b189 hC hRm hE hk0 f _ _ _ hw
    · refine wm_iconst hC dX12_comesOn_124 (k := ?_)
      exact wm_zreturn hC hE (Or.inl rfl) dX12_comesOn_125 ⟨⟨rfl, rfl⟩, hw⟩
  · refine wm_iconst hC dX12_comesOn_90 (k := ?_)
    refine wm_iload_n hC 3 dX12_comesOn_91 rfl ?_
    refine x_imul hC dX12_comesOn_92 hw (fun hw => ?_)
    refine wm_aload_n hC 0 dX12_comesOn_93 rfl (k_ne0 hk0 (by decide)) ?_
    refine x_getR2 hC 0 fl_X12_7 rfl hk0 dX12_comesOn_94 hw (fun g15 hw => ?_)
    refine wm_iload hC 4 dX12_comesOn_97 rfl ?_
    refine x_iald hC g15 dX12_comesOn_99 hw (fun hw => ?_)
    refine x_iadd hC dX12_comesOn_100 hw (fun hw => ?_)
    refine wm_sipush hC dX12_comesOn_101 (k := ?_)
    refine x_iremP hC (by decide) dX12_comesOn_104 ?_
    refine x_nameI hw (fun x2 hw => ?_)
    refine wm_istore_n hC dX12_comesOn_105 (by decide) (L2 := [(3, vi x2), (0, vr l0), (1, vi l1), (2, vi l2), (4, vi l4)]) rfl ?_
    refine x_iinc hC 4 dX12_comesOn_106 rfl (by decide) (L2 := [(4, vi (l4 + 1)), (3, vi x2), (0, vr l0), (1, vi l1), (2, vi l2)]) rfl hw (fun hw => ?_)
    refine wm_goto (tgt := 82) hC dX12_comesOn_109 (by decide) ?_
    refine wm_sub [2, 3, 4, 1, 0] (L2 := [(0, vr l0), (1, vi l1), (2, vi l2), (3, vi x2), (4, vi (l4 + 1))]) rfl ?_
    exact kk82 _ _ hw
set_option maxRecDepth 20000 in
theorem W12_comesOn_b82 {C : wX} {ad : Nat → Nat} {n : Nat} {I J : mI} {R : mR} {Q : Int → mI → Prop} (hC : wOK C cX12_comesOn 8 RX12) (hRm : wRm C 2 35 0 0) (hE : wEnd C (some .boolean) ad n (fun r I' J' R' => (J' = J ∧ R' = R) ∧ Q r I')) {l0 : Nat} {l1 : Int} {l2 : Int}   (hk0 : kK l0 = 12)  : ∀ (f : Nat) (l3 : Int) (l4 : Int), P12_comesOn_b82 l0 l1 l2 I R Q f l3 l4 → WM C ad n I J R 0 0 82 [(0, vr l0), (1, vi l1), (2, vi l2), (3, vi l3), (4, vi l4)] [] := by
  intro f
  induction f with
  | zero => intro l3 l4 hw; exact hw.elim
  | succ f ih => intro l3 l4 hw; exact W12_comesOn_b82_body hC hRm hE hk0 (fun a0 a1 hw => ih a0 a1 hw) hw
def P12_comesOn (l0 : Nat) (l1 : Int) (I : mI) (R : mR) (Q : Int → mI → Prop) : Prop := (kK (R l0 14) = 21 ∧ (((0 : Int) ≤ (I l0 13) ∧ (I l0 13) < (kN (R l0 14) : Int)) ∧ (wLet (I (R l0 14) (I l0 13)) (fun x1 => (rg (2 * x1) ∧ (rg (5 + (2 * x1)) ∧ (kK (R l0 20) = 21 ∧ (((0 : Int) ≤ (I l0 13) ∧ (I l0 13) < (kN (R l0 20) : Int)) ∧ (rg ((5 + (2 * x1)) + (I (R l0 20) (I l0 13))) ∧ (if l1 = ((5 + (2 * x1)) + (I (R l0 20) (I l0 13))) then (kK (R l0 0) = 21 ∧ (((0 : Int) ≤ (0 : Int) ∧ (0 : Int) < (kN (R l0 0) : Int)) ∧ (kK (R l0 0) = 21 ∧ (((0 : Int) ≤ (1 : Int) ∧ (1 : Int) < (kN (R l0 0) : Int)) ∧ (if (999 : Int) < (bOr (bShl (I (R l0 0) (0 : Int)) 8) (I (R l0 0) (1 : Int))) then (Q 0 I) else (kK (R l0 0) = 21 ∧ (((0 : Int) ≤ (2 : Int) ∧ (2 : Int) < (kN (R l0 0) : Int)) ∧ (kK (R l0 0) = 21 ∧ (((0 : Int) ≤ (3 : Int) ∧ (3 : Int) < (kN (R l0 0) : Int)) ∧ (if (bOr (bShl (I (R l0 0) (2 : Int)) 8) (I (R l0 0) (3 : Int))) ≤ 9999 then (∃ f, P12_comesOn_b82 l0 l1 x1 I R Q f 229 0) else (Q 0 I))))))))))) else (Q 0 I)))))))))))
set_option maxRecDepth 20000 in
theorem C12_comesOn {ad : Nat → Nat} {n : Nat} {I J : mI} {R : mR} {Q : Int → mI → Prop} {l0 : Nat} {l1 : Int} (hk0 : kK l0 = 12) (hw : P12_comesOn l0 l1 I R Q) : wMet yX12_comesOn cX12_comesOn 8 (some .boolean) 2 35 ad n I J R [vr l0, vi l1] (fun r I' J' R' => (J' = J ∧ R' = R) ∧ Q r I') := by
  refine wMet_of (by decide) (Nat.le_of_ble_eq_true rfl) (fun C hC hRm hE => ?_)
  refine (show WM C ad n I J R 0 0 0 [(0, vr l0), (1, vi l1)] [] from ?_)
  unfold P12_comesOn at hw
  refine wm_aload_n hC 0 dX12_comesOn_0 rfl (k_ne0 hk0 (by decide)) ?_
  refine x_getR2 hC 14 fl_X12_54 rfl hk0 dX12_comesOn_1 hw (fun g1 hw => ?_)
  refine wm_aload_n hC 0 dX12_comesOn_4 rfl (k_ne0 hk0 (by decide)) ?_
  refine x_getI hC 13 fl_X12_51 rfl hk0 dX12_comesOn_5 ?_
  refine x_iald hC g1 dX12_comesOn_8 hw (fun hw => ?_)
  refine x_nameI hw (fun x1 hw => ?_)
  refine wm_istore_n hC dX12_comesOn_9 (by decide) (L2 := [(2, vi x1), (0, vr l0), (1, vi l1)]) rfl ?_
  refine wm_iload_n hC 2 dX12_comesOn_10 rfl ?_
  refine wm_iconst hC dX12_comesOn_11 (k := ?_)
  refine wm_iconst hC dX12_comesOn_12 (k := ?_)
  refine wm_iload_n hC 0 dX12_comesOn_13 rfl ?_
  refine x_imul hC dX12_comesOn_14 hw (fun hw => ?_)
  refine x_iadd hC dX12_comesOn_15 hw (fun hw => ?_)
  refine wm_aload_n hC 1 dX12_comesOn_16 rfl (k_ne0 hk0 (by decide)) ?_
  refine x_getR2 hC 20 fl_X12_72 rfl hk0 dX12_comesOn_17 hw (fun g2 hw => ?_)
  refine wm_aload_n hC 1 dX12_comesOn_20 rfl (k_ne0 hk0 (by decide)) ?_
  refine x_getI hC 13 fl_X12_51 rfl hk0 dX12_comesOn_21 ?_
  refine x_iald hC g2 dX12_comesOn_24 hw (fun hw => ?_)
  refine x_iadd hC dX12_comesOn_25 hw (fun hw => ?_)
  refine wm_icmp_ne (tgt := 73) hC dX12_comesOn_26 (by decide) hw (fun hw => ?_) (fun hw => ?_)
  · refine wm_aload_n hC 1 dX12_comesOn_29 rfl (k_ne0 hk0 (by decide)) ?_
    refine x_getR2 hC 0 fl_X12_7 rfl hk0 dX12_comesOn_30 hw (fun g3 hw => ?_)
    refine wm_iconst hC dX12_comesOn_33 (k := ?_)
    refine x_iald hC g3 dX12_comesOn_34 hw (fun hw => ?_)
    refine wm_bipush hC dX12_comesOn_35 (k := ?_)
    refine wm_ishl hC dX12_comesOn_37 ?_
    refine wm_aload_n hC 1 dX12_comesOn_38 rfl (k_ne0 hk0 (by decide)) ?_
    refine x_getR2 hC 0 fl_X12_7 rfl hk0 dX12_comesOn_39 hw (fun g4 hw => ?_)
    refine wm_iconst hC dX12_comesOn_42 (k := ?_)
    refine x_iald hC g4 dX12_comesOn_43 hw (fun hw => ?_)
    refine wm_ior hC dX12_comesOn_44 ?_
    refine wm_sipush hC dX12_comesOn_45 (k := ?_)
    refine wm_icmp_gt (tgt := 73) hC dX12_comesOn_48 (by decide) hw (fun hw => ?_) (fun hw => ?_)
    · refine wm_iconst hC dX12_comesOn_73 (k := ?_)
      exact wm_zreturn hC hE (Or.inl rfl) dX12_comesOn_74 ⟨⟨rfl, rfl⟩, hw⟩
    · refine wm_aload_n hC 1 dX12_comesOn_51 rfl (k_ne0 hk0 (by decide)) ?_
      refine x_getR2 hC 0 fl_X12_7 rfl hk0 dX12_comesOn_52 hw (fun g5 hw => ?_)
      refine wm_iconst hC dX12_comesOn_55 (k := ?_)
      refine x_iald hC g5 dX12_comesOn_56 hw (fun hw => ?_)
      refine wm_bipush hC dX12_comesOn_57 (k := ?_)
      refine wm_ishl hC dX12_comesOn_59 ?_
      refine wm_aload_n hC 1 dX12_comesOn_60 rfl (k_ne0 hk0 (by decide)) ?_
      refine x_getR2 hC 0 fl_X12_7 rfl hk0 dX12_comesOn_61 hw (fun g6 hw => ?_)
      refine wm_iconst hC dX12_comesOn_64 (k := ?_)
      refine x_iald hC g6 dX12_comesOn_65 hw (fun hw => ?_)
      refine wm_ior hC dX12_comesOn_66 ?_
      refine wm_sipush hC dX12_comesOn_67 (k := ?_)
      refine wm_icmp_le (tgt := 75) hC dX12_comesOn_70 (by decide) hw (fun hw => ?_) (fun hw => ?_)
      · refine wm_sipush hC dX12_comesOn_75 (k := ?_)
        refine wm_istore_n hC dX12_comesOn_78 (by decide) (L2 := [(3, vi 229), (2, vi x1), (0, vr l0), (1, vi l1)]) rfl ?_
        refine wm_iconst hC dX12_comesOn_79 (k := ?_)
        refine wm_istore hC dX12_comesOn_80 (by decide) (L2 := [(4, vi 0), (3, vi 229), (2, vi x1), (0, vr l0), (1, vi l1)]) rfl ?_
        obtain ⟨f, hw⟩ := hw
        refine wm_sub [3, 4, 2, 1, 0] (L2 := [(0, vr l0), (1, vi l1), (2, vi x1), (3, vi 229), (4, vi 0)]) rfl ?_
        exact W12_comesOn_b82 hC hRm hE hk0 f _ _ hw
      · refine wm_iconst hC dX12_comesOn_73 (k := ?_)
        exact wm_zreturn hC hE (Or.inl rfl) dX12_comesOn_74 ⟨⟨rfl, rfl⟩, hw⟩
  · refine wm_iconst hC dX12_comesOn_73 (k := ?_)
    exact wm_zreturn hC hE (Or.inl rfl) dX12_comesOn_74 ⟨⟨rfl, rfl⟩, hw⟩
def P12_on (l0 : Nat) (I : mI) (R : mR) (Q : Int → mI → Prop) : Prop := (wLet (up I l0 1 0) (fun I1 => (P12_comesOn l0 (I l0 1) I1 R (fun r1 I2 => (if r1 = 0 then (P12_refuses l0 5 I2 R (fun r2 I5 => (if r2 < 0 then (Q 0 I5) else (Q 1 I5)))) else (P12_copies l0 0 1 I2 R (fun I3 => (wLet (up I3 l0 53 0) (fun I4 => (Q 1 I4))))))))))
set_option maxRecDepth 20000 in
theorem C12_on {ad : Nat → Nat} {n : Nat} {I J : mI} {R : mR} {Q : Int → mI → Prop} {l0 : Nat} (hk0 : kK l0 = 12) (hw : P12_on l0 I R Q) : wMet yX12_on cX12_on 2 (some .boolean) 3 62 ad n I J R [vr l0] (fun r I' J' R' => (J' = J ∧ R' = R) ∧ Q r I') := by
  refine wMet_of (by decide) (Nat.le_of_ble_eq_true rfl) (fun C hC hRm hE => ?_)
  refine (show WM C ad n I J R 0 0 0 [(0, vr l0)] [] from ?_)
  unfold P12_on at hw
  refine wm_aload_n hC 0 dX12_on_0 rfl (k_ne0 hk0 (by decide)) ?_
  refine x_getI hC 1 fl_X12_13 rfl hk0 dX12_on_1 ?_
  refine wm_istore_n hC dX12_on_4 (by decide) (L2 := [(1, vi (I l0 1)), (0, vr l0)]) rfl ?_
  refine wm_aload_n hC 1 dX12_on_5 rfl (k_ne0 hk0 (by decide)) ?_
  refine wm_iconst hC dX12_on_6 (k := ?_)
  refine x_putI hC 1 fl_X12_13 rfl hk0 dX12_on_7 hw (fun I1 hw => ?_)
  refine wm_aload_n hC 1 dX12_on_10 rfl (k_ne0 hk0 (by decide)) ?_
  refine wm_iload_n hC 0 dX12_on_11 rfl ?_
  refine y_callV_z_I hC hRm ml_X12_571 hk0 (C12_comesOn hk0 hw) (Nat.le_of_ble_eq_true rfl) (Nat.le_of_ble_eq_true rfl) ⟨Nat.zero_le _, Nat.zero_le _⟩ rfl (st := []) rfl (Nat.le_of_ble_eq_true rfl) dX12_on_12 (fun r1 I2 hw => ?_)
  refine wm_if_ne (tgt := 32) hC dX12_on_15 (by decide) hw (fun hw => ?_) (fun hw => ?_)
  · refine wm_aload_n hC 1 dX12_on_18 rfl (k_ne0 hk0 (by decide)) ?_
    refine wm_iconst hC dX12_on_19 (k := ?_)
    refine y_callV_i_I hC hRm ml_X12_222 hk0 (C12_refuses hk0 hw) (Nat.le_of_ble_eq_true rfl) (Nat.le_of_ble_eq_true rfl) ⟨Nat.zero_le _, Nat.zero_le _⟩ rfl (st := []) rfl (Nat.le_of_ble_eq_true rfl) dX12_on_20 (fun r2 I5 hw => ?_)
    refine wm_if_lt (tgt := 30) hC dX12_on_23 (by decide) hw (fun hw => ?_) (fun hw => ?_)
    · refine wm_iconst hC dX12_on_30 (k := ?_)
      exact wm_zreturn hC hE (Or.inl rfl) dX12_on_31 ⟨⟨rfl, rfl⟩, hw⟩
    · refine wm_iconst hC dX12_on_26 (k := ?_)
      refine wm_goto (tgt := 31) hC dX12_on_27 (by decide) ?_
      exact wm_zreturn hC hE (Or.inr rfl) dX12_on_31 ⟨⟨rfl, rfl⟩, hw⟩
  · refine wm_aload_n hC 1 dX12_on_32 rfl (k_ne0 hk0 (by decide)) ?_
    refine wm_iconst hC dX12_on_33 (k := ?_)
    refine wm_iconst hC dX12_on_34 (k := ?_)
    refine y_callV_v_I hC hRm ml_X12_424 hk0 (C12_copies hk0 hw) (Nat.le_of_ble_eq_true rfl) (Nat.le_of_ble_eq_true rfl) ⟨Nat.zero_le _, Nat.zero_le _⟩ rfl (st := []) rfl (Nat.le_of_ble_eq_true rfl) dX12_on_35 (fun I3 hw => ?_)
    refine wm_aload_n hC 1 dX12_on_38 rfl (k_ne0 hk0 (by decide)) ?_
    refine wm_iconst hC dX12_on_39 (k := ?_)
    refine x_putI hC 53 fl_X12_174 rfl hk0 dX12_on_40 hw (fun I4 hw => ?_)
    refine wm_iconst hC dX12_on_43 (k := ?_)
    exact wm_zreturn hC hE (Or.inr rfl) dX12_on_44 ⟨⟨rfl, rfl⟩, hw⟩
