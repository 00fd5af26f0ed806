def P12_writes (l0 : Nat) (l1 : Int) (I : mI) (R : mR) (Q : mI → Prop) : Prop := (kK (R l0 67) = 21 ∧ (((0 : Int) ≤ (I l0 68) ∧ (I l0 68) < (kN (R l0 67) : Int)) ∧ wLet (up I (R l0 67) (I l0 68) (bAnd l1 255)) (fun I1 => (rg ((I1 l0 68) + 1) ∧ (wLet (up I1 l0 68 ((I1 l0 68) + 1)) (fun I2 => (Q I2)))))))
set_option maxRecDepth 20000 in
theorem C12_writes {ad : Nat → Nat} {n : Nat} {I J : mI} {R : mR} {Q : mI → Prop}  {l0 : Nat} {l1 : Int} (hk0 : kK l0 = 12) (hw : P12_writes l0 l1 I R Q) : wMet yX12_writes cX12_writes 2 none 1 12 false ad n I J R [vr l0, vi l1] (fun _ I' J' R' => (J' = J ∧ R' = R) ∧ Q I') := by
  refine wMet_of (by decide) (Nat.le_of_ble_eq_true rfl) (fun C hC hRm hE hS => ?_)
  refine (show WM C ad n I J R 0 0 0 [(0, vr l0), (1, vi l1)] [] from ?_)
  unfold P12_writes at hw
  refine wm_aload_n hC 0 dX12_writes_0 rfl (k_ne0 hk0 (by decide)) ?_
  refine x_getR2 hC 67 fl_X12_216 rfl hk0 dX12_writes_1 hw (fun g1 hw => ?_)
  refine wm_aload_n hC 0 dX12_writes_4 rfl (k_ne0 hk0 (by decide)) ?_
  refine x_getI hC 68 fl_X12_219 rfl hk0 dX12_writes_5 ?_
  refine wm_iload_n hC 1 dX12_writes_8 rfl ?_
  refine wm_sipush hC dX12_writes_9 (k := ?_)
  refine wm_iand hC dX12_writes_12 ?_
  refine x_iast hC g1 dX12_writes_13 hw (fun I1 hw => ?_)
  refine wm_aload_n hC 0 dX12_writes_14 rfl (k_ne0 hk0 (by decide)) ?_
  refine wm_dup hC dX12_writes_15 (k := ?_)
  refine x_getI hC 68 fl_X12_219 rfl hk0 dX12_writes_16 ?_
  refine wm_iconst hC dX12_writes_19 (k := ?_)
  refine x_iadd hC dX12_writes_20 hw (fun hw => ?_)
  refine x_putI hC 68 fl_X12_219 rfl hk0 dX12_writes_21 hw (fun I2 hw => ?_)
  exact wm_return hC hE dX12_writes_24 ⟨⟨rfl, rfl⟩, hw⟩
def P12_image_b150_body (l0 : Nat) (I : mI) (R : mR) (Q : Int → mI → Prop) (k150 : Int → Int → Prop) (l1 : Int) (l2 : Int) : Prop := (if (I l0 68) ≤ l2 then (P12_writes l0 l1 I R (fun I9 => (Q (I9 l0 68) I9))) else (rg (5 * l1) ∧ (kK (R l0 67) = 21 ∧ (((0 : Int) ≤ l2 ∧ l2 < (kN (R l0 67) : Int)) ∧ (rg ((5 * l1) + (I (R l0 67) l2)) ∧ (wLet (Int.tmod ((5 * l1) + (I (R l0 67) l2)) 251) (fun x1 => (rg (l2 + 1) ∧ (k150 x1 (l2 + 1))))))))))
def P12_image_b150 (l0 : Nat) (I : mI) (R : mR) (Q : Int → mI → Prop) : Nat → Int → Int → Prop
  | 0 => fun _ _ => False
  | f + 1 => fun l1 l2 => P12_image_b150_body l0 I R Q (P12_image_b150 l0 I R Q f) l1 l2
set_option maxRecDepth 20000 in
theorem W12_image_b150_body {C : wX} {ad : Nat → Nat} {n : Nat} {I J : mI} {R : mR} {Q : Int → mI → Prop} (hC : wOK C cX12_image 3 RX12) (hRm : wRm C 2 33 0 0) (hE : wEnd C (some .int) ad n (fun r I' J' R' => (J' = J ∧ R' = R) ∧ Q r I')) {l0 : Nat} {l1 : Int} {l2 : Int}   (hk0 : kK l0 = 12)  {k150 : Int → Int → Prop} (kk150 : ∀ (y1 : Int) (y2 : Int), k150 y1 y2 → WM C ad n I J R 0 0 150 [(0, vr l0), (1, vi y1), (2, vi y2)] []) (hw : P12_image_b150_body l0 I R Q k150 l1 l2) : WM C ad n I J R 0 0 150 [(0, vr l0), (1, vi l1), (2, vi l2)] [] := by
  unfold P12_image_b150_body at hw
  refine wm_iload_n hC 2 dX12_image_150 rfl ?_
  refine wm_aload_n hC 0 dX12_image_151 rfl (k_ne0 hk0 (by decide)) ?_
  refine x_getI hC 68 fl_X12_219 rfl hk0 dX12_image_152 ?_
  refine wm_icmp_ge (tgt := 179) hC dX12_image_155 (by decide) hw (fun hw => ?_) (fun hw => ?_)
  · refine wm_aload_n hC 0 dX12_image_179 rfl (k_ne0 hk0 (by decide)) ?_
    refine wm_iload_n hC 1 dX12_image_180 rfl ?_
    refine y_callV_v_I hC hRm noS ml_X12_568 hk0 (C12_writes hk0 hw) (Nat.le_of_ble_eq_true rfl) (Nat.le_of_ble_eq_true rfl) ⟨Nat.zero_le _, Nat.zero_le _⟩ rfl (st := []) rfl (Nat.le_of_ble_eq_true rfl) dX12_image_181 (fun I9 hw => ?_)
    refine wm_aload_n hC 0 dX12_image_184 rfl (k_ne0 hk0 (by decide)) ?_
    refine x_getI hC 68 fl_X12_219 rfl hk0 dX12_image_185 ?_
    exact wm_ireturn hC hE dX12_image_188 ⟨⟨rfl, rfl⟩, hw⟩
  · refine wm_iconst hC dX12_image_158 (k := ?_)
    refine wm_iload_n hC 1 dX12_image_159 rfl ?_
    refine x_imul hC dX12_image_160 hw (fun hw => ?_)
    refine wm_aload_n hC 0 dX12_image_161 rfl (k_ne0 hk0 (by decide)) ?_
    refine x_getR2 hC 67 fl_X12_216 rfl hk0 dX12_image_162 hw (fun g11 hw => ?_)
    refine wm_iload_n hC 2 dX12_image_165 rfl ?_
    refine x_iald hC g11 dX12_image_166 hw (fun hw => ?_)
    refine x_iadd hC dX12_image_167 hw (fun hw => ?_)
    refine wm_sipush hC dX12_image_168 (k := ?_)
    refine x_iremP hC (by decide) dX12_image_171 ?_
    refine x_nameI hw (fun x1 hw => ?_)
    refine wm_istore_n hC dX12_image_172 (by decide) (L2 := [(1, vi x1), (0, vr l0), (2, vi l2)]) rfl ?_
    refine x_iinc hC 2 dX12_image_173 rfl (by decide) (L2 := [(2, vi (l2 + 1)), (1, vi x1), (0, vr l0)]) rfl hw (fun hw => ?_)
    refine wm_goto (tgt := 150) hC dX12_image_176 (by decide) ?_
    refine wm_sub [2, 1, 0] (L2 := [(0, vr l0), (1, vi x1), (2, vi (l2 + 1))]) rfl ?_
    exact kk150 _ _ hw
set_option maxRecDepth 20000 in
theorem W12_image_b150 {C : wX} {ad : Nat → Nat} {n : Nat} {I J : mI} {R : mR} {Q : Int → mI → Prop} (hC : wOK C cX12_image 3 RX12) (hRm : wRm C 2 33 0 0) (hE : wEnd C (some .int) ad n (fun r I' J' R' => (J' = J ∧ R' = R) ∧ Q r I')) {l0 : Nat}   (hk0 : kK l0 = 12)  : ∀ (f : Nat) (l1 : Int) (l2 : Int), P12_image_b150 l0 I R Q f l1 l2 → WM C ad n I J R 0 0 150 [(0, vr l0), (1, vi l1), (2, vi l2)] [] := by
  intro f
  induction f with
  | zero => intro l1 l2 hw; exact hw.elim
  | succ f ih => intro l1 l2 hw; exact W12_image_b150_body hC hRm hE hk0 (fun a0 a1 hw => ih a0 a1 hw) hw
def P12_image_b115_body (l0 : Nat) (R : mR) (Q : Int → mI → Prop) (k115 : Int → mI → Prop) (l1 : Int) (I : mI) : Prop := (kK (R l0 20) = 21 ∧ (((0 : Int) ≤ (I l0 13) ∧ (I l0 13) < (kN (R l0 20) : Int)) ∧ (if (I (R l0 20) (I l0 13)) ≤ l1 then (∃ f, P12_image_b150 l0 I R Q f 229 0) else (kK (R l0 49) = 21 ∧ (((0 : Int) ≤ l1 ∧ l1 < (kN (R l0 49) : Int)) ∧ (P12_writes l0 (I (R l0 49) l1) I R (fun I8 => (rg (l1 + 1) ∧ (k115 (l1 + 1) I8)))))))))
def P12_image_b115 (l0 : Nat) (R : mR) (Q : Int → mI → Prop) : Nat → Int → mI → Prop
  | 0 => fun _ _ => False
  | f + 1 => fun l1 I => P12_image_b115_body l0 R Q (P12_image_b115 l0 R Q f) l1 I
set_option maxRecDepth 20000 in
theorem W12_image_b115_body {C : wX} {ad : Nat → Nat} {n : Nat} {I J : mI} {R : mR} {Q : Int → mI → Prop} (hC : wOK C cX12_image 3 RX12) (hRm : wRm C 2 33 0 0) (hE : wEnd C (some .int) ad n (fun r I' J' R' => (J' = J ∧ R' = R) ∧ Q r I')) {l0 : Nat} {l1 : Int}   (hk0 : kK l0 = 12)  {k115 : Int → mI → Prop} (kk115 : ∀ (y1 : Int) (I' : mI), k115 y1 I' → WM C ad n I' J R 0 0 115 [(0, vr l0), (1, vi y1)] []) (hw : P12_image_b115_body l0 R Q k115 l1 I) : WM C ad n I J R 0 0 115 [(0, vr l0), (1, vi l1)] [] := by
  unfold P12_image_b115_body at hw
  refine wm_iload_n hC 1 dX12_image_115 rfl ?_
  refine wm_aload_n hC 0 dX12_image_116 rfl (k_ne0 hk0 (by decide)) ?_
  refine x_getR2 hC 20 fl_X12_72 rfl hk0 dX12_image_117 hw (fun g9 hw => ?_)
  refine wm_aload_n hC 0 dX12_image_120 rfl (k_ne0 hk0 (by decide)) ?_
  refine x_getI hC 13 fl_X12_51 rfl hk0 dX12_image_121 ?_
  refine x_iald hC g9 dX12_image_124 hw (fun hw => ?_)
  refine wm_icmp_ge (tgt := 144) hC dX12_image_125 (by decide) hw (fun hw => ?_) (fun hw => ?_)
  · refine wm_sipush hC dX12_image_144 (k := ?_)
    refine wm_istore_n hC dX12_image_147 (by decide) (L2 := [(1, vi 229), (0, vr l0)]) rfl ?_
    refine wm_iconst hC dX12_image_148 (k := ?_)
    refine wm_istore_n hC dX12_image_149 (by decide) (L2 := [(2, vi 0), (1, vi 229), (0, vr l0)]) rfl ?_
    obtain ⟨f, hw⟩ := hw
    refine wm_sub [2, 1, 0] (L2 := [(0, vr l0), (1, vi 229), (2, vi 0)]) rfl ?_
    exact W12_image_b150 hC hRm hE hk0 f _ _ hw
  · refine wm_aload_n hC 0 dX12_image_128 rfl (k_ne0 hk0 (by decide)) ?_
    refine wm_aload_n hC 0 dX12_image_129 rfl (k_ne0 hk0 (by decide)) ?_
    refine x_getR2 hC 49 fl_X12_162 rfl hk0 dX12_image_130 hw (fun g10 hw => ?_)
    refine wm_iload_n hC 1 dX12_image_133 rfl ?_
    refine x_iald hC g10 dX12_image_134 hw (fun hw => ?_)
    refine y_callV_v_I hC hRm noS ml_X12_568 hk0 (C12_writes hk0 hw) (Nat.le_of_ble_eq_true rfl) (Nat.le_of_ble_eq_true rfl) ⟨Nat.zero_le _, Nat.zero_le _⟩ rfl (st := []) rfl (Nat.le_of_ble_eq_true rfl) dX12_image_135 (fun I8 hw => ?_)
    refine x_iinc hC 1 dX12_image_138 rfl (by decide) (L2 := [(1, vi (l1 + 1)), (0, vr l0)]) rfl hw (fun hw => ?_)
    refine wm_goto (tgt := 115) hC dX12_image_141 (by decide) ?_
    refine wm_sub [1, 0] (L2 := [(0, vr l0), (1, vi (l1 + 1))]) rfl ?_
    exact kk115 _ _ hw
set_option maxRecDepth 20000 in
theorem W12_image_b115 {C : wX} {ad : Nat → Nat} {n : Nat} {J : mI} {R : mR} {Q : Int → mI → Prop} (hC : wOK C cX12_image 3 RX12) (hRm : wRm C 2 33 0 0) (hE : wEnd C (some .int) ad n (fun r I' J' R' => (J' = J ∧ R' = R) ∧ Q r I')) {l0 : Nat}   (hk0 : kK l0 = 12)  : ∀ (f : Nat) (l1 : Int) (I : mI), P12_image_b115 l0 R Q f l1 I → WM C ad n I J R 0 0 115 [(0, vr l0), (1, vi l1)] [] := by
  intro f
  induction f with
  | zero => intro l1 I hw; exact hw.elim
  | succ f ih => intro l1 I hw; exact W12_image_b115_body hC hRm hE hk0 (fun a0 a1 hw => ih a0 a1 hw) hw
def P12_image_b84_body (l0 : Nat) (R : mR) (Q : Int → mI → Prop) (k84 : Int → mI → Prop) (l1 : Int) (I : mI) : Prop := (kK (R l0 14) = 21 ∧ (((0 : Int) ≤ (I l0 13) ∧ (I l0 13) < (kN (R l0 14) : Int)) ∧ (if (I (R l0 14) (I l0 13)) ≤ l1 then (∃ f, P12_image_b115 l0 R Q f 0 I) else (kK (R l0 48) = 21 ∧ (((0 : Int) ≤ l1 ∧ l1 < (kN (R l0 48) : Int)) ∧ (P12_writes l0 (I (R l0 48) l1) I R (fun I7 => (rg (l1 + 1) ∧ (k84 (l1 + 1) I7)))))))))
def P12_image_b84 (l0 : Nat) (R : mR) (Q : Int → mI → Prop) : Nat → Int → mI → Prop
  | 0 => fun _ _ => False
  | f + 1 => fun l1 I => P12_image_b84_body l0 R Q (P12_image_b84 l0 R Q f) l1 I
set_option maxRecDepth 20000 in
theorem W12_image_b84_body {C : wX} {ad : Nat → Nat} {n : Nat} {I J : mI} {R : mR} {Q : Int → mI → Prop} (hC : wOK C cX12_image 3 RX12) (hRm : wRm C 2 33 0 0) (hE : wEnd C (some .int) ad n (fun r I' J' R' => (J' = J ∧ R' = R) ∧ Q r I')) {l0 : Nat} {l1 : Int}   (hk0 : kK l0 = 12)  {k84 : Int → mI → Prop} (kk84 : ∀ (y1 : Int) (I' : mI), k84 y1 I' → WM C ad n I' J R 0 0 84 [(0, vr l0), (1, vi y1)] []) (hw : P12_image_b84_body l0 R Q k84 l1 I) : WM C ad n I J R 0 0 84 [(0, vr l0), (1, vi l1)] [] := by
  unfold P12_image_b84_body at hw
  refine wm_iload_n hC 1 dX12_image_84 rfl ?_
  refine wm_aload_n hC 0 dX12_image_85 rfl (k_ne0 hk0 (by decide)) ?_
  refine x_getR2 hC 14 fl_X12_54 rfl hk0 dX12_image_86 hw (fun g7 hw => ?_)
  refine wm_aload_n hC 0 dX12_image_89 rfl (k_ne0 hk0 (by decide)) ?_
  refine x_getI hC 13 fl_X12_51 rfl hk0 dX12_image_90 ?_
  refine x_iald hC g7 dX12_image_93 hw (fun hw => ?_)
  refine wm_icmp_ge (tgt := 113) hC dX12_image_94 (by decide) hw (fun hw => ?_) (fun hw => ?_)
  · refine wm_iconst hC dX12_image_113 (k := ?_)
    refine wm_istore_n hC dX12_image_114 (by decide) (L2 := [(1, vi 0), (0, vr l0)]) rfl ?_
    obtain ⟨f, hw⟩ := hw
    refine wm_sub [1, 0] (L2 := [(0, vr l0), (1, vi 0)]) rfl ?_
    exact W12_image_b115 hC hRm hE hk0 f _ _ hw
  · refine wm_aload_n hC 0 dX12_image_97 rfl (k_ne0 hk0 (by decide)) ?_
    refine wm_aload_n hC 0 dX12_image_98 rfl (k_ne0 hk0 (by decide)) ?_
    refine x_getR2 hC 48 fl_X12_159 rfl hk0 dX12_image_99 hw (fun g8 hw => ?_)
    refine wm_iload_n hC 1 dX12_image_102 rfl ?_
    refine x_iald hC g8 dX12_image_103 hw (fun hw => ?_)
    refine y_callV_v_I hC hRm noS ml_X12_568 hk0 (C12_writes hk0 hw) (Nat.le_of_ble_eq_true rfl) (Nat.le_of_ble_eq_true rfl) ⟨Nat.zero_le _, Nat.zero_le _⟩ rfl (st := []) rfl (Nat.le_of_ble_eq_true rfl) dX12_image_104 (fun I7 hw => ?_)
    refine x_iinc hC 1 dX12_image_107 rfl (by decide) (L2 := [(1, vi (l1 + 1)), (0, vr l0)]) rfl hw (fun hw => ?_)
    refine wm_goto (tgt := 84) hC dX12_image_110 (by decide) ?_
    refine wm_sub [1, 0] (L2 := [(0, vr l0), (1, vi (l1 + 1))]) rfl ?_
    exact kk84 _ _ hw
set_option maxRecDepth 20000 in
theorem W12_image_b84 {C : wX} {ad : Nat → Nat} {n : Nat} {J : mI} {R : mR} {Q : Int → mI → Prop} (hC : wOK C cX12_image 3 RX12) (hRm : wRm C 2 33 0 0) (hE : wEnd C (some .int) ad n (fun r I' J' R' => (J' = J ∧ R' = R) ∧ Q r I')) {l0 : Nat}   (hk0 : kK l0 = 12)  : ∀ (f : Nat) (l1 : Int) (I : mI), P12_image_b84 l0 R Q f l1 I → WM C ad n I J R 0 0 84 [(0, vr l0), (1, vi l1)] [] := by
  intro f
  induction f with
  | zero => intro l1 I hw; exact hw.elim
  | succ f ih => intro l1 I hw; exact W12_image_b84_body hC hRm hE hk0 (fun a0 a1 hw => ih a0 a1 hw) hw
def P12_image_b53_body (l0 : Nat) (R : mR) (Q : Int → mI → Prop) (k53 : Int → mI → Prop) (l1 : Int) (I : mI) : Prop := (kK (R l0 14) = 21 ∧ (((0 : Int) ≤ (I l0 13) ∧ (I l0 13) < (kN (R l0 14) : Int)) ∧ (if (I (R l0 14) (I l0 13)) ≤ l1 then (∃ f, P12_image_b84 l0 R Q f 0 I) else (kK (R l0 47) = 21 ∧ (((0 : Int) ≤ l1 ∧ l1 < (kN (R l0 47) : Int)) ∧ (P12_writes l0 (I (R l0 47) l1) I R (fun I6 => (rg (l1 + 1) ∧ (k53 (l1 + 1) I6)))))))))
def P12_image_b53 (l0 : Nat) (R : mR) (Q : Int → mI → Prop) : Nat → Int → mI → Prop
  | 0 => fun _ _ => False
  | f + 1 => fun l1 I => P12_image_b53_body l0 R Q (P12_image_b53 l0 R Q f) l1 I
set_option maxRecDepth 20000 in
theorem W12_image_b53_body {C : wX} {ad : Nat → Nat} {n : Nat} {I J : mI} {R : mR} {Q : Int → mI → Prop} (hC : wOK C cX12_image 3 RX12) (hRm : wRm C 2 33 0 0) (hE : wEnd C (some .int) ad n (fun r I' J' R' => (J' = J ∧ R' = R) ∧ Q r I')) {l0 : Nat} {l1 : Int}   (hk0 : kK l0 = 12)  {k53 : Int → mI → Prop} (kk53 : ∀ (y1 : Int) (I' : mI), k53 y1 I' → WM C ad n I' J R 0 0 53 [(0, vr l0), (1, vi y1)] []) (hw : P12_image_b53_body l0 R Q k53 l1 I) : WM C ad n I J R 0 0 53 [(0, vr l0), (1, vi l1)] [] := by
  unfold P12_image_b53_body at hw
  refine wm_iload_n hC 1 dX12_image_53 rfl ?_
  refine wm_aload_n hC 0 dX12_image_54 rfl (k_ne0 hk0 (by decide)) ?_
  refine x_getR2 hC 14 fl_X12_54 rfl hk0 dX12_image_55 hw (fun g5 hw => ?_)
  refine wm_aload_n hC 0 dX12_image_58 rfl (k_ne0 hk0 (by decide)) ?_
  refine x_getI hC 13 fl_X12_51 rfl hk0 dX12_image_59 ?_
  refine x_iald hC g5 dX12_image_62 hw (fun hw => ?_)
  refine wm_icmp_ge (tgt := 82) hC dX12_image_63 (by decide) hw (fun hw => ?_) (fun hw => ?_)
  · refine wm_iconst hC dX12_image_82 (k := ?_)
    refine wm_istore_n hC dX12_image_83 (by decide) (L2 := [(1, vi 0), (0, vr l0)]) rfl ?_
    obtain ⟨f, hw⟩ := hw
    refine wm_sub [1, 0] (L2 := [(0, vr l0), (1, vi 0)]) rfl ?_
    exact W12_image_b84 hC hRm hE hk0 f _ _ hw
  · refine wm_aload_n hC 0 dX12_image_66 rfl (k_ne0 hk0 (by decide)) ?_
    refine wm_aload_n hC 0 dX12_image_67 rfl (k_ne0 hk0 (by decide)) ?_
    refine x_getR2 hC 47 fl_X12_156 rfl hk0 dX12_image_68 hw (fun g6 hw => ?_)
    refine wm_iload_n hC 1 dX12_image_71 rfl ?_
    refine x_iald hC g6 dX12_image_72 hw (fun hw => ?_)
    refine y_callV_v_I hC hRm noS ml_X12_568 hk0 (C12_writes hk0 hw) (Nat.le_of_ble_eq_true rfl) (Nat.le_of_ble_eq_true rfl) ⟨Nat.zero_le _, Nat.zero_le _⟩ rfl (st := []) rfl (Nat.le_of_ble_eq_true rfl) dX12_image_73 (fun I6 hw => ?_)
    refine x_iinc hC 1 dX12_image_76 rfl (by decide) (L2 := [(1, vi (l1 + 1)), (0, vr l0)]) rfl hw (fun hw => ?_)
    refine wm_goto (tgt := 53) hC dX12_image_79 (by decide) ?_
    refine wm_sub [1, 0] (L2 := [(0, vr l0), (1, vi (l1 + 1))]) rfl ?_
    exact kk53 _ _ hw
set_option maxRecDepth 20000 in
theorem W12_image_b53 {C : wX} {ad : Nat → Nat} {n : Nat} {J : mI} {R : mR} {Q : Int → mI → Prop} (hC : wOK C cX12_image 3 RX12) (hRm : wRm C 2 33 0 0) (hE : wEnd C (some .int) ad n (fun r I' J' R' => (J' = J ∧ R' = R) ∧ Q r I')) {l0 : Nat}   (hk0 : kK l0 = 12)  : ∀ (f : Nat) (l1 : Int) (I : mI), P12_image_b53 l0 R Q f l1 I → WM C ad n I J R 0 0 53 [(0, vr l0), (1, vi l1)] [] := by
  intro f
  induction f with
  | zero => intro l1 I hw; exact hw.elim
  | succ f ih => intro l1 I hw; exact W12_image_b53_body hC hRm hE hk0 (fun a0 a1 hw => ih a0 a1 hw) hw
def P12_image (l0 : Nat) (I : mI) (R : mR) (Q : Int → mI → Prop) : Prop := (wLet (up I l0 68 0) (fun I1 => (kK (R l0 45) = 21 ∧ (((0 : Int) ≤ (0 : Int) ∧ (0 : Int) < (kN (R l0 45) : Int)) ∧ (P12_writes l0 (bShr (I1 (R l0 45) (0 : Int)) 8) I1 R (fun I2 => (kK (R l0 45) = 21 ∧ (((0 : Int) ≤ (0 : Int) ∧ (0 : Int) < (kN (R l0 45) : Int)) ∧ (P12_writes l0 (I2 (R l0 45) (0 : Int)) I2 R (fun I3 => (kK (R l0 46) = 21 ∧ (((0 : Int) ≤ (0 : Int) ∧ (0 : Int) < (kN (R l0 46) : Int)) ∧ (P12_writes l0 (bShr (I3 (R l0 46) (0 : Int)) 8) I3 R (fun I4 => (kK (R l0 46) = 21 ∧ (((0 : Int) ≤ (0 : Int) ∧ (0 : Int) < (kN (R l0 46) : Int)) ∧ (P12_writes l0 (I4 (R l0 46) (0 : Int)) I4 R (fun I5 => (∃ f, P12_image_b53 l0 R Q f 0 I5)))))))))))))))))))
set_option maxRecDepth 20000 in
theorem C12_image {ad : Nat → Nat} {n : Nat} {I J : mI} {R : mR} {Q : Int → mI → Prop}  {l0 : Nat} (hk0 : kK l0 = 12) (hw : P12_image l0 I R Q) : wMet yX12_image cX12_image 3 (some .int) 2 33 false ad n I J R [vr l0] (fun r I' J' R' => (J' = J ∧ R' = R) ∧ Q r I') := by
  refine wMet_of (by decide) (Nat.le_of_ble_eq_true rfl) (fun C hC hRm hE hS => ?_)
  refine (show WM C ad n I J R 0 0 0 [(0, vr l0)] [] from ?_)
  unfold P12_image at hw
  refine wm_aload_n hC 0 dX12_image_0 rfl (k_ne0 hk0 (by decide)) ?_
  refine wm_iconst hC dX12_image_1 (k := ?_)
  refine x_putI hC 68 fl_X12_219 rfl hk0 dX12_image_2 hw (fun I1 hw => ?_)
  refine wm_aload_n hC 0 dX12_image_5 rfl (k_ne0 hk0 (by decide)) ?_
  refine wm_aload_n hC 0 dX12_image_6 rfl (k_ne0 hk0 (by decide)) ?_
  refine x_getR2 hC 45 fl_X12_150 rfl hk0 dX12_image_7 hw (fun g1 hw => ?_)
  refine wm_iconst hC dX12_image_10 (k := ?_)
  refine x_iald hC g1 dX12_image_11 hw (fun hw => ?_)
  refine wm_bipush hC dX12_image_12 (k := ?_)
  refine wm_ishr hC dX12_image_14 ?_
  refine y_callV_v_I hC hRm noS ml_X12_568 hk0 (C12_writes hk0 hw) (Nat.le_of_ble_eq_true rfl) (Nat.le_of_ble_eq_true rfl) ⟨Nat.zero_le _, Nat.zero_le _⟩ rfl (st := []) rfl (Nat.le_of_ble_eq_true rfl) dX12_image_15 (fun I2 hw => ?_)
  refine wm_aload_n hC 0 dX12_image_18 rfl (k_ne0 hk0 (by decide)) ?_
  refine wm_aload_n hC 0 dX12_image_19 rfl (k_ne0 hk0 (by decide)) ?_
  refine x_getR2 hC 45 fl_X12_150 rfl hk0 dX12_image_20 hw (fun g2 hw => ?_)
  refine wm_iconst hC dX12_image_23 (k := ?_)
  refine x_iald hC g2 dX12_image_24 hw (fun hw => ?_)
  refine y_callV_v_I hC hRm noS ml_X12_568 hk0 (C12_writes hk0 hw) (Nat.le_of_ble_eq_true rfl) (Nat.le_of_ble_eq_true rfl) ⟨Nat.zero_le _, Nat.zero_le _⟩ rfl (st := []) rfl (Nat.le_of_ble_eq_true rfl) dX12_image_25 (fun I3 hw => ?_)
  refine wm_aload_n hC 0 dX12_image_28 rfl (k_ne0 hk0 (by decide)) ?_
  refine wm_aload_n hC 0 dX12_image_29 rfl (k_ne0 hk0 (by decide)) ?_
  refine x_getR2 hC 46 fl_X12_153 rfl hk0 dX12_image_30 hw (fun g3 hw => ?_)
  refine wm_iconst hC dX12_image_33 (k := ?_)
  refine x_iald hC g3 dX12_image_34 hw (fun hw => ?_)
  refine wm_bipush hC dX12_image_35 (k := ?_)
  refine wm_ishr hC dX12_image_37 ?_
  refine y_callV_v_I hC hRm noS ml_X12_568 hk0 (C12_writes hk0 hw) (Nat.le_of_ble_eq_true rfl) (Nat.le_of_ble_eq_true rfl) ⟨Nat.zero_le _, Nat.zero_le _⟩ rfl (st := []) rfl (Nat.le_of_ble_eq_true rfl) dX12_image_38 (fun I4 hw => ?_)
  refine wm_aload_n hC 0 dX12_image_41 rfl (k_ne0 hk0 (by decide)) ?_
  refine wm_aload_n hC 0 dX12_image_42 rfl (k_ne0 hk0 (by decide)) ?_
  refine x_getR2 hC 46 fl_X12_153 rfl hk0 dX12_image_43 hw (fun g4 hw => ?_)
  refine wm_iconst hC dX12_image_46 (k := ?_)
  refine x_iald hC g4 dX12_image_47 hw (fun hw => ?_)
  refine y_callV_v_I hC hRm noS ml_X12_568 hk0 (C12_writes hk0 hw) (Nat.le_of_ble_eq_true rfl) (Nat.le_of_ble_eq_true rfl) ⟨Nat.zero_le _, Nat.zero_le _⟩ rfl (st := []) rfl (Nat.le_of_ble_eq_true rfl) dX12_image_48 (fun I5 hw => ?_)
  refine wm_iconst hC dX12_image_51 (k := ?_)
  refine wm_istore_n hC dX12_image_52 (by decide) (L2 := [(1, vi 0), (0, vr l0)]) rfl ?_
  obtain ⟨f, hw⟩ := hw
  refine wm_sub [1, 0] (L2 := [(0, vr l0), (1, vi 0)]) rfl ?_
  exact W12_image_b53 hC hRm hE hk0 f _ _ hw
def P12_octet (l0 : Nat) (l1 : Int) (I : mI) (R : mR) (Q : Int → Prop) : Prop := (rg ((I l0 68) - 1) ∧ (P12_is l1 0 ((I l0 68) - 1) (fun r1 => (if r1 = 0 then (Q (-1)) else (kK (R l0 67) = 21 ∧ (((0 : Int) ≤ l1 ∧ l1 < (kN (R l0 67) : Int)) ∧ (Q (I (R l0 67) l1))))))))
set_option maxRecDepth 20000 in
theorem C12_octet {ad : Nat → Nat} {n : Nat} {I J : mI} {R : mR} {Q : Int → Prop}  {l0 : Nat} {l1 : Int} (hk0 : kK l0 = 12) (hw : P12_octet l0 l1 I R Q) : wMet yX12_octet cX12_octet 2 (some .int) 2 34 false ad n I J R [vr l0, vi l1] (fun r I' J' R' => (I' = I ∧ J' = J ∧ R' = R) ∧ Q r) := by
  refine wMet_of (by decide) (Nat.le_of_ble_eq_true rfl) (fun C hC hRm hE hS => ?_)
  refine (show WM C ad n I J R 0 0 0 [(0, vr l0), (1, vi l1)] [] from ?_)
  unfold P12_octet at hw
  refine wm_iload_n hC 1 dX12_octet_0 rfl ?_
  refine wm_iconst hC dX12_octet_1 (k := ?_)
  refine wm_aload_n hC 0 dX12_octet_2 rfl (k_ne0 hk0 (by decide)) ?_
  refine x_getI hC 68 fl_X12_219 rfl hk0 dX12_octet_3 ?_
  refine wm_iconst hC dX12_octet_6 (k := ?_)
  refine x_isub hC dX12_octet_7 hw (fun hw => ?_)
  refine y_callS_z_n hC hRm noS ml_X12_309 (C12_is  hw) (Nat.le_of_ble_eq_true rfl) (Nat.le_of_ble_eq_true rfl) ⟨Nat.zero_le _, Nat.zero_le _⟩ rfl (st := []) rfl (Nat.le_of_ble_eq_true rfl) dX12_octet_8 (fun r1 hw => ?_)
  refine wm_if_eq (tgt := 23) hC dX12_octet_11 (by decide) hw (fun hw => ?_) (fun hw => ?_)
  · refine wm_iconst hC dX12_octet_23 (k := ?_)
    exact wm_ireturn hC hE dX12_octet_24 ⟨⟨rfl, rfl, rfl⟩, hw⟩
  · refine wm_aload_n hC 0 dX12_octet_14 rfl (k_ne0 hk0 (by decide)) ?_
    refine x_getR2 hC 67 fl_X12_216 rfl hk0 dX12_octet_15 hw (fun g1 hw => ?_)
    refine wm_iload_n hC 1 dX12_octet_18 rfl ?_
    refine x_iald hC g1 dX12_octet_19 hw (fun hw => ?_)
    refine wm_goto (tgt := 24) hC dX12_octet_20 (by decide) ?_
    exact wm_ireturn hC hE dX12_octet_24 ⟨⟨rfl, rfl, rfl⟩, hw⟩
def P12_comesOn_b337 (l0 : Nat) (l2 : Int) (l5 : Int) (l6 : Int) (I : mI) (R : mR) (k289 : Int → mI → Prop) (Q : Int → mI → Prop) : Prop := (kK (R l0 49) = 21 ∧ (rg (6 + l5) ∧ (if l6 = 255 then (((0 : Int) ≤ (6 + l5) ∧ (6 + l5) < (kN (R l0 49) : Int)) ∧ wLet (up I (R l0 49) (6 + l5) (-1)) (fun I8 => (rg (l5 + 1) ∧ (k289 (l5 + 1) I8)))) else (((0 : Int) ≤ (6 + l5) ∧ (6 + l5) < (kN (R l0 49) : Int)) ∧ wLet (up I (R l0 49) (6 + l5) l6) (fun I7 => (rg (l5 + 1) ∧ (k289 (l5 + 1) I7)))))))
set_option maxRecDepth 20000 in
theorem W12_comesOn_b337 {C : wX} {ad : Nat → Nat} {n : Nat} {I J : mI} {R : mR} {Q : Int → mI → Prop} (hC : wOK C cX12_comesOn 8 RX12) (hRm : wRm C 2 35 0 0) (hE : wEnd C (some .boolean) ad n (fun r I' J' R' => (J' = J ∧ R' = R) ∧ Q r I')) {l0 : Nat} {l2 : Int} {l5 : Int} {l6 : Int}  {k289 : Int → mI → Prop} (hk0 : kK l0 = 12) (kk289 : ∀ (y5 : Int) (I' : mI), k289 y5 I' → WM C ad n I' J R 0 0 289 [(0, vr l0), (2, vi l2), (5, vi y5)] []) (hw : P12_comesOn_b337 l0 l2 l5 l6 I R k289 Q) : WM C ad n I J R 0 0 337 [(0, vr l0), (2, vi l2), (5, vi l5), (6, vi l6)] [] := by
  unfold P12_comesOn_b337 at hw
  refine wm_aload_n hC 0 dX12_comesOn_337 rfl (k_ne0 hk0 (by decide)) ?_
  refine x_getR2 hC 49 fl_X12_162 rfl hk0 dX12_comesOn_338 hw (fun g22 hw => ?_)
  refine wm_bipush hC dX12_comesOn_341 (k := ?_)
  refine wm_iload hC 2 dX12_comesOn_343 rfl ?_
  refine x_iadd hC dX12_comesOn_345 hw (fun hw => ?_)
  refine wm_iload hC 3 dX12_comesOn_346 rfl ?_
  refine wm_sipush hC dX12_comesOn_348 (k := ?_)
  refine wm_icmp_ne (tgt := 358) hC dX12_comesOn_351 (by decide) hw (fun hw => ?_) (fun hw => ?_)
  · refine wm_iconst hC dX12_comesOn_354 (k := ?_)
    refine wm_goto (tgt := 360) hC dX12_comesOn_355 (by decide) ?_
    refine x_iast hC g22 dX12_comesOn_360 hw (fun I8 hw => ?_)
    refine x_iinc hC 2 dX12_comesOn_361 rfl (by decide) (L2 := [(5, vi (l5 + 1)), (0, vr l0), (2, vi l2), (6, vi l6)]) rfl hw (fun hw => ?_)
    refine wm_goto (tgt := 289) hC dX12_comesOn_364 (by decide) ?_
    refine wm_sub [1, 2, 0] (L2 := [(0, vr l0), (2, vi l2), (5, vi (l5 + 1))]) rfl ?_
    exact kk289 _ _ hw
  · refine wm_iload hC 3 dX12_comesOn_358 rfl ?_
    refine x_iast hC g22 dX12_comesOn_360 hw (fun I7 hw => ?_)
    refine x_iinc hC 2 dX12_comesOn_361 rfl (by decide) (L2 := [(5, vi (l5 + 1)), (0, vr l0), (2, vi l2), (6, vi l6)]) rfl hw (fun hw => ?_)
    refine wm_goto (tgt := 289) hC dX12_comesOn_364 (by decide) ?_
    refine wm_sub [1, 2, 0] (L2 := [(0, vr l0), (2, vi l2), (5, vi (l5 + 1))]) rfl ?_
    exact kk289 _ _ hw
def P12_comesOn_b289_body (l0 : Nat) (l2 : Int) (R : mR) (Q : Int → mI → Prop) (k289 : Int → mI → Prop) (l5 : Int) (I : mI) : Prop := (kK (R l0 20) = 21 ∧ (((0 : Int) ≤ (I l0 13) ∧ (I l0 13) < (kN (R l0 20) : Int)) ∧ (if (I (R l0 20) (I l0 13)) ≤ l5 then (Q 1 I) else (kK (R l0 0) = 21 ∧ (rg (2 * l2) ∧ (rg (4 + (2 * l2)) ∧ (rg ((4 + (2 * l2)) + l5) ∧ (((0 : Int) ≤ ((4 + (2 * l2)) + l5) ∧ ((4 + (2 * l2)) + l5) < (kN (R l0 0) : Int)) ∧ (wLet (I (R l0 0) ((4 + (2 * l2)) + l5)) (fun x5 => (if x5 = 255 then (P12_comesOn_b337 l0 l2 l5 x5 I R k289 Q) else (P12_isColour l0 x5 I R (fun r3 => (if r3 = 0 then (Q 0 I) else (P12_comesOn_b337 l0 l2 l5 x5 I R k289 Q)))))))))))))))
def P12_comesOn_b289 (l0 : Nat) (l2 : Int) (R : mR) (Q : Int → mI → Prop) : Nat → Int → mI → Prop
  | 0 => fun _ _ => False
  | f + 1 => fun l5 I => P12_comesOn_b289_body l0 l2 R Q (P12_comesOn_b289 l0 l2 R Q f) l5 I
set_option maxRecDepth 20000 in
theorem W12_comesOn_b289_body {C : wX} {ad : Nat → Nat} {n : Nat} {I J : mI} {R : mR} {Q : Int → mI → Prop} (hC : wOK C cX12_comesOn 8 RX12) (hRm : wRm C 2 35 0 0) (hE : wEnd C (some .boolean) ad n (fun r I' J' R' => (J' = J ∧ R' = R) ∧ Q r I')) {l0 : Nat} {l2 : Int} {l5 : Int}   (hk0 : kK l0 = 12)  {k289 : Int → mI → Prop} (kk289 : ∀ (y5 : Int) (I' : mI), k289 y5 I' → WM C ad n I' J R 0 0 289 [(0, vr l0), (2, vi l2), (5, vi y5)] []) (hw : P12_comesOn_b289_body l0 l2 R Q k289 l5 I) : WM C ad n I J R 0 0 289 [(0, vr l0), (2, vi l2), (5, vi l5)] [] := by
  unfold P12_comesOn_b289_body at hw
  refine wm_iload hC 2 dX12_comesOn_289 rfl ?_
  refine wm_aload_n hC 0 dX12_comesOn_291 rfl (k_ne0 hk0 (by decide)) ?_
  refine x_getR2 hC 20 fl_X12_72 rfl hk0 dX12_comesOn_292 hw (fun g20 hw => ?_)
  refine wm_aload_n hC 0 dX12_comesOn_295 rfl (k_ne0 hk0 (by decide)) ?_
  refine x_getI hC 13 fl_X12_51 rfl hk0 dX12_comesOn_296 ?_
  refine x_iald hC g20 dX12_comesOn_299 hw (fun hw => ?_)
  refine wm_icmp_ge (tgt := 367) hC dX12_comesOn_300 (by decide) hw (fun hw => ?_) (fun hw => ?_)
  · refine wm_iconst hC dX12_comesOn_367 (k := ?_)
    exact wm_zreturn hC hE (Or.inr rfl) dX12_comesOn_368 ⟨⟨rfl, rfl⟩, hw⟩
  · refine wm_aload_n hC 0 dX12_comesOn_303 rfl (k_ne0 hk0 (by decide)) ?_
    refine x_getR2 hC 0 fl_X12_7 rfl hk0 dX12_comesOn_304 hw (fun g21 hw => ?_)
    refine wm_iconst hC dX12_comesOn_307 (k := ?_)
    refine wm_iconst hC dX12_comesOn_308 (k := ?_)
    refine wm_iload_n hC 1 dX12_comesOn_309 rfl ?_
    refine x_imul hC dX12_comesOn_310 hw (fun hw => ?_)
    refine x_iadd hC dX12_comesOn_311 hw (fun hw => ?_)
    refine wm_iload hC 2 dX12_comesOn_312 rfl ?_
    refine x_iadd hC dX12_comesOn_314 hw (fun hw => ?_)
    refine x_iald hC g21 dX12_comesOn_315 hw (fun hw => ?_)
    refine x_nameI hw (fun x5 hw => ?_)
    refine wm_istore hC dX12_comesOn_316 (by decide) (L2 := [(6, vi x5), (0, vr l0), (2, vi l2), (5, vi l5)]) rfl ?_
    refine wm_iload hC 0 dX12_comesOn_318 rfl ?_
    refine wm_sipush hC dX12_comesOn_320 (k := ?_)
    refine wm_icmp_eq (tgt := 337) hC dX12_comesOn_323 (by decide) hw (fun hw => ?_) (fun hw => ?_)
    · refine wm_sub [1, 2, 3, 0] (L2 := [(0, vr l0), (2, vi l2), (5, vi l5), (6, vi x5)]) rfl ?_
      exact W12_comesOn_b337 hC hRm hE hk0 kk289 hw
    · refine wm_aload_n hC 1 dX12_comesOn_326 rfl (k_ne0 hk0 (by decide)) ?_
      refine wm_iload hC 0 dX12_comesOn_327 rfl ?_
      refine y_callV_z_n hC hRm noS ml_X12_510 hk0 (C12_isColour hk0 hw) (Nat.le_of_ble_eq_true rfl) (Nat.le_of_ble_eq_true rfl) ⟨Nat.zero_le _, Nat.zero_le _⟩ rfl (st := []) rfl (Nat.le_of_ble_eq_true rfl) dX12_comesOn_329 (fun r3 hw => ?_)
      refine wm_if_ne (tgt := 337) hC dX12_comesOn_332 (by decide) hw (fun hw => ?_) (fun hw => ?_)
      · refine wm_iconst hC dX12_comesOn_335 (k := ?_)
        exact wm_zreturn hC hE (Or.inl rfl) dX12_comesOn_336 ⟨⟨rfl, rfl⟩, hw⟩
      · refine wm_sub [1, 2, 3, 0] (L2 := [(0, vr l0), (2, vi l2), (5, vi l5), (6, vi x5)]) rfl ?_
        exact W12_comesOn_b337 hC hRm hE hk0 kk289 hw
set_option maxRecDepth 20000 in
theorem W12_comesOn_b289 {C : wX} {ad : Nat → Nat} {n : Nat} {J : mI} {R : mR} {Q : Int → mI → Prop} (hC : wOK C cX12_comesOn 8 RX12) (hRm : wRm C 2 35 0 0) (hE : wEnd C (some .boolean) ad n (fun r I' J' R' => (J' = J ∧ R' = R) ∧ Q r I')) {l0 : Nat} {l2 : Int}   (hk0 : kK l0 = 12)  : ∀ (f : Nat) (l5 : Int) (I : mI), P12_comesOn_b289 l0 l2 R Q f l5 I → WM C ad n I J R 0 0 289 [(0, vr l0), (2, vi l2), (5, vi l5)] [] := by
  intro f
  induction f with
  | zero => intro l5 I hw; exact hw.elim
  | succ f ih => intro l5 I hw; exact W12_comesOn_b289_body hC hRm hE hk0 (fun a0 a1 hw => ih a0 a1 hw) hw
def P12_comesOn_b189_body (l0 : Nat) (l2 : Int) (R : mR) (Q : Int → mI → Prop) (k189 : Int → Int → mI → Prop) (l4 : Int) (l5 : Int) (I : mI) : Prop := (if l2 ≤ l5 then (∃ f, P12_comesOn_b289 l0 l2 R Q f 0 I) else (kK (R l0 0) = 21 ∧ (rg (4 + l5) ∧ (((0 : Int) ≤ (4 + l5) ∧ (4 + l5) < (kN (R l0 0) : Int)) ∧ (wLet (I (R l0 0) (4 + l5)) (fun x3 => (kK (R l0 0) = 21 ∧ (rg (4 + l2) ∧ (rg ((4 + l2) + l5) ∧ (((0 : Int) ≤ ((4 + l2) + l5) ∧ ((4 + l2) + l5) < (kN (R l0 0) : Int)) ∧ (wLet (I (R l0 0) ((4 + l2) + l5)) (fun x4 => (P12_isBlind l0 x3 I R (fun r1 => (if r1 = 0 then (Q 0 I) else (P12_has2 l4 x3 (fun r2 => (if r2 = 0 then (if x4 ≤ 9 then (kK (R l0 47) = 21 ∧ (rg (6 + l5) ∧ (((0 : Int) ≤ (6 + l5) ∧ (6 + l5) < (kN (R l0 47) : Int)) ∧ wLet (up I (R l0 47) (6 + l5) x3) (fun I5 => (kK (R l0 48) = 21 ∧ (rg (6 + l5) ∧ (((0 : Int) ≤ (6 + l5) ∧ (6 + l5) < (kN (R l0 48) : Int)) ∧ wLet (up I5 (R l0 48) (6 + l5) x4) (fun I6 => (rg (l5 + 1) ∧ (k189 (bOr l4 (bShl 1 x3)) (l5 + 1) I6)))))))))) else (Q 0 I)) else (Q 0 I)))))))))))))))))))
def P12_comesOn_b189 (l0 : Nat) (l2 : Int) (R : mR) (Q : Int → mI → Prop) : Nat → Int → Int → mI → Prop
  | 0 => fun _ _ _ => False
  | f + 1 => fun l4 l5 I => P12_comesOn_b189_body l0 l2 R Q (P12_comesOn_b189 l0 l2 R Q f) l4 l5 I
set_option maxRecDepth 20000 in
theorem W12_comesOn_b189_body {C : wX} {ad : Nat → Nat} {n : Nat} {I J : mI} {R : mR} {Q : Int → mI → Prop} (hC : wOK C cX12_comesOn 8 RX12) (hRm : wRm C 2 35 0 0) (hE : wEnd C (some .boolean) ad n (fun r I' J' R' => (J' = J ∧ R' = R) ∧ Q r I')) {l0 : Nat} {l2 : Int} {l4 : Int} {l5 : Int}   (hk0 : kK l0 = 12)  {k189 : Int → Int → mI → Prop} (kk189 : ∀ (y4 : Int) (y5 : Int) (I' : mI), k189 y4 y5 I' → WM C ad n I' J R 0 0 189 [(0, vr l0), (2, vi l2), (4, vi y4), (5, vi y5)] []) (hw : P12_comesOn_b189_body l0 l2 R Q k189 l4 l5 I) : WM C ad n I J R 0 0 189 [(0, vr l0), (2, vi l2), (4, vi l4), (5, vi l5)] [] := by
  unfold P12_comesOn_b189_body at hw
  refine wm_iload hC 3 dX12_comesOn_189 rfl ?_
  refine wm_iload_n hC 1 dX12_comesOn_191 rfl ?_
  refine wm_icmp_ge (tgt := 286) hC dX12_comesOn_192 (by decide) hw (fun hw => ?_) (fun hw => ?_)
  · refine wm_iconst hC dX12_comesOn_286 (k := ?_)
    refine wm_istore hC dX12_comesOn_287 (by decide) (L2 := [(5, vi 0), (0, vr l0), (2, vi l2), (4, vi l4)]) rfl ?_
    obtain ⟨f, hw⟩ := hw
    refine wm_sub [1, 2, 0] (L2 := [(0, vr l0), (2, vi l2), (5, vi 0)]) rfl ?_
    exact W12_comesOn_b289 hC hRm hE hk0 f _ _ hw
  · refine wm_aload_n hC 0 dX12_comesOn_195 rfl (k_ne0 hk0 (by decide)) ?_
    refine x_getR2 hC 0 fl_X12_7 rfl hk0 dX12_comesOn_196 hw (fun g16 hw => ?_)
    refine wm_iconst hC dX12_comesOn_199 (k := ?_)
    refine wm_iload hC 3 dX12_comesOn_200 rfl ?_
    refine x_iadd hC dX12_comesOn_202 hw (fun hw => ?_)
    refine x_iald hC g16 dX12_comesOn_203 hw (fun hw => ?_)
    refine x_nameI hw (fun x3 hw => ?_)
    refine wm_istore hC dX12_comesOn_204 (by decide) (L2 := [(6, vi x3), (0, vr l0), (2, vi l2), (4, vi l4), (5, vi l5)]) rfl ?_
    refine wm_aload_n hC 1 dX12_comesOn_206 rfl (k_ne0 hk0 (by decide)) ?_
    refine x_getR2 hC 0 fl_X12_7 rfl hk0 dX12_comesOn_207 hw (fun g17 hw => ?_)
    refine wm_iconst hC dX12_comesOn_210 (k := ?_)
    refine wm_iload_n hC 2 dX12_comesOn_211 rfl ?_
    refine x_iadd hC dX12_comesOn_212 hw (fun hw => ?_)
    refine wm_iload hC 4 dX12_comesOn_213 rfl ?_
    refine x_iadd hC dX12_comesOn_215 hw (fun hw => ?_)
    refine x_iald hC g17 dX12_comesOn_216 hw (fun hw => ?_)
    refine x_nameI hw (fun x4 hw => ?_)
    refine wm_istore hC dX12_comesOn_217 (by decide) (L2 := [(7, vi x4), (6, vi x3), (0, vr l0), (2, vi l2), (4, vi l4), (5, vi l5)]) rfl ?_
    refine wm_aload_n hC 2 dX12_comesOn_219 rfl (k_ne0 hk0 (by decide)) ?_
    refine wm_iload hC 1 dX12_comesOn_220 rfl ?_
    refine y_callV_z_n hC hRm noS ml_X12_507 hk0 (C12_isBlind hk0 hw) (Nat.le_of_ble_eq_true rfl) (Nat.le_of_ble_eq_true rfl) ⟨Nat.zero_le _, Nat.zero_le _⟩ rfl (st := []) rfl (Nat.le_of_ble_eq_true rfl) dX12_comesOn_222 (fun r1 hw => ?_)
    refine wm_if_eq (tgt := 245) hC dX12_comesOn_225 (by decide) hw (fun hw => ?_) (fun hw => ?_)
    · refine wm_iconst hC dX12_comesOn_245 (k := ?_)
      exact wm_zreturn hC hE (Or.inl rfl) dX12_comesOn_246 ⟨⟨rfl, rfl⟩, hw⟩
    · refine wm_iload hC 4 dX12_comesOn_228 rfl ?_
      refine wm_iload hC 1 dX12_comesOn_230 rfl ?_
      refine y_callS_z_n hC hRm noS ml_X12_351 (C12_has2  hw) (Nat.le_of_ble_eq_true rfl) (Nat.le_of_ble_eq_true rfl) ⟨Nat.zero_le _, Nat.zero_le _⟩ rfl (st := []) rfl (Nat.le_of_ble_eq_true rfl) dX12_comesOn_232 (fun r2 hw => ?_)
      refine wm_if_ne (tgt := 245) hC dX12_comesOn_235 (by decide) hw (fun hw => ?_) (fun hw => ?_)
      · refine wm_iload hC 0 dX12_comesOn_238 rfl ?_
        refine wm_bipush hC dX12_comesOn_240 (k := ?_)
        refine wm_icmp_le (tgt := 247) hC dX12_comesOn_242 (by decide) hw (fun hw => ?_) (fun hw => ?_)
        · refine wm_iload hC 4 dX12_comesOn_247 rfl ?_
          refine wm_iconst hC dX12_comesOn_249 (k := ?_)
          refine wm_iload hC 1 dX12_comesOn_250 rfl ?_
          refine wm_ishl hC dX12_comesOn_252 ?_
          refine wm_ior hC dX12_comesOn_253 ?_
          refine wm_istore hC dX12_comesOn_254 (by decide) (L2 := [(4, vi (bOr l4 (bShl 1 x3))), (7, vi x4), (6, vi x3), (0, vr l0), (2, vi l2), (5, vi l5)]) rfl ?_
          refine wm_aload_n hC 3 dX12_comesOn_256 rfl (k_ne0 hk0 (by decide)) ?_
          refine x_getR2 hC 47 fl_X12_156 rfl hk0 dX12_comesOn_257 hw (fun g18 hw => ?_)
          refine wm_bipush hC dX12_comesOn_260 (k := ?_)
          refine wm_iload hC 5 dX12_comesOn_262 rfl ?_
          refine x_iadd hC dX12_comesOn_264 hw (fun hw => ?_)
          refine wm_iload hC 2 dX12_comesOn_265 rfl ?_
          refine x_iast hC g18 dX12_comesOn_267 hw (fun I5 hw => ?_)
          refine wm_aload_n hC 3 dX12_comesOn_268 rfl (k_ne0 hk0 (by decide)) ?_
          refine x_getR2 hC 48 fl_X12_159 rfl hk0 dX12_comesOn_269 hw (fun g19 hw => ?_)
          refine wm_bipush hC dX12_comesOn_272 (k := ?_)
          refine wm_iload hC 5 dX12_comesOn_274 rfl ?_
          refine x_iadd hC dX12_comesOn_276 hw (fun hw => ?_)
          refine wm_iload hC 1 dX12_comesOn_277 rfl ?_
          refine x_iast hC g19 dX12_comesOn_279 hw (fun I6 hw => ?_)
          refine x_iinc hC 5 dX12_comesOn_280 rfl (by decide) (L2 := [(5, vi (l5 + 1)), (4, vi (bOr l4 (bShl 1 x3))), (7, vi x4), (6, vi x3), (0, vr l0), (2, vi l2)]) rfl hw (fun hw => ?_)
          refine wm_goto (tgt := 189) hC dX12_comesOn_283 (by decide) ?_
          refine wm_sub [4, 5, 1, 0] (L2 := [(0, vr l0), (2, vi l2), (4, vi (bOr l4 (bShl 1 x3))), (5, vi (l5 + 1))]) rfl ?_
          exact kk189 _ _ _ hw
        · refine wm_iconst hC dX12_comesOn_245 (k := ?_)
          exact wm_zreturn hC hE (Or.inl rfl) dX12_comesOn_246 ⟨⟨rfl, rfl⟩, hw⟩
      · refine wm_iconst hC dX12_comesOn_245 (k := ?_)
        exact wm_zreturn hC hE (Or.inl rfl) dX12_comesOn_246 ⟨⟨rfl, rfl⟩, hw⟩
set_option maxRecDepth 20000 in
theorem W12_comesOn_b189 {C : wX} {ad : Nat → Nat} {n : Nat} {J : mI} {R : mR} {Q : Int → mI → Prop} (hC : wOK C cX12_comesOn 8 RX12) (hRm : wRm C 2 35 0 0) (hE : wEnd C (some .boolean) ad n (fun r I' J' R' => (J' = J ∧ R' = R) ∧ Q r I')) {l0 : Nat} {l2 : Int}   (hk0 : kK l0 = 12)  : ∀ (f : Nat) (l4 : Int) (l5 : Int) (I : mI), P12_comesOn_b189 l0 l2 R Q f l4 l5 I → WM C ad n I J R 0 0 189 [(0, vr l0), (2, vi l2), (4, vi l4), (5, vi l5)] [] := by
  intro f
  induction f with
  | zero => intro l4 l5 I hw; exact hw.elim
  | succ f ih => intro l4 l5 I hw; exact W12_comesOn_b189_body hC hRm hE hk0 (fun a0 a1 a2 hw => ih a0 a1 a2 hw) hw
def P12_comesOn_b82_body (l0 : Nat) (l1 : Int) (l2 : Int) (I : mI) (R : mR) (Q : Int → mI → Prop) (k82 : Int → Int → Prop) (l3 : Int) (l4 : Int) : Prop := (rg (l1 - 1) ∧ (if (l1 - 1) ≤ l4 then (kK (R l0 0) = 21 ∧ (rg (l1 - 1) ∧ (((0 : Int) ≤ (l1 - 1) ∧ (l1 - 1) < (kN (R l0 0) : Int)) ∧ (if (I (R l0 0) (l1 - 1)) = l3 then (P12_copies l0 1 0 I R (fun I1 => (kK (R l0 45) = 21 ∧ (kK (R l0 0) = 21 ∧ (((0 : Int) ≤ (0 : Int) ∧ (0 : Int) < (kN (R l0 0) : Int)) ∧ (kK (R l0 0) = 21 ∧ (((0 : Int) ≤ (1 : Int) ∧ (1 : Int) < (kN (R l0 0) : Int)) ∧ (((0 : Int) ≤ (1 : Int) ∧ (1 : Int) < (kN (R l0 45) : Int)) ∧ wLet (up I1 (R l0 45) (1 : Int) (bOr (bShl (I1 (R l0 0) (0 : Int)) 8) (I1 (R l0 0) (1 : Int)))) (fun I2 => (kK (R l0 46) = 21 ∧ (kK (R l0 0) = 21 ∧ (((0 : Int) ≤ (2 : Int) ∧ (2 : Int) < (kN (R l0 0) : Int)) ∧ (kK (R l0 0) = 21 ∧ (((0 : Int) ≤ (3 : Int) ∧ (3 : Int) < (kN (R l0 0) : Int)) ∧ (((0 : Int) ≤ (1 : Int) ∧ (1 : Int) < (kN (R l0 46) : Int)) ∧ wLet (up I2 (R l0 46) (1 : Int) (bOr (bShl (I2 (R l0 0) (2 : Int)) 8) (I2 (R l0 0) (3 : Int)))) (fun I3 => (kK (R l0 50) = 21 ∧ (((0 : Int) ≤ (1 : Int) ∧ (1 : Int) < (kN (R l0 50) : Int)) ∧ wLet (up I3 (R l0 50) (1 : Int) 0) (fun I4 => (∃ f, P12_comesOn_b189 l0 l2 R Q f 0 0 I4)))))))))))))))))))) else (Q 0 I))))) else (rg (5 * l3) ∧ (kK (R l0 0) = 21 ∧ (((0 : Int) ≤ l4 ∧ l4 < (kN (R l0 0) : Int)) ∧ (rg ((5 * l3) + (I (R l0 0) l4)) ∧ (wLet (Int.tmod ((5 * l3) + (I (R l0 0) l4)) 251) (fun x2 => (rg (l4 + 1) ∧ (k82 x2 (l4 + 1)))))))))))
def P12_comesOn_b82 (l0 : Nat) (l1 : Int) (l2 : Int) (I : mI) (R : mR) (Q : Int → mI → Prop) : Nat → Int → Int → Prop
  | 0 => fun _ _ => False
  | f + 1 => fun l3 l4 => P12_comesOn_b82_body l0 l1 l2 I R Q (P12_comesOn_b82 l0 l1 l2 I R Q f) l3 l4
set_option maxRecDepth 20000 in
theorem W12_comesOn_b82_body {C : wX} {ad : Nat → Nat} {n : Nat} {I J : mI} {R : mR} {Q : Int → mI → Prop} (hC : wOK C cX12_comesOn 8 RX12) (hRm : wRm C 2 35 0 0) (hE : wEnd C (some .boolean) ad n (fun r I' J' R' => (J' = J ∧ R' = R) ∧ Q r I')) {l0 : Nat} {l1 : Int} {l2 : Int} {l3 : Int} {l4 : Int}   (hk0 : kK l0 = 12)  {k82 : Int → Int → Prop} (kk82 : ∀ (y3 : Int) (y4 : Int), k82 y3 y4 → WM C ad n I J R 0 0 82 [(0, vr l0), (1, vi l1), (2, vi l2), (3, vi y3), (4, vi y4)] []) (hw : P12_comesOn_b82_body l0 l1 l2 I R Q k82 l3 l4) : WM C ad n I J R 0 0 82 [(0, vr l0), (1, vi l1), (2, vi l2), (3, vi l3), (4, vi l4)] [] := by
  unfold P12_comesOn_b82_body at hw
  refine wm_iload hC 4 dX12_comesOn_82 rfl ?_
  refine wm_iload_n hC 1 dX12_comesOn_84 rfl ?_
  refine wm_iconst hC dX12_comesOn_85 (k := ?_)
  refine x_isub hC dX12_comesOn_86 hw (fun hw => ?_)
  refine wm_icmp_ge (tgt := 112) hC dX12_comesOn_87 (by decide) hw (fun hw => ?_) (fun hw => ?_)
  · refine wm_aload_n hC 0 dX12_comesOn_112 rfl (k_ne0 hk0 (by decide)) ?_
    refine x_getR2 hC 0 fl_X12_7 rfl hk0 dX12_comesOn_113 hw (fun g7 hw => ?_)
    refine wm_iload_n hC 1 dX12_comesOn_116 rfl ?_
    refine wm_iconst hC dX12_comesOn_117 (k := ?_)
    refine x_isub hC dX12_comesOn_118 hw (fun hw => ?_)
    refine x_iald hC g7 dX12_comesOn_119 hw (fun hw => ?_)
    refine wm_iload_n hC 3 dX12_comesOn_120 rfl ?_
    refine wm_icmp_eq (tgt := 126) hC dX12_comesOn_121 (by decide) hw (fun hw => ?_) (fun hw => ?_)
    · refine wm_aload_n hC 0 dX12_comesOn_126 rfl (k_ne0 hk0 (by decide)) ?_
      refine wm_iconst hC dX12_comesOn_127 (k := ?_)
      refine wm_iconst hC dX12_comesOn_128 (k := ?_)
      refine y_callV_v_I hC hRm noS ml_X12_424 hk0 (C12_copies hk0 hw) (Nat.le_of_ble_eq_true rfl) (Nat.le_of_ble_eq_true rfl) ⟨Nat.zero_le _, Nat.zero_le _⟩ rfl (st := []) rfl (Nat.le_of_ble_eq_true rfl) dX12_comesOn_129 (fun I1 hw => ?_)
      refine wm_aload_n hC 0 dX12_comesOn_132 rfl (k_ne0 hk0 (by decide)) ?_
      refine x_getR2 hC 45 fl_X12_150 rfl hk0 dX12_comesOn_133 hw (fun g8 hw => ?_)
      refine wm_iconst hC dX12_comesOn_136 (k := ?_)
      refine wm_aload_n hC 0 dX12_comesOn_137 rfl (k_ne0 hk0 (by decide)) ?_
      refine x_getR2 hC 0 fl_X12_7 rfl hk0 dX12_comesOn_138 hw (fun g9 hw => ?_)
      refine wm_iconst hC dX12_comesOn_141 (k := ?_)
      refine x_iald hC g9 dX12_comesOn_142 hw (fun hw => ?_)
      refine wm_bipush hC dX12_comesOn_143 (k := ?_)
      refine wm_ishl hC dX12_comesOn_145 ?_
      refine wm_aload_n hC 0 dX12_comesOn_146 rfl (k_ne0 hk0 (by decide)) ?_
      refine x_getR2 hC 0 fl_X12_7 rfl hk0 dX12_comesOn_147 hw (fun g10 hw => ?_)
      refine wm_iconst hC dX12_comesOn_150 (k := ?_)
      refine x_iald hC g10 dX12_comesOn_151 hw (fun hw => ?_)
      refine wm_ior hC dX12_comesOn_152 ?_
      refine x_iast hC g8 dX12_comesOn_153 hw (fun I2 hw => ?_)
      refine wm_aload_n hC 0 dX12_comesOn_154 rfl (k_ne0 hk0 (by decide)) ?_
      refine x_getR2 hC 46 fl_X12_153 rfl hk0 dX12_comesOn_155 hw (fun g11 hw => ?_)
      refine wm_iconst hC dX12_comesOn_158 (k := ?_)
      refine wm_aload_n hC 0 dX12_comesOn_159 rfl (k_ne0 hk0 (by decide)) ?_
      refine x_getR2 hC 0 fl_X12_7 rfl hk0 dX12_comesOn_160 hw (fun g12 hw => ?_)
      refine wm_iconst hC dX12_comesOn_163 (k := ?_)
      refine x_iald hC g12 dX12_comesOn_164 hw (fun hw => ?_)
      refine wm_bipush hC dX12_comesOn_165 (k := ?_)
      refine wm_ishl hC dX12_comesOn_167 ?_
      refine wm_aload_n hC 0 dX12_comesOn_168 rfl (k_ne0 hk0 (by decide)) ?_
      refine x_getR2 hC 0 fl_X12_7 rfl hk0 dX12_comesOn_169 hw (fun g13 hw => ?_)
      refine wm_iconst hC dX12_comesOn_172 (k := ?_)
      refine x_iald hC g13 dX12_comesOn_173 hw (fun hw => ?_)
      refine wm_ior hC dX12_comesOn_174 ?_
      refine x_iast hC g11 dX12_comesOn_175 hw (fun I3 hw => ?_)
      refine wm_aload_n hC 0 dX12_comesOn_176 rfl (k_ne0 hk0 (by decide)) ?_
      refine x_getR2 hC 50 fl_X12_165 rfl hk0 dX12_comesOn_177 hw (fun g14 hw => ?_)
      refine wm_iconst hC dX12_comesOn_180 (k := ?_)
      refine wm_iconst hC dX12_comesOn_181 (k := ?_)
      refine x_iast hC g14 dX12_comesOn_182 hw (fun I4 hw => ?_)
      refine wm_iconst hC dX12_comesOn_183 (k := ?_)
      refine wm_istore hC dX12_comesOn_184 (by decide) (L2 := [(4, vi 0), (0, vr l0), (1, vi l1), (2, vi l2), (3, vi l3)]) rfl ?_
      refine wm_iconst hC dX12_comesOn_186 (k := ?_)
      refine wm_istore hC dX12_comesOn_187 (by decide) (L2 := [(5, vi 0), (4, vi 0), (0, vr l0), (1, vi l1), (2, vi l2), (3, vi l3)]) rfl ?_
      obtain ⟨f, hw⟩ := hw
      refine wm_sub [2, 4, 1, 0] (L2 := [(0, vr l0), (2, vi l2), (4, vi 0), (5, vi 0)]) rfl ?_
      exact W12_comesOn_b189 hC hRm hE hk0 f _ _ _ hw
    · refine wm_iconst hC dX12_comesOn_124 (k := ?_)
      exact wm_zreturn hC hE (Or.inl rfl) dX12_comesOn_125 ⟨⟨rfl, rfl⟩, hw⟩
  · refine wm_iconst hC dX12_comesOn_90 (k := ?_)
    refine wm_iload_n hC 3 dX12_comesOn_91 rfl ?_
    refine x_imul hC dX12_comesOn_92 hw (fun hw => ?_)
    refine wm_aload_n hC 0 dX12_comesOn_93 rfl (k_ne0 hk0 (by decide)) ?_
    refine x_getR2 hC 0 fl_X12_7 rfl hk0 dX12_comesOn_94 hw (fun g15 hw => ?_)
    refine wm_iload hC 4 dX12_comesOn_97 rfl ?_
    refine x_iald hC g15 dX12_comesOn_99 hw (fun hw => ?_)
    refine x_iadd hC dX12_comesOn_100 hw (fun hw => ?_)
    refine wm_sipush hC dX12_comesOn_101 (k := ?_)
    refine x_iremP hC (by decide) dX12_comesOn_104 ?_
    refine x_nameI hw (fun x2 hw => ?_)
    refine wm_istore_n hC dX12_comesOn_105 (by decide) (L2 := [(3, vi x2), (0, vr l0), (1, vi l1), (2, vi l2), (4, vi l4)]) rfl ?_
    refine x_iinc hC 4 dX12_comesOn_106 rfl (by decide) (L2 := [(4, vi (l4 + 1)), (3, vi x2), (0, vr l0), (1, vi l1), (2, vi l2)]) rfl hw (fun hw => ?_)
    refine wm_goto (tgt := 82) hC dX12_comesOn_109 (by decide) ?_
    refine wm_sub [2, 3, 4, 1, 0] (L2 := [(0, vr l0), (1, vi l1), (2, vi l2), (3, vi x2), (4, vi (l4 + 1))]) rfl ?_
    exact kk82 _ _ hw
set_option maxRecDepth 20000 in
theorem W12_comesOn_b82 {C : wX} {ad : Nat → Nat} {n : Nat} {I J : mI} {R : mR} {Q : Int → mI → Prop} (hC : wOK C cX12_comesOn 8 RX12) (hRm : wRm C 2 35 0 0) (hE : wEnd C (some .boolean) ad n (fun r I' J' R' => (J' = J ∧ R' = R) ∧ Q r I')) {l0 : Nat} {l1 : Int} {l2 : Int}   (hk0 : kK l0 = 12)  : ∀ (f : Nat) (l3 : Int) (l4 : Int), P12_comesOn_b82 l0 l1 l2 I R Q f l3 l4 → WM C ad n I J R 0 0 82 [(0, vr l0), (1, vi l1), (2, vi l2), (3, vi l3), (4, vi l4)] [] := by
  intro f
  induction f with
  | zero => intro l3 l4 hw; exact hw.elim
  | succ f ih => intro l3 l4 hw; exact W12_comesOn_b82_body hC hRm hE hk0 (fun a0 a1 hw => ih a0 a1 hw) hw
def P12_comesOn (l0 : Nat) (l1 : Int) (I : mI) (R : mR) (Q : Int → mI → Prop) : Prop := (kK (R l0 14) = 21 ∧ (((0 : Int) ≤ (I l0 13) ∧ (I l0 13) < (kN (R l0 14) : Int)) ∧ (wLet (I (R l0 14) (I l0 13)) (fun x1 => (rg (2 * x1) ∧ (rg (5 + (2 * x1)) ∧ (kK (R l0 20) = 21 ∧ (((0 : Int) ≤ (I l0 13) ∧ (I l0 13) < (kN (R l0 20) : Int)) ∧ (rg ((5 + (2 * x1)) + (I (R l0 20) (I l0 13))) ∧ (if l1 = ((5 + (2 * x1)) + (I (R l0 20) (I l0 13))) then (kK (R l0 0) = 21 ∧ (((0 : Int) ≤ (0 : Int) ∧ (0 : Int) < (kN (R l0 0) : Int)) ∧ (kK (R l0 0) = 21 ∧ (((0 : Int) ≤ (1 : Int) ∧ (1 : Int) < (kN (R l0 0) : Int)) ∧ (if (999 : Int) < (bOr (bShl (I (R l0 0) (0 : Int)) 8) (I (R l0 0) (1 : Int))) then (Q 0 I) else (kK (R l0 0) = 21 ∧ (((0 : Int) ≤ (2 : Int) ∧ (2 : Int) < (kN (R l0 0) : Int)) ∧ (kK (R l0 0) = 21 ∧ (((0 : Int) ≤ (3 : Int) ∧ (3 : Int) < (kN (R l0 0) : Int)) ∧ (if (bOr (bShl (I (R l0 0) (2 : Int)) 8) (I (R l0 0) (3 : Int))) ≤ 9999 then (∃ f, P12_comesOn_b82 l0 l1 x1 I R Q f 229 0) else (Q 0 I))))))))))) else (Q 0 I)))))))))))
set_option maxRecDepth 20000 in
theorem C12_comesOn {ad : Nat → Nat} {n : Nat} {I J : mI} {R : mR} {Q : Int → mI → Prop}  {l0 : Nat} {l1 : Int} (hk0 : kK l0 = 12) (hw : P12_comesOn l0 l1 I R Q) : wMet yX12_comesOn cX12_comesOn 8 (some .boolean) 2 35 false ad n I J R [vr l0, vi l1] (fun r I' J' R' => (J' = J ∧ R' = R) ∧ Q r I') := by
  refine wMet_of (by decide) (Nat.le_of_ble_eq_true rfl) (fun C hC hRm hE hS => ?_)
  refine (show WM C ad n I J R 0 0 0 [(0, vr l0), (1, vi l1)] [] from ?_)
  unfold P12_comesOn at hw
  refine wm_aload_n hC 0 dX12_comesOn_0 rfl (k_ne0 hk0 (by decide)) ?_
  refine x_getR2 hC 14 fl_X12_54 rfl hk0 dX12_comesOn_1 hw (fun g1 hw => ?_)
  refine wm_aload_n hC 0 dX12_comesOn_4 rfl (k_ne0 hk0 (by decide)) ?_
  refine x_getI hC 13 fl_X12_51 rfl hk0 dX12_comesOn_5 ?_
  refine x_iald hC g1 dX12_comesOn_8 hw (fun hw => ?_)
  refine x_nameI hw (fun x1 hw => ?_)
  refine wm_istore_n hC dX12_comesOn_9 (by decide) (L2 := [(2, vi x1), (0, vr l0), (1, vi l1)]) rfl ?_
  refine wm_iload_n hC 2 dX12_comesOn_10 rfl ?_
  refine wm_iconst hC dX12_comesOn_11 (k := ?_)
  refine wm_iconst hC dX12_comesOn_12 (k := ?_)
  refine wm_iload_n hC 0 dX12_comesOn_13 rfl ?_
  refine x_imul hC dX12_comesOn_14 hw (fun hw => ?_)
  refine x_iadd hC dX12_comesOn_15 hw (fun hw => ?_)
  refine wm_aload_n hC 1 dX12_comesOn_16 rfl (k_ne0 hk0 (by decide)) ?_
  refine x_getR2 hC 20 fl_X12_72 rfl hk0 dX12_comesOn_17 hw (fun g2 hw => ?_)
  refine wm_aload_n hC 1 dX12_comesOn_20 rfl (k_ne0 hk0 (by decide)) ?_
  refine x_getI hC 13 fl_X12_51 rfl hk0 dX12_comesOn_21 ?_
  refine x_iald hC g2 dX12_comesOn_24 hw (fun hw => ?_)
  refine x_iadd hC dX12_comesOn_25 hw (fun hw => ?_)
  refine wm_icmp_ne (tgt := 73) hC dX12_comesOn_26 (by decide) hw (fun hw => ?_) (fun hw => ?_)
  · refine wm_aload_n hC 1 dX12_comesOn_29 rfl (k_ne0 hk0 (by decide)) ?_
    refine x_getR2 hC 0 fl_X12_7 rfl hk0 dX12_comesOn_30 hw (fun g3 hw => ?_)
    refine wm_iconst hC dX12_comesOn_33 (k := ?_)
    refine x_iald hC g3 dX12_comesOn_34 hw (fun hw => ?_)
    refine wm_bipush hC dX12_comesOn_35 (k := ?_)
    refine wm_ishl hC dX12_comesOn_37 ?_
    refine wm_aload_n hC 1 dX12_comesOn_38 rfl (k_ne0 hk0 (by decide)) ?_
    refine x_getR2 hC 0 fl_X12_7 rfl hk0 dX12_comesOn_39 hw (fun g4 hw => ?_)
    refine wm_iconst hC dX12_comesOn_42 (k := ?_)
    refine x_iald hC g4 dX12_comesOn_43 hw (fun hw => ?_)
    refine wm_ior hC dX12_comesOn_44 ?_
    refine wm_sipush hC dX12_comesOn_45 (k := ?_)
    refine wm_icmp_gt (tgt := 73) hC dX12_comesOn_48 (by decide) hw (fun hw => ?_) (fun hw => ?_)
    · refine wm_iconst hC dX12_comesOn_73 (k := ?_)
      exact wm_zreturn hC hE (Or.inl rfl) dX12_comesOn_74 ⟨⟨rfl, rfl⟩, hw⟩
    · refine wm_aload_n hC 1 dX12_comesOn_51 rfl (k_ne0 hk0 (by decide)) ?_
      refine x_getR2 hC 0 fl_X12_7 rfl hk0 dX12_comesOn_52 hw (fun g5 hw => ?_)
      refine wm_iconst hC dX12_comesOn_55 (k := ?_)
      refine x_iald hC g5 dX12_comesOn_56 hw (fun hw => ?_)
      refine wm_bipush hC dX12_comesOn_57 (k := ?_)
      refine wm_ishl hC dX12_comesOn_59 ?_
      refine wm_aload_n hC 1 dX12_comesOn_60 rfl (k_ne0 hk0 (by decide)) ?_
      refine x_getR2 hC 0 fl_X12_7 rfl hk0 dX12_comesOn_61 hw (fun g6 hw => ?_)
      refine wm_iconst hC dX12_comesOn_64 (k := ?_)
      refine x_iald hC g6 dX12_comesOn_65 hw (fun hw => ?_)
      refine wm_ior hC dX12_comesOn_66 ?_
      refine wm_sipush hC dX12_comesOn_67 (k := ?_)
      refine wm_icmp_le (tgt := 75) hC dX12_comesOn_70 (by decide) hw (fun hw => ?_) (fun hw => ?_)
      · refine wm_sipush hC dX12_comesOn_75 (k := ?_)
        refine wm_istore_n hC dX12_comesOn_78 (by decide) (L2 := [(3, vi 229), (2, vi x1), (0, vr l0), (1, vi l1)]) rfl ?_
        refine wm_iconst hC dX12_comesOn_79 (k := ?_)
        refine wm_istore hC dX12_comesOn_80 (by decide) (L2 := [(4, vi 0), (3, vi 229), (2, vi x1), (0, vr l0), (1, vi l1)]) rfl ?_
        obtain ⟨f, hw⟩ := hw
        refine wm_sub [3, 4, 2, 1, 0] (L2 := [(0, vr l0), (1, vi l1), (2, vi x1), (3, vi 229), (4, vi 0)]) rfl ?_
        exact W12_comesOn_b82 hC hRm hE hk0 f _ _ hw
      · refine wm_iconst hC dX12_comesOn_73 (k := ?_)
        exact wm_zreturn hC hE (Or.inl rfl) dX12_comesOn_74 ⟨⟨rfl, rfl⟩, hw⟩
  · refine wm_iconst hC dX12_comesOn_73 (k := ?_)
    exact wm_zreturn hC hE (Or.inl rfl) dX12_comesOn_74 ⟨⟨rfl, rfl⟩, hw⟩
def P12_on (l0 : Nat) (I : mI) (R : mR) (Q : Int → mI → Prop) : Prop := (wLet (up I l0 1 0) (fun I1 => (P12_comesOn l0 (I l0 1) I1 R (fun r1 I2 => (if r1 = 0 then (P12_refuses l0 5 I2 R (fun r2 I5 => (if r2 < 0 then (Q 0 I5) else (Q 1 I5)))) else (P12_copies l0 0 1 I2 R (fun I3 => (wLet (up I3 l0 53 0) (fun I4 => (Q 1 I4))))))))))
set_option maxRecDepth 20000 in
theorem C12_on {ad : Nat → Nat} {n : Nat} {I J : mI} {R : mR} {Q : Int → mI → Prop}  {l0 : Nat} (hk0 : kK l0 = 12) (hw : P12_on l0 I R Q) : wMet yX12_on cX12_on 2 (some .boolean) 3 62 false ad n I J R [vr l0] (fun r I' J' R' => (J' = J ∧ R' = R) ∧ Q r I') := by
  refine wMet_of (by decide) (Nat.le_of_ble_eq_true rfl) (fun C hC hRm hE hS => ?_)
  refine (show WM C ad n I J R 0 0 0 [(0, vr l0)] [] from ?_)
  unfold P12_on at hw
  refine wm_aload_n hC 0 dX12_on_0 rfl (k_ne0 hk0 (by decide)) ?_
  refine x_getI hC 1 fl_X12_13 rfl hk0 dX12_on_1 ?_
  refine wm_istore_n hC dX12_on_4 (by decide) (L2 := [(1, vi (I l0 1)), (0, vr l0)]) rfl ?_
  refine wm_aload_n hC 1 dX12_on_5 rfl (k_ne0 hk0 (by decide)) ?_
  refine wm_iconst hC dX12_on_6 (k := ?_)
  refine x_putI hC 1 fl_X12_13 rfl hk0 dX12_on_7 hw (fun I1 hw => ?_)
  refine wm_aload_n hC 1 dX12_on_10 rfl (k_ne0 hk0 (by decide)) ?_
  refine wm_iload_n hC 0 dX12_on_11 rfl ?_
  refine y_callV_z_I hC hRm noS ml_X12_571 hk0 (C12_comesOn hk0 hw) (Nat.le_of_ble_eq_true rfl) (Nat.le_of_ble_eq_true rfl) ⟨Nat.zero_le _, Nat.zero_le _⟩ rfl (st := []) rfl (Nat.le_of_ble_eq_true rfl) dX12_on_12 (fun r1 I2 hw => ?_)
  refine wm_if_ne (tgt := 32) hC dX12_on_15 (by decide) hw (fun hw => ?_) (fun hw => ?_)
  · refine wm_aload_n hC 1 dX12_on_18 rfl (k_ne0 hk0 (by decide)) ?_
    refine wm_iconst hC dX12_on_19 (k := ?_)
    refine y_callV_i_I hC hRm noS ml_X12_222 hk0 (C12_refuses hk0 hw) (Nat.le_of_ble_eq_true rfl) (Nat.le_of_ble_eq_true rfl) ⟨Nat.zero_le _, Nat.zero_le _⟩ rfl (st := []) rfl (Nat.le_of_ble_eq_true rfl) dX12_on_20 (fun r2 I5 hw => ?_)
    refine wm_if_lt (tgt := 30) hC dX12_on_23 (by decide) hw (fun hw => ?_) (fun hw => ?_)
    · refine wm_iconst hC dX12_on_30 (k := ?_)
      exact wm_zreturn hC hE (Or.inl rfl) dX12_on_31 ⟨⟨rfl, rfl⟩, hw⟩
    · refine wm_iconst hC dX12_on_26 (k := ?_)
      refine wm_goto (tgt := 31) hC dX12_on_27 (by decide) ?_
      exact wm_zreturn hC hE (Or.inr rfl) dX12_on_31 ⟨⟨rfl, rfl⟩, hw⟩
  · refine wm_aload_n hC 1 dX12_on_32 rfl (k_ne0 hk0 (by decide)) ?_
    refine wm_iconst hC dX12_on_33 (k := ?_)
    refine wm_iconst hC dX12_on_34 (k := ?_)
    refine y_callV_v_I hC hRm noS ml_X12_424 hk0 (C12_copies hk0 hw) (Nat.le_of_ble_eq_true rfl) (Nat.le_of_ble_eq_true rfl) ⟨Nat.zero_le _, Nat.zero_le _⟩ rfl (st := []) rfl (Nat.le_of_ble_eq_true rfl) dX12_on_35 (fun I3 hw => ?_)
    refine wm_aload_n hC 1 dX12_on_38 rfl (k_ne0 hk0 (by decide)) ?_
    refine wm_iconst hC dX12_on_39 (k := ?_)
    refine x_putI hC 53 fl_X12_174 rfl hk0 dX12_on_40 hw (fun I4 hw => ?_)
    refine wm_iconst hC dX12_on_43 (k := ?_)
    exact wm_zreturn hC hE (Or.inr rfl) dX12_on_44 ⟨⟨rfl, rfl⟩, hw⟩
