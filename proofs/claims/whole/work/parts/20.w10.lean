def p12_has (l1 : Int) (I : mI) (J : mI) (Q : Int → Prop) : Prop := (if l1 = 0 then (((0 : Int) ≤ (I 159 13) ∧ (I 159 13) < (2 : Int)) ∧ (Q (I 161 (I 159 13)))) else (if l1 = 1 then (((0 : Int) ≤ (I 159 13) ∧ (I 159 13) < (2 : Int)) ∧ (Q (I 164 (I 159 13)))) else (if l1 = 2 then (((0 : Int) ≤ (I 159 13) ∧ (I 159 13) < (2 : Int)) ∧ (Q (I 167 (I 159 13)))) else (if l1 = 3 then (Q (I 185 0)) else (if l1 = 4 then (Q (I 186 0)) else (if l1 = 5 then (p12_wornOf 0 (-1) I (fun r1 => (Q r1))) else (if l1 = 6 then (p12_clashes I (fun r2 => (Q r2))) else (if l1 = 7 then (Q (I 190 0)) else (if l1 = 8 then (Q (I 159 62)) else (if l1 = 9 then (Q (I 159 53)) else (if l1 = 10 then (rg (J 159 54) ∧ (Q (J 159 54))) else (Q (-1)))))))))))))
set_option maxRecDepth 20000 in
theorem c12_has {ad : Nat → Nat} {n : Nat} {I J : mI} {R : mR} {Q : Int → Prop}  (hRF : RF R) {l1 : Int}   (hw : p12_has l1 I J Q) : wMet yX12_has cX12_has 2 (some .int) 3 56 false ad n I J R [vr 159, vi l1] (fun r I' J' R' => (I' = I ∧ J' = J ∧ R' = R) ∧ Q r) := by
  refine wMet_of (by decide) (Nat.le_of_ble_eq_true rfl) (fun C hC hRm hE hS => ?_)
  refine (show WM C ad n I J R 0 0 0 [(0, vr 159), (1, vi l1)] [] from ?_)
  unfold p12_has at hw
  refine wm_iload_n hC 1 dX12_has_0 rfl ?_
  by_cases hc1 : l1 = 0
  · rw [if_pos hc1] at hw
    refine wm_tableIn (v := 0) (tgt := 60) hC dX12_has_1 hc1 (by decide) (by decide) rfl rfl ?_
    refine wm_aload_n hC 0 dX12_has_60 rfl (k_ne0 kk_159 (by decide)) ?_
    refine x_getR3 hC 14 fl_X12_54 rfl kk_159 (rf_159_14 hRF) dX12_has_61 ?_
    refine wm_aload_n hC 0 dX12_has_64 rfl (k_ne0 kk_159 (by decide)) ?_
    refine x_getI hC 13 fl_X12_51 rfl kk_159 dX12_has_65 ?_
    refine x_iald2 hC kk_161 kn_161 dX12_has_68 hw (fun hw => ?_)
    exact wm_ireturn hC hE dX12_has_69 ⟨⟨rfl, rfl, rfl⟩, hw⟩
  rw [if_neg hc1] at hw
  by_cases hc2 : l1 = 1
  · rw [if_pos hc2] at hw
    refine wm_tableIn (v := 1) (tgt := 70) hC dX12_has_1 hc2 (by decide) (by decide) rfl rfl ?_
    refine wm_aload_n hC 0 dX12_has_70 rfl (k_ne0 kk_159 (by decide)) ?_
    refine x_getR3 hC 17 fl_X12_63 rfl kk_159 (rf_159_17 hRF) dX12_has_71 ?_
    refine wm_aload_n hC 0 dX12_has_74 rfl (k_ne0 kk_159 (by decide)) ?_
    refine x_getI hC 13 fl_X12_51 rfl kk_159 dX12_has_75 ?_
    refine x_iald2 hC kk_164 kn_164 dX12_has_78 hw (fun hw => ?_)
    exact wm_ireturn hC hE dX12_has_79 ⟨⟨rfl, rfl, rfl⟩, hw⟩
  rw [if_neg hc2] at hw
  by_cases hc3 : l1 = 2
  · rw [if_pos hc3] at hw
    refine wm_tableIn (v := 2) (tgt := 80) hC dX12_has_1 hc3 (by decide) (by decide) rfl rfl ?_
    refine wm_aload_n hC 0 dX12_has_80 rfl (k_ne0 kk_159 (by decide)) ?_
    refine x_getR3 hC 20 fl_X12_72 rfl kk_159 (rf_159_20 hRF) dX12_has_81 ?_
    refine wm_aload_n hC 0 dX12_has_84 rfl (k_ne0 kk_159 (by decide)) ?_
    refine x_getI hC 13 fl_X12_51 rfl kk_159 dX12_has_85 ?_
    refine x_iald2 hC kk_167 kn_167 dX12_has_88 hw (fun hw => ?_)
    exact wm_ireturn hC hE dX12_has_89 ⟨⟨rfl, rfl, rfl⟩, hw⟩
  rw [if_neg hc3] at hw
  by_cases hc4 : l1 = 3
  · rw [if_pos hc4] at hw
    refine wm_tableIn (v := 3) (tgt := 90) hC dX12_has_1 hc4 (by decide) (by decide) rfl rfl ?_
    refine wm_aload_n hC 0 dX12_has_90 rfl (k_ne0 kk_159 (by decide)) ?_
    refine x_getR3 hC 45 fl_X12_150 rfl kk_159 (rf_159_45 hRF) dX12_has_91 ?_
    refine wm_iconst hC dX12_has_94 (k := ?_)
    refine x_ialdK hC kk_185 kn_185 (by decide) (by decide) dX12_has_95 ?_
    exact wm_ireturn hC hE dX12_has_96 ⟨⟨rfl, rfl, rfl⟩, hw⟩
  rw [if_neg hc4] at hw
  by_cases hc5 : l1 = 4
  · rw [if_pos hc5] at hw
    refine wm_tableIn (v := 4) (tgt := 97) hC dX12_has_1 hc5 (by decide) (by decide) rfl rfl ?_
    refine wm_aload_n hC 0 dX12_has_97 rfl (k_ne0 kk_159 (by decide)) ?_
    refine x_getR3 hC 46 fl_X12_153 rfl kk_159 (rf_159_46 hRF) dX12_has_98 ?_
    refine wm_iconst hC dX12_has_101 (k := ?_)
    refine x_ialdK hC kk_186 kn_186 (by decide) (by decide) dX12_has_102 ?_
    exact wm_ireturn hC hE dX12_has_103 ⟨⟨rfl, rfl, rfl⟩, hw⟩
  rw [if_neg hc5] at hw
  by_cases hc6 : l1 = 5
  · rw [if_pos hc6] at hw
    refine wm_tableIn (v := 5) (tgt := 104) hC dX12_has_1 hc6 (by decide) (by decide) rfl rfl ?_
    refine wm_aload_n hC 0 dX12_has_104 rfl (k_ne0 kk_159 (by decide)) ?_
    refine wm_iconst hC dX12_has_105 (k := ?_)
    refine wm_iconst hC dX12_has_106 (k := ?_)
    refine y_callV_i_n hC hRm noS ml_X12_456 kk_159 (c12_wornOf hRF  hw) (Nat.le_of_ble_eq_true rfl) (Nat.le_of_ble_eq_true rfl) ⟨Nat.zero_le _, Nat.zero_le _⟩ rfl (st := []) rfl (Nat.le_of_ble_eq_true rfl) dX12_has_107 (fun r1 hw => ?_)
    exact wm_ireturn hC hE dX12_has_110 ⟨⟨rfl, rfl, rfl⟩, hw⟩
  rw [if_neg hc6] at hw
  by_cases hc7 : l1 = 6
  · rw [if_pos hc7] at hw
    refine wm_tableIn (v := 6) (tgt := 111) hC dX12_has_1 hc7 (by decide) (by decide) rfl rfl ?_
    refine wm_aload_n hC 0 dX12_has_111 rfl (k_ne0 kk_159 (by decide)) ?_
    refine y_callV_i_n hC hRm noS ml_X12_504 kk_159 (c12_clashes hRF  hw) (Nat.le_of_ble_eq_true rfl) (Nat.le_of_ble_eq_true rfl) ⟨Nat.zero_le _, Nat.zero_le _⟩ rfl (st := []) rfl (Nat.le_of_ble_eq_true rfl) dX12_has_112 (fun r2 hw => ?_)
    exact wm_ireturn hC hE dX12_has_115 ⟨⟨rfl, rfl, rfl⟩, hw⟩
  rw [if_neg hc7] at hw
  by_cases hc8 : l1 = 7
  · rw [if_pos hc8] at hw
    refine wm_tableIn (v := 7) (tgt := 116) hC dX12_has_1 hc8 (by decide) (by decide) rfl rfl ?_
    refine wm_aload_n hC 0 dX12_has_116 rfl (k_ne0 kk_159 (by decide)) ?_
    refine x_getR3 hC 50 fl_X12_165 rfl kk_159 (rf_159_50 hRF) dX12_has_117 ?_
    refine wm_iconst hC dX12_has_120 (k := ?_)
    refine x_ialdK hC kk_190 kn_190 (by decide) (by decide) dX12_has_121 ?_
    exact wm_ireturn hC hE dX12_has_122 ⟨⟨rfl, rfl, rfl⟩, hw⟩
  rw [if_neg hc8] at hw
  by_cases hc9 : l1 = 8
  · rw [if_pos hc9] at hw
    refine wm_tableIn (v := 8) (tgt := 123) hC dX12_has_1 hc9 (by decide) (by decide) rfl rfl ?_
    refine wm_aload_n hC 0 dX12_has_123 rfl (k_ne0 kk_159 (by decide)) ?_
    refine x_getI hC 62 fl_X12_201 rfl kk_159 dX12_has_124 ?_
    exact wm_ireturn hC hE dX12_has_127 ⟨⟨rfl, rfl, rfl⟩, hw⟩
  rw [if_neg hc9] at hw
  by_cases hc10 : l1 = 9
  · rw [if_pos hc10] at hw
    refine wm_tableIn (v := 9) (tgt := 128) hC dX12_has_1 hc10 (by decide) (by decide) rfl rfl ?_
    refine wm_aload_n hC 0 dX12_has_128 rfl (k_ne0 kk_159 (by decide)) ?_
    refine x_getI hC 53 fl_X12_174 rfl kk_159 dX12_has_129 ?_
    exact wm_ireturn hC hE dX12_has_132 ⟨⟨rfl, rfl, rfl⟩, hw⟩
  rw [if_neg hc10] at hw
  by_cases hc11 : l1 = 10
  · rw [if_pos hc11] at hw
    refine wm_tableIn (v := 10) (tgt := 133) hC dX12_has_1 hc11 (by decide) (by decide) rfl rfl ?_
    refine wm_aload_n hC 0 dX12_has_133 rfl (k_ne0 kk_159 (by decide)) ?_
    refine x_getJ hC 54 fl_X12_177 rfl kk_159 dX12_has_134 ?_
    refine x_l2i hC dX12_has_137 hw (fun hw => ?_)
    exact wm_ireturn hC hE dX12_has_138 ⟨⟨rfl, rfl, rfl⟩, hw⟩
  rw [if_neg hc11] at hw
  refine wm_tableOut (tgt := 139) hC dX12_has_1 (by omega) rfl ?_
  refine wm_iconst hC dX12_has_139 (k := ?_)
  exact wm_ireturn hC hE dX12_has_140 ⟨⟨rfl, rfl, rfl⟩, hw⟩
def p12_writes (l1 : Int) (I : mI) (Q : mI → Prop) : Prop := (((0 : Int) ≤ (I 159 68) ∧ (I 159 68) < (30 : Int)) ∧ wLet (up I 203 (I 159 68) (bAnd l1 255)) (fun I1 => (rg ((I1 159 68) + 1) ∧ (wLet (up I1 159 68 ((I1 159 68) + 1)) (fun I2 => (Q I2))))))
set_option maxRecDepth 20000 in
theorem c12_writes {ad : Nat → Nat} {n : Nat} {I J : mI} {R : mR} {Q : mI → Prop}  (hRF : RF R) {l1 : Int}   (hw : p12_writes l1 I Q) : wMet yX12_writes cX12_writes 2 none 1 12 false ad n I J R [vr 159, vi l1] (fun _ I' J' R' => (J' = J ∧ R' = R) ∧ Q I') := by
  refine wMet_of (by decide) (Nat.le_of_ble_eq_true rfl) (fun C hC hRm hE hS => ?_)
  refine (show WM C ad n I J R 0 0 0 [(0, vr 159), (1, vi l1)] [] from ?_)
  unfold p12_writes at hw
  refine wm_aload_n hC 0 dX12_writes_0 rfl (k_ne0 kk_159 (by decide)) ?_
  refine x_getR3 hC 67 fl_X12_216 rfl kk_159 (rf_159_67 hRF) dX12_writes_1 ?_
  refine wm_aload_n hC 0 dX12_writes_4 rfl (k_ne0 kk_159 (by decide)) ?_
  refine x_getI hC 68 fl_X12_219 rfl kk_159 dX12_writes_5 ?_
  refine wm_iload_n hC 1 dX12_writes_8 rfl ?_
  refine wm_sipush hC dX12_writes_9 (k := ?_)
  refine wm_iand hC dX12_writes_12 ?_
  refine x_iast2 hC kk_203 kn_203 dX12_writes_13 hw (fun I1 hw => ?_)
  refine wm_aload_n hC 0 dX12_writes_14 rfl (k_ne0 kk_159 (by decide)) ?_
  refine wm_dup hC dX12_writes_15 (k := ?_)
  refine x_getI hC 68 fl_X12_219 rfl kk_159 dX12_writes_16 ?_
  refine wm_iconst hC dX12_writes_19 (k := ?_)
  refine x_iadd hC dX12_writes_20 hw (fun hw => ?_)
  refine x_putI hC 68 fl_X12_219 rfl kk_159 dX12_writes_21 hw (fun I2 hw => ?_)
  exact wm_return hC hE dX12_writes_24 ⟨⟨rfl, rfl⟩, hw⟩
def p12_image_b150_body (I : mI) (Q : Int → mI → Prop) (k150 : Int → Int → Prop) (l1 : Int) (l2 : Int) : Prop := (if (I 159 68) ≤ l2 then (p12_writes l1 I (fun I9 => (Q (I9 159 68) I9))) else (rg (5 * l1) ∧ (((0 : Int) ≤ l2 ∧ l2 < (30 : Int)) ∧ (rg ((5 * l1) + (I 203 l2)) ∧ (wLet (Int.tmod ((5 * l1) + (I 203 l2)) 251) (fun x1 => (rg (l2 + 1) ∧ (k150 x1 (l2 + 1)))))))))
def p12_image_b150 (I : mI) (Q : Int → mI → Prop) : Nat → Int → Int → Prop
  | 0 => fun _ _ => False
  | f + 1 => fun l1 l2 => p12_image_b150_body I Q (p12_image_b150 I Q f) l1 l2
set_option maxRecDepth 20000 in
theorem w12_image_b150_body {C : wX} {ad : Nat → Nat} {n : Nat} {I J : mI} {R : mR} {Q : Int → mI → Prop} (hC : wOK C cX12_image 3 RX12) (hRm : wRm C 2 33 0 0) (hE : wEnd C (some .int) ad n (fun r I' J' R' => (J' = J ∧ R' = R) ∧ Q r I')) (hRF : RF R)  {l1 : Int} {l2 : Int}     {k150 : Int → Int → Prop} (kk150 : ∀ (y1 : Int) (y2 : Int), k150 y1 y2 → WM C ad n I J R 0 0 150 [(0, vr 159), (1, vi y1), (2, vi y2)] []) (hw : p12_image_b150_body I Q k150 l1 l2) : WM C ad n I J R 0 0 150 [(0, vr 159), (1, vi l1), (2, vi l2)] [] := by
  unfold p12_image_b150_body at hw
  refine wm_iload_n hC 2 dX12_image_150 rfl ?_
  refine wm_aload_n hC 0 dX12_image_151 rfl (k_ne0 kk_159 (by decide)) ?_
  refine x_getI hC 68 fl_X12_219 rfl kk_159 dX12_image_152 ?_
  refine wm_icmp_ge (tgt := 179) hC dX12_image_155 (by decide) hw (fun hw => ?_) (fun hw => ?_)
  · refine wm_aload_n hC 0 dX12_image_179 rfl (k_ne0 kk_159 (by decide)) ?_
    refine wm_iload_n hC 1 dX12_image_180 rfl ?_
    refine y_callV_v_I hC hRm noS ml_X12_568 kk_159 (c12_writes hRF  hw) (Nat.le_of_ble_eq_true rfl) (Nat.le_of_ble_eq_true rfl) ⟨Nat.zero_le _, Nat.zero_le _⟩ rfl (st := []) rfl (Nat.le_of_ble_eq_true rfl) dX12_image_181 (fun I9 hw => ?_)
    refine wm_aload_n hC 0 dX12_image_184 rfl (k_ne0 kk_159 (by decide)) ?_
    refine x_getI hC 68 fl_X12_219 rfl kk_159 dX12_image_185 ?_
    exact wm_ireturn hC hE dX12_image_188 ⟨⟨rfl, rfl⟩, hw⟩
  · refine wm_iconst hC dX12_image_158 (k := ?_)
    refine wm_iload_n hC 1 dX12_image_159 rfl ?_
    refine x_imul hC dX12_image_160 hw (fun hw => ?_)
    refine wm_aload_n hC 0 dX12_image_161 rfl (k_ne0 kk_159 (by decide)) ?_
    refine x_getR3 hC 67 fl_X12_216 rfl kk_159 (rf_159_67 hRF) dX12_image_162 ?_
    refine wm_iload_n hC 2 dX12_image_165 rfl ?_
    refine x_iald2 hC kk_203 kn_203 dX12_image_166 hw (fun hw => ?_)
    refine x_iadd hC dX12_image_167 hw (fun hw => ?_)
    refine wm_sipush hC dX12_image_168 (k := ?_)
    refine x_iremP hC (by decide) dX12_image_171 ?_
    refine x_nameI hw (fun x1 hw => ?_)
    refine wm_istore_n hC dX12_image_172 (by decide) (L2 := [(1, vi x1), (0, vr 159), (2, vi l2)]) rfl ?_
    refine x_iinc hC 2 dX12_image_173 rfl (by decide) (L2 := [(2, vi (l2 + 1)), (1, vi x1), (0, vr 159)]) rfl hw (fun hw => ?_)
    refine wm_goto (tgt := 150) hC dX12_image_176 (by decide) ?_
    refine wm_sub [2, 1, 0] (L2 := [(0, vr 159), (1, vi x1), (2, vi (l2 + 1))]) rfl ?_
    exact kk150 _ _ hw
set_option maxRecDepth 20000 in
theorem w12_image_b150 {C : wX} {ad : Nat → Nat} {n : Nat} {I : mI} {J : mI} {R : mR} {Q : Int → mI → Prop} (hC : wOK C cX12_image 3 RX12) (hRm : wRm C 2 33 0 0) (hE : wEnd C (some .int) ad n (fun r I' J' R' => (J' = J ∧ R' = R) ∧ Q r I')) (hRF : RF R)      : ∀ (f : Nat) (l1 : Int) (l2 : Int), p12_image_b150 I Q f l1 l2 → WM C ad n I J R 0 0 150 [(0, vr 159), (1, vi l1), (2, vi l2)] [] := by
  intro f
  induction f with
  | zero => intro l1 l2 hw; exact hw.elim
  | succ f ih => intro l1 l2 hw; exact w12_image_b150_body hC hRm hE hRF  (fun a0 a1 aw => ih a0 a1 aw) hw
def p12_image_b115_body (Q : Int → mI → Prop) (k115 : Int → mI → Prop) (l1 : Int) (I : mI) : Prop := (((0 : Int) ≤ (I 159 13) ∧ (I 159 13) < (2 : Int)) ∧ (if (I 167 (I 159 13)) ≤ l1 then (∃ f, p12_image_b150 I Q f 229 0) else (((0 : Int) ≤ l1 ∧ l1 < (132 : Int)) ∧ (p12_writes (I 189 l1) I (fun I8 => (rg (l1 + 1) ∧ (k115 (l1 + 1) I8)))))))
def p12_image_b115 (Q : Int → mI → Prop) : Nat → Int → mI → Prop
  | 0 => fun _ _ => False
  | f + 1 => fun l1 I => p12_image_b115_body Q (p12_image_b115 Q f) l1 I
set_option maxRecDepth 20000 in
theorem w12_image_b115_body {C : wX} {ad : Nat → Nat} {n : Nat} {I J : mI} {R : mR} {Q : Int → mI → Prop} (hC : wOK C cX12_image 3 RX12) (hRm : wRm C 2 33 0 0) (hE : wEnd C (some .int) ad n (fun r I' J' R' => (J' = J ∧ R' = R) ∧ Q r I')) (hRF : RF R)  {l1 : Int}     {k115 : Int → mI → Prop} (kk115 : ∀ (y1 : Int) (I' : mI), k115 y1 I' → WM C ad n I' J R 0 0 115 [(0, vr 159), (1, vi y1)] []) (hw : p12_image_b115_body Q k115 l1 I) : WM C ad n I J R 0 0 115 [(0, vr 159), (1, vi l1)] [] := by
  unfold p12_image_b115_body at hw
  refine wm_iload_n hC 1 dX12_image_115 rfl ?_
  refine wm_aload_n hC 0 dX12_image_116 rfl (k_ne0 kk_159 (by decide)) ?_
  refine x_getR3 hC 20 fl_X12_72 rfl kk_159 (rf_159_20 hRF) dX12_image_117 ?_
  refine wm_aload_n hC 0 dX12_image_120 rfl (k_ne0 kk_159 (by decide)) ?_
  refine x_getI hC 13 fl_X12_51 rfl kk_159 dX12_image_121 ?_
  refine x_iald2 hC kk_167 kn_167 dX12_image_124 hw (fun hw => ?_)
  refine wm_icmp_ge (tgt := 144) hC dX12_image_125 (by decide) hw (fun hw => ?_) (fun hw => ?_)
  · refine wm_sipush hC dX12_image_144 (k := ?_)
    refine wm_istore_n hC dX12_image_147 (by decide) (L2 := [(1, vi 229), (0, vr 159)]) rfl ?_
    refine wm_iconst hC dX12_image_148 (k := ?_)
    refine wm_istore_n hC dX12_image_149 (by decide) (L2 := [(2, vi 0), (1, vi 229), (0, vr 159)]) rfl ?_
    obtain ⟨f, hw⟩ := hw
    refine wm_sub [2, 1, 0] (L2 := [(0, vr 159), (1, vi 229), (2, vi 0)]) rfl ?_
    exact w12_image_b150 hC hRm hE hRF  f _ _ hw
  · refine wm_aload_n hC 0 dX12_image_128 rfl (k_ne0 kk_159 (by decide)) ?_
    refine wm_aload_n hC 0 dX12_image_129 rfl (k_ne0 kk_159 (by decide)) ?_
    refine x_getR3 hC 49 fl_X12_162 rfl kk_159 (rf_159_49 hRF) dX12_image_130 ?_
    refine wm_iload_n hC 1 dX12_image_133 rfl ?_
    refine x_iald2 hC kk_189 kn_189 dX12_image_134 hw (fun hw => ?_)
    refine y_callV_v_I hC hRm noS ml_X12_568 kk_159 (c12_writes hRF  hw) (Nat.le_of_ble_eq_true rfl) (Nat.le_of_ble_eq_true rfl) ⟨Nat.zero_le _, Nat.zero_le _⟩ rfl (st := []) rfl (Nat.le_of_ble_eq_true rfl) dX12_image_135 (fun I8 hw => ?_)
    refine x_iinc hC 1 dX12_image_138 rfl (by decide) (L2 := [(1, vi (l1 + 1)), (0, vr 159)]) rfl hw (fun hw => ?_)
    refine wm_goto (tgt := 115) hC dX12_image_141 (by decide) ?_
    refine wm_sub [1, 0] (L2 := [(0, vr 159), (1, vi (l1 + 1))]) rfl ?_
    exact kk115 _ _ hw
set_option maxRecDepth 20000 in
theorem w12_image_b115 {C : wX} {ad : Nat → Nat} {n : Nat} {J : mI} {R : mR} {Q : Int → mI → Prop} (hC : wOK C cX12_image 3 RX12) (hRm : wRm C 2 33 0 0) (hE : wEnd C (some .int) ad n (fun r I' J' R' => (J' = J ∧ R' = R) ∧ Q r I')) (hRF : RF R)      : ∀ (f : Nat) (l1 : Int) (I : mI), p12_image_b115 Q f l1 I → WM C ad n I J R 0 0 115 [(0, vr 159), (1, vi l1)] [] := by
  intro f
  induction f with
  | zero => intro l1 I hw; exact hw.elim
  | succ f ih => intro l1 I hw; exact w12_image_b115_body hC hRm hE hRF  (fun a0 a1 aw => ih a0 a1 aw) hw
def p12_image_b84_body (Q : Int → mI → Prop) (k84 : Int → mI → Prop) (l1 : Int) (I : mI) : Prop := (((0 : Int) ≤ (I 159 13) ∧ (I 159 13) < (2 : Int)) ∧ (if (I 161 (I 159 13)) ≤ l1 then (∃ f, p12_image_b115 Q f 0 I) else (((0 : Int) ≤ l1 ∧ l1 < (132 : Int)) ∧ (p12_writes (I 188 l1) I (fun I7 => (rg (l1 + 1) ∧ (k84 (l1 + 1) I7)))))))
def p12_image_b84 (Q : Int → mI → Prop) : Nat → Int → mI → Prop
  | 0 => fun _ _ => False
  | f + 1 => fun l1 I => p12_image_b84_body Q (p12_image_b84 Q f) l1 I
set_option maxRecDepth 20000 in
theorem w12_image_b84_body {C : wX} {ad : Nat → Nat} {n : Nat} {I J : mI} {R : mR} {Q : Int → mI → Prop} (hC : wOK C cX12_image 3 RX12) (hRm : wRm C 2 33 0 0) (hE : wEnd C (some .int) ad n (fun r I' J' R' => (J' = J ∧ R' = R) ∧ Q r I')) (hRF : RF R)  {l1 : Int}     {k84 : Int → mI → Prop} (kk84 : ∀ (y1 : Int) (I' : mI), k84 y1 I' → WM C ad n I' J R 0 0 84 [(0, vr 159), (1, vi y1)] []) (hw : p12_image_b84_body Q k84 l1 I) : WM C ad n I J R 0 0 84 [(0, vr 159), (1, vi l1)] [] := by
  unfold p12_image_b84_body at hw
  refine wm_iload_n hC 1 dX12_image_84 rfl ?_
  refine wm_aload_n hC 0 dX12_image_85 rfl (k_ne0 kk_159 (by decide)) ?_
  refine x_getR3 hC 14 fl_X12_54 rfl kk_159 (rf_159_14 hRF) dX12_image_86 ?_
  refine wm_aload_n hC 0 dX12_image_89 rfl (k_ne0 kk_159 (by decide)) ?_
  refine x_getI hC 13 fl_X12_51 rfl kk_159 dX12_image_90 ?_
  refine x_iald2 hC kk_161 kn_161 dX12_image_93 hw (fun hw => ?_)
  refine wm_icmp_ge (tgt := 113) hC dX12_image_94 (by decide) hw (fun hw => ?_) (fun hw => ?_)
  · refine wm_iconst hC dX12_image_113 (k := ?_)
    refine wm_istore_n hC dX12_image_114 (by decide) (L2 := [(1, vi 0), (0, vr 159)]) rfl ?_
    obtain ⟨f, hw⟩ := hw
    refine wm_sub [1, 0] (L2 := [(0, vr 159), (1, vi 0)]) rfl ?_
    exact w12_image_b115 hC hRm hE hRF  f _ _ hw
  · refine wm_aload_n hC 0 dX12_image_97 rfl (k_ne0 kk_159 (by decide)) ?_
    refine wm_aload_n hC 0 dX12_image_98 rfl (k_ne0 kk_159 (by decide)) ?_
    refine x_getR3 hC 48 fl_X12_159 rfl kk_159 (rf_159_48 hRF) dX12_image_99 ?_
    refine wm_iload_n hC 1 dX12_image_102 rfl ?_
    refine x_iald2 hC kk_188 kn_188 dX12_image_103 hw (fun hw => ?_)
    refine y_callV_v_I hC hRm noS ml_X12_568 kk_159 (c12_writes hRF  hw) (Nat.le_of_ble_eq_true rfl) (Nat.le_of_ble_eq_true rfl) ⟨Nat.zero_le _, Nat.zero_le _⟩ rfl (st := []) rfl (Nat.le_of_ble_eq_true rfl) dX12_image_104 (fun I7 hw => ?_)
    refine x_iinc hC 1 dX12_image_107 rfl (by decide) (L2 := [(1, vi (l1 + 1)), (0, vr 159)]) rfl hw (fun hw => ?_)
    refine wm_goto (tgt := 84) hC dX12_image_110 (by decide) ?_
    refine wm_sub [1, 0] (L2 := [(0, vr 159), (1, vi (l1 + 1))]) rfl ?_
    exact kk84 _ _ hw
set_option maxRecDepth 20000 in
theorem w12_image_b84 {C : wX} {ad : Nat → Nat} {n : Nat} {J : mI} {R : mR} {Q : Int → mI → Prop} (hC : wOK C cX12_image 3 RX12) (hRm : wRm C 2 33 0 0) (hE : wEnd C (some .int) ad n (fun r I' J' R' => (J' = J ∧ R' = R) ∧ Q r I')) (hRF : RF R)      : ∀ (f : Nat) (l1 : Int) (I : mI), p12_image_b84 Q f l1 I → WM C ad n I J R 0 0 84 [(0, vr 159), (1, vi l1)] [] := by
  intro f
  induction f with
  | zero => intro l1 I hw; exact hw.elim
  | succ f ih => intro l1 I hw; exact w12_image_b84_body hC hRm hE hRF  (fun a0 a1 aw => ih a0 a1 aw) hw
def p12_image_b53_body (Q : Int → mI → Prop) (k53 : Int → mI → Prop) (l1 : Int) (I : mI) : Prop := (((0 : Int) ≤ (I 159 13) ∧ (I 159 13) < (2 : Int)) ∧ (if (I 161 (I 159 13)) ≤ l1 then (∃ f, p12_image_b84 Q f 0 I) else (((0 : Int) ≤ l1 ∧ l1 < (132 : Int)) ∧ (p12_writes (I 187 l1) I (fun I6 => (rg (l1 + 1) ∧ (k53 (l1 + 1) I6)))))))
def p12_image_b53 (Q : Int → mI → Prop) : Nat → Int → mI → Prop
  | 0 => fun _ _ => False
  | f + 1 => fun l1 I => p12_image_b53_body Q (p12_image_b53 Q f) l1 I
set_option maxRecDepth 20000 in
theorem w12_image_b53_body {C : wX} {ad : Nat → Nat} {n : Nat} {I J : mI} {R : mR} {Q : Int → mI → Prop} (hC : wOK C cX12_image 3 RX12) (hRm : wRm C 2 33 0 0) (hE : wEnd C (some .int) ad n (fun r I' J' R' => (J' = J ∧ R' = R) ∧ Q r I')) (hRF : RF R)  {l1 : Int}     {k53 : Int → mI → Prop} (kk53 : ∀ (y1 : Int) (I' : mI), k53 y1 I' → WM C ad n I' J R 0 0 53 [(0, vr 159), (1, vi y1)] []) (hw : p12_image_b53_body Q k53 l1 I) : WM C ad n I J R 0 0 53 [(0, vr 159), (1, vi l1)] [] := by
  unfold p12_image_b53_body at hw
  refine wm_iload_n hC 1 dX12_image_53 rfl ?_
  refine wm_aload_n hC 0 dX12_image_54 rfl (k_ne0 kk_159 (by decide)) ?_
  refine x_getR3 hC 14 fl_X12_54 rfl kk_159 (rf_159_14 hRF) dX12_image_55 ?_
  refine wm_aload_n hC 0 dX12_image_58 rfl (k_ne0 kk_159 (by decide)) ?_
  refine x_getI hC 13 fl_X12_51 rfl kk_159 dX12_image_59 ?_
  refine x_iald2 hC kk_161 kn_161 dX12_image_62 hw (fun hw => ?_)
  refine wm_icmp_ge (tgt := 82) hC dX12_image_63 (by decide) hw (fun hw => ?_) (fun hw => ?_)
  · refine wm_iconst hC dX12_image_82 (k := ?_)
    refine wm_istore_n hC dX12_image_83 (by decide) (L2 := [(1, vi 0), (0, vr 159)]) rfl ?_
    obtain ⟨f, hw⟩ := hw
    refine wm_sub [1, 0] (L2 := [(0, vr 159), (1, vi 0)]) rfl ?_
    exact w12_image_b84 hC hRm hE hRF  f _ _ hw
  · refine wm_aload_n hC 0 dX12_image_66 rfl (k_ne0 kk_159 (by decide)) ?_
    refine wm_aload_n hC 0 dX12_image_67 rfl (k_ne0 kk_159 (by decide)) ?_
    refine x_getR3 hC 47 fl_X12_156 rfl kk_159 (rf_159_47 hRF) dX12_image_68 ?_
    refine wm_iload_n hC 1 dX12_image_71 rfl ?_
    refine x_iald2 hC kk_187 kn_187 dX12_image_72 hw (fun hw => ?_)
    refine y_callV_v_I hC hRm noS ml_X12_568 kk_159 (c12_writes hRF  hw) (Nat.le_of_ble_eq_true rfl) (Nat.le_of_ble_eq_true rfl) ⟨Nat.zero_le _, Nat.zero_le _⟩ rfl (st := []) rfl (Nat.le_of_ble_eq_true rfl) dX12_image_73 (fun I6 hw => ?_)
    refine x_iinc hC 1 dX12_image_76 rfl (by decide) (L2 := [(1, vi (l1 + 1)), (0, vr 159)]) rfl hw (fun hw => ?_)
    refine wm_goto (tgt := 53) hC dX12_image_79 (by decide) ?_
    refine wm_sub [1, 0] (L2 := [(0, vr 159), (1, vi (l1 + 1))]) rfl ?_
    exact kk53 _ _ hw
set_option maxRecDepth 20000 in
theorem w12_image_b53 {C : wX} {ad : Nat → Nat} {n : Nat} {J : mI} {R : mR} {Q : Int → mI → Prop} (hC : wOK C cX12_image 3 RX12) (hRm : wRm C 2 33 0 0) (hE : wEnd C (some .int) ad n (fun r I' J' R' => (J' = J ∧ R' = R) ∧ Q r I')) (hRF : RF R)      : ∀ (f : Nat) (l1 : Int) (I : mI), p12_image_b53 Q f l1 I → WM C ad n I J R 0 0 53 [(0, vr 159), (1, vi l1)] [] := by
  intro f
  induction f with
  | zero => intro l1 I hw; exact hw.elim
  | succ f ih => intro l1 I hw; exact w12_image_b53_body hC hRm hE hRF  (fun a0 a1 aw => ih a0 a1 aw) hw
def p12_image (I : mI) (Q : Int → mI → Prop) : Prop := (wLet (up I 159 68 0) (fun I1 => (p12_writes (bShr (I1 185 0) 8) I1 (fun I2 => (p12_writes (I2 185 0) I2 (fun I3 => (p12_writes (bShr (I3 186 0) 8) I3 (fun I4 => (p12_writes (I4 186 0) I4 (fun I5 => (∃ f, p12_image_b53 Q f 0 I5)))))))))))
set_option maxRecDepth 20000 in
theorem c12_image {ad : Nat → Nat} {n : Nat} {I J : mI} {R : mR} {Q : Int → mI → Prop}  (hRF : RF R)   (hw : p12_image I Q) : wMet yX12_image cX12_image 3 (some .int) 2 33 false ad n I J R [vr 159] (fun r I' J' R' => (J' = J ∧ R' = R) ∧ Q r I') := by
  refine wMet_of (by decide) (Nat.le_of_ble_eq_true rfl) (fun C hC hRm hE hS => ?_)
  refine (show WM C ad n I J R 0 0 0 [(0, vr 159)] [] from ?_)
  unfold p12_image at hw
  refine wm_aload_n hC 0 dX12_image_0 rfl (k_ne0 kk_159 (by decide)) ?_
  refine wm_iconst hC dX12_image_1 (k := ?_)
  refine x_putI hC 68 fl_X12_219 rfl kk_159 dX12_image_2 hw (fun I1 hw => ?_)
  refine wm_aload_n hC 0 dX12_image_5 rfl (k_ne0 kk_159 (by decide)) ?_
  refine wm_aload_n hC 0 dX12_image_6 rfl (k_ne0 kk_159 (by decide)) ?_
  refine x_getR3 hC 45 fl_X12_150 rfl kk_159 (rf_159_45 hRF) dX12_image_7 ?_
  refine wm_iconst hC dX12_image_10 (k := ?_)
  refine x_ialdK hC kk_185 kn_185 (by decide) (by decide) dX12_image_11 ?_
  refine wm_bipush hC dX12_image_12 (k := ?_)
  refine wm_ishr hC dX12_image_14 ?_
  refine y_callV_v_I hC hRm noS ml_X12_568 kk_159 (c12_writes hRF  hw) (Nat.le_of_ble_eq_true rfl) (Nat.le_of_ble_eq_true rfl) ⟨Nat.zero_le _, Nat.zero_le _⟩ rfl (st := []) rfl (Nat.le_of_ble_eq_true rfl) dX12_image_15 (fun I2 hw => ?_)
  refine wm_aload_n hC 0 dX12_image_18 rfl (k_ne0 kk_159 (by decide)) ?_
  refine wm_aload_n hC 0 dX12_image_19 rfl (k_ne0 kk_159 (by decide)) ?_
  refine x_getR3 hC 45 fl_X12_150 rfl kk_159 (rf_159_45 hRF) dX12_image_20 ?_
  refine wm_iconst hC dX12_image_23 (k := ?_)
  refine x_ialdK hC kk_185 kn_185 (by decide) (by decide) dX12_image_24 ?_
  refine y_callV_v_I hC hRm noS ml_X12_568 kk_159 (c12_writes hRF  hw) (Nat.le_of_ble_eq_true rfl) (Nat.le_of_ble_eq_true rfl) ⟨Nat.zero_le _, Nat.zero_le _⟩ rfl (st := []) rfl (Nat.le_of_ble_eq_true rfl) dX12_image_25 (fun I3 hw => ?_)
  refine wm_aload_n hC 0 dX12_image_28 rfl (k_ne0 kk_159 (by decide)) ?_
  refine wm_aload_n hC 0 dX12_image_29 rfl (k_ne0 kk_159 (by decide)) ?_
  refine x_getR3 hC 46 fl_X12_153 rfl kk_159 (rf_159_46 hRF) dX12_image_30 ?_
  refine wm_iconst hC dX12_image_33 (k := ?_)
  refine x_ialdK hC kk_186 kn_186 (by decide) (by decide) dX12_image_34 ?_
  refine wm_bipush hC dX12_image_35 (k := ?_)
  refine wm_ishr hC dX12_image_37 ?_
  refine y_callV_v_I hC hRm noS ml_X12_568 kk_159 (c12_writes hRF  hw) (Nat.le_of_ble_eq_true rfl) (Nat.le_of_ble_eq_true rfl) ⟨Nat.zero_le _, Nat.zero_le _⟩ rfl (st := []) rfl (Nat.le_of_ble_eq_true rfl) dX12_image_38 (fun I4 hw => ?_)
  refine wm_aload_n hC 0 dX12_image_41 rfl (k_ne0 kk_159 (by decide)) ?_
  refine wm_aload_n hC 0 dX12_image_42 rfl (k_ne0 kk_159 (by decide)) ?_
  refine x_getR3 hC 46 fl_X12_153 rfl kk_159 (rf_159_46 hRF) dX12_image_43 ?_
  refine wm_iconst hC dX12_image_46 (k := ?_)
  refine x_ialdK hC kk_186 kn_186 (by decide) (by decide) dX12_image_47 ?_
  refine y_callV_v_I hC hRm noS ml_X12_568 kk_159 (c12_writes hRF  hw) (Nat.le_of_ble_eq_true rfl) (Nat.le_of_ble_eq_true rfl) ⟨Nat.zero_le _, Nat.zero_le _⟩ rfl (st := []) rfl (Nat.le_of_ble_eq_true rfl) dX12_image_48 (fun I5 hw => ?_)
  refine wm_iconst hC dX12_image_51 (k := ?_)
  refine wm_istore_n hC dX12_image_52 (by decide) (L2 := [(1, vi 0), (0, vr 159)]) rfl ?_
  obtain ⟨f, hw⟩ := hw
  refine wm_sub [1, 0] (L2 := [(0, vr 159), (1, vi 0)]) rfl ?_
  exact w12_image_b53 hC hRm hE hRF  f _ _ hw
def p12_kept (l1 : Int) (l2 : Int) (I : mI) (Q : Int → Prop) : Prop := (rg ((I 190 0) - 1) ∧ (p12_is l1 0 ((I 190 0) - 1) (fun r1 => (if r1 = 0 then (Q (-1)) else (p12_is l2 0 2 (fun r2 => (if r2 = 0 then (Q (-1)) else (rg (3 * l1) ∧ (rg ((3 * l1) + l2) ∧ (((0 : Int) ≤ ((3 * l1) + l2) ∧ ((3 * l1) + l2) < (2640 : Int)) ∧ (Q (I 191 ((3 * l1) + l2)))))))))))))
set_option maxRecDepth 20000 in
theorem c12_kept {ad : Nat → Nat} {n : Nat} {I J : mI} {R : mR} {Q : Int → Prop}  (hRF : RF R) {l1 : Int} {l2 : Int}    (hw : p12_kept l1 l2 I Q) : wMet yX12_kept cX12_kept 3 (some .int) 2 34 false ad n I J R [vr 159, vi l1, vi l2] (fun r I' J' R' => (I' = I ∧ J' = J ∧ R' = R) ∧ Q r) := by
  refine wMet_of (by decide) (Nat.le_of_ble_eq_true rfl) (fun C hC hRm hE hS => ?_)
  refine (show WM C ad n I J R 0 0 0 [(0, vr 159), (1, vi l1), (2, vi l2)] [] from ?_)
  unfold p12_kept at hw
  refine wm_iload_n hC 1 dX12_kept_0 rfl ?_
  refine wm_iconst hC dX12_kept_1 (k := ?_)
  refine wm_aload_n hC 0 dX12_kept_2 rfl (k_ne0 kk_159 (by decide)) ?_
  refine x_getR3 hC 50 fl_X12_165 rfl kk_159 (rf_159_50 hRF) dX12_kept_3 ?_
  refine wm_iconst hC dX12_kept_6 (k := ?_)
  refine x_ialdK hC kk_190 kn_190 (by decide) (by decide) dX12_kept_7 ?_
  refine wm_iconst hC dX12_kept_8 (k := ?_)
  refine x_isub hC dX12_kept_9 hw (fun hw => ?_)
  refine y_callS_z_n hC hRm noS ml_X12_309 (c12_is hRF  hw) (Nat.le_of_ble_eq_true rfl) (Nat.le_of_ble_eq_true rfl) ⟨Nat.zero_le _, Nat.zero_le _⟩ rfl (st := []) rfl (Nat.le_of_ble_eq_true rfl) dX12_kept_10 (fun r1 hw => ?_)
  refine wm_if_eq (tgt := 38) hC dX12_kept_13 (by decide) hw (fun hw => ?_) (fun hw => ?_)
  · refine wm_iconst hC dX12_kept_38 (k := ?_)
    exact wm_ireturn hC hE dX12_kept_39 ⟨⟨rfl, rfl, rfl⟩, hw⟩
  · refine wm_iload_n hC 2 dX12_kept_16 rfl ?_
    refine wm_iconst hC dX12_kept_17 (k := ?_)
    refine wm_iconst hC dX12_kept_18 (k := ?_)
    refine y_callS_z_n hC hRm noS ml_X12_309 (c12_is hRF  hw) (Nat.le_of_ble_eq_true rfl) (Nat.le_of_ble_eq_true rfl) ⟨Nat.zero_le _, Nat.zero_le _⟩ rfl (st := []) rfl (Nat.le_of_ble_eq_true rfl) dX12_kept_19 (fun r2 hw => ?_)
    refine wm_if_eq (tgt := 38) hC dX12_kept_22 (by decide) hw (fun hw => ?_) (fun hw => ?_)
    · refine wm_iconst hC dX12_kept_38 (k := ?_)
      exact wm_ireturn hC hE dX12_kept_39 ⟨⟨rfl, rfl, rfl⟩, hw⟩
    · refine wm_aload_n hC 0 dX12_kept_25 rfl (k_ne0 kk_159 (by decide)) ?_
      refine x_getR3 hC 51 fl_X12_168 rfl kk_159 (rf_159_51 hRF) dX12_kept_26 ?_
      refine wm_iconst hC dX12_kept_29 (k := ?_)
      refine wm_iload_n hC 1 dX12_kept_30 rfl ?_
      refine x_imul hC dX12_kept_31 hw (fun hw => ?_)
      refine wm_iload_n hC 2 dX12_kept_32 rfl ?_
      refine x_iadd hC dX12_kept_33 hw (fun hw => ?_)
      refine x_iald2 hC kk_191 kn_191 dX12_kept_34 hw (fun hw => ?_)
      refine wm_goto (tgt := 39) hC dX12_kept_35 (by decide) ?_
      exact wm_ireturn hC hE dX12_kept_39 ⟨⟨rfl, rfl, rfl⟩, hw⟩
def p12_known_b102 (l3 : Int) (I : mI) (J : mI) (Q : Int → mI → mI → Prop) : Prop := (if (I 159 8) ≤ 0 then (Q l3 I J) else (Q 0 I J))
set_option maxRecDepth 20000 in
theorem w12_known_b102 {C : wX} {ad : Nat → Nat} {n : Nat} {I J : mI} {R : mR} {Q : Int → mI → mI → Prop} (hC : wOK C cX12_known 4 RX12) (hRm : wRm C 3 57 0 0) (hE : wEnd C (some .int) ad n (fun r I' J' R' => (R' = R) ∧ Q r I' J')) (hRF : RF R) {l3 : Int}     (hw : p12_known_b102 l3 I J Q) : WM C ad n I J R 0 0 102 [(0, vr 159), (3, vi l3)] [] := by
  unfold p12_known_b102 at hw
  refine wm_aload_n hC 0 dX12_known_102 rfl (k_ne0 kk_159 (by decide)) ?_
  refine x_getI hC 8 fl_X12_36 rfl kk_159 dX12_known_103 ?_
  refine wm_if_le (tgt := 113) hC dX12_known_106 (by decide) hw (fun hw => ?_) (fun hw => ?_)
  · refine wm_iload_n hC 1 dX12_known_113 rfl ?_
    exact wm_ireturn hC hE dX12_known_114 ⟨rfl, hw⟩
  · refine wm_iconst hC dX12_known_109 (k := ?_)
    refine wm_goto (tgt := 114) hC dX12_known_110 (by decide) ?_
    exact wm_ireturn hC hE dX12_known_114 ⟨rfl, hw⟩
def p12_known_b91 (l3 : Int) (I : mI) (J : mI) (Q : Int → mI → mI → Prop) : Prop := (if (I 159 8) = 0 then (p12_ahead I J (fun I4 J1 => (p12_known_b102 l3 I4 J1 Q))) else (p12_known_b102 l3 I J Q))
set_option maxRecDepth 20000 in
theorem w12_known_b91 {C : wX} {ad : Nat → Nat} {n : Nat} {I J : mI} {R : mR} {Q : Int → mI → mI → Prop} (hC : wOK C cX12_known 4 RX12) (hRm : wRm C 3 57 0 0) (hE : wEnd C (some .int) ad n (fun r I' J' R' => (R' = R) ∧ Q r I' J')) (hRF : RF R) {l3 : Int}     (hw : p12_known_b91 l3 I J Q) : WM C ad n I J R 0 0 91 [(0, vr 159), (3, vi l3)] [] := by
  unfold p12_known_b91 at hw
  refine wm_aload_n hC 0 dX12_known_91 rfl (k_ne0 kk_159 (by decide)) ?_
  refine x_getI hC 8 fl_X12_36 rfl kk_159 dX12_known_92 ?_
  refine wm_if_ne (tgt := 102) hC dX12_known_95 (by decide) hw (fun hw => ?_) (fun hw => ?_)
  · refine wm_aload_n hC 0 dX12_known_98 rfl (k_ne0 kk_159 (by decide)) ?_
    refine y_callV_v_IJ hC hRm noS ml_X12_247 kk_159 (c12_ahead hRF  hw) (Nat.le_of_ble_eq_true rfl) (Nat.le_of_ble_eq_true rfl) ⟨Nat.zero_le _, Nat.zero_le _⟩ rfl (st := []) rfl (Nat.le_of_ble_eq_true rfl) dX12_known_99 (fun I4 J1 hw => ?_)
    exact w12_known_b102 hC hRm hE hRF  hw
  · exact w12_known_b102 hC hRm hE hRF  hw
def p12_known_b82 (l3 : Int) (I : mI) (J : mI) (Q : Int → mI → mI → Prop) : Prop := (p12_blame 3 (I 159 4) I (fun I3 => (p12_known_b91 l3 I3 J Q)))
set_option maxRecDepth 20000 in
theorem w12_known_b82 {C : wX} {ad : Nat → Nat} {n : Nat} {I J : mI} {R : mR} {Q : Int → mI → mI → Prop} (hC : wOK C cX12_known 4 RX12) (hRm : wRm C 3 57 0 0) (hE : wEnd C (some .int) ad n (fun r I' J' R' => (R' = R) ∧ Q r I' J')) (hRF : RF R) {l3 : Int}     (hw : p12_known_b82 l3 I J Q) : WM C ad n I J R 0 0 82 [(0, vr 159), (3, vi l3)] [] := by
  unfold p12_known_b82 at hw
  refine wm_aload_n hC 0 dX12_known_82 rfl (k_ne0 kk_159 (by decide)) ?_
  refine wm_iconst hC dX12_known_83 (k := ?_)
  refine wm_aload_n hC 0 dX12_known_84 rfl (k_ne0 kk_159 (by decide)) ?_
  refine x_getI hC 4 fl_X12_23 rfl kk_159 dX12_known_85 ?_
  refine y_callV_v_I hC hRm noS ml_X12_230 kk_159 (c12_blame hRF  hw) (Nat.le_of_ble_eq_true rfl) (Nat.le_of_ble_eq_true rfl) ⟨Nat.zero_le _, Nat.zero_le _⟩ rfl (st := []) rfl (Nat.le_of_ble_eq_true rfl) dX12_known_88 (fun I3 hw => ?_)
  exact w12_known_b91 hC hRm hE hRF  hw
def p12_known_b61 (l2 : Int) (s0 : Int) (I : mI) (J : mI) (Q : Int → mI → mI → Prop) : Prop := (if (I 159 8) = 0 then (if s0 = (-1) then (p12_known_b82 s0 I J Q) else (p12_has2 l2 s0 (fun r3 => (if r3 = 0 then (p12_known_b91 s0 I J Q) else (p12_known_b82 s0 I J Q))))) else (p12_known_b91 s0 I J Q))
set_option maxRecDepth 20000 in
theorem w12_known_b61 {C : wX} {ad : Nat → Nat} {n : Nat} {I J : mI} {R : mR} {Q : Int → mI → mI → Prop} (hC : wOK C cX12_known 4 RX12) (hRm : wRm C 3 57 0 0) (hE : wEnd C (some .int) ad n (fun r I' J' R' => (R' = R) ∧ Q r I' J')) (hRF : RF R) {l2 : Int} {s0 : Int}     (hw : p12_known_b61 l2 s0 I J Q) : WM C ad n I J R 0 0 61 [(0, vr 159), (2, vi l2)] [vi s0] := by
  unfold p12_known_b61 at hw
  refine wm_istore_n hC dX12_known_61 (by decide) (L2 := [(3, vi s0), (0, vr 159), (2, vi l2)]) rfl ?_
  refine wm_aload_n hC 1 dX12_known_62 rfl (k_ne0 kk_159 (by decide)) ?_
  refine x_getI hC 8 fl_X12_36 rfl kk_159 dX12_known_63 ?_
  refine wm_if_ne (tgt := 91) hC dX12_known_66 (by decide) hw (fun hw => ?_) (fun hw => ?_)
  · refine wm_iload_n hC 0 dX12_known_69 rfl ?_
    refine wm_iconst hC dX12_known_70 (k := ?_)
    refine wm_icmp_eq (tgt := 82) hC dX12_known_71 (by decide) hw (fun hw => ?_) (fun hw => ?_)
    · refine wm_sub [1, 0] (L2 := [(0, vr 159), (3, vi s0)]) rfl ?_
      exact w12_known_b82 hC hRm hE hRF  hw
    · refine wm_iload_n hC 2 dX12_known_74 rfl ?_
      refine wm_iload_n hC 0 dX12_known_75 rfl ?_
      refine y_callS_z_n hC hRm noS ml_X12_351 (c12_has2 hRF  hw) (Nat.le_of_ble_eq_true rfl) (Nat.le_of_ble_eq_true rfl) ⟨Nat.zero_le _, Nat.zero_le _⟩ rfl (st := []) rfl (Nat.le_of_ble_eq_true rfl) dX12_known_76 (fun r3 hw => ?_)
      refine wm_if_eq (tgt := 91) hC dX12_known_79 (by decide) hw (fun hw => ?_) (fun hw => ?_)
      · refine wm_sub [1, 0] (L2 := [(0, vr 159), (3, vi s0)]) rfl ?_
        exact w12_known_b91 hC hRm hE hRF  hw
      · refine wm_sub [1, 0] (L2 := [(0, vr 159), (3, vi s0)]) rfl ?_
        exact w12_known_b82 hC hRm hE hRF  hw
  · refine wm_sub [1, 0] (L2 := [(0, vr 159), (3, vi s0)]) rfl ?_
    exact w12_known_b91 hC hRm hE hRF  hw
def p12_known_b41 (l1 : Int) (l2 : Int) (I : mI) (J : mI) (Q : Int → mI → mI → Prop) : Prop := (if (I 159 8) ≤ 0 then (p12_named l1 (J 159 7) I J (fun r2 => (p12_known_b61 l2 r2 I J Q))) else (p12_known_b61 l2 0 I J Q))
set_option maxRecDepth 20000 in
theorem w12_known_b41 {C : wX} {ad : Nat → Nat} {n : Nat} {I J : mI} {R : mR} {Q : Int → mI → mI → Prop} (hC : wOK C cX12_known 4 RX12) (hRm : wRm C 3 57 0 0) (hE : wEnd C (some .int) ad n (fun r I' J' R' => (R' = R) ∧ Q r I' J')) (hRF : RF R) {l1 : Int} {l2 : Int}     (hw : p12_known_b41 l1 l2 I J Q) : WM C ad n I J R 0 0 41 [(0, vr 159), (1, vi l1), (2, vi l2)] [] := by
  unfold p12_known_b41 at hw
  refine wm_aload_n hC 0 dX12_known_41 rfl (k_ne0 kk_159 (by decide)) ?_
  refine x_getI hC 8 fl_X12_36 rfl kk_159 dX12_known_42 ?_
  refine wm_if_le (tgt := 52) hC dX12_known_45 (by decide) hw (fun hw => ?_) (fun hw => ?_)
  · refine wm_aload_n hC 0 dX12_known_52 rfl (k_ne0 kk_159 (by decide)) ?_
    refine wm_iload_n hC 1 dX12_known_53 rfl ?_
    refine wm_aload_n hC 0 dX12_known_54 rfl (k_ne0 kk_159 (by decide)) ?_
    refine x_getJ hC 7 fl_X12_32 rfl kk_159 dX12_known_55 ?_
    refine y_callV_i_n hC hRm noS ml_X12_347 kk_159 (c12_named hRF  hw) (Nat.le_of_ble_eq_true rfl) (Nat.le_of_ble_eq_true rfl) ⟨Nat.zero_le _, Nat.zero_le _⟩ rfl (st := []) rfl (Nat.le_of_ble_eq_true rfl) dX12_known_58 (fun r2 hw => ?_)
    refine wm_sub [0, 2] (L2 := [(0, vr 159), (2, vi l2)]) rfl ?_
    exact w12_known_b61 hC hRm hE hRF  hw
  · refine wm_iconst hC dX12_known_48 (k := ?_)
    refine wm_goto (tgt := 61) hC dX12_known_49 (by decide) ?_
    refine wm_sub [0, 2] (L2 := [(0, vr 159), (2, vi l2)]) rfl ?_
    exact w12_known_b61 hC hRm hE hRF  hw
def p12_known_b32 (l1 : Int) (l2 : Int) (I : mI) (J : mI) (Q : Int → mI → mI → Prop) : Prop := (p12_blame 1 (I 159 4) I (fun I2 => (p12_known_b41 l1 l2 I2 J Q)))
set_option maxRecDepth 20000 in
theorem w12_known_b32 {C : wX} {ad : Nat → Nat} {n : Nat} {I J : mI} {R : mR} {Q : Int → mI → mI → Prop} (hC : wOK C cX12_known 4 RX12) (hRm : wRm C 3 57 0 0) (hE : wEnd C (some .int) ad n (fun r I' J' R' => (R' = R) ∧ Q r I' J')) (hRF : RF R) {l1 : Int} {l2 : Int}     (hw : p12_known_b32 l1 l2 I J Q) : WM C ad n I J R 0 0 32 [(0, vr 159), (1, vi l1), (2, vi l2)] [] := by
  unfold p12_known_b32 at hw
  refine wm_aload_n hC 0 dX12_known_32 rfl (k_ne0 kk_159 (by decide)) ?_
  refine wm_iconst hC dX12_known_33 (k := ?_)
  refine wm_aload_n hC 0 dX12_known_34 rfl (k_ne0 kk_159 (by decide)) ?_
  refine x_getI hC 4 fl_X12_23 rfl kk_159 dX12_known_35 ?_
  refine y_callV_v_I hC hRm noS ml_X12_230 kk_159 (c12_blame hRF  hw) (Nat.le_of_ble_eq_true rfl) (Nat.le_of_ble_eq_true rfl) ⟨Nat.zero_le _, Nat.zero_le _⟩ rfl (st := []) rfl (Nat.le_of_ble_eq_true rfl) dX12_known_38 (fun I2 hw => ?_)
  exact w12_known_b41 hC hRm hE hRF  hw
def p12_known (l1 : Int) (l2 : Int) (I : mI) (J : mI) (Q : Int → mI → mI → Prop) : Prop := (p12_lex I (fun I1 => (if (I1 159 8) ≤ 0 then (if (I1 159 3) = 1 then (p12_isOwn (J 159 7) (fun r1 => (if r1 = 0 then (p12_known_b41 l1 l2 I1 J Q) else (p12_known_b32 l1 l2 I1 J Q)))) else (p12_known_b32 l1 l2 I1 J Q)) else (Q 0 I1 J))))
set_option maxRecDepth 20000 in
theorem c12_known {ad : Nat → Nat} {n : Nat} {I J : mI} {R : mR} {Q : Int → mI → mI → Prop}  (hRF : RF R) {l1 : Int} {l2 : Int}    (hw : p12_known l1 l2 I J Q) : wMet yX12_known cX12_known 4 (some .int) 3 57 false ad n I J R [vr 159, vi l1, vi l2] (fun r I' J' R' => (R' = R) ∧ Q r I' J') := by
  refine wMet_of (by decide) (Nat.le_of_ble_eq_true rfl) (fun C hC hRm hE hS => ?_)
  refine (show WM C ad n I J R 0 0 0 [(0, vr 159), (1, vi l1), (2, vi l2)] [] from ?_)
  unfold p12_known at hw
  refine wm_aload_n hC 0 dX12_known_0 rfl (k_ne0 kk_159 (by decide)) ?_
  refine y_callV_v_I hC hRm noS ml_X12_241 kk_159 (c12_lex hRF  hw) (Nat.le_of_ble_eq_true rfl) (Nat.le_of_ble_eq_true rfl) ⟨Nat.zero_le _, Nat.zero_le _⟩ rfl (st := []) rfl (Nat.le_of_ble_eq_true rfl) dX12_known_1 (fun I1 hw => ?_)
  refine wm_aload_n hC 0 dX12_known_4 rfl (k_ne0 kk_159 (by decide)) ?_
  refine x_getI hC 8 fl_X12_36 rfl kk_159 dX12_known_5 ?_
  refine wm_if_le (tgt := 13) hC dX12_known_8 (by decide) hw (fun hw => ?_) (fun hw => ?_)
  · refine wm_aload_n hC 0 dX12_known_13 rfl (k_ne0 kk_159 (by decide)) ?_
    refine x_getI hC 3 fl_X12_20 rfl kk_159 dX12_known_14 ?_
    refine wm_iconst hC dX12_known_17 (k := ?_)
    refine wm_icmp_ne (tgt := 32) hC dX12_known_18 (by decide) hw (fun hw => ?_) (fun hw => ?_)
    · refine wm_aload_n hC 0 dX12_known_21 rfl (k_ne0 kk_159 (by decide)) ?_
      refine wm_aload_n hC 0 dX12_known_22 rfl (k_ne0 kk_159 (by decide)) ?_
      refine x_getJ hC 7 fl_X12_32 rfl kk_159 dX12_known_23 ?_
      refine y_callV_z_n hC hRm noS ml_X12_344 kk_159 (c12_isOwn hRF  hw) (Nat.le_of_ble_eq_true rfl) (Nat.le_of_ble_eq_true rfl) ⟨Nat.zero_le _, Nat.zero_le _⟩ rfl (st := []) rfl (Nat.le_of_ble_eq_true rfl) dX12_known_26 (fun r1 hw => ?_)
      refine wm_if_eq (tgt := 41) hC dX12_known_29 (by decide) hw (fun hw => ?_) (fun hw => ?_)
      · exact w12_known_b41 hC hRm hE hRF  hw
      · exact w12_known_b32 hC hRm hE hRF  hw
    · exact w12_known_b32 hC hRm hE hRF  hw
  · refine wm_iconst hC dX12_known_11 (k := ?_)
    exact wm_ireturn hC hE dX12_known_12 ⟨rfl, hw⟩
def p12_lateness (I : mI) (J : mI) (Q : mI → mI → Prop) : Prop := (p12_isCounted 0 I J (fun r1 I1 J1 => (if r1 = 0 then (Q I1 J1) else (((0 : Int) ≤ (I1 159 32) ∧ (I1 159 32) < (2 : Int)) ∧ (p12_known 0 (I1 163 (I1 159 32)) I1 J1 (fun r2 I2 J2 => (if (I2 159 8) = 0 then (((0 : Int) ≤ (I2 159 32) ∧ (I2 159 32) < (2 : Int)) ∧ (((0 : Int) ≤ (I2 159 32) ∧ (I2 159 32) < (2 : Int)) ∧ wLet (up I2 163 (I2 159 32) (bOr (I2 163 (I2 159 32)) (bShl 1 r2))) (fun I3 => (Q I3 J2)))) else (Q I2 J2))))))))
set_option maxRecDepth 20000 in
theorem c12_lateness {ad : Nat → Nat} {n : Nat} {I J : mI} {R : mR} {Q : mI → mI → Prop}  (hRF : RF R)   (hw : p12_lateness I J Q) : wMet yX12_lateness cX12_lateness 2 none 4 80 false ad n I J R [vr 159] (fun _ I' J' R' => (R' = R) ∧ Q I' J') := by
  refine wMet_of (by decide) (Nat.le_of_ble_eq_true rfl) (fun C hC hRm hE hS => ?_)
  refine (show WM C ad n I J R 0 0 0 [(0, vr 159)] [] from ?_)
  unfold p12_lateness at hw
  refine wm_aload_n hC 0 dX12_lateness_0 rfl (k_ne0 kk_159 (by decide)) ?_
  refine wm_iconst hC dX12_lateness_1 (k := ?_)
  refine y_callV_z_IJ hC hRm noS ml_X12_355 kk_159 (c12_isCounted hRF  hw) (Nat.le_of_ble_eq_true rfl) (Nat.le_of_ble_eq_true rfl) ⟨Nat.zero_le _, Nat.zero_le _⟩ rfl (st := []) rfl (Nat.le_of_ble_eq_true rfl) dX12_lateness_2 (fun r1 I1 J1 hw => ?_)
  refine wm_if_ne (tgt := 9) hC dX12_lateness_5 (by decide) hw (fun hw => ?_) (fun hw => ?_)
  · exact wm_return hC hE dX12_lateness_8 ⟨rfl, hw⟩
  · refine wm_aload_n hC 0 dX12_lateness_9 rfl (k_ne0 kk_159 (by decide)) ?_
    refine wm_iconst hC dX12_lateness_10 (k := ?_)
    refine wm_aload_n hC 0 dX12_lateness_11 rfl (k_ne0 kk_159 (by decide)) ?_
    refine x_getR3 hC 16 fl_X12_60 rfl kk_159 (rf_159_16 hRF) dX12_lateness_12 ?_
    refine wm_aload_n hC 0 dX12_lateness_15 rfl (k_ne0 kk_159 (by decide)) ?_
    refine x_getI hC 32 fl_X12_109 rfl kk_159 dX12_lateness_16 ?_
    refine x_iald2 hC kk_163 kn_163 dX12_lateness_19 hw (fun hw => ?_)
    refine y_callV_i_IJ hC hRm noS ml_X12_378 kk_159 (c12_known hRF  hw) (Nat.le_of_ble_eq_true rfl) (Nat.le_of_ble_eq_true rfl) ⟨Nat.zero_le _, Nat.zero_le _⟩ rfl (st := []) rfl (Nat.le_of_ble_eq_true rfl) dX12_lateness_20 (fun r2 I2 J2 hw => ?_)
    refine wm_istore_n hC dX12_lateness_23 (by decide) (L2 := [(1, vi r2), (0, vr 159)]) rfl ?_
    refine wm_aload_n hC 1 dX12_lateness_24 rfl (k_ne0 kk_159 (by decide)) ?_
    refine x_getI hC 8 fl_X12_36 rfl kk_159 dX12_lateness_25 ?_
    refine wm_if_ne (tgt := 46) hC dX12_lateness_28 (by decide) hw (fun hw => ?_) (fun hw => ?_)
    · refine wm_aload_n hC 1 dX12_lateness_31 rfl (k_ne0 kk_159 (by decide)) ?_
      refine x_getR3 hC 16 fl_X12_60 rfl kk_159 (rf_159_16 hRF) dX12_lateness_32 ?_
      refine wm_aload_n hC 1 dX12_lateness_35 rfl (k_ne0 kk_159 (by decide)) ?_
      refine x_getI hC 32 fl_X12_109 rfl kk_159 dX12_lateness_36 ?_
      refine wm_dup2_11 hC dX12_lateness_39 (k := ?_)
      refine x_iald2 hC kk_163 kn_163 dX12_lateness_40 hw (fun hw => ?_)
      refine wm_iconst hC dX12_lateness_41 (k := ?_)
      refine wm_iload_n hC 0 dX12_lateness_42 rfl ?_
      refine wm_ishl hC dX12_lateness_43 ?_
      refine wm_ior hC dX12_lateness_44 ?_
      refine x_iast2 hC kk_163 kn_163 dX12_lateness_45 hw (fun I3 hw => ?_)
      exact wm_return hC hE dX12_lateness_46 ⟨rfl, hw⟩
    · exact wm_return hC hE dX12_lateness_46 ⟨rfl, hw⟩
def p12_nearing (I : mI) (J : mI) (Q : mI → mI → Prop) : Prop := (p12_isCounted 0 I J (fun r1 I1 J1 => (if r1 = 0 then (Q I1 J1) else (p12_known 2 0 I1 J1 (fun r2 I2 J2 => (if (I2 159 8) ≤ 0 then (rg (6 * (I2 159 32)) ∧ (rg ((6 * (I2 159 32)) + r2) ∧ (((0 : Int) ≤ ((6 * (I2 159 32)) + r2) ∧ ((6 * (I2 159 32)) + r2) < (12 : Int)) ∧ (p12_known 2 (bOr (I2 169 ((6 * (I2 159 32)) + r2)) (bShl 1 r2)) I2 J2 (fun r3 I3 J3 => (if (I3 159 8) ≤ 0 then (rg (6 * (I3 159 32)) ∧ (rg ((6 * (I3 159 32)) + r2) ∧ (((0 : Int) ≤ ((6 * (I3 159 32)) + r2) ∧ ((6 * (I3 159 32)) + r2) < (12 : Int)) ∧ (((0 : Int) ≤ ((6 * (I3 159 32)) + r2) ∧ ((6 * (I3 159 32)) + r2) < (12 : Int)) ∧ wLet (up I3 169 ((6 * (I3 159 32)) + r2) (bOr (I3 169 ((6 * (I3 159 32)) + r2)) (bShl 1 r3))) (fun I4 => (rg (6 * (I4 159 32)) ∧ (rg ((6 * (I4 159 32)) + r3) ∧ (((0 : Int) ≤ ((6 * (I4 159 32)) + r3) ∧ ((6 * (I4 159 32)) + r3) < (12 : Int)) ∧ (((0 : Int) ≤ ((6 * (I4 159 32)) + r3) ∧ ((6 * (I4 159 32)) + r3) < (12 : Int)) ∧ wLet (up I4 169 ((6 * (I4 159 32)) + r3) (bOr (I4 169 ((6 * (I4 159 32)) + r3)) (bShl 1 r2))) (fun I5 => (Q I5 J3))))))))))) else (Q I3 J3))))))) else (Q I2 J2)))))))
set_option maxRecDepth 20000 in
theorem c12_nearing {ad : Nat → Nat} {n : Nat} {I J : mI} {R : mR} {Q : mI → mI → Prop}  (hRF : RF R)   (hw : p12_nearing I J Q) : wMet yX12_nearing cX12_nearing 3 none 4 80 false ad n I J R [vr 159] (fun _ I' J' R' => (R' = R) ∧ Q I' J') := by
  refine wMet_of (by decide) (Nat.le_of_ble_eq_true rfl) (fun C hC hRm hE hS => ?_)
  refine (show WM C ad n I J R 0 0 0 [(0, vr 159)] [] from ?_)
  unfold p12_nearing at hw
  refine wm_aload_n hC 0 dX12_nearing_0 rfl (k_ne0 kk_159 (by decide)) ?_
  refine wm_iconst hC dX12_nearing_1 (k := ?_)
  refine y_callV_z_IJ hC hRm noS ml_X12_355 kk_159 (c12_isCounted hRF  hw) (Nat.le_of_ble_eq_true rfl) (Nat.le_of_ble_eq_true rfl) ⟨Nat.zero_le _, Nat.zero_le _⟩ rfl (st := []) rfl (Nat.le_of_ble_eq_true rfl) dX12_nearing_2 (fun r1 I1 J1 hw => ?_)
  refine wm_if_ne (tgt := 9) hC dX12_nearing_5 (by decide) hw (fun hw => ?_) (fun hw => ?_)
  · exact wm_return hC hE dX12_nearing_8 ⟨rfl, hw⟩
  · refine wm_aload_n hC 0 dX12_nearing_9 rfl (k_ne0 kk_159 (by decide)) ?_
    refine wm_iconst hC dX12_nearing_10 (k := ?_)
    refine wm_iconst hC dX12_nearing_11 (k := ?_)
    refine y_callV_i_IJ hC hRm noS ml_X12_378 kk_159 (c12_known hRF  hw) (Nat.le_of_ble_eq_true rfl) (Nat.le_of_ble_eq_true rfl) ⟨Nat.zero_le _, Nat.zero_le _⟩ rfl (st := []) rfl (Nat.le_of_ble_eq_true rfl) dX12_nearing_12 (fun r2 I2 J2 hw => ?_)
    refine wm_istore_n hC dX12_nearing_15 (by decide) (L2 := [(1, vi r2), (0, vr 159)]) rfl ?_
    refine wm_aload_n hC 1 dX12_nearing_16 rfl (k_ne0 kk_159 (by decide)) ?_
    refine x_getI hC 8 fl_X12_36 rfl kk_159 dX12_nearing_17 ?_
    refine wm_if_le (tgt := 24) hC dX12_nearing_20 (by decide) hw (fun hw => ?_) (fun hw => ?_)
    · refine wm_aload_n hC 1 dX12_nearing_24 rfl (k_ne0 kk_159 (by decide)) ?_
      refine wm_iconst hC dX12_nearing_25 (k := ?_)
      refine wm_aload_n hC 1 dX12_nearing_26 rfl (k_ne0 kk_159 (by decide)) ?_
      refine x_getR3 hC 22 fl_X12_78 rfl kk_159 (rf_159_22 hRF) dX12_nearing_27 ?_
      refine wm_bipush hC dX12_nearing_30 (k := ?_)
      refine wm_aload_n hC 1 dX12_nearing_32 rfl (k_ne0 kk_159 (by decide)) ?_
      refine x_getI hC 32 fl_X12_109 rfl kk_159 dX12_nearing_33 ?_
      refine x_imul hC dX12_nearing_36 hw (fun hw => ?_)
      refine wm_iload_n hC 0 dX12_nearing_37 rfl ?_
      refine x_iadd hC dX12_nearing_38 hw (fun hw => ?_)
      refine x_iald2 hC kk_169 kn_169 dX12_nearing_39 hw (fun hw => ?_)
      refine wm_iconst hC dX12_nearing_40 (k := ?_)
      refine wm_iload_n hC 0 dX12_nearing_41 rfl ?_
      refine wm_ishl hC dX12_nearing_42 ?_
      refine wm_ior hC dX12_nearing_43 ?_
      refine y_callV_i_IJ hC hRm noS ml_X12_378 kk_159 (c12_known hRF  hw) (Nat.le_of_ble_eq_true rfl) (Nat.le_of_ble_eq_true rfl) ⟨Nat.zero_le _, Nat.zero_le _⟩ rfl (st := []) rfl (Nat.le_of_ble_eq_true rfl) dX12_nearing_44 (fun r3 I3 J3 hw => ?_)
      refine wm_istore_n hC dX12_nearing_47 (by decide) (L2 := [(2, vi r3), (1, vi r2), (0, vr 159)]) rfl ?_
      refine wm_aload_n hC 2 dX12_nearing_48 rfl (k_ne0 kk_159 (by decide)) ?_
      refine x_getI hC 8 fl_X12_36 rfl kk_159 dX12_nearing_49 ?_
      refine wm_if_le (tgt := 56) hC dX12_nearing_52 (by decide) hw (fun hw => ?_) (fun hw => ?_)
      · refine wm_aload_n hC 2 dX12_nearing_56 rfl (k_ne0 kk_159 (by decide)) ?_
        refine x_getR3 hC 22 fl_X12_78 rfl kk_159 (rf_159_22 hRF) dX12_nearing_57 ?_
        refine wm_bipush hC dX12_nearing_60 (k := ?_)
        refine wm_aload_n hC 2 dX12_nearing_62 rfl (k_ne0 kk_159 (by decide)) ?_
        refine x_getI hC 32 fl_X12_109 rfl kk_159 dX12_nearing_63 ?_
        refine x_imul hC dX12_nearing_66 hw (fun hw => ?_)
        refine wm_iload_n hC 1 dX12_nearing_67 rfl ?_
        refine x_iadd hC dX12_nearing_68 hw (fun hw => ?_)
        refine wm_dup2_11 hC dX12_nearing_69 (k := ?_)
        refine x_iald2 hC kk_169 kn_169 dX12_nearing_70 hw (fun hw => ?_)
        refine wm_iconst hC dX12_nearing_71 (k := ?_)
        refine wm_iload_n hC 0 dX12_nearing_72 rfl ?_
        refine wm_ishl hC dX12_nearing_73 ?_
        refine wm_ior hC dX12_nearing_74 ?_
        refine x_iast2 hC kk_169 kn_169 dX12_nearing_75 hw (fun I4 hw => ?_)
        refine wm_aload_n hC 2 dX12_nearing_76 rfl (k_ne0 kk_159 (by decide)) ?_
        refine x_getR3 hC 22 fl_X12_78 rfl kk_159 (rf_159_22 hRF) dX12_nearing_77 ?_
        refine wm_bipush hC dX12_nearing_80 (k := ?_)
        refine wm_aload_n hC 2 dX12_nearing_82 rfl (k_ne0 kk_159 (by decide)) ?_
        refine x_getI hC 32 fl_X12_109 rfl kk_159 dX12_nearing_83 ?_
        refine x_imul hC dX12_nearing_86 hw (fun hw => ?_)
        refine wm_iload_n hC 0 dX12_nearing_87 rfl ?_
        refine x_iadd hC dX12_nearing_88 hw (fun hw => ?_)
        refine wm_dup2_11 hC dX12_nearing_89 (k := ?_)
        refine x_iald2 hC kk_169 kn_169 dX12_nearing_90 hw (fun hw => ?_)
        refine wm_iconst hC dX12_nearing_91 (k := ?_)
        refine wm_iload_n hC 1 dX12_nearing_92 rfl ?_
        refine wm_ishl hC dX12_nearing_93 ?_
        refine wm_ior hC dX12_nearing_94 ?_
        refine x_iast2 hC kk_169 kn_169 dX12_nearing_95 hw (fun I5 hw => ?_)
        exact wm_return hC hE dX12_nearing_96 ⟨rfl, hw⟩
      · exact wm_return hC hE dX12_nearing_55 ⟨rfl, hw⟩
    · exact wm_return hC hE dX12_nearing_23 ⟨rfl, hw⟩
def p12_pushes (l1 : Int) (I : mI) (Q : mI → Prop) : Prop := (((0 : Int) ≤ (I 159 39) ∧ (I 159 39) < (20 : Int)) ∧ wLet (up I 178 (I 159 39) l1) (fun I1 => (((0 : Int) ≤ (I1 159 39) ∧ (I1 159 39) < (20 : Int)) ∧ wLet (up I1 179 (I1 159 39) 0) (fun I2 => (((0 : Int) ≤ (I2 159 39) ∧ (I2 159 39) < (20 : Int)) ∧ wLet (up I2 180 (I2 159 39) 1) (fun I3 => (((0 : Int) ≤ (I3 159 39) ∧ (I3 159 39) < (20 : Int)) ∧ wLet (up I3 182 (I3 159 39) (I3 159 42)) (fun I4 => (rg ((I4 159 39) + 1) ∧ (wLet (up I4 159 39 ((I4 159 39) + 1)) (fun I5 => (Q I5))))))))))))
set_option maxRecDepth 20000 in
theorem c12_pushes {ad : Nat → Nat} {n : Nat} {I J : mI} {R : mR} {Q : mI → Prop}  (hRF : RF R) {l1 : Int}   (hw : p12_pushes l1 I Q) : wMet yX12_pushes cX12_pushes 2 none 1 12 false ad n I J R [vr 159, vi l1] (fun _ I' J' R' => (J' = J ∧ R' = R) ∧ Q I') := by
  refine wMet_of (by decide) (Nat.le_of_ble_eq_true rfl) (fun C hC hRm hE hS => ?_)
  refine (show WM C ad n I J R 0 0 0 [(0, vr 159), (1, vi l1)] [] from ?_)
  unfold p12_pushes at hw
  refine wm_aload_n hC 0 dX12_pushes_0 rfl (k_ne0 kk_159 (by decide)) ?_
  refine x_getR3 hC 34 fl_X12_115 rfl kk_159 (rf_159_34 hRF) dX12_pushes_1 ?_
  refine wm_aload_n hC 0 dX12_pushes_4 rfl (k_ne0 kk_159 (by decide)) ?_
  refine x_getI hC 39 fl_X12_131 rfl kk_159 dX12_pushes_5 ?_
  refine wm_iload_n hC 1 dX12_pushes_8 rfl ?_
  refine x_iast2 hC kk_178 kn_178 dX12_pushes_9 hw (fun I1 hw => ?_)
  refine wm_aload_n hC 0 dX12_pushes_10 rfl (k_ne0 kk_159 (by decide)) ?_
  refine x_getR3 hC 35 fl_X12_118 rfl kk_159 (rf_159_35 hRF) dX12_pushes_11 ?_
  refine wm_aload_n hC 0 dX12_pushes_14 rfl (k_ne0 kk_159 (by decide)) ?_
  refine x_getI hC 39 fl_X12_131 rfl kk_159 dX12_pushes_15 ?_
  refine wm_iconst hC dX12_pushes_18 (k := ?_)
  refine x_iast2 hC kk_179 kn_179 dX12_pushes_19 hw (fun I2 hw => ?_)
  refine wm_aload_n hC 0 dX12_pushes_20 rfl (k_ne0 kk_159 (by decide)) ?_
  refine x_getR3 hC 36 fl_X12_121 rfl kk_159 (rf_159_36 hRF) dX12_pushes_21 ?_
  refine wm_aload_n hC 0 dX12_pushes_24 rfl (k_ne0 kk_159 (by decide)) ?_
  refine x_getI hC 39 fl_X12_131 rfl kk_159 dX12_pushes_25 ?_
  refine wm_iconst hC dX12_pushes_28 (k := ?_)
  refine x_zast2 hC kk_180 kn_180 (Or.inr rfl) dX12_pushes_29 hw (fun I3 hw => ?_)
  refine wm_aload_n hC 0 dX12_pushes_30 rfl (k_ne0 kk_159 (by decide)) ?_
  refine x_getR3 hC 38 fl_X12_128 rfl kk_159 (rf_159_38 hRF) dX12_pushes_31 ?_
  refine wm_aload_n hC 0 dX12_pushes_34 rfl (k_ne0 kk_159 (by decide)) ?_
  refine x_getI hC 39 fl_X12_131 rfl kk_159 dX12_pushes_35 ?_
  refine wm_aload_n hC 0 dX12_pushes_38 rfl (k_ne0 kk_159 (by decide)) ?_
  refine x_getI hC 42 fl_X12_140 rfl kk_159 dX12_pushes_39 ?_
  refine x_iast2 hC kk_182 kn_182 dX12_pushes_42 hw (fun I4 hw => ?_)
  refine wm_aload_n hC 0 dX12_pushes_43 rfl (k_ne0 kk_159 (by decide)) ?_
  refine wm_dup hC dX12_pushes_44 (k := ?_)
  refine x_getI hC 39 fl_X12_131 rfl kk_159 dX12_pushes_45 ?_
  refine wm_iconst hC dX12_pushes_48 (k := ?_)
  refine x_iadd hC dX12_pushes_49 hw (fun hw => ?_)
  refine x_putI hC 39 fl_X12_131 rfl kk_159 dX12_pushes_50 hw (fun I5 hw => ?_)
  exact wm_return hC hE dX12_pushes_53 ⟨⟨rfl, rfl⟩, hw⟩
def p12_opens_b18 (l1 : Int) (I : mI) (J : mI) (Q : mI → mI → Prop) : Prop := (if (I 159 8) ≤ 0 then (rg ((I 159 40) + 1) ∧ (wLet (up I 159 40 ((I 159 40) + 1)) (fun I2 => (p12_ahead I2 J (fun I3 J1 => (p12_pushes l1 I3 (fun I4 => (Q I4 J1)))))))) else (Q I J))
set_option maxRecDepth 20000 in
theorem w12_opens_b18 {C : wX} {ad : Nat → Nat} {n : Nat} {I J : mI} {R : mR} {Q : mI → mI → Prop} (hC : wOK C cX12_opens 2 RX12) (hRm : wRm C 3 57 0 0) (hE : wEnd C none ad n (fun _ I' J' R' => (R' = R) ∧ Q I' J')) (hRF : RF R) {l1 : Int}     (hw : p12_opens_b18 l1 I J Q) : WM C ad n I J R 0 0 18 [(0, vr 159), (1, vi l1)] [] := by
  unfold p12_opens_b18 at hw
  refine wm_aload_n hC 0 dX12_opens_18 rfl (k_ne0 kk_159 (by decide)) ?_
  refine x_getI hC 8 fl_X12_36 rfl kk_159 dX12_opens_19 ?_
  refine wm_if_le (tgt := 26) hC dX12_opens_22 (by decide) hw (fun hw => ?_) (fun hw => ?_)
  · refine wm_aload_n hC 0 dX12_opens_26 rfl (k_ne0 kk_159 (by decide)) ?_
    refine wm_dup hC dX12_opens_27 (k := ?_)
    refine x_getI hC 40 fl_X12_134 rfl kk_159 dX12_opens_28 ?_
    refine wm_iconst hC dX12_opens_31 (k := ?_)
    refine x_iadd hC dX12_opens_32 hw (fun hw => ?_)
    refine x_putI hC 40 fl_X12_134 rfl kk_159 dX12_opens_33 hw (fun I2 hw => ?_)
    refine wm_aload_n hC 0 dX12_opens_36 rfl (k_ne0 kk_159 (by decide)) ?_
    refine y_callV_v_IJ hC hRm noS ml_X12_247 kk_159 (c12_ahead hRF  hw) (Nat.le_of_ble_eq_true rfl) (Nat.le_of_ble_eq_true rfl) ⟨Nat.zero_le _, Nat.zero_le _⟩ rfl (st := []) rfl (Nat.le_of_ble_eq_true rfl) dX12_opens_37 (fun I3 J1 hw => ?_)
    refine wm_aload_n hC 0 dX12_opens_40 rfl (k_ne0 kk_159 (by decide)) ?_
    refine wm_iload_n hC 1 dX12_opens_41 rfl ?_
    refine y_callV_v_I hC hRm noS ml_X12_319 kk_159 (c12_pushes hRF  hw) (Nat.le_of_ble_eq_true rfl) (Nat.le_of_ble_eq_true rfl) ⟨Nat.zero_le _, Nat.zero_le _⟩ rfl (st := []) rfl (Nat.le_of_ble_eq_true rfl) dX12_opens_42 (fun I4 hw => ?_)
    exact wm_return hC hE dX12_opens_45 ⟨rfl, hw⟩
  · exact wm_return hC hE dX12_opens_25 ⟨rfl, hw⟩
def p12_opens (l1 : Int) (I : mI) (J : mI) (Q : mI → mI → Prop) : Prop := (if (I 159 40) = 7 then (p12_blame 5 (I 159 4) I (fun I1 => (p12_opens_b18 l1 I1 J Q))) else (p12_opens_b18 l1 I J Q))
set_option maxRecDepth 20000 in
theorem c12_opens {ad : Nat → Nat} {n : Nat} {I J : mI} {R : mR} {Q : mI → mI → Prop}  (hRF : RF R) {l1 : Int}   (hw : p12_opens l1 I J Q) : wMet yX12_opens cX12_opens 2 none 3 57 false ad n I J R [vr 159, vi l1] (fun _ I' J' R' => (R' = R) ∧ Q I' J') := by
  refine wMet_of (by decide) (Nat.le_of_ble_eq_true rfl) (fun C hC hRm hE hS => ?_)
  refine (show WM C ad n I J R 0 0 0 [(0, vr 159), (1, vi l1)] [] from ?_)
  unfold p12_opens at hw
  refine wm_aload_n hC 0 dX12_opens_0 rfl (k_ne0 kk_159 (by decide)) ?_
  refine x_getI hC 40 fl_X12_134 rfl kk_159 dX12_opens_1 ?_
  refine wm_bipush hC dX12_opens_4 (k := ?_)
  refine wm_icmp_ne (tgt := 18) hC dX12_opens_6 (by decide) hw (fun hw => ?_) (fun hw => ?_)
  · refine wm_aload_n hC 0 dX12_opens_9 rfl (k_ne0 kk_159 (by decide)) ?_
    refine wm_iconst hC dX12_opens_10 (k := ?_)
    refine wm_aload_n hC 0 dX12_opens_11 rfl (k_ne0 kk_159 (by decide)) ?_
    refine x_getI hC 4 fl_X12_23 rfl kk_159 dX12_opens_12 ?_
    refine y_callV_v_I hC hRm noS ml_X12_230 kk_159 (c12_blame hRF  hw) (Nat.le_of_ble_eq_true rfl) (Nat.le_of_ble_eq_true rfl) ⟨Nat.zero_le _, Nat.zero_le _⟩ rfl (st := []) rfl (Nat.le_of_ble_eq_true rfl) dX12_opens_15 (fun I1 hw => ?_)
    exact w12_opens_b18 hC hRm hE hRF  hw
  · exact w12_opens_b18 hC hRm hE hRF  hw
def p12_operand_b79 (I : mI) (J : mI) (Q : Int → mI → mI → Prop) : Prop := (if (I 159 8) ≤ 0 then (rg ((I 159 40) + 1) ∧ (wLet (up I 159 40 ((I 159 40) + 1)) (fun I3 => (p12_holdsBack 43 I3 (fun I4 => (p12_ahead I4 J (fun I5 J1 => (Q 0 I5 J1)))))))) else (Q 1 I J))
set_option maxRecDepth 20000 in
theorem w12_operand_b79 {C : wX} {ad : Nat → Nat} {n : Nat} {I J : mI} {R : mR} {Q : Int → mI → mI → Prop} (hC : wOK C cX12_operand 4 RX12) (hRm : wRm C 4 78 0 0) (hE : wEnd C (some .boolean) ad n (fun r I' J' R' => (R' = R) ∧ Q r I' J')) (hRF : RF R)      (hw : p12_operand_b79 I J Q) : WM C ad n I J R 0 0 79 [(0, vr 159)] [] := by
  unfold p12_operand_b79 at hw
  refine wm_aload_n hC 0 dX12_operand_79 rfl (k_ne0 kk_159 (by decide)) ?_
  refine x_getI hC 8 fl_X12_36 rfl kk_159 dX12_operand_80 ?_
  refine wm_if_le (tgt := 88) hC dX12_operand_83 (by decide) hw (fun hw => ?_) (fun hw => ?_)
  · refine wm_aload_n hC 0 dX12_operand_88 rfl (k_ne0 kk_159 (by decide)) ?_
    refine wm_dup hC dX12_operand_89 (k := ?_)
    refine x_getI hC 40 fl_X12_134 rfl kk_159 dX12_operand_90 ?_
    refine wm_iconst hC dX12_operand_93 (k := ?_)
    refine x_iadd hC dX12_operand_94 hw (fun hw => ?_)
    refine x_putI hC 40 fl_X12_134 rfl kk_159 dX12_operand_95 hw (fun I3 hw => ?_)
    refine wm_aload_n hC 0 dX12_operand_98 rfl (k_ne0 kk_159 (by decide)) ?_
    refine wm_bipush hC dX12_operand_99 (k := ?_)
    refine y_callV_v_I hC hRm noS ml_X12_329 kk_159 (c12_holdsBack hRF  hw) (Nat.le_of_ble_eq_true rfl) (Nat.le_of_ble_eq_true rfl) ⟨Nat.zero_le _, Nat.zero_le _⟩ rfl (st := []) rfl (Nat.le_of_ble_eq_true rfl) dX12_operand_101 (fun I4 hw => ?_)
    refine wm_aload_n hC 0 dX12_operand_104 rfl (k_ne0 kk_159 (by decide)) ?_
    refine y_callV_v_IJ hC hRm noS ml_X12_247 kk_159 (c12_ahead hRF  hw) (Nat.le_of_ble_eq_true rfl) (Nat.le_of_ble_eq_true rfl) ⟨Nat.zero_le _, Nat.zero_le _⟩ rfl (st := []) rfl (Nat.le_of_ble_eq_true rfl) dX12_operand_105 (fun I5 J1 hw => ?_)
    refine wm_iconst hC dX12_operand_108 (k := ?_)
    exact wm_zreturn hC hE (Or.inl rfl) dX12_operand_109 ⟨rfl, hw⟩
  · refine wm_iconst hC dX12_operand_86 (k := ?_)
    exact wm_zreturn hC hE (Or.inr rfl) dX12_operand_87 ⟨rfl, hw⟩
def p12_operand_b289 (l3 : Int) (s1 : Int) (I : mI) (J : mI) (Q : Int → mI → mI → Prop) : Prop := (p12_opens s1 I J (fun I15 J6 => (if (I15 159 8) = 0 then (rg ((I15 159 39) - 1) ∧ (((0 : Int) ≤ ((I15 159 39) - 1) ∧ ((I15 159 39) - 1) < (20 : Int)) ∧ wLet (up I15 181 ((I15 159 39) - 1) l3) (fun I16 => (Q 0 I16 J6)))) else (Q 0 I15 J6))))
set_option maxRecDepth 20000 in
theorem w12_operand_b289 {C : wX} {ad : Nat → Nat} {n : Nat} {I J : mI} {R : mR} {Q : Int → mI → mI → Prop} (hC : wOK C cX12_operand 4 RX12) (hRm : wRm C 4 78 0 0) (hE : wEnd C (some .boolean) ad n (fun r I' J' R' => (R' = R) ∧ Q r I' J')) (hRF : RF R) {l3 : Int} {s1 : Int}     (hw : p12_operand_b289 l3 s1 I J Q) : WM C ad n I J R 0 0 289 [(0, vr 159), (3, vi l3)] [vi s1, vr 159] := by
  unfold p12_operand_b289 at hw
  refine y_callV_v_IJ hC hRm noS ml_X12_332 kk_159 (c12_opens hRF  hw) (Nat.le_of_ble_eq_true rfl) (Nat.le_of_ble_eq_true rfl) ⟨Nat.zero_le _, Nat.zero_le _⟩ rfl (st := []) rfl (Nat.le_of_ble_eq_true rfl) dX12_operand_289 (fun I15 J6 hw => ?_)
  refine wm_aload_n hC 0 dX12_operand_292 rfl (k_ne0 kk_159 (by decide)) ?_
  refine x_getI hC 8 fl_X12_36 rfl kk_159 dX12_operand_293 ?_
  refine wm_if_ne (tgt := 311) hC dX12_operand_296 (by decide) hw (fun hw => ?_) (fun hw => ?_)
  · refine wm_aload_n hC 0 dX12_operand_299 rfl (k_ne0 kk_159 (by decide)) ?_
    refine x_getR3 hC 37 fl_X12_125 rfl kk_159 (rf_159_37 hRF) dX12_operand_300 ?_
    refine wm_aload_n hC 0 dX12_operand_303 rfl (k_ne0 kk_159 (by decide)) ?_
    refine x_getI hC 39 fl_X12_131 rfl kk_159 dX12_operand_304 ?_
    refine wm_iconst hC dX12_operand_307 (k := ?_)
    refine x_isub hC dX12_operand_308 hw (fun hw => ?_)
    refine wm_iload_n hC 1 dX12_operand_309 rfl ?_
    refine x_iast2 hC kk_181 kn_181 dX12_operand_310 hw (fun I16 hw => ?_)
    refine wm_iconst hC dX12_operand_311 (k := ?_)
    exact wm_zreturn hC hE (Or.inl rfl) dX12_operand_312 ⟨rfl, hw⟩
  · refine wm_iconst hC dX12_operand_311 (k := ?_)
    exact wm_zreturn hC hE (Or.inl rfl) dX12_operand_312 ⟨rfl, hw⟩
def p12_operand_b276 (l3 : Int) (I : mI) (J : mI) (Q : Int → mI → mI → Prop) : Prop := (if l3 = 44 then (p12_operand_b289 l3 6 I J Q) else (p12_operand_b289 l3 3 I J Q))
set_option maxRecDepth 20000 in
theorem w12_operand_b276 {C : wX} {ad : Nat → Nat} {n : Nat} {I J : mI} {R : mR} {Q : Int → mI → mI → Prop} (hC : wOK C cX12_operand 4 RX12) (hRm : wRm C 4 78 0 0) (hE : wEnd C (some .boolean) ad n (fun r I' J' R' => (R' = R) ∧ Q r I' J')) (hRF : RF R) {l3 : Int}     (hw : p12_operand_b276 l3 I J Q) : WM C ad n I J R 0 0 276 [(0, vr 159), (3, vi l3)] [] := by
  unfold p12_operand_b276 at hw
  refine wm_aload_n hC 0 dX12_operand_276 rfl (k_ne0 kk_159 (by decide)) ?_
  refine wm_iload_n hC 1 dX12_operand_277 rfl ?_
  refine wm_bipush hC dX12_operand_278 (k := ?_)
  refine wm_icmp_ne (tgt := 288) hC dX12_operand_280 (by decide) hw (fun hw => ?_) (fun hw => ?_)
  · refine wm_bipush hC dX12_operand_283 (k := ?_)
    refine wm_goto (tgt := 289) hC dX12_operand_285 (by decide) ?_
    exact w12_operand_b289 hC hRm hE hRF  hw
  · refine wm_iconst hC dX12_operand_288 (k := ?_)
    exact w12_operand_b289 hC hRm hE hRF  hw
def p12_operand_b249 (s0 : Int) (I : mI) (J : mI) (Q : Int → mI → mI → Prop) : Prop := (p12_ahead I J (fun I12 J5 => (p12_lex I12 (fun I13 => (p12_isSign 40 I13 (fun r20 => (if r20 = 0 then (p12_blame 1 (I13 159 4) I13 (fun I14 => (p12_operand_b276 s0 I14 J5 Q))) else (p12_operand_b276 s0 I13 J5 Q))))))))
set_option maxRecDepth 20000 in
theorem w12_operand_b249 {C : wX} {ad : Nat → Nat} {n : Nat} {I J : mI} {R : mR} {Q : Int → mI → mI → Prop} (hC : wOK C cX12_operand 4 RX12) (hRm : wRm C 4 78 0 0) (hE : wEnd C (some .boolean) ad n (fun r I' J' R' => (R' = R) ∧ Q r I' J')) (hRF : RF R) {s0 : Int}     (hw : p12_operand_b249 s0 I J Q) : WM C ad n I J R 0 0 249 [(0, vr 159)] [vi s0] := by
  unfold p12_operand_b249 at hw
  refine wm_istore_n hC dX12_operand_249 (by decide) (L2 := [(3, vi s0), (0, vr 159)]) rfl ?_
  refine wm_aload_n hC 1 dX12_operand_250 rfl (k_ne0 kk_159 (by decide)) ?_
  refine y_callV_v_IJ hC hRm noS ml_X12_247 kk_159 (c12_ahead hRF  hw) (Nat.le_of_ble_eq_true rfl) (Nat.le_of_ble_eq_true rfl) ⟨Nat.zero_le _, Nat.zero_le _⟩ rfl (st := []) rfl (Nat.le_of_ble_eq_true rfl) dX12_operand_251 (fun I12 J5 hw => ?_)
  refine wm_aload_n hC 1 dX12_operand_254 rfl (k_ne0 kk_159 (by decide)) ?_
  refine y_callV_v_I hC hRm noS ml_X12_241 kk_159 (c12_lex hRF  hw) (Nat.le_of_ble_eq_true rfl) (Nat.le_of_ble_eq_true rfl) ⟨Nat.zero_le _, Nat.zero_le _⟩ rfl (st := []) rfl (Nat.le_of_ble_eq_true rfl) dX12_operand_255 (fun I13 hw => ?_)
  refine wm_aload_n hC 1 dX12_operand_258 rfl (k_ne0 kk_159 (by decide)) ?_
  refine wm_bipush hC dX12_operand_259 (k := ?_)
  refine y_callV_z_n hC hRm noS ml_X12_244 kk_159 (c12_isSign hRF  hw) (Nat.le_of_ble_eq_true rfl) (Nat.le_of_ble_eq_true rfl) ⟨Nat.zero_le _, Nat.zero_le _⟩ rfl (st := []) rfl (Nat.le_of_ble_eq_true rfl) dX12_operand_261 (fun r20 hw => ?_)
  refine wm_if_ne (tgt := 276) hC dX12_operand_264 (by decide) hw (fun hw => ?_) (fun hw => ?_)
  · refine wm_aload_n hC 1 dX12_operand_267 rfl (k_ne0 kk_159 (by decide)) ?_
    refine wm_iconst hC dX12_operand_268 (k := ?_)
    refine wm_aload_n hC 1 dX12_operand_269 rfl (k_ne0 kk_159 (by decide)) ?_
    refine x_getI hC 4 fl_X12_23 rfl kk_159 dX12_operand_270 ?_
    refine y_callV_v_I hC hRm noS ml_X12_230 kk_159 (c12_blame hRF  hw) (Nat.le_of_ble_eq_true rfl) (Nat.le_of_ble_eq_true rfl) ⟨Nat.zero_le _, Nat.zero_le _⟩ rfl (st := []) rfl (Nat.le_of_ble_eq_true rfl) dX12_operand_273 (fun I14 hw => ?_)
    refine wm_sub [1, 0] (L2 := [(0, vr 159), (3, vi s0)]) rfl ?_
    exact w12_operand_b276 hC hRm hE hRF  hw
  · refine wm_sub [1, 0] (L2 := [(0, vr 159), (3, vi s0)]) rfl ?_
    exact w12_operand_b276 hC hRm hE hRF  hw
def p12_operand_b217 (I : mI) (J : mI) (Q : Int → mI → mI → Prop) : Prop := (p12_isWord 7170414 I J (fun r18 => (if r18 = 0 then (p12_isWord 7168376 I J (fun r19 => (if r19 = 0 then (p12_operand_b249 44 I J Q) else (p12_operand_b249 37 I J Q)))) else (p12_operand_b249 36 I J Q))))
set_option maxRecDepth 20000 in
theorem w12_operand_b217 {C : wX} {ad : Nat → Nat} {n : Nat} {I J : mI} {R : mR} {Q : Int → mI → mI → Prop} (hC : wOK C cX12_operand 4 RX12) (hRm : wRm C 4 78 0 0) (hE : wEnd C (some .boolean) ad n (fun r I' J' R' => (R' = R) ∧ Q r I' J')) (hRF : RF R)      (hw : p12_operand_b217 I J Q) : WM C ad n I J R 0 0 217 [(0, vr 159)] [] := by
  unfold p12_operand_b217 at hw
  refine wm_aload_n hC 0 dX12_operand_217 rfl (k_ne0 kk_159 (by decide)) ?_
  refine wm_ldc2 hC (x := 7170414) tc_X12_302 rfl dX12_operand_218 (k := ?_)
  refine y_callV_z_n hC hRm noS ml_X12_325 kk_159 (c12_isWord hRF  hw) (Nat.le_of_ble_eq_true rfl) (Nat.le_of_ble_eq_true rfl) ⟨Nat.zero_le _, Nat.zero_le _⟩ rfl (st := []) rfl (Nat.le_of_ble_eq_true rfl) dX12_operand_221 (fun r18 hw => ?_)
  refine wm_if_eq (tgt := 232) hC dX12_operand_224 (by decide) hw (fun hw => ?_) (fun hw => ?_)
  · refine wm_aload_n hC 0 dX12_operand_232 rfl (k_ne0 kk_159 (by decide)) ?_
    refine wm_ldc2 hC (x := 7168376) tc_X12_304 rfl dX12_operand_233 (k := ?_)
    refine y_callV_z_n hC hRm noS ml_X12_325 kk_159 (c12_isWord hRF  hw) (Nat.le_of_ble_eq_true rfl) (Nat.le_of_ble_eq_true rfl) ⟨Nat.zero_le _, Nat.zero_le _⟩ rfl (st := []) rfl (Nat.le_of_ble_eq_true rfl) dX12_operand_236 (fun r19 hw => ?_)
    refine wm_if_eq (tgt := 247) hC dX12_operand_239 (by decide) hw (fun hw => ?_) (fun hw => ?_)
    · refine wm_bipush hC dX12_operand_247 (k := ?_)
      exact w12_operand_b249 hC hRm hE hRF  hw
    · refine wm_bipush hC dX12_operand_242 (k := ?_)
      refine wm_goto (tgt := 249) hC dX12_operand_244 (by decide) ?_
      exact w12_operand_b249 hC hRm hE hRF  hw
  · refine wm_bipush hC dX12_operand_227 (k := ?_)
    refine wm_goto (tgt := 249) hC dX12_operand_229 (by decide) ?_
    exact w12_operand_b249 hC hRm hE hRF  hw
def p12_operand_b525 (l3 : Int) (I : mI) (J : mI) (Q : Int → mI → mI → Prop) : Prop := (if (I 159 8) ≤ 0 then (p12_add l3 (I 159 6) I (fun I18 => (p12_ahead I18 J (fun I19 J7 => (Q 1 I19 J7))))) else (Q 1 I J))
set_option maxRecDepth 20000 in
theorem w12_operand_b525 {C : wX} {ad : Nat → Nat} {n : Nat} {I J : mI} {R : mR} {Q : Int → mI → mI → Prop} (hC : wOK C cX12_operand 4 RX12) (hRm : wRm C 4 78 0 0) (hE : wEnd C (some .boolean) ad n (fun r I' J' R' => (R' = R) ∧ Q r I' J')) (hRF : RF R) {l3 : Int}     (hw : p12_operand_b525 l3 I J Q) : WM C ad n I J R 0 0 525 [(0, vr 159), (3, vi l3)] [] := by
  unfold p12_operand_b525 at hw
  refine wm_aload_n hC 0 dX12_operand_525 rfl (k_ne0 kk_159 (by decide)) ?_
  refine x_getI hC 8 fl_X12_36 rfl kk_159 dX12_operand_526 ?_
  refine wm_if_le (tgt := 534) hC dX12_operand_529 (by decide) hw (fun hw => ?_) (fun hw => ?_)
  · refine wm_aload_n hC 0 dX12_operand_534 rfl (k_ne0 kk_159 (by decide)) ?_
    refine wm_iload_n hC 1 dX12_operand_535 rfl ?_
    refine wm_aload_n hC 0 dX12_operand_536 rfl (k_ne0 kk_159 (by decide)) ?_
    refine x_getI hC 6 fl_X12_29 rfl kk_159 dX12_operand_537 ?_
    refine y_callV_v_I hC hRm noS ml_X12_316 kk_159 (c12_add hRF  hw) (Nat.le_of_ble_eq_true rfl) (Nat.le_of_ble_eq_true rfl) ⟨Nat.zero_le _, Nat.zero_le _⟩ rfl (st := []) rfl (Nat.le_of_ble_eq_true rfl) dX12_operand_540 (fun I18 hw => ?_)
    refine wm_aload_n hC 0 dX12_operand_543 rfl (k_ne0 kk_159 (by decide)) ?_
    refine y_callV_v_IJ hC hRm noS ml_X12_247 kk_159 (c12_ahead hRF  hw) (Nat.le_of_ble_eq_true rfl) (Nat.le_of_ble_eq_true rfl) ⟨Nat.zero_le _, Nat.zero_le _⟩ rfl (st := []) rfl (Nat.le_of_ble_eq_true rfl) dX12_operand_544 (fun I19 J7 hw => ?_)
    refine wm_iconst hC dX12_operand_547 (k := ?_)
    exact wm_zreturn hC hE (Or.inr rfl) dX12_operand_548 ⟨rfl, hw⟩
  · refine wm_iconst hC dX12_operand_532 (k := ?_)
    exact wm_zreturn hC hE (Or.inr rfl) dX12_operand_533 ⟨rfl, hw⟩
def p12_operand_b511 (l3 : Int) (I : mI) (J : mI) (Q : Int → mI → mI → Prop) : Prop := (if l3 = (-1) then (p12_blame 1 (I 159 4) I (fun I17 => (p12_operand_b525 l3 I17 J Q))) else (p12_operand_b525 l3 I J Q))
set_option maxRecDepth 20000 in
theorem w12_operand_b511 {C : wX} {ad : Nat → Nat} {n : Nat} {I J : mI} {R : mR} {Q : Int → mI → mI → Prop} (hC : wOK C cX12_operand 4 RX12) (hRm : wRm C 4 78 0 0) (hE : wEnd C (some .boolean) ad n (fun r I' J' R' => (R' = R) ∧ Q r I' J')) (hRF : RF R) {l3 : Int}     (hw : p12_operand_b511 l3 I J Q) : WM C ad n I J R 0 0 511 [(0, vr 159), (3, vi l3)] [] := by
  unfold p12_operand_b511 at hw
  refine wm_iload_n hC 1 dX12_operand_511 rfl ?_
  refine wm_iconst hC dX12_operand_512 (k := ?_)
  refine wm_icmp_ne (tgt := 525) hC dX12_operand_513 (by decide) hw (fun hw => ?_) (fun hw => ?_)
  · refine wm_aload_n hC 0 dX12_operand_516 rfl (k_ne0 kk_159 (by decide)) ?_
    refine wm_iconst hC dX12_operand_517 (k := ?_)
    refine wm_aload_n hC 0 dX12_operand_518 rfl (k_ne0 kk_159 (by decide)) ?_
    refine x_getI hC 4 fl_X12_23 rfl kk_159 dX12_operand_519 ?_
    refine y_callV_v_I hC hRm noS ml_X12_230 kk_159 (c12_blame hRF  hw) (Nat.le_of_ble_eq_true rfl) (Nat.le_of_ble_eq_true rfl) ⟨Nat.zero_le _, Nat.zero_le _⟩ rfl (st := []) rfl (Nat.le_of_ble_eq_true rfl) dX12_operand_522 (fun I17 hw => ?_)
    exact w12_operand_b525 hC hRm hE hRF  hw
  · exact w12_operand_b525 hC hRm hE hRF  hw
def p12_operand_b491 (l3 : Int) (I : mI) (J : mI) (Q : Int → mI → mI → Prop) : Prop := (if l3 < 4 then (p12_operand_b511 l3 I J Q) else (if (7 : Int) < l3 then (p12_operand_b511 l3 I J Q) else (if (I 159 33) = 0 then (p12_operand_b511 l3 I J Q) else (p12_operand_b511 (-1) I J Q))))
set_option maxRecDepth 20000 in
theorem w12_operand_b491 {C : wX} {ad : Nat → Nat} {n : Nat} {I J : mI} {R : mR} {Q : Int → mI → mI → Prop} (hC : wOK C cX12_operand 4 RX12) (hRm : wRm C 4 78 0 0) (hE : wEnd C (some .boolean) ad n (fun r I' J' R' => (R' = R) ∧ Q r I' J')) (hRF : RF R) {l3 : Int}     (hw : p12_operand_b491 l3 I J Q) : WM C ad n I J R 0 0 491 [(0, vr 159), (3, vi l3)] [] := by
  unfold p12_operand_b491 at hw
  refine wm_iload_n hC 1 dX12_operand_491 rfl ?_
  refine wm_iconst hC dX12_operand_492 (k := ?_)
  refine wm_icmp_lt (tgt := 511) hC dX12_operand_493 (by decide) hw (fun hw => ?_) (fun hw => ?_)
  · exact w12_operand_b511 hC hRm hE hRF  hw
  · refine wm_iload_n hC 1 dX12_operand_496 rfl ?_
    refine wm_bipush hC dX12_operand_497 (k := ?_)
    refine wm_icmp_gt (tgt := 511) hC dX12_operand_499 (by decide) hw (fun hw => ?_) (fun hw => ?_)
    · exact w12_operand_b511 hC hRm hE hRF  hw
    · refine wm_aload_n hC 0 dX12_operand_502 rfl (k_ne0 kk_159 (by decide)) ?_
      refine x_getI hC 33 fl_X12_112 rfl kk_159 dX12_operand_503 ?_
      refine wm_if_eq (tgt := 511) hC dX12_operand_506 (by decide) hw (fun hw => ?_) (fun hw => ?_)
      · exact w12_operand_b511 hC hRm hE hRF  hw
      · refine wm_iconst hC dX12_operand_509 (k := ?_)
        refine wm_istore_n hC dX12_operand_510 (by decide) (L2 := [(3, vi (-1)), (0, vr 159)]) rfl ?_
        refine wm_sub [1, 0] (L2 := [(0, vr 159), (3, vi (-1))]) rfl ?_
        exact w12_operand_b511 hC hRm hE hRF  hw
def p12_operand_b486 (l3 : Int) (s0 : Int) (s1 : Int) (I : mI) (J : mI) (Q : Int → mI → mI → Prop) : Prop := (if s0 = s1 then (p12_operand_b491 l3 I J Q) else (p12_operand_b491 (-1) I J Q))
set_option maxRecDepth 20000 in
theorem w12_operand_b486 {C : wX} {ad : Nat → Nat} {n : Nat} {I J : mI} {R : mR} {Q : Int → mI → mI → Prop} (hC : wOK C cX12_operand 4 RX12) (hRm : wRm C 4 78 0 0) (hE : wEnd C (some .boolean) ad n (fun r I' J' R' => (R' = R) ∧ Q r I' J')) (hRF : RF R) {l3 : Int} {s0 : Int} {s1 : Int}     (hw : p12_operand_b486 l3 s0 s1 I J Q) : WM C ad n I J R 0 0 486 [(0, vr 159), (3, vi l3)] [vi s1, vi s0] := by
  unfold p12_operand_b486 at hw
  refine wm_icmp_eq (tgt := 491) hC dX12_operand_486 (by decide) hw (fun hw => ?_) (fun hw => ?_)
  · exact w12_operand_b491 hC hRm hE hRF  hw
  · refine wm_iconst hC dX12_operand_489 (k := ?_)
    refine wm_istore_n hC dX12_operand_490 (by decide) (L2 := [(3, vi (-1)), (0, vr 159)]) rfl ?_
    refine wm_sub [1, 0] (L2 := [(0, vr 159), (3, vi (-1))]) rfl ?_
    exact w12_operand_b491 hC hRm hE hRF  hw
def p12_operand_b473 (l3 : Int) (s0 : Int) (I : mI) (J : mI) (Q : Int → mI → mI → Prop) : Prop := (if (I 159 33) = 2 then (p12_operand_b486 l3 s0 1 I J Q) else (p12_operand_b486 l3 s0 0 I J Q))
set_option maxRecDepth 20000 in
theorem w12_operand_b473 {C : wX} {ad : Nat → Nat} {n : Nat} {I J : mI} {R : mR} {Q : Int → mI → mI → Prop} (hC : wOK C cX12_operand 4 RX12) (hRm : wRm C 4 78 0 0) (hE : wEnd C (some .boolean) ad n (fun r I' J' R' => (R' = R) ∧ Q r I' J')) (hRF : RF R) {l3 : Int} {s0 : Int}     (hw : p12_operand_b473 l3 s0 I J Q) : WM C ad n I J R 0 0 473 [(0, vr 159), (3, vi l3)] [vi s0] := by
  unfold p12_operand_b473 at hw
  refine wm_aload_n hC 0 dX12_operand_473 rfl (k_ne0 kk_159 (by decide)) ?_
  refine x_getI hC 33 fl_X12_112 rfl kk_159 dX12_operand_474 ?_
  refine wm_iconst hC dX12_operand_477 (k := ?_)
  refine wm_icmp_ne (tgt := 485) hC dX12_operand_478 (by decide) hw (fun hw => ?_) (fun hw => ?_)
  · refine wm_iconst hC dX12_operand_481 (k := ?_)
    refine wm_goto (tgt := 486) hC dX12_operand_482 (by decide) ?_
    exact w12_operand_b486 hC hRm hE hRF  hw
  · refine wm_iconst hC dX12_operand_485 (k := ?_)
    exact w12_operand_b486 hC hRm hE hRF  hw
def p12_operand_b456 (s0 : Int) (I : mI) (J : mI) (Q : Int → mI → mI → Prop) : Prop := (if s0 ≤ 1 then (p12_operand_b491 s0 I J Q) else (if s0 < 8 then (p12_operand_b473 s0 0 I J Q) else (p12_operand_b473 s0 1 I J Q)))
set_option maxRecDepth 20000 in
theorem w12_operand_b456 {C : wX} {ad : Nat → Nat} {n : Nat} {I J : mI} {R : mR} {Q : Int → mI → mI → Prop} (hC : wOK C cX12_operand 4 RX12) (hRm : wRm C 4 78 0 0) (hE : wEnd C (some .boolean) ad n (fun r I' J' R' => (R' = R) ∧ Q r I' J')) (hRF : RF R) {s0 : Int}     (hw : p12_operand_b456 s0 I J Q) : WM C ad n I J R 0 0 456 [(0, vr 159)] [vi s0] := by
  unfold p12_operand_b456 at hw
  refine wm_istore_n hC dX12_operand_456 (by decide) (L2 := [(3, vi s0), (0, vr 159)]) rfl ?_
  refine wm_iload_n hC 0 dX12_operand_457 rfl ?_
  refine wm_iconst hC dX12_operand_458 (k := ?_)
  refine wm_icmp_le (tgt := 491) hC dX12_operand_459 (by decide) hw (fun hw => ?_) (fun hw => ?_)
  · refine wm_sub [1, 0] (L2 := [(0, vr 159), (3, vi s0)]) rfl ?_
    exact w12_operand_b491 hC hRm hE hRF  hw
  · refine wm_iload_n hC 0 dX12_operand_462 rfl ?_
    refine wm_bipush hC dX12_operand_463 (k := ?_)
    refine wm_icmp_lt (tgt := 472) hC dX12_operand_465 (by decide) hw (fun hw => ?_) (fun hw => ?_)
    · refine wm_iconst hC dX12_operand_472 (k := ?_)
      refine wm_sub [1, 0] (L2 := [(0, vr 159), (3, vi s0)]) rfl ?_
      exact w12_operand_b473 hC hRm hE hRF  hw
    · refine wm_iconst hC dX12_operand_468 (k := ?_)
      refine wm_goto (tgt := 473) hC dX12_operand_469 (by decide) ?_
      refine wm_sub [1, 0] (L2 := [(0, vr 159), (3, vi s0)]) rfl ?_
      exact w12_operand_b473 hC hRm hE hRF  hw
def p12_operand_b171 (I : mI) (J : mI) (Q : Int → mI → mI → Prop) : Prop := (p12_isSign 40 I (fun r5 => (if r5 = 0 then (p12_isWord 7170414 I J (fun r6 => (if r6 = 0 then (p12_isWord 7168376 I J (fun r7 => (if r7 = 0 then (p12_isWord 26982 I J (fun r8 => (if r8 = 0 then (if (I 159 3) = 2 then (p12_operand_b456 0 I J Q) else (p12_isWord 2036687218 I J (fun r9 => (if r9 = 0 then (p12_isWord 1836019556 I J (fun r10 => (if r10 = 0 then (p12_isWord 1818326117 I J (fun r11 => (if r11 = 0 then (p12_isWord 469786452840 I J (fun r12 => (if r12 = 0 then (p12_isWord 2003792494 I J (fun r13 => (if r13 = 0 then (p12_isWord 448377483876 I J (fun r14 => (if r14 = 0 then (p12_isWord 1668248436 I J (fun r15 => (if r15 = 0 then (p12_isWord 483006772069 I J (fun r16 => (if r16 = 0 then (p12_isWord 1650553445 I J (fun r17 => (if r17 = 0 then (p12_operand_b456 (-1) I J Q) else (p12_operand_b456 9 I J Q)))) else (p12_operand_b456 8 I J Q)))) else (p12_operand_b456 7 I J Q)))) else (p12_operand_b456 6 I J Q)))) else (p12_operand_b456 5 I J Q)))) else (p12_operand_b456 4 I J Q)))) else (p12_operand_b456 3 I J Q)))) else (p12_operand_b456 2 I J Q)))) else (p12_operand_b456 1 I J Q))))) else (p12_operand_b217 I J Q)))) else (p12_operand_b217 I J Q)))) else (p12_operand_b217 I J Q)))) else (p12_opens 2 I J (fun I11 J4 => (Q 0 I11 J4))))))
set_option maxRecDepth 20000 in
theorem w12_operand_b171 {C : wX} {ad : Nat → Nat} {n : Nat} {I J : mI} {R : mR} {Q : Int → mI → mI → Prop} (hC : wOK C cX12_operand 4 RX12) (hRm : wRm C 4 78 0 0) (hE : wEnd C (some .boolean) ad n (fun r I' J' R' => (R' = R) ∧ Q r I' J')) (hRF : RF R)      (hw : p12_operand_b171 I J Q) : WM C ad n I J R 0 0 171 [(0, vr 159)] [] := by
  unfold p12_operand_b171 at hw
  refine wm_aload_n hC 0 dX12_operand_171 rfl (k_ne0 kk_159 (by decide)) ?_
  refine wm_bipush hC dX12_operand_172 (k := ?_)
  refine y_callV_z_n hC hRm noS ml_X12_244 kk_159 (c12_isSign hRF  hw) (Nat.le_of_ble_eq_true rfl) (Nat.le_of_ble_eq_true rfl) ⟨Nat.zero_le _, Nat.zero_le _⟩ rfl (st := []) rfl (Nat.le_of_ble_eq_true rfl) dX12_operand_174 (fun r5 hw => ?_)
  refine wm_if_eq (tgt := 187) hC dX12_operand_177 (by decide) hw (fun hw => ?_) (fun hw => ?_)
  · refine wm_aload_n hC 0 dX12_operand_187 rfl (k_ne0 kk_159 (by decide)) ?_
    refine wm_ldc2 hC (x := 7170414) tc_X12_302 rfl dX12_operand_188 (k := ?_)
    refine y_callV_z_n hC hRm noS ml_X12_325 kk_159 (c12_isWord hRF  hw) (Nat.le_of_ble_eq_true rfl) (Nat.le_of_ble_eq_true rfl) ⟨Nat.zero_le _, Nat.zero_le _⟩ rfl (st := []) rfl (Nat.le_of_ble_eq_true rfl) dX12_operand_191 (fun r6 hw => ?_)
    refine wm_if_ne (tgt := 217) hC dX12_operand_194 (by decide) hw (fun hw => ?_) (fun hw => ?_)
    · refine wm_aload_n hC 0 dX12_operand_197 rfl (k_ne0 kk_159 (by decide)) ?_
      refine wm_ldc2 hC (x := 7168376) tc_X12_304 rfl dX12_operand_198 (k := ?_)
      refine y_callV_z_n hC hRm noS ml_X12_325 kk_159 (c12_isWord hRF  hw) (Nat.le_of_ble_eq_true rfl) (Nat.le_of_ble_eq_true rfl) ⟨Nat.zero_le _, Nat.zero_le _⟩ rfl (st := []) rfl (Nat.le_of_ble_eq_true rfl) dX12_operand_201 (fun r7 hw => ?_)
      refine wm_if_ne (tgt := 217) hC dX12_operand_204 (by decide) hw (fun hw => ?_) (fun hw => ?_)
      · refine wm_aload_n hC 0 dX12_operand_207 rfl (k_ne0 kk_159 (by decide)) ?_
        refine wm_ldc2 hC (x := 26982) tc_X12_292 rfl dX12_operand_208 (k := ?_)
        refine y_callV_z_n hC hRm noS ml_X12_325 kk_159 (c12_isWord hRF  hw) (Nat.le_of_ble_eq_true rfl) (Nat.le_of_ble_eq_true rfl) ⟨Nat.zero_le _, Nat.zero_le _⟩ rfl (st := []) rfl (Nat.le_of_ble_eq_true rfl) dX12_operand_211 (fun r8 hw => ?_)
        refine wm_if_eq (tgt := 313) hC dX12_operand_214 (by decide) hw (fun hw => ?_) (fun hw => ?_)
        · refine wm_aload_n hC 0 dX12_operand_313 rfl (k_ne0 kk_159 (by decide)) ?_
          refine x_getI hC 3 fl_X12_20 rfl kk_159 dX12_operand_314 ?_
          refine wm_iconst hC dX12_operand_317 (k := ?_)
          refine wm_icmp_ne (tgt := 325) hC dX12_operand_318 (by decide) hw (fun hw => ?_) (fun hw => ?_)
          · refine wm_iconst hC dX12_operand_321 (k := ?_)
            refine wm_goto (tgt := 456) hC dX12_operand_322 (by decide) ?_
            exact w12_operand_b456 hC hRm hE hRF  hw
          · refine wm_aload_n hC 0 dX12_operand_325 rfl (k_ne0 kk_159 (by decide)) ?_
            refine wm_ldc2 hC (x := 2036687218) tc_X12_280 rfl dX12_operand_326 (k := ?_)
            refine y_callV_z_n hC hRm noS ml_X12_325 kk_159 (c12_isWord hRF  hw) (Nat.le_of_ble_eq_true rfl) (Nat.le_of_ble_eq_true rfl) ⟨Nat.zero_le _, Nat.zero_le _⟩ rfl (st := []) rfl (Nat.le_of_ble_eq_true rfl) dX12_operand_329 (fun r9 hw => ?_)
            refine wm_if_eq (tgt := 339) hC dX12_operand_332 (by decide) hw (fun hw => ?_) (fun hw => ?_)
            · refine wm_aload_n hC 0 dX12_operand_339 rfl (k_ne0 kk_159 (by decide)) ?_
              refine wm_ldc2 hC (x := 1836019556) tc_X12_282 rfl dX12_operand_340 (k := ?_)
              refine y_callV_z_n hC hRm noS ml_X12_325 kk_159 (c12_isWord hRF  hw) (Nat.le_of_ble_eq_true rfl) (Nat.le_of_ble_eq_true rfl) ⟨Nat.zero_le _, Nat.zero_le _⟩ rfl (st := []) rfl (Nat.le_of_ble_eq_true rfl) dX12_operand_343 (fun r10 hw => ?_)
              refine wm_if_eq (tgt := 353) hC dX12_operand_346 (by decide) hw (fun hw => ?_) (fun hw => ?_)
              · refine wm_aload_n hC 0 dX12_operand_353 rfl (k_ne0 kk_159 (by decide)) ?_
                refine wm_ldc2 hC (x := 1818326117) tc_X12_264 rfl dX12_operand_354 (k := ?_)
                refine y_callV_z_n hC hRm noS ml_X12_325 kk_159 (c12_isWord hRF  hw) (Nat.le_of_ble_eq_true rfl) (Nat.le_of_ble_eq_true rfl) ⟨Nat.zero_le _, Nat.zero_le _⟩ rfl (st := []) rfl (Nat.le_of_ble_eq_true rfl) dX12_operand_357 (fun r11 hw => ?_)
                refine wm_if_eq (tgt := 367) hC dX12_operand_360 (by decide) hw (fun hw => ?_) (fun hw => ?_)
                · refine wm_aload_n hC 0 dX12_operand_367 rfl (k_ne0 kk_159 (by decide)) ?_
                  refine wm_ldc2 hC (x := 469786452840) tc_X12_284 rfl dX12_operand_368 (k := ?_)
                  refine y_callV_z_n hC hRm noS ml_X12_325 kk_159 (c12_isWord hRF  hw) (Nat.le_of_ble_eq_true rfl) (Nat.le_of_ble_eq_true rfl) ⟨Nat.zero_le _, Nat.zero_le _⟩ rfl (st := []) rfl (Nat.le_of_ble_eq_true rfl) dX12_operand_371 (fun r12 hw => ?_)
                  refine wm_if_eq (tgt := 381) hC dX12_operand_374 (by decide) hw (fun hw => ?_) (fun hw => ?_)
                  · refine wm_aload_n hC 0 dX12_operand_381 rfl (k_ne0 kk_159 (by decide)) ?_
                    refine wm_ldc2 hC (x := 2003792494) tc_X12_286 rfl dX12_operand_382 (k := ?_)
                    refine y_callV_z_n hC hRm noS ml_X12_325 kk_159 (c12_isWord hRF  hw) (Nat.le_of_ble_eq_true rfl) (Nat.le_of_ble_eq_true rfl) ⟨Nat.zero_le _, Nat.zero_le _⟩ rfl (st := []) rfl (Nat.le_of_ble_eq_true rfl) dX12_operand_385 (fun r13 hw => ?_)
                    refine wm_if_eq (tgt := 395) hC dX12_operand_388 (by decide) hw (fun hw => ?_) (fun hw => ?_)
                    · refine wm_aload_n hC 0 dX12_operand_395 rfl (k_ne0 kk_159 (by decide)) ?_
                      refine wm_ldc2 hC (x := 448377483876) tc_X12_288 rfl dX12_operand_396 (k := ?_)
                      refine y_callV_z_n hC hRm noS ml_X12_325 kk_159 (c12_isWord hRF  hw) (Nat.le_of_ble_eq_true rfl) (Nat.le_of_ble_eq_true rfl) ⟨Nat.zero_le _, Nat.zero_le _⟩ rfl (st := []) rfl (Nat.le_of_ble_eq_true rfl) dX12_operand_399 (fun r14 hw => ?_)
                      refine wm_if_eq (tgt := 410) hC dX12_operand_402 (by decide) hw (fun hw => ?_) (fun hw => ?_)
                      · refine wm_aload_n hC 0 dX12_operand_410 rfl (k_ne0 kk_159 (by decide)) ?_
                        refine wm_ldc2 hC (x := 1668248436) tc_X12_260 rfl dX12_operand_411 (k := ?_)
                        refine y_callV_z_n hC hRm noS ml_X12_325 kk_159 (c12_isWord hRF  hw) (Nat.le_of_ble_eq_true rfl) (Nat.le_of_ble_eq_true rfl) ⟨Nat.zero_le _, Nat.zero_le _⟩ rfl (st := []) rfl (Nat.le_of_ble_eq_true rfl) dX12_operand_414 (fun r15 hw => ?_)
                        refine wm_if_eq (tgt := 425) hC dX12_operand_417 (by decide) hw (fun hw => ?_) (fun hw => ?_)
                        · refine wm_aload_n hC 0 dX12_operand_425 rfl (k_ne0 kk_159 (by decide)) ?_
                          refine wm_ldc2 hC (x := 483006772069) tc_X12_270 rfl dX12_operand_426 (k := ?_)
                          refine y_callV_z_n hC hRm noS ml_X12_325 kk_159 (c12_isWord hRF  hw) (Nat.le_of_ble_eq_true rfl) (Nat.le_of_ble_eq_true rfl) ⟨Nat.zero_le _, Nat.zero_le _⟩ rfl (st := []) rfl (Nat.le_of_ble_eq_true rfl) dX12_operand_429 (fun r16 hw => ?_)
                          refine wm_if_eq (tgt := 440) hC dX12_operand_432 (by decide) hw (fun hw => ?_) (fun hw => ?_)
                          · refine wm_aload_n hC 0 dX12_operand_440 rfl (k_ne0 kk_159 (by decide)) ?_
                            refine wm_ldc2 hC (x := 1650553445) tc_X12_290 rfl dX12_operand_441 (k := ?_)
                            refine y_callV_z_n hC hRm noS ml_X12_325 kk_159 (c12_isWord hRF  hw) (Nat.le_of_ble_eq_true rfl) (Nat.le_of_ble_eq_true rfl) ⟨Nat.zero_le _, Nat.zero_le _⟩ rfl (st := []) rfl (Nat.le_of_ble_eq_true rfl) dX12_operand_444 (fun r17 hw => ?_)
                            refine wm_if_eq (tgt := 455) hC dX12_operand_447 (by decide) hw (fun hw => ?_) (fun hw => ?_)
                            · refine wm_iconst hC dX12_operand_455 (k := ?_)
                              exact w12_operand_b456 hC hRm hE hRF  hw
                            · refine wm_bipush hC dX12_operand_450 (k := ?_)
                              refine wm_goto (tgt := 456) hC dX12_operand_452 (by decide) ?_
                              exact w12_operand_b456 hC hRm hE hRF  hw
                          · refine wm_bipush hC dX12_operand_435 (k := ?_)
                            refine wm_goto (tgt := 456) hC dX12_operand_437 (by decide) ?_
                            exact w12_operand_b456 hC hRm hE hRF  hw
                        · refine wm_bipush hC dX12_operand_420 (k := ?_)
                          refine wm_goto (tgt := 456) hC dX12_operand_422 (by decide) ?_
                          exact w12_operand_b456 hC hRm hE hRF  hw
                      · refine wm_bipush hC dX12_operand_405 (k := ?_)
                        refine wm_goto (tgt := 456) hC dX12_operand_407 (by decide) ?_
                        exact w12_operand_b456 hC hRm hE hRF  hw
                    · refine wm_iconst hC dX12_operand_391 (k := ?_)
                      refine wm_goto (tgt := 456) hC dX12_operand_392 (by decide) ?_
                      exact w12_operand_b456 hC hRm hE hRF  hw
                  · refine wm_iconst hC dX12_operand_377 (k := ?_)
                    refine wm_goto (tgt := 456) hC dX12_operand_378 (by decide) ?_
                    exact w12_operand_b456 hC hRm hE hRF  hw
                · refine wm_iconst hC dX12_operand_363 (k := ?_)
                  refine wm_goto (tgt := 456) hC dX12_operand_364 (by decide) ?_
                  exact w12_operand_b456 hC hRm hE hRF  hw
              · refine wm_iconst hC dX12_operand_349 (k := ?_)
                refine wm_goto (tgt := 456) hC dX12_operand_350 (by decide) ?_
                exact w12_operand_b456 hC hRm hE hRF  hw
            · refine wm_iconst hC dX12_operand_335 (k := ?_)
              refine wm_goto (tgt := 456) hC dX12_operand_336 (by decide) ?_
              exact w12_operand_b456 hC hRm hE hRF  hw
        · exact w12_operand_b217 hC hRm hE hRF  hw
      · exact w12_operand_b217 hC hRm hE hRF  hw
    · exact w12_operand_b217 hC hRm hE hRF  hw
  · refine wm_aload_n hC 0 dX12_operand_180 rfl (k_ne0 kk_159 (by decide)) ?_
    refine wm_iconst hC dX12_operand_181 (k := ?_)
    refine y_callV_v_IJ hC hRm noS ml_X12_332 kk_159 (c12_opens hRF  hw) (Nat.le_of_ble_eq_true rfl) (Nat.le_of_ble_eq_true rfl) ⟨Nat.zero_le _, Nat.zero_le _⟩ rfl (st := []) rfl (Nat.le_of_ble_eq_true rfl) dX12_operand_182 (fun I11 J4 hw => ?_)
    refine wm_iconst hC dX12_operand_185 (k := ?_)
    exact wm_zreturn hC hE (Or.inl rfl) dX12_operand_186 ⟨rfl, hw⟩
def p12_operand_b137 (l1 : Int) (l2 : Int) (I : mI) (J : mI) (Q : Int → mI → mI → Prop) : Prop := (if l2 = 0 then (p12_operand_b171 I J Q) else (p12_isWord 6384748 I J (fun r4 => (if r4 = 0 then (p12_operand_b171 I J Q) else (p12_add 30 0 I (fun I8 => (((0 : Int) ≤ l1 ∧ l1 < (20 : Int)) ∧ wLet (up I8 179 l1 2) (fun I9 => (p12_ahead I9 J (fun I10 J3 => (Q 1 I10 J3)))))))))))
set_option maxRecDepth 20000 in
theorem w12_operand_b137 {C : wX} {ad : Nat → Nat} {n : Nat} {I J : mI} {R : mR} {Q : Int → mI → mI → Prop} (hC : wOK C cX12_operand 4 RX12) (hRm : wRm C 4 78 0 0) (hE : wEnd C (some .boolean) ad n (fun r I' J' R' => (R' = R) ∧ Q r I' J')) (hRF : RF R) {l1 : Int} {l2 : Int}     (hw : p12_operand_b137 l1 l2 I J Q) : WM C ad n I J R 0 0 137 [(0, vr 159), (1, vi l1), (2, vi l2)] [] := by
  unfold p12_operand_b137 at hw
  refine wm_iload_n hC 2 dX12_operand_137 rfl ?_
  refine wm_if_eq (tgt := 171) hC dX12_operand_138 (by decide) hw (fun hw => ?_) (fun hw => ?_)
  · refine wm_sub [0] (L2 := [(0, vr 159)]) rfl ?_
    exact w12_operand_b171 hC hRm hE hRF  hw
  · refine wm_aload_n hC 0 dX12_operand_141 rfl (k_ne0 kk_159 (by decide)) ?_
    refine wm_ldc2 hC (x := 6384748) tc_X12_300 rfl dX12_operand_142 (k := ?_)
    refine y_callV_z_n hC hRm noS ml_X12_325 kk_159 (c12_isWord hRF  hw) (Nat.le_of_ble_eq_true rfl) (Nat.le_of_ble_eq_true rfl) ⟨Nat.zero_le _, Nat.zero_le _⟩ rfl (st := []) rfl (Nat.le_of_ble_eq_true rfl) dX12_operand_145 (fun r4 hw => ?_)
    refine wm_if_eq (tgt := 171) hC dX12_operand_148 (by decide) hw (fun hw => ?_) (fun hw => ?_)
    · refine wm_sub [0] (L2 := [(0, vr 159)]) rfl ?_
      exact w12_operand_b171 hC hRm hE hRF  hw
    · refine wm_aload_n hC 0 dX12_operand_151 rfl (k_ne0 kk_159 (by decide)) ?_
      refine wm_bipush hC dX12_operand_152 (k := ?_)
      refine wm_iconst hC dX12_operand_154 (k := ?_)
      refine y_callV_v_I hC hRm noS ml_X12_316 kk_159 (c12_add hRF  hw) (Nat.le_of_ble_eq_true rfl) (Nat.le_of_ble_eq_true rfl) ⟨Nat.zero_le _, Nat.zero_le _⟩ rfl (st := []) rfl (Nat.le_of_ble_eq_true rfl) dX12_operand_155 (fun I8 hw => ?_)
      refine wm_aload_n hC 0 dX12_operand_158 rfl (k_ne0 kk_159 (by decide)) ?_
      refine x_getR3 hC 35 fl_X12_118 rfl kk_159 (rf_159_35 hRF) dX12_operand_159 ?_
      refine wm_iload_n hC 1 dX12_operand_162 rfl ?_
      refine wm_iconst hC dX12_operand_163 (k := ?_)
      refine x_iast2 hC kk_179 kn_179 dX12_operand_164 hw (fun I9 hw => ?_)
      refine wm_aload_n hC 0 dX12_operand_165 rfl (k_ne0 kk_159 (by decide)) ?_
      refine y_callV_v_IJ hC hRm noS ml_X12_247 kk_159 (c12_ahead hRF  hw) (Nat.le_of_ble_eq_true rfl) (Nat.le_of_ble_eq_true rfl) ⟨Nat.zero_le _, Nat.zero_le _⟩ rfl (st := []) rfl (Nat.le_of_ble_eq_true rfl) dX12_operand_166 (fun I10 J3 hw => ?_)
      refine wm_iconst hC dX12_operand_169 (k := ?_)
      exact wm_zreturn hC hE (Or.inr rfl) dX12_operand_170 ⟨rfl, hw⟩
def p12_operand_b110 (l1 : Int) (l2 : Int) (I : mI) (J : mI) (Q : Int → mI → mI → Prop) : Prop := (((0 : Int) ≤ l1 ∧ l1 < (20 : Int)) ∧ wLet (up I 180 l1 0) (fun I6 => (if l2 = 0 then (p12_operand_b137 l1 l2 I6 J Q) else (p12_isSign 91 I6 (fun r3 => (if r3 = 0 then (p12_operand_b137 l1 l2 I6 J Q) else (p12_opens 5 I6 J (fun I7 J2 => (Q 0 I7 J2)))))))))
set_option maxRecDepth 20000 in
theorem w12_operand_b110 {C : wX} {ad : Nat → Nat} {n : Nat} {I J : mI} {R : mR} {Q : Int → mI → mI → Prop} (hC : wOK C cX12_operand 4 RX12) (hRm : wRm C 4 78 0 0) (hE : wEnd C (some .boolean) ad n (fun r I' J' R' => (R' = R) ∧ Q r I' J')) (hRF : RF R) {l1 : Int} {l2 : Int}     (hw : p12_operand_b110 l1 l2 I J Q) : WM C ad n I J R 0 0 110 [(0, vr 159), (1, vi l1), (2, vi l2)] [] := by
  unfold p12_operand_b110 at hw
  refine wm_aload_n hC 0 dX12_operand_110 rfl (k_ne0 kk_159 (by decide)) ?_
  refine x_getR3 hC 36 fl_X12_121 rfl kk_159 (rf_159_36 hRF) dX12_operand_111 ?_
  refine wm_iload_n hC 1 dX12_operand_114 rfl ?_
  refine wm_iconst hC dX12_operand_115 (k := ?_)
  refine x_zast2 hC kk_180 kn_180 (Or.inl rfl) dX12_operand_116 hw (fun I6 hw => ?_)
  refine wm_iload_n hC 2 dX12_operand_117 rfl ?_
  refine wm_if_eq (tgt := 137) hC dX12_operand_118 (by decide) hw (fun hw => ?_) (fun hw => ?_)
  · exact w12_operand_b137 hC hRm hE hRF  hw
  · refine wm_aload_n hC 0 dX12_operand_121 rfl (k_ne0 kk_159 (by decide)) ?_
    refine wm_bipush hC dX12_operand_122 (k := ?_)
    refine y_callV_z_n hC hRm noS ml_X12_244 kk_159 (c12_isSign hRF  hw) (Nat.le_of_ble_eq_true rfl) (Nat.le_of_ble_eq_true rfl) ⟨Nat.zero_le _, Nat.zero_le _⟩ rfl (st := []) rfl (Nat.le_of_ble_eq_true rfl) dX12_operand_124 (fun r3 hw => ?_)
    refine wm_if_eq (tgt := 137) hC dX12_operand_127 (by decide) hw (fun hw => ?_) (fun hw => ?_)
    · exact w12_operand_b137 hC hRm hE hRF  hw
    · refine wm_aload_n hC 0 dX12_operand_130 rfl (k_ne0 kk_159 (by decide)) ?_
      refine wm_iconst hC dX12_operand_131 (k := ?_)
      refine y_callV_v_IJ hC hRm noS ml_X12_332 kk_159 (c12_opens hRF  hw) (Nat.le_of_ble_eq_true rfl) (Nat.le_of_ble_eq_true rfl) ⟨Nat.zero_le _, Nat.zero_le _⟩ rfl (st := []) rfl (Nat.le_of_ble_eq_true rfl) dX12_operand_132 (fun I7 J2 hw => ?_)
      refine wm_iconst hC dX12_operand_135 (k := ?_)
      exact wm_zreturn hC hE (Or.inl rfl) dX12_operand_136 ⟨rfl, hw⟩
def p12_operand_b46 (l1 : Int) (s0 : Int) (I : mI) (J : mI) (Q : Int → mI → mI → Prop) : Prop := (if s0 = 0 then (p12_operand_b110 l1 s0 I J Q) else (p12_isWord 7237492 I J (fun r2 => (if r2 = 0 then (p12_operand_b110 l1 s0 I J Q) else (if (I 159 40) = 7 then (p12_blame 5 (I 159 4) I (fun I2 => (p12_operand_b79 I2 J Q))) else (p12_operand_b79 I J Q))))))
set_option maxRecDepth 20000 in
theorem w12_operand_b46 {C : wX} {ad : Nat → Nat} {n : Nat} {I J : mI} {R : mR} {Q : Int → mI → mI → Prop} (hC : wOK C cX12_operand 4 RX12) (hRm : wRm C 4 78 0 0) (hE : wEnd C (some .boolean) ad n (fun r I' J' R' => (R' = R) ∧ Q r I' J')) (hRF : RF R) {l1 : Int} {s0 : Int}     (hw : p12_operand_b46 l1 s0 I J Q) : WM C ad n I J R 0 0 46 [(0, vr 159), (1, vi l1)] [vi s0] := by
  unfold p12_operand_b46 at hw
  refine wm_istore_n hC dX12_operand_46 (by decide) (L2 := [(2, vi s0), (0, vr 159), (1, vi l1)]) rfl ?_
  refine wm_iload_n hC 0 dX12_operand_47 rfl ?_
  refine wm_if_eq (tgt := 110) hC dX12_operand_48 (by decide) hw (fun hw => ?_) (fun hw => ?_)
  · refine wm_sub [1, 2, 0] (L2 := [(0, vr 159), (1, vi l1), (2, vi s0)]) rfl ?_
    exact w12_operand_b110 hC hRm hE hRF  hw
  · refine wm_aload_n hC 1 dX12_operand_51 rfl (k_ne0 kk_159 (by decide)) ?_
    refine wm_ldc2 hC (x := 7237492) tc_X12_298 rfl dX12_operand_52 (k := ?_)
    refine y_callV_z_n hC hRm noS ml_X12_325 kk_159 (c12_isWord hRF  hw) (Nat.le_of_ble_eq_true rfl) (Nat.le_of_ble_eq_true rfl) ⟨Nat.zero_le _, Nat.zero_le _⟩ rfl (st := []) rfl (Nat.le_of_ble_eq_true rfl) dX12_operand_55 (fun r2 hw => ?_)
    refine wm_if_eq (tgt := 110) hC dX12_operand_58 (by decide) hw (fun hw => ?_) (fun hw => ?_)
    · refine wm_sub [1, 2, 0] (L2 := [(0, vr 159), (1, vi l1), (2, vi s0)]) rfl ?_
      exact w12_operand_b110 hC hRm hE hRF  hw
    · refine wm_aload_n hC 1 dX12_operand_61 rfl (k_ne0 kk_159 (by decide)) ?_
      refine x_getI hC 40 fl_X12_134 rfl kk_159 dX12_operand_62 ?_
      refine wm_bipush hC dX12_operand_65 (k := ?_)
      refine wm_icmp_ne (tgt := 79) hC dX12_operand_67 (by decide) hw (fun hw => ?_) (fun hw => ?_)
      · refine wm_aload_n hC 1 dX12_operand_70 rfl (k_ne0 kk_159 (by decide)) ?_
        refine wm_iconst hC dX12_operand_71 (k := ?_)
        refine wm_aload_n hC 1 dX12_operand_72 rfl (k_ne0 kk_159 (by decide)) ?_
        refine x_getI hC 4 fl_X12_23 rfl kk_159 dX12_operand_73 ?_
        refine y_callV_v_I hC hRm noS ml_X12_230 kk_159 (c12_blame hRF  hw) (Nat.le_of_ble_eq_true rfl) (Nat.le_of_ble_eq_true rfl) ⟨Nat.zero_le _, Nat.zero_le _⟩ rfl (st := []) rfl (Nat.le_of_ble_eq_true rfl) dX12_operand_76 (fun I2 hw => ?_)
        refine wm_sub [1] (L2 := [(0, vr 159)]) rfl ?_
        exact w12_operand_b79 hC hRm hE hRF  hw
      · refine wm_sub [1] (L2 := [(0, vr 159)]) rfl ?_
        exact w12_operand_b79 hC hRm hE hRF  hw
def p12_operand_b45 (l1 : Int) (I : mI) (J : mI) (Q : Int → mI → mI → Prop) : Prop := (p12_operand_b46 l1 0 I J Q)
set_option maxRecDepth 20000 in
theorem w12_operand_b45 {C : wX} {ad : Nat → Nat} {n : Nat} {I J : mI} {R : mR} {Q : Int → mI → mI → Prop} (hC : wOK C cX12_operand 4 RX12) (hRm : wRm C 4 78 0 0) (hE : wEnd C (some .boolean) ad n (fun r I' J' R' => (R' = R) ∧ Q r I' J')) (hRF : RF R) {l1 : Int}     (hw : p12_operand_b45 l1 I J Q) : WM C ad n I J R 0 0 45 [(0, vr 159), (1, vi l1)] [] := by
  unfold p12_operand_b45 at hw
  refine wm_iconst hC dX12_operand_45 (k := ?_)
  exact w12_operand_b46 hC hRm hE hRF  hw
def p12_operand (I : mI) (J : mI) (Q : Int → mI → mI → Prop) : Prop := (p12_lex I (fun I1 => (if (I1 159 8) ≤ 0 then (rg ((I1 159 39) - 1) ∧ (((0 : Int) ≤ ((I1 159 39) - 1) ∧ ((I1 159 39) - 1) < (20 : Int)) ∧ (p12_isTest (I1 178 ((I1 159 39) - 1)) (fun r1 => (if r1 = 0 then (p12_operand_b45 ((I1 159 39) - 1) I1 J Q) else (((0 : Int) ≤ ((I1 159 39) - 1) ∧ ((I1 159 39) - 1) < (20 : Int)) ∧ (if (I1 180 ((I1 159 39) - 1)) = 0 then (p12_operand_b45 ((I1 159 39) - 1) I1 J Q) else (p12_operand_b46 ((I1 159 39) - 1) 1 I1 J Q)))))))) else (Q 1 I1 J))))
set_option maxRecDepth 20000 in
theorem c12_operand {ad : Nat → Nat} {n : Nat} {I J : mI} {R : mR} {Q : Int → mI → mI → Prop}  (hRF : RF R)   (hw : p12_operand I J Q) : wMet yX12_operand cX12_operand 4 (some .boolean) 4 78 false ad n I J R [vr 159] (fun r I' J' R' => (R' = R) ∧ Q r I' J') := by
  refine wMet_of (by decide) (Nat.le_of_ble_eq_true rfl) (fun C hC hRm hE hS => ?_)
  refine (show WM C ad n I J R 0 0 0 [(0, vr 159)] [] from ?_)
  unfold p12_operand at hw
  refine wm_aload_n hC 0 dX12_operand_0 rfl (k_ne0 kk_159 (by decide)) ?_
  refine y_callV_v_I hC hRm noS ml_X12_241 kk_159 (c12_lex hRF  hw) (Nat.le_of_ble_eq_true rfl) (Nat.le_of_ble_eq_true rfl) ⟨Nat.zero_le _, Nat.zero_le _⟩ rfl (st := []) rfl (Nat.le_of_ble_eq_true rfl) dX12_operand_1 (fun I1 hw => ?_)
  refine wm_aload_n hC 0 dX12_operand_4 rfl (k_ne0 kk_159 (by decide)) ?_
  refine x_getI hC 8 fl_X12_36 rfl kk_159 dX12_operand_5 ?_
  refine wm_if_le (tgt := 13) hC dX12_operand_8 (by decide) hw (fun hw => ?_) (fun hw => ?_)
  · refine wm_aload_n hC 0 dX12_operand_13 rfl (k_ne0 kk_159 (by decide)) ?_
    refine x_getI hC 39 fl_X12_131 rfl kk_159 dX12_operand_14 ?_
    refine wm_iconst hC dX12_operand_17 (k := ?_)
    refine x_isub hC dX12_operand_18 hw (fun hw => ?_)
    refine wm_istore_n hC dX12_operand_19 (by decide) (L2 := [(1, vi ((I1 159 39) - 1)), (0, vr 159)]) rfl ?_
    refine wm_aload_n hC 1 dX12_operand_20 rfl (k_ne0 kk_159 (by decide)) ?_
    refine x_getR3 hC 34 fl_X12_115 rfl kk_159 (rf_159_34 hRF) dX12_operand_21 ?_
    refine wm_iload_n hC 0 dX12_operand_24 rfl ?_
    refine x_iald2 hC kk_178 kn_178 dX12_operand_25 hw (fun hw => ?_)
    refine y_callS_z_n hC hRm noS ml_X12_322 (c12_isTest hRF  hw) (Nat.le_of_ble_eq_true rfl) (Nat.le_of_ble_eq_true rfl) ⟨Nat.zero_le _, Nat.zero_le _⟩ rfl (st := []) rfl (Nat.le_of_ble_eq_true rfl) dX12_operand_26 (fun r1 hw => ?_)
    refine wm_if_eq (tgt := 45) hC dX12_operand_29 (by decide) hw (fun hw => ?_) (fun hw => ?_)
    · refine wm_sub [1, 0] (L2 := [(0, vr 159), (1, vi ((I1 159 39) - 1))]) rfl ?_
      exact w12_operand_b45 hC hRm hE hRF  hw
    · refine wm_aload_n hC 1 dX12_operand_32 rfl (k_ne0 kk_159 (by decide)) ?_
      refine x_getR3 hC 36 fl_X12_121 rfl kk_159 (rf_159_36 hRF) dX12_operand_33 ?_
      refine wm_iload_n hC 0 dX12_operand_36 rfl ?_
      refine x_zald2 hC kk_180 kn_180 dX12_operand_37 hw (fun hw => ?_)
      refine wm_if_eq (tgt := 45) hC dX12_operand_38 (by decide) hw (fun hw => ?_) (fun hw => ?_)
      · refine wm_sub [1, 0] (L2 := [(0, vr 159), (1, vi ((I1 159 39) - 1))]) rfl ?_
        exact w12_operand_b45 hC hRm hE hRF  hw
      · refine wm_iconst hC dX12_operand_41 (k := ?_)
        refine wm_goto (tgt := 46) hC dX12_operand_42 (by decide) ?_
        refine wm_sub [1, 0] (L2 := [(0, vr 159), (1, vi ((I1 159 39) - 1))]) rfl ?_
        exact w12_operand_b46 hC hRm hE hRF  hw
  · refine wm_iconst hC dX12_operand_11 (k := ?_)
    exact wm_zreturn hC hE (Or.inr rfl) dX12_operand_12 ⟨rfl, hw⟩
def p12_reads_b70 (l2 : Int) (I : mI) (J : mI) (k43 : Int → mI → mI → Prop) (Q : mI → mI → Prop) : Prop := (if l2 = 0 then (k43 0 I J) else (if (I 159 8) = 0 then (k43 1 I J) else (k43 0 I J)))
set_option maxRecDepth 20000 in
theorem w12_reads_b70 {C : wX} {ad : Nat → Nat} {n : Nat} {I J : mI} {R : mR} {Q : mI → mI → Prop} (hC : wOK C cX12_reads 3 RX12) (hRm : wRm C 5 101 0 0) (hE : wEnd C none ad n (fun _ I' J' R' => (R' = R) ∧ Q I' J')) (hRF : RF R) {l2 : Int}  {k43 : Int → mI → mI → Prop}  (kk43 : ∀ (y2 : Int) (I' : mI) (J' : mI), k43 y2 I' J' → WM C ad n I' J' R 0 0 43 [(0, vr 159), (2, vi y2)] []) (hw : p12_reads_b70 l2 I J k43 Q) : WM C ad n I J R 0 0 70 [(0, vr 159), (2, vi l2)] [] := by
  unfold p12_reads_b70 at hw
  refine wm_iload_n hC 1 dX12_reads_70 rfl ?_
  refine wm_if_eq (tgt := 85) hC dX12_reads_71 (by decide) hw (fun hw => ?_) (fun hw => ?_)
  · refine wm_iconst hC dX12_reads_85 (k := ?_)
    refine wm_istore_n hC dX12_reads_86 (by decide) (L2 := [(2, vi 0), (0, vr 159)]) rfl ?_
    refine wm_goto (tgt := 43) hC dX12_reads_87 (by decide) ?_
    refine wm_sub [1, 0] (L2 := [(0, vr 159), (2, vi 0)]) rfl ?_
    exact kk43 _ _ _ hw
  · refine wm_aload_n hC 0 dX12_reads_74 rfl (k_ne0 kk_159 (by decide)) ?_
    refine x_getI hC 8 fl_X12_36 rfl kk_159 dX12_reads_75 ?_
    refine wm_if_ne (tgt := 85) hC dX12_reads_78 (by decide) hw (fun hw => ?_) (fun hw => ?_)
    · refine wm_iconst hC dX12_reads_81 (k := ?_)
      refine wm_goto (tgt := 86) hC dX12_reads_82 (by decide) ?_
      refine wm_istore_n hC dX12_reads_86 (by decide) (L2 := [(2, vi 1), (0, vr 159)]) rfl ?_
      refine wm_goto (tgt := 43) hC dX12_reads_87 (by decide) ?_
      refine wm_sub [1, 0] (L2 := [(0, vr 159), (2, vi 1)]) rfl ?_
      exact kk43 _ _ _ hw
    · refine wm_iconst hC dX12_reads_85 (k := ?_)
      refine wm_istore_n hC dX12_reads_86 (by decide) (L2 := [(2, vi 0), (0, vr 159)]) rfl ?_
      refine wm_goto (tgt := 43) hC dX12_reads_87 (by decide) ?_
      refine wm_sub [1, 0] (L2 := [(0, vr 159), (2, vi 0)]) rfl ?_
      exact kk43 _ _ _ hw
def p12_reads_b43_body (Q : mI → mI → Prop) (k43 : Int → mI → mI → Prop) (l2 : Int) (I : mI) (J : mI) : Prop := (if l2 = 0 then (Q I J) else (if (I 159 43) = 0 then (p12_operand I J (fun r2 I8 J2 => ((r2 = 0 ∨ r2 = 1) ∧ (wLet (up I8 159 43 r2) (fun I9 => (p12_reads_b70 l2 I9 J2 k43 Q)))))) else (p12_goesOn I J (fun r1 I7 J1 => (p12_reads_b70 r1 I7 J1 k43 Q)))))
def p12_reads_b43 (Q : mI → mI → Prop) : Nat → Int → mI → mI → Prop
  | 0 => fun _ _ _ => False
  | f + 1 => fun l2 I J => p12_reads_b43_body Q (p12_reads_b43 Q f) l2 I J
set_option maxRecDepth 20000 in
theorem w12_reads_b43_body {C : wX} {ad : Nat → Nat} {n : Nat} {I J : mI} {R : mR} {Q : mI → mI → Prop} (hC : wOK C cX12_reads 3 RX12) (hRm : wRm C 5 101 0 0) (hE : wEnd C none ad n (fun _ I' J' R' => (R' = R) ∧ Q I' J')) (hRF : RF R)  {l2 : Int}     {k43 : Int → mI → mI → Prop} (kk43 : ∀ (y2 : Int) (I' : mI) (J' : mI), k43 y2 I' J' → WM C ad n I' J' R 0 0 43 [(0, vr 159), (2, vi y2)] []) (hw : p12_reads_b43_body Q k43 l2 I J) : WM C ad n I J R 0 0 43 [(0, vr 159), (2, vi l2)] [] := by
  unfold p12_reads_b43_body at hw
  refine wm_iload_n hC 1 dX12_reads_43 rfl ?_
  refine wm_if_eq (tgt := 90) hC dX12_reads_44 (by decide) hw (fun hw => ?_) (fun hw => ?_)
  · exact wm_return hC hE dX12_reads_90 ⟨rfl, hw⟩
  · refine wm_aload_n hC 0 dX12_reads_47 rfl (k_ne0 kk_159 (by decide)) ?_
    refine x_getI hC 43 fl_X12_143 rfl kk_159 dX12_reads_48 ?_
    refine wm_if_ne (tgt := 65) hC dX12_reads_51 (by decide) hw (fun hw => ?_) (fun hw => ?_)
    · refine wm_aload_n hC 0 dX12_reads_54 rfl (k_ne0 kk_159 (by decide)) ?_
      refine wm_aload_n hC 0 dX12_reads_55 rfl (k_ne0 kk_159 (by decide)) ?_
      refine y_callV_z_IJ hC hRm noS ml_X12_338 kk_159 (c12_operand hRF  hw) (Nat.le_of_ble_eq_true rfl) (Nat.le_of_ble_eq_true rfl) ⟨Nat.zero_le _, Nat.zero_le _⟩ rfl (st := [vr 159]) rfl (Nat.le_of_ble_eq_true rfl) dX12_reads_56 (fun r2 I8 J2 hw => ?_)
      obtain ⟨z01, hw⟩ := hw
      refine x_putZ hC 43 fl_X12_143 rfl kk_159 z01 dX12_reads_59 hw (fun I9 hw => ?_)
      refine wm_goto (tgt := 70) hC dX12_reads_62 (by decide) ?_
      exact w12_reads_b70 hC hRm hE hRF kk43 hw
    · refine wm_aload_n hC 0 dX12_reads_65 rfl (k_ne0 kk_159 (by decide)) ?_
      refine y_callV_z_IJ hC hRm noS ml_X12_341 kk_159 (c12_goesOn hRF  hw) (Nat.le_of_ble_eq_true rfl) (Nat.le_of_ble_eq_true rfl) ⟨Nat.zero_le _, Nat.zero_le _⟩ rfl (st := []) rfl (Nat.le_of_ble_eq_true rfl) dX12_reads_66 (fun r1 I7 J1 hw => ?_)
      refine wm_istore_n hC dX12_reads_69 (by decide) (L2 := [(2, vi r1), (0, vr 159)]) rfl ?_
      refine wm_sub [1, 0] (L2 := [(0, vr 159), (2, vi r1)]) rfl ?_
      exact w12_reads_b70 hC hRm hE hRF kk43 hw
set_option maxRecDepth 20000 in
theorem w12_reads_b43 {C : wX} {ad : Nat → Nat} {n : Nat} {R : mR} {Q : mI → mI → Prop} (hC : wOK C cX12_reads 3 RX12) (hRm : wRm C 5 101 0 0) (hE : wEnd C none ad n (fun _ I' J' R' => (R' = R) ∧ Q I' J')) (hRF : RF R)      : ∀ (f : Nat) (l2 : Int) (I : mI) (J : mI), p12_reads_b43 Q f l2 I J → WM C ad n I J R 0 0 43 [(0, vr 159), (2, vi l2)] [] := by
  intro f
  induction f with
  | zero => intro l2 I J hw; exact hw.elim
  | succ f ih => intro l2 I J hw; exact w12_reads_b43_body hC hRm hE hRF  (fun a0 a1 a2 aw => ih a0 a1 a2 aw) hw
def p12_reads (l1 : Int) (I : mI) (J : mI) (Q : mI → mI → Prop) : Prop := (if (I 159 8) ≤ 0 then (wLet (up I 159 39 0) (fun I1 => (wLet (up I1 159 40 0) (fun I2 => (wLet (up I2 159 42 0) (fun I3 => (wLet (up I3 159 43 0) (fun I4 => (if l1 = 0 then (p12_pushes 0 I4 (fun I5 => (∃ f, p12_reads_b43 Q f 1 I5 J))) else (p12_pushes 1 I4 (fun I6 => (∃ f, p12_reads_b43 Q f 1 I6 J)))))))))))) else (Q I J))
set_option maxRecDepth 20000 in
theorem c12_reads {ad : Nat → Nat} {n : Nat} {I J : mI} {R : mR} {Q : mI → mI → Prop}  (hRF : RF R) {l1 : Int}   (hw : p12_reads l1 I J Q) : wMet yX12_reads cX12_reads 3 none 5 101 false ad n I J R [vr 159, vi l1] (fun _ I' J' R' => (R' = R) ∧ Q I' J') := by
  refine wMet_of (by decide) (Nat.le_of_ble_eq_true rfl) (fun C hC hRm hE hS => ?_)
  refine (show WM C ad n I J R 0 0 0 [(0, vr 159), (1, vi l1)] [] from ?_)
  unfold p12_reads at hw
  refine wm_aload_n hC 0 dX12_reads_0 rfl (k_ne0 kk_159 (by decide)) ?_
  refine x_getI hC 8 fl_X12_36 rfl kk_159 dX12_reads_1 ?_
  refine wm_if_le (tgt := 8) hC dX12_reads_4 (by decide) hw (fun hw => ?_) (fun hw => ?_)
  · refine wm_aload_n hC 0 dX12_reads_8 rfl (k_ne0 kk_159 (by decide)) ?_
    refine wm_iconst hC dX12_reads_9 (k := ?_)
    refine x_putI hC 39 fl_X12_131 rfl kk_159 dX12_reads_10 hw (fun I1 hw => ?_)
    refine wm_aload_n hC 0 dX12_reads_13 rfl (k_ne0 kk_159 (by decide)) ?_
    refine wm_iconst hC dX12_reads_14 (k := ?_)
    refine x_putI hC 40 fl_X12_134 rfl kk_159 dX12_reads_15 hw (fun I2 hw => ?_)
    refine wm_aload_n hC 0 dX12_reads_18 rfl (k_ne0 kk_159 (by decide)) ?_
    refine wm_iconst hC dX12_reads_19 (k := ?_)
    refine x_putI hC 42 fl_X12_140 rfl kk_159 dX12_reads_20 hw (fun I3 hw => ?_)
    refine wm_aload_n hC 0 dX12_reads_23 rfl (k_ne0 kk_159 (by decide)) ?_
    refine wm_iconst hC dX12_reads_24 (k := ?_)
    refine x_putZ hC 43 fl_X12_143 rfl kk_159 (Or.inl rfl) dX12_reads_25 hw (fun I4 hw => ?_)
    refine wm_aload_n hC 0 dX12_reads_28 rfl (k_ne0 kk_159 (by decide)) ?_
    refine wm_iload_n hC 1 dX12_reads_29 rfl ?_
    refine wm_if_eq (tgt := 37) hC dX12_reads_30 (by decide) hw (fun hw => ?_) (fun hw => ?_)
    · refine wm_iconst hC dX12_reads_37 (k := ?_)
      refine y_callV_v_I hC hRm noS ml_X12_319 kk_159 (c12_pushes hRF  hw) (Nat.le_of_ble_eq_true rfl) (Nat.le_of_ble_eq_true rfl) ⟨Nat.zero_le _, Nat.zero_le _⟩ rfl (st := []) rfl (Nat.le_of_ble_eq_true rfl) dX12_reads_38 (fun I5 hw => ?_)
      refine wm_iconst hC dX12_reads_41 (k := ?_)
      refine wm_istore_n hC dX12_reads_42 (by decide) (L2 := [(2, vi 1), (0, vr 159), (1, vi l1)]) rfl ?_
      obtain ⟨f, hw⟩ := hw
      refine wm_sub [1, 0] (L2 := [(0, vr 159), (2, vi 1)]) rfl ?_
      exact w12_reads_b43 hC hRm hE hRF  f _ _ _ hw
    · refine wm_iconst hC dX12_reads_33 (k := ?_)
      refine wm_goto (tgt := 38) hC dX12_reads_34 (by decide) ?_
      refine y_callV_v_I hC hRm noS ml_X12_319 kk_159 (c12_pushes hRF  hw) (Nat.le_of_ble_eq_true rfl) (Nat.le_of_ble_eq_true rfl) ⟨Nat.zero_le _, Nat.zero_le _⟩ rfl (st := []) rfl (Nat.le_of_ble_eq_true rfl) dX12_reads_38 (fun I6 hw => ?_)
      refine wm_iconst hC dX12_reads_41 (k := ?_)
      refine wm_istore_n hC dX12_reads_42 (by decide) (L2 := [(2, vi 1), (0, vr 159), (1, vi l1)]) rfl ?_
      obtain ⟨f, hw⟩ := hw
      refine wm_sub [1, 0] (L2 := [(0, vr 159), (2, vi 1)]) rfl ?_
      exact w12_reads_b43 hC hRm hE hRF  f _ _ _ hw
  · exact wm_return hC hE dX12_reads_7 ⟨rfl, hw⟩
def p12_reading_b58 (l2 : Int) (s1 : Int) (I : mI) (J : mI) (Q : mI → mI → Prop) : Prop := (p12_reads s1 I J (fun I4 J2 => (((0 : Int) ≤ l2 ∧ l2 < (6 : Int)) ∧ wLet (up I4 174 l2 (I4 159 31)) (fun I5 => (Q I5 J2)))))
set_option maxRecDepth 20000 in
theorem w12_reading_b58 {C : wX} {ad : Nat → Nat} {n : Nat} {I J : mI} {R : mR} {Q : mI → mI → Prop} (hC : wOK C cX12_reading 3 RX12) (hRm : wRm C 6 123 0 0) (hE : wEnd C none ad n (fun _ I' J' R' => (R' = R) ∧ Q I' J')) (hRF : RF R) {l2 : Int} {s1 : Int}     (hw : p12_reading_b58 l2 s1 I J Q) : WM C ad n I J R 0 0 58 [(0, vr 159), (2, vi l2)] [vi s1, vr 159] := by
  unfold p12_reading_b58 at hw
  refine y_callV_v_IJ hC hRm noS ml_X12_381 kk_159 (c12_reads hRF  hw) (Nat.le_of_ble_eq_true rfl) (Nat.le_of_ble_eq_true rfl) ⟨Nat.zero_le _, Nat.zero_le _⟩ rfl (st := []) rfl (Nat.le_of_ble_eq_true rfl) dX12_reading_58 (fun I4 J2 hw => ?_)
  refine wm_aload_n hC 0 dX12_reading_61 rfl (k_ne0 kk_159 (by decide)) ?_
  refine x_getR3 hC 27 fl_X12_93 rfl kk_159 (rf_159_27 hRF) dX12_reading_62 ?_
  refine wm_iload_n hC 1 dX12_reading_65 rfl ?_
  refine wm_aload_n hC 0 dX12_reading_66 rfl (k_ne0 kk_159 (by decide)) ?_
  refine x_getI hC 31 fl_X12_106 rfl kk_159 dX12_reading_67 ?_
  refine x_iast2 hC kk_174 kn_174 dX12_reading_70 hw (fun I5 hw => ?_)
  exact wm_return hC hE dX12_reading_71 ⟨rfl, hw⟩
def p12_reading_b25 (l1 : Int) (l2 : Int) (s1 : Int) (I : mI) (J : mI) (Q : mI → mI → Prop) : Prop := (p12_isCounted s1 I J (fun r1 I1 J1 => (if r1 = 0 then (Q I1 J1) else (wLet (up I1 159 33 l1) (fun I2 => (((0 : Int) ≤ l2 ∧ l2 < (6 : Int)) ∧ wLet (up I2 173 l2 (I2 159 31)) (fun I3 => (if l1 = 1 then (p12_reading_b58 l2 1 I3 J1 Q) else (p12_reading_b58 l2 0 I3 J1 Q)))))))))
set_option maxRecDepth 20000 in
theorem w12_reading_b25 {C : wX} {ad : Nat → Nat} {n : Nat} {I J : mI} {R : mR} {Q : mI → mI → Prop} (hC : wOK C cX12_reading 3 RX12) (hRm : wRm C 6 123 0 0) (hE : wEnd C none ad n (fun _ I' J' R' => (R' = R) ∧ Q I' J')) (hRF : RF R) {l1 : Int} {l2 : Int} {s1 : Int}     (hw : p12_reading_b25 l1 l2 s1 I J Q) : WM C ad n I J R 0 0 25 [(0, vr 159), (1, vi l1), (2, vi l2)] [vi s1, vr 159] := by
  unfold p12_reading_b25 at hw
  refine y_callV_z_IJ hC hRm noS ml_X12_355 kk_159 (c12_isCounted hRF  hw) (Nat.le_of_ble_eq_true rfl) (Nat.le_of_ble_eq_true rfl) ⟨Nat.zero_le _, Nat.zero_le _⟩ rfl (st := []) rfl (Nat.le_of_ble_eq_true rfl) dX12_reading_25 (fun r1 I1 J1 hw => ?_)
  refine wm_if_ne (tgt := 32) hC dX12_reading_28 (by decide) hw (fun hw => ?_) (fun hw => ?_)
  · exact wm_return hC hE dX12_reading_31 ⟨rfl, hw⟩
  · refine wm_aload_n hC 0 dX12_reading_32 rfl (k_ne0 kk_159 (by decide)) ?_
    refine wm_iload_n hC 1 dX12_reading_33 rfl ?_
    refine x_putI hC 33 fl_X12_112 rfl kk_159 dX12_reading_34 hw (fun I2 hw => ?_)
    refine wm_aload_n hC 0 dX12_reading_37 rfl (k_ne0 kk_159 (by decide)) ?_
    refine x_getR3 hC 26 fl_X12_90 rfl kk_159 (rf_159_26 hRF) dX12_reading_38 ?_
    refine wm_iload_n hC 2 dX12_reading_41 rfl ?_
    refine wm_aload_n hC 0 dX12_reading_42 rfl (k_ne0 kk_159 (by decide)) ?_
    refine x_getI hC 31 fl_X12_106 rfl kk_159 dX12_reading_43 ?_
    refine x_iast2 hC kk_173 kn_173 dX12_reading_46 hw (fun I3 hw => ?_)
    refine wm_aload_n hC 0 dX12_reading_47 rfl (k_ne0 kk_159 (by decide)) ?_
    refine wm_iload_n hC 1 dX12_reading_48 rfl ?_
    refine wm_iconst hC dX12_reading_49 (k := ?_)
    refine wm_icmp_ne (tgt := 57) hC dX12_reading_50 (by decide) hw (fun hw => ?_) (fun hw => ?_)
    · refine wm_iconst hC dX12_reading_53 (k := ?_)
      refine wm_goto (tgt := 58) hC dX12_reading_54 (by decide) ?_
      refine wm_sub [0, 2] (L2 := [(0, vr 159), (2, vi l2)]) rfl ?_
      exact w12_reading_b58 hC hRm hE hRF  hw
    · refine wm_iconst hC dX12_reading_57 (k := ?_)
      refine wm_sub [0, 2] (L2 := [(0, vr 159), (2, vi l2)]) rfl ?_
      exact w12_reading_b58 hC hRm hE hRF  hw
def p12_reading (l1 : Int) (I : mI) (J : mI) (Q : mI → mI → Prop) : Prop := (rg (3 * (I 159 32)) ∧ (rg ((3 * (I 159 32)) + l1) ∧ (wLet ((3 * (I 159 32)) + l1) (fun x1 => (((0 : Int) ≤ x1 ∧ x1 < (6 : Int)) ∧ (if (I 173 x1) = (-1) then (p12_reading_b25 l1 x1 0 I J Q) else (p12_reading_b25 l1 x1 1 I J Q)))))))
set_option maxRecDepth 20000 in
theorem c12_reading {ad : Nat → Nat} {n : Nat} {I J : mI} {R : mR} {Q : mI → mI → Prop}  (hRF : RF R) {l1 : Int}   (hw : p12_reading l1 I J Q) : wMet yX12_reading cX12_reading 3 none 6 123 false ad n I J R [vr 159, vi l1] (fun _ I' J' R' => (R' = R) ∧ Q I' J') := by
  refine wMet_of (by decide) (Nat.le_of_ble_eq_true rfl) (fun C hC hRm hE hS => ?_)
  refine (show WM C ad n I J R 0 0 0 [(0, vr 159), (1, vi l1)] [] from ?_)
  unfold p12_reading at hw
  refine wm_iconst hC dX12_reading_0 (k := ?_)
  refine wm_aload_n hC 0 dX12_reading_1 rfl (k_ne0 kk_159 (by decide)) ?_
  refine x_getI hC 32 fl_X12_109 rfl kk_159 dX12_reading_2 ?_
  refine x_imul hC dX12_reading_5 hw (fun hw => ?_)
  refine wm_iload_n hC 1 dX12_reading_6 rfl ?_
  refine x_iadd hC dX12_reading_7 hw (fun hw => ?_)
  refine x_nameI hw (fun x1 hw => ?_)
  refine wm_istore_n hC dX12_reading_8 (by decide) (L2 := [(2, vi x1), (0, vr 159), (1, vi l1)]) rfl ?_
  refine wm_aload_n hC 1 dX12_reading_9 rfl (k_ne0 kk_159 (by decide)) ?_
  refine wm_aload_n hC 1 dX12_reading_10 rfl (k_ne0 kk_159 (by decide)) ?_
  refine x_getR3 hC 26 fl_X12_90 rfl kk_159 (rf_159_26 hRF) dX12_reading_11 ?_
  refine wm_iload_n hC 0 dX12_reading_14 rfl ?_
  refine x_iald2 hC kk_173 kn_173 dX12_reading_15 hw (fun hw => ?_)
  refine wm_iconst hC dX12_reading_16 (k := ?_)
  refine wm_icmp_eq (tgt := 24) hC dX12_reading_17 (by decide) hw (fun hw => ?_) (fun hw => ?_)
  · refine wm_iconst hC dX12_reading_24 (k := ?_)
    refine wm_sub [1, 2, 0] (L2 := [(0, vr 159), (1, vi l1), (2, vi x1)]) rfl ?_
    exact w12_reading_b25 hC hRm hE hRF  hw
  · refine wm_iconst hC dX12_reading_20 (k := ?_)
    refine wm_goto (tgt := 25) hC dX12_reading_21 (by decide) ?_
    refine wm_sub [1, 2, 0] (L2 := [(0, vr 159), (1, vi l1), (2, vi x1)]) rfl ?_
    exact w12_reading_b25 hC hRm hE hRF  hw
def p12_telling (l1 : Int) (I : mI) (J : mI) (Q : Int → mI → mI → Prop) : Prop := (p12_isCounted 0 I J (fun r1 I1 J1 => (if r1 = 0 then (Q 0 I1 J1) else (p12_number 0 l1 I1 J1 (fun r2 I2 J2 => (Q r2 I2 J2))))))
set_option maxRecDepth 20000 in
theorem c12_telling {ad : Nat → Nat} {n : Nat} {I J : mI} {R : mR} {Q : Int → mI → mI → Prop}  (hRF : RF R) {l1 : Int}   (hw : p12_telling l1 I J Q) : wMet yX12_telling cX12_telling 2 (some .int) 4 80 false ad n I J R [vr 159, vi l1] (fun r I' J' R' => (R' = R) ∧ Q r I' J') := by
  refine wMet_of (by decide) (Nat.le_of_ble_eq_true rfl) (fun C hC hRm hE hS => ?_)
  refine (show WM C ad n I J R 0 0 0 [(0, vr 159), (1, vi l1)] [] from ?_)
  unfold p12_telling at hw
  refine wm_aload_n hC 0 dX12_telling_0 rfl (k_ne0 kk_159 (by decide)) ?_
  refine wm_iconst hC dX12_telling_1 (k := ?_)
  refine y_callV_z_IJ hC hRm noS ml_X12_355 kk_159 (c12_isCounted hRF  hw) (Nat.le_of_ble_eq_true rfl) (Nat.le_of_ble_eq_true rfl) ⟨Nat.zero_le _, Nat.zero_le _⟩ rfl (st := []) rfl (Nat.le_of_ble_eq_true rfl) dX12_telling_2 (fun r1 I1 J1 hw => ?_)
  refine wm_if_ne (tgt := 10) hC dX12_telling_5 (by decide) hw (fun hw => ?_) (fun hw => ?_)
  · refine wm_iconst hC dX12_telling_8 (k := ?_)
    exact wm_ireturn hC hE dX12_telling_9 ⟨rfl, hw⟩
  · refine wm_aload_n hC 0 dX12_telling_10 rfl (k_ne0 kk_159 (by decide)) ?_
    refine wm_iconst hC dX12_telling_11 (k := ?_)
    refine wm_iload_n hC 1 dX12_telling_12 rfl ?_
    refine y_callV_i_IJ hC hRm noS ml_X12_359 kk_159 (c12_number hRF  hw) (Nat.le_of_ble_eq_true rfl) (Nat.le_of_ble_eq_true rfl) ⟨Nat.zero_le _, Nat.zero_le _⟩ rfl (st := []) rfl (Nat.le_of_ble_eq_true rfl) dX12_telling_13 (fun r2 I2 J2 hw => ?_)
    exact wm_ireturn hC hE dX12_telling_16 ⟨rfl, hw⟩
def p12_thinging (I : mI) (J : mI) (Q : mI → mI → Prop) : Prop := (p12_isShaped 2 I J (fun r1 I1 J1 => (if r1 = 0 then (Q I1 J1) else (rg (6 * (I1 159 32)) ∧ (((0 : Int) ≤ (I1 159 32) ∧ (I1 159 32) < (2 : Int)) ∧ (rg ((6 * (I1 159 32)) + (I1 167 (I1 159 32))) ∧ (((0 : Int) ≤ ((6 * (I1 159 32)) + (I1 167 (I1 159 32))) ∧ ((6 * (I1 159 32)) + (I1 167 (I1 159 32))) < (12 : Int)) ∧ wLet (up I1 169 ((6 * (I1 159 32)) + (I1 167 (I1 159 32))) 0) (fun I2 => (rg (6 * (I2 159 32)) ∧ (((0 : Int) ≤ (I2 159 32) ∧ (I2 159 32) < (2 : Int)) ∧ (rg ((6 * (I2 159 32)) + (I2 167 (I2 159 32))) ∧ (((0 : Int) ≤ ((6 * (I2 159 32)) + (I2 167 (I2 159 32))) ∧ ((6 * (I2 159 32)) + (I2 167 (I2 159 32))) < (12 : Int)) ∧ wLet (up I2 170 ((6 * (I2 159 32)) + (I2 167 (I2 159 32))) (-1)) (fun I3 => (((0 : Int) ≤ (I3 159 32) ∧ (I3 159 32) < (2 : Int)) ∧ (rg ((I3 167 (I3 159 32)) + 1) ∧ (((0 : Int) ≤ (I3 159 32) ∧ (I3 159 32) < (2 : Int)) ∧ wLet (up I3 167 (I3 159 32) ((I3 167 (I3 159 32)) + 1)) (fun I4 => (Q I4 J1))))))))))))))))))
set_option maxRecDepth 20000 in
theorem c12_thinging {ad : Nat → Nat} {n : Nat} {I J : mI} {R : mR} {Q : mI → mI → Prop}  (hRF : RF R)   (hw : p12_thinging I J Q) : wMet yX12_thinging cX12_thinging 1 none 5 108 false ad n I J R [vr 159] (fun _ I' J' R' => (R' = R) ∧ Q I' J') := by
  refine wMet_of (by decide) (Nat.le_of_ble_eq_true rfl) (fun C hC hRm hE hS => ?_)
  refine (show WM C ad n I J R 0 0 0 [(0, vr 159)] [] from ?_)
  unfold p12_thinging at hw
  refine wm_aload_n hC 0 dX12_thinging_0 rfl (k_ne0 kk_159 (by decide)) ?_
  refine wm_iconst hC dX12_thinging_1 (k := ?_)
  refine y_callV_z_IJ hC hRm noS ml_X12_375 kk_159 (c12_isShaped hRF  hw) (Nat.le_of_ble_eq_true rfl) (Nat.le_of_ble_eq_true rfl) ⟨Nat.zero_le _, Nat.zero_le _⟩ rfl (st := []) rfl (Nat.le_of_ble_eq_true rfl) dX12_thinging_2 (fun r1 I1 J1 hw => ?_)
  refine wm_if_ne (tgt := 9) hC dX12_thinging_5 (by decide) hw (fun hw => ?_) (fun hw => ?_)
  · exact wm_return hC hE dX12_thinging_8 ⟨rfl, hw⟩
  · refine wm_aload_n hC 0 dX12_thinging_9 rfl (k_ne0 kk_159 (by decide)) ?_
    refine x_getR3 hC 22 fl_X12_78 rfl kk_159 (rf_159_22 hRF) dX12_thinging_10 ?_
    refine wm_bipush hC dX12_thinging_13 (k := ?_)
    refine wm_aload_n hC 0 dX12_thinging_15 rfl (k_ne0 kk_159 (by decide)) ?_
    refine x_getI hC 32 fl_X12_109 rfl kk_159 dX12_thinging_16 ?_
    refine x_imul hC dX12_thinging_19 hw (fun hw => ?_)
    refine wm_aload_n hC 0 dX12_thinging_20 rfl (k_ne0 kk_159 (by decide)) ?_
    refine x_getR3 hC 20 fl_X12_72 rfl kk_159 (rf_159_20 hRF) dX12_thinging_21 ?_
    refine wm_aload_n hC 0 dX12_thinging_24 rfl (k_ne0 kk_159 (by decide)) ?_
    refine x_getI hC 32 fl_X12_109 rfl kk_159 dX12_thinging_25 ?_
    refine x_iald2 hC kk_167 kn_167 dX12_thinging_28 hw (fun hw => ?_)
    refine x_iadd hC dX12_thinging_29 hw (fun hw => ?_)
    refine wm_iconst hC dX12_thinging_30 (k := ?_)
    refine x_iast2 hC kk_169 kn_169 dX12_thinging_31 hw (fun I2 hw => ?_)
    refine wm_aload_n hC 0 dX12_thinging_32 rfl (k_ne0 kk_159 (by decide)) ?_
    refine x_getR3 hC 23 fl_X12_81 rfl kk_159 (rf_159_23 hRF) dX12_thinging_33 ?_
    refine wm_bipush hC dX12_thinging_36 (k := ?_)
    refine wm_aload_n hC 0 dX12_thinging_38 rfl (k_ne0 kk_159 (by decide)) ?_
    refine x_getI hC 32 fl_X12_109 rfl kk_159 dX12_thinging_39 ?_
    refine x_imul hC dX12_thinging_42 hw (fun hw => ?_)
    refine wm_aload_n hC 0 dX12_thinging_43 rfl (k_ne0 kk_159 (by decide)) ?_
    refine x_getR3 hC 20 fl_X12_72 rfl kk_159 (rf_159_20 hRF) dX12_thinging_44 ?_
    refine wm_aload_n hC 0 dX12_thinging_47 rfl (k_ne0 kk_159 (by decide)) ?_
    refine x_getI hC 32 fl_X12_109 rfl kk_159 dX12_thinging_48 ?_
    refine x_iald2 hC kk_167 kn_167 dX12_thinging_51 hw (fun hw => ?_)
    refine x_iadd hC dX12_thinging_52 hw (fun hw => ?_)
    refine wm_iconst hC dX12_thinging_53 (k := ?_)
    refine x_iast2 hC kk_170 kn_170 dX12_thinging_54 hw (fun I3 hw => ?_)
    refine wm_aload_n hC 0 dX12_thinging_55 rfl (k_ne0 kk_159 (by decide)) ?_
    refine x_getR3 hC 20 fl_X12_72 rfl kk_159 (rf_159_20 hRF) dX12_thinging_56 ?_
    refine wm_aload_n hC 0 dX12_thinging_59 rfl (k_ne0 kk_159 (by decide)) ?_
    refine x_getI hC 32 fl_X12_109 rfl kk_159 dX12_thinging_60 ?_
    refine wm_dup2_11 hC dX12_thinging_63 (k := ?_)
    refine x_iald2 hC kk_167 kn_167 dX12_thinging_64 hw (fun hw => ?_)
    refine wm_iconst hC dX12_thinging_65 (k := ?_)
    refine x_iadd hC dX12_thinging_66 hw (fun hw => ?_)
    refine x_iast2 hC kk_167 kn_167 dX12_thinging_67 hw (fun I4 hw => ?_)
    exact wm_return hC hE dX12_thinging_68 ⟨rfl, hw⟩
def p12_wearing (I : mI) (J : mI) (Q : mI → mI → Prop) : Prop := (p12_isCounted 0 I J (fun r1 I1 J1 => (if r1 = 0 then (Q I1 J1) else (p12_known 2 0 I1 J1 (fun r2 I2 J2 => (p12_known 1 0 I2 J2 (fun r3 I3 J3 => (if (I3 159 8) = 0 then (rg (6 * (I3 159 32)) ∧ (rg ((6 * (I3 159 32)) + r2) ∧ (((0 : Int) ≤ ((6 * (I3 159 32)) + r2) ∧ ((6 * (I3 159 32)) + r2) < (12 : Int)) ∧ wLet (up I3 170 ((6 * (I3 159 32)) + r2) r3) (fun I4 => (Q I4 J3))))) else (Q I3 J3)))))))))
set_option maxRecDepth 20000 in
theorem c12_wearing {ad : Nat → Nat} {n : Nat} {I J : mI} {R : mR} {Q : mI → mI → Prop}  (hRF : RF R)   (hw : p12_wearing I J Q) : wMet yX12_wearing cX12_wearing 3 none 4 80 false ad n I J R [vr 159] (fun _ I' J' R' => (R' = R) ∧ Q I' J') := by
  refine wMet_of (by decide) (Nat.le_of_ble_eq_true rfl) (fun C hC hRm hE hS => ?_)
  refine (show WM C ad n I J R 0 0 0 [(0, vr 159)] [] from ?_)
  unfold p12_wearing at hw
  refine wm_aload_n hC 0 dX12_wearing_0 rfl (k_ne0 kk_159 (by decide)) ?_
  refine wm_iconst hC dX12_wearing_1 (k := ?_)
  refine y_callV_z_IJ hC hRm noS ml_X12_355 kk_159 (c12_isCounted hRF  hw) (Nat.le_of_ble_eq_true rfl) (Nat.le_of_ble_eq_true rfl) ⟨Nat.zero_le _, Nat.zero_le _⟩ rfl (st := []) rfl (Nat.le_of_ble_eq_true rfl) dX12_wearing_2 (fun r1 I1 J1 hw => ?_)
  refine wm_if_ne (tgt := 9) hC dX12_wearing_5 (by decide) hw (fun hw => ?_) (fun hw => ?_)
  · exact wm_return hC hE dX12_wearing_8 ⟨rfl, hw⟩
  · refine wm_aload_n hC 0 dX12_wearing_9 rfl (k_ne0 kk_159 (by decide)) ?_
    refine wm_iconst hC dX12_wearing_10 (k := ?_)
    refine wm_iconst hC dX12_wearing_11 (k := ?_)
    refine y_callV_i_IJ hC hRm noS ml_X12_378 kk_159 (c12_known hRF  hw) (Nat.le_of_ble_eq_true rfl) (Nat.le_of_ble_eq_true rfl) ⟨Nat.zero_le _, Nat.zero_le _⟩ rfl (st := []) rfl (Nat.le_of_ble_eq_true rfl) dX12_wearing_12 (fun r2 I2 J2 hw => ?_)
    refine wm_istore_n hC dX12_wearing_15 (by decide) (L2 := [(1, vi r2), (0, vr 159)]) rfl ?_
    refine wm_aload_n hC 1 dX12_wearing_16 rfl (k_ne0 kk_159 (by decide)) ?_
    refine wm_iconst hC dX12_wearing_17 (k := ?_)
    refine wm_iconst hC dX12_wearing_18 (k := ?_)
    refine y_callV_i_IJ hC hRm noS ml_X12_378 kk_159 (c12_known hRF  hw) (Nat.le_of_ble_eq_true rfl) (Nat.le_of_ble_eq_true rfl) ⟨Nat.zero_le _, Nat.zero_le _⟩ rfl (st := []) rfl (Nat.le_of_ble_eq_true rfl) dX12_wearing_19 (fun r3 I3 J3 hw => ?_)
    refine wm_istore_n hC dX12_wearing_22 (by decide) (L2 := [(2, vi r3), (1, vi r2), (0, vr 159)]) rfl ?_
    refine wm_aload_n hC 2 dX12_wearing_23 rfl (k_ne0 kk_159 (by decide)) ?_
    refine x_getI hC 8 fl_X12_36 rfl kk_159 dX12_wearing_24 ?_
    refine wm_if_ne (tgt := 45) hC dX12_wearing_27 (by decide) hw (fun hw => ?_) (fun hw => ?_)
    · refine wm_aload_n hC 2 dX12_wearing_30 rfl (k_ne0 kk_159 (by decide)) ?_
      refine x_getR3 hC 23 fl_X12_81 rfl kk_159 (rf_159_23 hRF) dX12_wearing_31 ?_
      refine wm_bipush hC dX12_wearing_34 (k := ?_)
      refine wm_aload_n hC 2 dX12_wearing_36 rfl (k_ne0 kk_159 (by decide)) ?_
      refine x_getI hC 32 fl_X12_109 rfl kk_159 dX12_wearing_37 ?_
      refine x_imul hC dX12_wearing_40 hw (fun hw => ?_)
      refine wm_iload_n hC 1 dX12_wearing_41 rfl ?_
      refine x_iadd hC dX12_wearing_42 hw (fun hw => ?_)
      refine wm_iload_n hC 0 dX12_wearing_43 rfl ?_
      refine x_iast2 hC kk_170 kn_170 dX12_wearing_44 hw (fun I4 hw => ?_)
      exact wm_return hC hE dX12_wearing_45 ⟨rfl, hw⟩
    · exact wm_return hC hE dX12_wearing_45 ⟨rfl, hw⟩
def p12_statement (I : mI) (J : mI) (Q : mI → mI → Prop) : Prop := (p12_lex I (fun I1 => (if (I1 159 8) ≤ 0 then (p12_isWord 422725643876 I1 J (fun r1 => (if r1 = 0 then (p12_isWord 109330211763570 I1 J (fun r2 => (if r2 = 0 then (p12_isWord 499967946343 I1 J (fun r3 => (if r3 = 0 then (p12_isWord 1818326117 I1 J (fun r4 => (if r4 = 0 then (p12_isWord 1852137842 I1 J (fun r5 => (if r5 = 0 then (p12_isWord 512801993331 I1 J (fun r6 => (if r6 = 0 then (p12_isWord 483006772069 I1 J (fun r7 => (if r7 = 0 then (p12_isWord 7499639 I1 J (fun r8 => (if r8 = 0 then (p12_isWord 126870908724595 I1 J (fun r9 => (if r9 = 0 then (p12_isWord 109330362692723 I1 J (fun r10 => (if r10 = 0 then (p12_isWord 444150998387 I1 J (fun r11 => (if r11 = 0 then (p12_blame 1 (I1 159 4) I1 (fun I2 => (Q I2 J))) else (p12_reading 2 I1 J (fun I3 J1 => (Q I3 J1)))))) else (p12_reading 1 I1 J (fun I4 J2 => (Q I4 J2)))))) else (p12_reading 0 I1 J (fun I5 J3 => (Q I5 J3)))))) else (p12_telling 100 I1 J (fun r12 I6 J4 => (((0 : Int) ≤ (I1 159 32) ∧ (I1 159 32) < (2 : Int)) ∧ wLet (up I6 172 (I1 159 32) r12) (fun I7 => (Q I7 J4)))))))) else (p12_telling 999 I1 J (fun r13 I8 J5 => (((0 : Int) ≤ (I1 159 32) ∧ (I1 159 32) < (2 : Int)) ∧ wLet (up I8 171 (I1 159 32) r13) (fun I9 => (Q I9 J5)))))))) else (p12_wearing I1 J (fun I10 J6 => (Q I10 J6)))))) else (p12_nearing I1 J (fun I11 J7 => (Q I11 J7)))))) else (p12_lateness I1 J (fun I12 J8 => (Q I12 J8)))))) else (p12_thinging I1 J (fun I13 J9 => (Q I13 J9)))))) else (p12_colouring I1 J (fun I14 J10 => (Q I14 J10)))))) else (p12_blinding I1 J (fun I15 J11 => (Q I15 J11)))))) else (Q I1 J))))
set_option maxRecDepth 20000 in
theorem c12_statement {ad : Nat → Nat} {n : Nat} {I J : mI} {R : mR} {Q : mI → mI → Prop}  (hRF : RF R)   (hw : p12_statement I J Q) : wMet yX12_statement cX12_statement 1 none 7 145 false ad n I J R [vr 159] (fun _ I' J' R' => (R' = R) ∧ Q I' J') := by
  refine wMet_of (by decide) (Nat.le_of_ble_eq_true rfl) (fun C hC hRm hE hS => ?_)
  refine (show WM C ad n I J R 0 0 0 [(0, vr 159)] [] from ?_)
  unfold p12_statement at hw
  refine wm_aload_n hC 0 dX12_statement_0 rfl (k_ne0 kk_159 (by decide)) ?_
  refine y_callV_v_I hC hRm noS ml_X12_241 kk_159 (c12_lex hRF  hw) (Nat.le_of_ble_eq_true rfl) (Nat.le_of_ble_eq_true rfl) ⟨Nat.zero_le _, Nat.zero_le _⟩ rfl (st := []) rfl (Nat.le_of_ble_eq_true rfl) dX12_statement_1 (fun I1 hw => ?_)
  refine wm_aload_n hC 0 dX12_statement_4 rfl (k_ne0 kk_159 (by decide)) ?_
  refine x_getI hC 8 fl_X12_36 rfl kk_159 dX12_statement_5 ?_
  refine wm_if_le (tgt := 12) hC dX12_statement_8 (by decide) hw (fun hw => ?_) (fun hw => ?_)
  · refine wm_aload_n hC 0 dX12_statement_12 rfl (k_ne0 kk_159 (by decide)) ?_
    refine wm_ldc2 hC (x := 422725643876) tc_X12_250 rfl dX12_statement_13 (k := ?_)
    refine y_callV_z_n hC hRm noS ml_X12_325 kk_159 (c12_isWord hRF  hw) (Nat.le_of_ble_eq_true rfl) (Nat.le_of_ble_eq_true rfl) ⟨Nat.zero_le _, Nat.zero_le _⟩ rfl (st := []) rfl (Nat.le_of_ble_eq_true rfl) dX12_statement_16 (fun r1 hw => ?_)
    refine wm_if_eq (tgt := 29) hC dX12_statement_19 (by decide) hw (fun hw => ?_) (fun hw => ?_)
    · refine wm_aload_n hC 0 dX12_statement_29 rfl (k_ne0 kk_159 (by decide)) ?_
      refine wm_ldc2 hC (x := 109330211763570) tc_X12_258 rfl dX12_statement_30 (k := ?_)
      refine y_callV_z_n hC hRm noS ml_X12_325 kk_159 (c12_isWord hRF  hw) (Nat.le_of_ble_eq_true rfl) (Nat.le_of_ble_eq_true rfl) ⟨Nat.zero_le _, Nat.zero_le _⟩ rfl (st := []) rfl (Nat.le_of_ble_eq_true rfl) dX12_statement_33 (fun r2 hw => ?_)
      refine wm_if_eq (tgt := 46) hC dX12_statement_36 (by decide) hw (fun hw => ?_) (fun hw => ?_)
      · refine wm_aload_n hC 0 dX12_statement_46 rfl (k_ne0 kk_159 (by decide)) ?_
        refine wm_ldc2 hC (x := 499967946343) tc_X12_262 rfl dX12_statement_47 (k := ?_)
        refine y_callV_z_n hC hRm noS ml_X12_325 kk_159 (c12_isWord hRF  hw) (Nat.le_of_ble_eq_true rfl) (Nat.le_of_ble_eq_true rfl) ⟨Nat.zero_le _, Nat.zero_le _⟩ rfl (st := []) rfl (Nat.le_of_ble_eq_true rfl) dX12_statement_50 (fun r3 hw => ?_)
        refine wm_if_eq (tgt := 63) hC dX12_statement_53 (by decide) hw (fun hw => ?_) (fun hw => ?_)
        · refine wm_aload_n hC 0 dX12_statement_63 rfl (k_ne0 kk_159 (by decide)) ?_
          refine wm_ldc2 hC (x := 1818326117) tc_X12_264 rfl dX12_statement_64 (k := ?_)
          refine y_callV_z_n hC hRm noS ml_X12_325 kk_159 (c12_isWord hRF  hw) (Nat.le_of_ble_eq_true rfl) (Nat.le_of_ble_eq_true rfl) ⟨Nat.zero_le _, Nat.zero_le _⟩ rfl (st := []) rfl (Nat.le_of_ble_eq_true rfl) dX12_statement_67 (fun r4 hw => ?_)
          refine wm_if_eq (tgt := 80) hC dX12_statement_70 (by decide) hw (fun hw => ?_) (fun hw => ?_)
          · refine wm_aload_n hC 0 dX12_statement_80 rfl (k_ne0 kk_159 (by decide)) ?_
            refine wm_ldc2 hC (x := 1852137842) tc_X12_266 rfl dX12_statement_81 (k := ?_)
            refine y_callV_z_n hC hRm noS ml_X12_325 kk_159 (c12_isWord hRF  hw) (Nat.le_of_ble_eq_true rfl) (Nat.le_of_ble_eq_true rfl) ⟨Nat.zero_le _, Nat.zero_le _⟩ rfl (st := []) rfl (Nat.le_of_ble_eq_true rfl) dX12_statement_84 (fun r5 hw => ?_)
            refine wm_if_eq (tgt := 97) hC dX12_statement_87 (by decide) hw (fun hw => ?_) (fun hw => ?_)
            · refine wm_aload_n hC 0 dX12_statement_97 rfl (k_ne0 kk_159 (by decide)) ?_
              refine wm_ldc2 hC (x := 512801993331) tc_X12_268 rfl dX12_statement_98 (k := ?_)
              refine y_callV_z_n hC hRm noS ml_X12_325 kk_159 (c12_isWord hRF  hw) (Nat.le_of_ble_eq_true rfl) (Nat.le_of_ble_eq_true rfl) ⟨Nat.zero_le _, Nat.zero_le _⟩ rfl (st := []) rfl (Nat.le_of_ble_eq_true rfl) dX12_statement_101 (fun r6 hw => ?_)
              refine wm_if_eq (tgt := 114) hC dX12_statement_104 (by decide) hw (fun hw => ?_) (fun hw => ?_)
              · refine wm_aload_n hC 0 dX12_statement_114 rfl (k_ne0 kk_159 (by decide)) ?_
                refine wm_ldc2 hC (x := 483006772069) tc_X12_270 rfl dX12_statement_115 (k := ?_)
                refine y_callV_z_n hC hRm noS ml_X12_325 kk_159 (c12_isWord hRF  hw) (Nat.le_of_ble_eq_true rfl) (Nat.le_of_ble_eq_true rfl) ⟨Nat.zero_le _, Nat.zero_le _⟩ rfl (st := []) rfl (Nat.le_of_ble_eq_true rfl) dX12_statement_118 (fun r7 hw => ?_)
                refine wm_if_eq (tgt := 143) hC dX12_statement_121 (by decide) hw (fun hw => ?_) (fun hw => ?_)
                · refine wm_aload_n hC 0 dX12_statement_143 rfl (k_ne0 kk_159 (by decide)) ?_
                  refine wm_ldc2 hC (x := 7499639) tc_X12_272 rfl dX12_statement_144 (k := ?_)
                  refine y_callV_z_n hC hRm noS ml_X12_325 kk_159 (c12_isWord hRF  hw) (Nat.le_of_ble_eq_true rfl) (Nat.le_of_ble_eq_true rfl) ⟨Nat.zero_le _, Nat.zero_le _⟩ rfl (st := []) rfl (Nat.le_of_ble_eq_true rfl) dX12_statement_147 (fun r8 hw => ?_)
                  refine wm_if_eq (tgt := 171) hC dX12_statement_150 (by decide) hw (fun hw => ?_) (fun hw => ?_)
                  · refine wm_aload_n hC 0 dX12_statement_171 rfl (k_ne0 kk_159 (by decide)) ?_
                    refine wm_ldc2 hC (x := 126870908724595) tc_X12_274 rfl dX12_statement_172 (k := ?_)
                    refine y_callV_z_n hC hRm noS ml_X12_325 kk_159 (c12_isWord hRF  hw) (Nat.le_of_ble_eq_true rfl) (Nat.le_of_ble_eq_true rfl) ⟨Nat.zero_le _, Nat.zero_le _⟩ rfl (st := []) rfl (Nat.le_of_ble_eq_true rfl) dX12_statement_175 (fun r9 hw => ?_)
                    refine wm_if_eq (tgt := 189) hC dX12_statement_178 (by decide) hw (fun hw => ?_) (fun hw => ?_)
                    · refine wm_aload_n hC 0 dX12_statement_189 rfl (k_ne0 kk_159 (by decide)) ?_
                      refine wm_ldc2 hC (x := 109330362692723) tc_X12_276 rfl dX12_statement_190 (k := ?_)
                      refine y_callV_z_n hC hRm noS ml_X12_325 kk_159 (c12_isWord hRF  hw) (Nat.le_of_ble_eq_true rfl) (Nat.le_of_ble_eq_true rfl) ⟨Nat.zero_le _, Nat.zero_le _⟩ rfl (st := []) rfl (Nat.le_of_ble_eq_true rfl) dX12_statement_193 (fun r10 hw => ?_)
                      refine wm_if_eq (tgt := 207) hC dX12_statement_196 (by decide) hw (fun hw => ?_) (fun hw => ?_)
                      · refine wm_aload_n hC 0 dX12_statement_207 rfl (k_ne0 kk_159 (by decide)) ?_
                        refine wm_ldc2 hC (x := 444150998387) tc_X12_278 rfl dX12_statement_208 (k := ?_)
                        refine y_callV_z_n hC hRm noS ml_X12_325 kk_159 (c12_isWord hRF  hw) (Nat.le_of_ble_eq_true rfl) (Nat.le_of_ble_eq_true rfl) ⟨Nat.zero_le _, Nat.zero_le _⟩ rfl (st := []) rfl (Nat.le_of_ble_eq_true rfl) dX12_statement_211 (fun r11 hw => ?_)
                        refine wm_if_eq (tgt := 225) hC dX12_statement_214 (by decide) hw (fun hw => ?_) (fun hw => ?_)
                        · refine wm_aload_n hC 0 dX12_statement_225 rfl (k_ne0 kk_159 (by decide)) ?_
                          refine wm_iconst hC dX12_statement_226 (k := ?_)
                          refine wm_aload_n hC 0 dX12_statement_227 rfl (k_ne0 kk_159 (by decide)) ?_
                          refine x_getI hC 4 fl_X12_23 rfl kk_159 dX12_statement_228 ?_
                          refine y_callV_v_I hC hRm noS ml_X12_230 kk_159 (c12_blame hRF  hw) (Nat.le_of_ble_eq_true rfl) (Nat.le_of_ble_eq_true rfl) ⟨Nat.zero_le _, Nat.zero_le _⟩ rfl (st := []) rfl (Nat.le_of_ble_eq_true rfl) dX12_statement_231 (fun I2 hw => ?_)
                          exact wm_return hC hE dX12_statement_234 ⟨rfl, hw⟩
                        · refine wm_aload_n hC 0 dX12_statement_217 rfl (k_ne0 kk_159 (by decide)) ?_
                          refine wm_iconst hC dX12_statement_218 (k := ?_)
                          refine y_callV_v_IJ hC hRm noS ml_X12_406 kk_159 (c12_reading hRF  hw) (Nat.le_of_ble_eq_true rfl) (Nat.le_of_ble_eq_true rfl) ⟨Nat.zero_le _, Nat.zero_le _⟩ rfl (st := []) rfl (Nat.le_of_ble_eq_true rfl) dX12_statement_219 (fun I3 J1 hw => ?_)
                          refine wm_goto (tgt := 234) hC dX12_statement_222 (by decide) ?_
                          exact wm_return hC hE dX12_statement_234 ⟨rfl, hw⟩
                      · refine wm_aload_n hC 0 dX12_statement_199 rfl (k_ne0 kk_159 (by decide)) ?_
                        refine wm_iconst hC dX12_statement_200 (k := ?_)
                        refine y_callV_v_IJ hC hRm noS ml_X12_406 kk_159 (c12_reading hRF  hw) (Nat.le_of_ble_eq_true rfl) (Nat.le_of_ble_eq_true rfl) ⟨Nat.zero_le _, Nat.zero_le _⟩ rfl (st := []) rfl (Nat.le_of_ble_eq_true rfl) dX12_statement_201 (fun I4 J2 hw => ?_)
                        refine wm_goto (tgt := 234) hC dX12_statement_204 (by decide) ?_
                        exact wm_return hC hE dX12_statement_234 ⟨rfl, hw⟩
                    · refine wm_aload_n hC 0 dX12_statement_181 rfl (k_ne0 kk_159 (by decide)) ?_
                      refine wm_iconst hC dX12_statement_182 (k := ?_)
                      refine y_callV_v_IJ hC hRm noS ml_X12_406 kk_159 (c12_reading hRF  hw) (Nat.le_of_ble_eq_true rfl) (Nat.le_of_ble_eq_true rfl) ⟨Nat.zero_le _, Nat.zero_le _⟩ rfl (st := []) rfl (Nat.le_of_ble_eq_true rfl) dX12_statement_183 (fun I5 J3 hw => ?_)
                      refine wm_goto (tgt := 234) hC dX12_statement_186 (by decide) ?_
                      exact wm_return hC hE dX12_statement_234 ⟨rfl, hw⟩
                  · refine wm_aload_n hC 0 dX12_statement_153 rfl (k_ne0 kk_159 (by decide)) ?_
                    refine x_getR3 hC 25 fl_X12_87 rfl kk_159 (rf_159_25 hRF) dX12_statement_154 ?_
                    refine wm_aload_n hC 0 dX12_statement_157 rfl (k_ne0 kk_159 (by decide)) ?_
                    refine x_getI hC 32 fl_X12_109 rfl kk_159 dX12_statement_158 ?_
                    refine wm_aload_n hC 0 dX12_statement_161 rfl (k_ne0 kk_159 (by decide)) ?_
                    refine wm_bipush hC dX12_statement_162 (k := ?_)
                    refine y_callV_i_IJ hC hRm noS ml_X12_403 kk_159 (c12_telling hRF  hw) (Nat.le_of_ble_eq_true rfl) (Nat.le_of_ble_eq_true rfl) ⟨Nat.zero_le _, Nat.zero_le _⟩ rfl (st := [vi (I1 159 32), vr 172]) rfl (Nat.le_of_ble_eq_true rfl) dX12_statement_164 (fun r12 I6 J4 hw => ?_)
                    refine x_iast2 hC kk_172 kn_172 dX12_statement_167 hw (fun I7 hw => ?_)
                    refine wm_goto (tgt := 234) hC dX12_statement_168 (by decide) ?_
                    exact wm_return hC hE dX12_statement_234 ⟨rfl, hw⟩
                · refine wm_aload_n hC 0 dX12_statement_124 rfl (k_ne0 kk_159 (by decide)) ?_
                  refine x_getR3 hC 24 fl_X12_84 rfl kk_159 (rf_159_24 hRF) dX12_statement_125 ?_
                  refine wm_aload_n hC 0 dX12_statement_128 rfl (k_ne0 kk_159 (by decide)) ?_
                  refine x_getI hC 32 fl_X12_109 rfl kk_159 dX12_statement_129 ?_
                  refine wm_aload_n hC 0 dX12_statement_132 rfl (k_ne0 kk_159 (by decide)) ?_
                  refine wm_sipush hC dX12_statement_133 (k := ?_)
                  refine y_callV_i_IJ hC hRm noS ml_X12_403 kk_159 (c12_telling hRF  hw) (Nat.le_of_ble_eq_true rfl) (Nat.le_of_ble_eq_true rfl) ⟨Nat.zero_le _, Nat.zero_le _⟩ rfl (st := [vi (I1 159 32), vr 171]) rfl (Nat.le_of_ble_eq_true rfl) dX12_statement_136 (fun r13 I8 J5 hw => ?_)
                  refine x_iast2 hC kk_171 kn_171 dX12_statement_139 hw (fun I9 hw => ?_)
                  refine wm_goto (tgt := 234) hC dX12_statement_140 (by decide) ?_
                  exact wm_return hC hE dX12_statement_234 ⟨rfl, hw⟩
              · refine wm_aload_n hC 0 dX12_statement_107 rfl (k_ne0 kk_159 (by decide)) ?_
                refine y_callV_v_IJ hC hRm noS ml_X12_400 kk_159 (c12_wearing hRF  hw) (Nat.le_of_ble_eq_true rfl) (Nat.le_of_ble_eq_true rfl) ⟨Nat.zero_le _, Nat.zero_le _⟩ rfl (st := []) rfl (Nat.le_of_ble_eq_true rfl) dX12_statement_108 (fun I10 J6 hw => ?_)
                refine wm_goto (tgt := 234) hC dX12_statement_111 (by decide) ?_
                exact wm_return hC hE dX12_statement_234 ⟨rfl, hw⟩
            · refine wm_aload_n hC 0 dX12_statement_90 rfl (k_ne0 kk_159 (by decide)) ?_
              refine y_callV_v_IJ hC hRm noS ml_X12_397 kk_159 (c12_nearing hRF  hw) (Nat.le_of_ble_eq_true rfl) (Nat.le_of_ble_eq_true rfl) ⟨Nat.zero_le _, Nat.zero_le _⟩ rfl (st := []) rfl (Nat.le_of_ble_eq_true rfl) dX12_statement_91 (fun I11 J7 hw => ?_)
              refine wm_goto (tgt := 234) hC dX12_statement_94 (by decide) ?_
              exact wm_return hC hE dX12_statement_234 ⟨rfl, hw⟩
          · refine wm_aload_n hC 0 dX12_statement_73 rfl (k_ne0 kk_159 (by decide)) ?_
            refine y_callV_v_IJ hC hRm noS ml_X12_394 kk_159 (c12_lateness hRF  hw) (Nat.le_of_ble_eq_true rfl) (Nat.le_of_ble_eq_true rfl) ⟨Nat.zero_le _, Nat.zero_le _⟩ rfl (st := []) rfl (Nat.le_of_ble_eq_true rfl) dX12_statement_74 (fun I12 J8 hw => ?_)
            refine wm_goto (tgt := 234) hC dX12_statement_77 (by decide) ?_
            exact wm_return hC hE dX12_statement_234 ⟨rfl, hw⟩
        · refine wm_aload_n hC 0 dX12_statement_56 rfl (k_ne0 kk_159 (by decide)) ?_
          refine y_callV_v_IJ hC hRm noS ml_X12_391 kk_159 (c12_thinging hRF  hw) (Nat.le_of_ble_eq_true rfl) (Nat.le_of_ble_eq_true rfl) ⟨Nat.zero_le _, Nat.zero_le _⟩ rfl (st := []) rfl (Nat.le_of_ble_eq_true rfl) dX12_statement_57 (fun I13 J9 hw => ?_)
          refine wm_goto (tgt := 234) hC dX12_statement_60 (by decide) ?_
          exact wm_return hC hE dX12_statement_234 ⟨rfl, hw⟩
      · refine wm_aload_n hC 0 dX12_statement_39 rfl (k_ne0 kk_159 (by decide)) ?_
        refine y_callV_v_IJ hC hRm noS ml_X12_388 kk_159 (c12_colouring hRF  hw) (Nat.le_of_ble_eq_true rfl) (Nat.le_of_ble_eq_true rfl) ⟨Nat.zero_le _, Nat.zero_le _⟩ rfl (st := []) rfl (Nat.le_of_ble_eq_true rfl) dX12_statement_40 (fun I14 J10 hw => ?_)
        refine wm_goto (tgt := 234) hC dX12_statement_43 (by decide) ?_
        exact wm_return hC hE dX12_statement_234 ⟨rfl, hw⟩
    · refine wm_aload_n hC 0 dX12_statement_22 rfl (k_ne0 kk_159 (by decide)) ?_
      refine y_callV_v_IJ hC hRm noS ml_X12_385 kk_159 (c12_blinding hRF  hw) (Nat.le_of_ble_eq_true rfl) (Nat.le_of_ble_eq_true rfl) ⟨Nat.zero_le _, Nat.zero_le _⟩ rfl (st := []) rfl (Nat.le_of_ble_eq_true rfl) dX12_statement_23 (fun I15 J11 hw => ?_)
      refine wm_goto (tgt := 234) hC dX12_statement_26 (by decide) ?_
      exact wm_return hC hE dX12_statement_234 ⟨rfl, hw⟩
  · exact wm_return hC hE dX12_statement_11 ⟨rfl, hw⟩
def p12_land_b170 (l1 : Int) (I : mI) (J : mI) (Q : Int → mI → mI → Prop) : Prop := (wLet (up I 159 10 (I 159 8)) (fun I18 => (wLet (up I18 159 11 (I18 159 9)) (fun I19 => (if (I19 159 8) ≤ 0 then (wLet (up I19 159 13 (I19 159 32)) (fun I20 => (p12_begin I20 (fun I21 => (Q l1 I21 J))))) else (p12_refuses 1 I19 (fun r1 I22 => (Q r1 I22 J))))))))
set_option maxRecDepth 20000 in
theorem w12_land_b170 {C : wX} {ad : Nat → Nat} {n : Nat} {I J : mI} {R : mR} {Q : Int → mI → mI → Prop} (hC : wOK C cX12_land 2 RX12) (hRm : wRm C 8 165 0 0) (hE : wEnd C (some .int) ad n (fun r I' J' R' => (R' = R) ∧ Q r I' J')) (hRF : RF R) {l1 : Int}     (hw : p12_land_b170 l1 I J Q) : WM C ad n I J R 0 0 170 [(0, vr 159), (1, vi l1)] [] := by
  unfold p12_land_b170 at hw
  refine wm_aload_n hC 0 dX12_land_170 rfl (k_ne0 kk_159 (by decide)) ?_
  refine wm_aload_n hC 0 dX12_land_171 rfl (k_ne0 kk_159 (by decide)) ?_
  refine x_getI hC 8 fl_X12_36 rfl kk_159 dX12_land_172 ?_
  refine x_putI hC 10 fl_X12_42 rfl kk_159 dX12_land_175 hw (fun I18 hw => ?_)
  refine wm_aload_n hC 0 dX12_land_178 rfl (k_ne0 kk_159 (by decide)) ?_
  refine wm_aload_n hC 0 dX12_land_179 rfl (k_ne0 kk_159 (by decide)) ?_
  refine x_getI hC 9 fl_X12_39 rfl kk_159 dX12_land_180 ?_
  refine x_putI hC 11 fl_X12_45 rfl kk_159 dX12_land_183 hw (fun I19 hw => ?_)
  refine wm_aload_n hC 0 dX12_land_186 rfl (k_ne0 kk_159 (by decide)) ?_
  refine x_getI hC 8 fl_X12_36 rfl kk_159 dX12_land_187 ?_
  refine wm_if_le (tgt := 199) hC dX12_land_190 (by decide) hw (fun hw => ?_) (fun hw => ?_)
  · refine wm_aload_n hC 0 dX12_land_199 rfl (k_ne0 kk_159 (by decide)) ?_
    refine wm_aload_n hC 0 dX12_land_200 rfl (k_ne0 kk_159 (by decide)) ?_
    refine x_getI hC 32 fl_X12_109 rfl kk_159 dX12_land_201 ?_
    refine x_putI hC 13 fl_X12_51 rfl kk_159 dX12_land_204 hw (fun I20 hw => ?_)
    refine wm_aload_n hC 0 dX12_land_207 rfl (k_ne0 kk_159 (by decide)) ?_
    refine y_callV_v_I hC hRm noS ml_X12_418 kk_159 (c12_begin hRF  hw) (Nat.le_of_ble_eq_true rfl) (Nat.le_of_ble_eq_true rfl) ⟨Nat.zero_le _, Nat.zero_le _⟩ rfl (st := []) rfl (Nat.le_of_ble_eq_true rfl) dX12_land_208 (fun I21 hw => ?_)
    refine wm_iload_n hC 1 dX12_land_211 rfl ?_
    exact wm_ireturn hC hE dX12_land_212 ⟨rfl, hw⟩
  · refine wm_aload_n hC 0 dX12_land_193 rfl (k_ne0 kk_159 (by decide)) ?_
    refine wm_iconst hC dX12_land_194 (k := ?_)
    refine y_callV_i_I hC hRm noS ml_X12_222 kk_159 (c12_refuses hRF  hw) (Nat.le_of_ble_eq_true rfl) (Nat.le_of_ble_eq_true rfl) ⟨Nat.zero_le _, Nat.zero_le _⟩ rfl (st := []) rfl (Nat.le_of_ble_eq_true rfl) dX12_land_195 (fun r1 I22 hw => ?_)
    exact wm_ireturn hC hE dX12_land_198 ⟨rfl, hw⟩
def p12_land_b141_body (Q : Int → mI → mI → Prop) (k141 : Int → mI → mI → Prop) (l1 : Int) (I : mI) (J : mI) : Prop := (if (I 159 8) = 0 then (if (I 159 3) = 0 then (p12_land_b170 l1 I J Q) else (p12_statement I J (fun I16 J2 => (rg (l1 + 1) ∧ (p12_finishes (l1 + 1) I16 J2 (fun I17 J3 => (k141 (l1 + 1) I17 J3))))))) else (p12_land_b170 l1 I J Q))
def p12_land_b141 (Q : Int → mI → mI → Prop) : Nat → Int → mI → mI → Prop
  | 0 => fun _ _ _ => False
  | f + 1 => fun l1 I J => p12_land_b141_body Q (p12_land_b141 Q f) l1 I J
set_option maxRecDepth 20000 in
theorem w12_land_b141_body {C : wX} {ad : Nat → Nat} {n : Nat} {I J : mI} {R : mR} {Q : Int → mI → mI → Prop} (hC : wOK C cX12_land 2 RX12) (hRm : wRm C 8 165 0 0) (hE : wEnd C (some .int) ad n (fun r I' J' R' => (R' = R) ∧ Q r I' J')) (hRF : RF R)  {l1 : Int}     {k141 : Int → mI → mI → Prop} (kk141 : ∀ (y1 : Int) (I' : mI) (J' : mI), k141 y1 I' J' → WM C ad n I' J' R 0 0 141 [(0, vr 159), (1, vi y1)] []) (hw : p12_land_b141_body Q k141 l1 I J) : WM C ad n I J R 0 0 141 [(0, vr 159), (1, vi l1)] [] := by
  unfold p12_land_b141_body at hw
  refine wm_aload_n hC 0 dX12_land_141 rfl (k_ne0 kk_159 (by decide)) ?_
  refine x_getI hC 8 fl_X12_36 rfl kk_159 dX12_land_142 ?_
  refine wm_if_ne (tgt := 170) hC dX12_land_145 (by decide) hw (fun hw => ?_) (fun hw => ?_)
  · refine wm_aload_n hC 0 dX12_land_148 rfl (k_ne0 kk_159 (by decide)) ?_
    refine x_getI hC 3 fl_X12_20 rfl kk_159 dX12_land_149 ?_
    refine wm_if_eq (tgt := 170) hC dX12_land_152 (by decide) hw (fun hw => ?_) (fun hw => ?_)
    · exact w12_land_b170 hC hRm hE hRF  hw
    · refine wm_aload_n hC 0 dX12_land_155 rfl (k_ne0 kk_159 (by decide)) ?_
      refine y_callV_v_IJ hC hRm noS ml_X12_412 kk_159 (c12_statement hRF  hw) (Nat.le_of_ble_eq_true rfl) (Nat.le_of_ble_eq_true rfl) ⟨Nat.zero_le _, Nat.zero_le _⟩ rfl (st := []) rfl (Nat.le_of_ble_eq_true rfl) dX12_land_156 (fun I16 J2 hw => ?_)
      refine x_iinc hC 1 dX12_land_159 rfl (by decide) (L2 := [(1, vi (l1 + 1)), (0, vr 159)]) rfl hw (fun hw => ?_)
      refine wm_aload_n hC 1 dX12_land_162 rfl (k_ne0 kk_159 (by decide)) ?_
      refine wm_iload_n hC 0 dX12_land_163 rfl ?_
      refine y_callV_v_IJ hC hRm noS ml_X12_415 kk_159 (c12_finishes hRF  hw) (Nat.le_of_ble_eq_true rfl) (Nat.le_of_ble_eq_true rfl) ⟨Nat.zero_le _, Nat.zero_le _⟩ rfl (st := []) rfl (Nat.le_of_ble_eq_true rfl) dX12_land_164 (fun I17 J3 hw => ?_)
      refine wm_goto (tgt := 141) hC dX12_land_167 (by decide) ?_
      refine wm_sub [1, 0] (L2 := [(0, vr 159), (1, vi (l1 + 1))]) rfl ?_
      exact kk141 _ _ _ hw
  · exact w12_land_b170 hC hRm hE hRF  hw
set_option maxRecDepth 20000 in
theorem w12_land_b141 {C : wX} {ad : Nat → Nat} {n : Nat} {R : mR} {Q : Int → mI → mI → Prop} (hC : wOK C cX12_land 2 RX12) (hRm : wRm C 8 165 0 0) (hE : wEnd C (some .int) ad n (fun r I' J' R' => (R' = R) ∧ Q r I' J')) (hRF : RF R)      : ∀ (f : Nat) (l1 : Int) (I : mI) (J : mI), p12_land_b141 Q f l1 I J → WM C ad n I J R 0 0 141 [(0, vr 159), (1, vi l1)] [] := by
  intro f
  induction f with
  | zero => intro l1 I J hw; exact hw.elim
  | succ f ih => intro l1 I J hw; exact w12_land_b141_body hC hRm hE hRF  (fun a0 a1 a2 aw => ih a0 a1 a2 aw) hw
def p12_land_b105_body (J : mI) (Q : Int → mI → mI → Prop) (k105 : Int → mI → Prop) (l1 : Int) (I : mI) : Prop := (rg (3 * (I 159 32)) ∧ (rg ((3 * (I 159 32)) + 3) ∧ (if ((3 * (I 159 32)) + 3) ≤ l1 then (wLet (up I 159 31 0) (fun I13 => (p12_ahead I13 J (fun I14 J1 => (∃ f, p12_land_b141 Q f 0 I14 J1))))) else (((0 : Int) ≤ l1 ∧ l1 < (6 : Int)) ∧ wLet (up I 173 l1 (-1)) (fun I15 => (rg (l1 + 1) ∧ (k105 (l1 + 1) I15)))))))
def p12_land_b105 (J : mI) (Q : Int → mI → mI → Prop) : Nat → Int → mI → Prop
  | 0 => fun _ _ => False
  | f + 1 => fun l1 I => p12_land_b105_body J Q (p12_land_b105 J Q f) l1 I
set_option maxRecDepth 20000 in
theorem w12_land_b105_body {C : wX} {ad : Nat → Nat} {n : Nat} {I J : mI} {R : mR} {Q : Int → mI → mI → Prop} (hC : wOK C cX12_land 2 RX12) (hRm : wRm C 8 165 0 0) (hE : wEnd C (some .int) ad n (fun r I' J' R' => (R' = R) ∧ Q r I' J')) (hRF : RF R)  {l1 : Int}     {k105 : Int → mI → Prop} (kk105 : ∀ (y1 : Int) (I' : mI), k105 y1 I' → WM C ad n I' J R 0 0 105 [(0, vr 159), (1, vi y1)] []) (hw : p12_land_b105_body J Q k105 l1 I) : WM C ad n I J R 0 0 105 [(0, vr 159), (1, vi l1)] [] := by
  unfold p12_land_b105_body at hw
  refine wm_iload_n hC 1 dX12_land_105 rfl ?_
  refine wm_iconst hC dX12_land_106 (k := ?_)
  refine wm_aload_n hC 0 dX12_land_107 rfl (k_ne0 kk_159 (by decide)) ?_
  refine x_getI hC 32 fl_X12_109 rfl kk_159 dX12_land_108 ?_
  refine x_imul hC dX12_land_111 hw (fun hw => ?_)
  refine wm_iconst hC dX12_land_112 (k := ?_)
  refine x_iadd hC dX12_land_113 hw (fun hw => ?_)
  refine wm_icmp_ge (tgt := 130) hC dX12_land_114 (by decide) hw (fun hw => ?_) (fun hw => ?_)
  · refine wm_aload_n hC 0 dX12_land_130 rfl (k_ne0 kk_159 (by decide)) ?_
    refine wm_iconst hC dX12_land_131 (k := ?_)
    refine x_putI hC 31 fl_X12_106 rfl kk_159 dX12_land_132 hw (fun I13 hw => ?_)
    refine wm_iconst hC dX12_land_135 (k := ?_)
    refine wm_istore_n hC dX12_land_136 (by decide) (L2 := [(1, vi 0), (0, vr 159)]) rfl ?_
    refine wm_aload_n hC 1 dX12_land_137 rfl (k_ne0 kk_159 (by decide)) ?_
    refine y_callV_v_IJ hC hRm noS ml_X12_247 kk_159 (c12_ahead hRF  hw) (Nat.le_of_ble_eq_true rfl) (Nat.le_of_ble_eq_true rfl) ⟨Nat.zero_le _, Nat.zero_le _⟩ rfl (st := []) rfl (Nat.le_of_ble_eq_true rfl) dX12_land_138 (fun I14 J1 hw => ?_)
    obtain ⟨f, hw⟩ := hw
    refine wm_sub [1, 0] (L2 := [(0, vr 159), (1, vi 0)]) rfl ?_
    exact w12_land_b141 hC hRm hE hRF  f _ _ _ hw
  · refine wm_aload_n hC 0 dX12_land_117 rfl (k_ne0 kk_159 (by decide)) ?_
    refine x_getR3 hC 26 fl_X12_90 rfl kk_159 (rf_159_26 hRF) dX12_land_118 ?_
    refine wm_iload_n hC 1 dX12_land_121 rfl ?_
    refine wm_iconst hC dX12_land_122 (k := ?_)
    refine x_iast2 hC kk_173 kn_173 dX12_land_123 hw (fun I15 hw => ?_)
    refine x_iinc hC 1 dX12_land_124 rfl (by decide) (L2 := [(1, vi (l1 + 1)), (0, vr 159)]) rfl hw (fun hw => ?_)
    refine wm_goto (tgt := 105) hC dX12_land_127 (by decide) ?_
    refine wm_sub [1, 0] (L2 := [(0, vr 159), (1, vi (l1 + 1))]) rfl ?_
    exact kk105 _ _ hw
set_option maxRecDepth 20000 in
theorem w12_land_b105 {C : wX} {ad : Nat → Nat} {n : Nat} {J : mI} {R : mR} {Q : Int → mI → mI → Prop} (hC : wOK C cX12_land 2 RX12) (hRm : wRm C 8 165 0 0) (hE : wEnd C (some .int) ad n (fun r I' J' R' => (R' = R) ∧ Q r I' J')) (hRF : RF R)      : ∀ (f : Nat) (l1 : Int) (I : mI), p12_land_b105 J Q f l1 I → WM C ad n I J R 0 0 105 [(0, vr 159), (1, vi l1)] [] := by
  intro f
  induction f with
  | zero => intro l1 I hw; exact hw.elim
  | succ f ih => intro l1 I hw; exact w12_land_b105_body hC hRm hE hRF  (fun a0 a1 aw => ih a0 a1 aw) hw
def p12_land (I : mI) (J : mI) (Q : Int → mI → mI → Prop) : Prop := (wLet (up I 159 2 (I 159 1)) (fun I1 => (wLet (up I1 159 1 0) (fun I2 => (wLet (up I2 159 5 0) (fun I3 => (wLet (up I3 159 8 0) (fun I4 => (wLet (up I4 159 9 (-1)) (fun I5 => (rg (1 - (I5 159 13)) ∧ (wLet (up I5 159 32 (1 - (I5 159 13))) (fun I6 => (((0 : Int) ≤ (I6 159 32) ∧ (I6 159 32) < (2 : Int)) ∧ wLet (up I6 161 (I6 159 32) 0) (fun I7 => (((0 : Int) ≤ (I7 159 32) ∧ (I7 159 32) < (2 : Int)) ∧ wLet (up I7 163 (I7 159 32) 0) (fun I8 => (((0 : Int) ≤ (I8 159 32) ∧ (I8 159 32) < (2 : Int)) ∧ wLet (up I8 164 (I8 159 32) 0) (fun I9 => (((0 : Int) ≤ (I9 159 32) ∧ (I9 159 32) < (2 : Int)) ∧ wLet (up I9 167 (I9 159 32) 0) (fun I10 => (((0 : Int) ≤ (I10 159 32) ∧ (I10 159 32) < (2 : Int)) ∧ wLet (up I10 171 (I10 159 32) 0) (fun I11 => (((0 : Int) ≤ (I11 159 32) ∧ (I11 159 32) < (2 : Int)) ∧ wLet (up I11 172 (I11 159 32) 0) (fun I12 => (rg (3 * (I12 159 32)) ∧ (∃ f, p12_land_b105 J Q f (3 * (I12 159 32)) I12)))))))))))))))))))))))))))
set_option maxRecDepth 20000 in
theorem c12_land {ad : Nat → Nat} {n : Nat} {I J : mI} {R : mR} {Q : Int → mI → mI → Prop}  (hRF : RF R)   (hw : p12_land I J Q) : wMet yX12_land cX12_land 2 (some .int) 8 165 false ad n I J R [vr 159] (fun r I' J' R' => (R' = R) ∧ Q r I' J') := by
  refine wMet_of (by decide) (Nat.le_of_ble_eq_true rfl) (fun C hC hRm hE hS => ?_)
  refine (show WM C ad n I J R 0 0 0 [(0, vr 159)] [] from ?_)
  unfold p12_land at hw
  refine wm_aload_n hC 0 dX12_land_0 rfl (k_ne0 kk_159 (by decide)) ?_
  refine wm_aload_n hC 0 dX12_land_1 rfl (k_ne0 kk_159 (by decide)) ?_
  refine x_getI hC 1 fl_X12_13 rfl kk_159 dX12_land_2 ?_
  refine x_putI hC 2 fl_X12_17 rfl kk_159 dX12_land_5 hw (fun I1 hw => ?_)
  refine wm_aload_n hC 0 dX12_land_8 rfl (k_ne0 kk_159 (by decide)) ?_
  refine wm_iconst hC dX12_land_9 (k := ?_)
  refine x_putI hC 1 fl_X12_13 rfl kk_159 dX12_land_10 hw (fun I2 hw => ?_)
  refine wm_aload_n hC 0 dX12_land_13 rfl (k_ne0 kk_159 (by decide)) ?_
  refine wm_iconst hC dX12_land_14 (k := ?_)
  refine x_putI hC 5 fl_X12_26 rfl kk_159 dX12_land_15 hw (fun I3 hw => ?_)
  refine wm_aload_n hC 0 dX12_land_18 rfl (k_ne0 kk_159 (by decide)) ?_
  refine wm_iconst hC dX12_land_19 (k := ?_)
  refine x_putI hC 8 fl_X12_36 rfl kk_159 dX12_land_20 hw (fun I4 hw => ?_)
  refine wm_aload_n hC 0 dX12_land_23 rfl (k_ne0 kk_159 (by decide)) ?_
  refine wm_iconst hC dX12_land_24 (k := ?_)
  refine x_putI hC 9 fl_X12_39 rfl kk_159 dX12_land_25 hw (fun I5 hw => ?_)
  refine wm_aload_n hC 0 dX12_land_28 rfl (k_ne0 kk_159 (by decide)) ?_
  refine wm_iconst hC dX12_land_29 (k := ?_)
  refine wm_aload_n hC 0 dX12_land_30 rfl (k_ne0 kk_159 (by decide)) ?_
  refine x_getI hC 13 fl_X12_51 rfl kk_159 dX12_land_31 ?_
  refine x_isub hC dX12_land_34 hw (fun hw => ?_)
  refine x_putI hC 32 fl_X12_109 rfl kk_159 dX12_land_35 hw (fun I6 hw => ?_)
  refine wm_aload_n hC 0 dX12_land_38 rfl (k_ne0 kk_159 (by decide)) ?_
  refine x_getR3 hC 14 fl_X12_54 rfl kk_159 (rf_159_14 hRF) dX12_land_39 ?_
  refine wm_aload_n hC 0 dX12_land_42 rfl (k_ne0 kk_159 (by decide)) ?_
  refine x_getI hC 32 fl_X12_109 rfl kk_159 dX12_land_43 ?_
  refine wm_iconst hC dX12_land_46 (k := ?_)
  refine x_iast2 hC kk_161 kn_161 dX12_land_47 hw (fun I7 hw => ?_)
  refine wm_aload_n hC 0 dX12_land_48 rfl (k_ne0 kk_159 (by decide)) ?_
  refine x_getR3 hC 16 fl_X12_60 rfl kk_159 (rf_159_16 hRF) dX12_land_49 ?_
  refine wm_aload_n hC 0 dX12_land_52 rfl (k_ne0 kk_159 (by decide)) ?_
  refine x_getI hC 32 fl_X12_109 rfl kk_159 dX12_land_53 ?_
  refine wm_iconst hC dX12_land_56 (k := ?_)
  refine x_iast2 hC kk_163 kn_163 dX12_land_57 hw (fun I8 hw => ?_)
  refine wm_aload_n hC 0 dX12_land_58 rfl (k_ne0 kk_159 (by decide)) ?_
  refine x_getR3 hC 17 fl_X12_63 rfl kk_159 (rf_159_17 hRF) dX12_land_59 ?_
  refine wm_aload_n hC 0 dX12_land_62 rfl (k_ne0 kk_159 (by decide)) ?_
  refine x_getI hC 32 fl_X12_109 rfl kk_159 dX12_land_63 ?_
  refine wm_iconst hC dX12_land_66 (k := ?_)
  refine x_iast2 hC kk_164 kn_164 dX12_land_67 hw (fun I9 hw => ?_)
  refine wm_aload_n hC 0 dX12_land_68 rfl (k_ne0 kk_159 (by decide)) ?_
  refine x_getR3 hC 20 fl_X12_72 rfl kk_159 (rf_159_20 hRF) dX12_land_69 ?_
  refine wm_aload_n hC 0 dX12_land_72 rfl (k_ne0 kk_159 (by decide)) ?_
  refine x_getI hC 32 fl_X12_109 rfl kk_159 dX12_land_73 ?_
  refine wm_iconst hC dX12_land_76 (k := ?_)
  refine x_iast2 hC kk_167 kn_167 dX12_land_77 hw (fun I10 hw => ?_)
  refine wm_aload_n hC 0 dX12_land_78 rfl (k_ne0 kk_159 (by decide)) ?_
  refine x_getR3 hC 24 fl_X12_84 rfl kk_159 (rf_159_24 hRF) dX12_land_79 ?_
  refine wm_aload_n hC 0 dX12_land_82 rfl (k_ne0 kk_159 (by decide)) ?_
  refine x_getI hC 32 fl_X12_109 rfl kk_159 dX12_land_83 ?_
  refine wm_iconst hC dX12_land_86 (k := ?_)
  refine x_iast2 hC kk_171 kn_171 dX12_land_87 hw (fun I11 hw => ?_)
  refine wm_aload_n hC 0 dX12_land_88 rfl (k_ne0 kk_159 (by decide)) ?_
  refine x_getR3 hC 25 fl_X12_87 rfl kk_159 (rf_159_25 hRF) dX12_land_89 ?_
  refine wm_aload_n hC 0 dX12_land_92 rfl (k_ne0 kk_159 (by decide)) ?_
  refine x_getI hC 32 fl_X12_109 rfl kk_159 dX12_land_93 ?_
  refine wm_iconst hC dX12_land_96 (k := ?_)
  refine x_iast2 hC kk_172 kn_172 dX12_land_97 hw (fun I12 hw => ?_)
  refine wm_iconst hC dX12_land_98 (k := ?_)
  refine wm_aload_n hC 0 dX12_land_99 rfl (k_ne0 kk_159 (by decide)) ?_
  refine x_getI hC 32 fl_X12_109 rfl kk_159 dX12_land_100 ?_
  refine x_imul hC dX12_land_103 hw (fun hw => ?_)
  refine wm_istore_n hC dX12_land_104 (by decide) (L2 := [(1, vi (3 * (I12 159 32))), (0, vr 159)]) rfl ?_
  obtain ⟨f, hw⟩ := hw
  refine wm_sub [1, 0] (L2 := [(0, vr 159), (1, vi (3 * (I12 159 32)))]) rfl ?_
  exact w12_land_b105 hC hRm hE hRF  f _ _ hw
