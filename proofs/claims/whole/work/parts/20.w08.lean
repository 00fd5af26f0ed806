def P12_must_b21 (l0 : Nat) (I : mI) (J : mI) (R : mR) (Q : mI → mI → Prop) : Prop := (if (I l0 8) = 0 then (P12_ahead l0 I J R (fun I3 J1 => (Q I3 J1))) else (Q I J))
set_option maxRecDepth 20000 in
theorem W12_must_b21 {C : wX} {ad : Nat → Nat} {n : Nat} {I J : mI} {R : mR} {Q : mI → mI → Prop} (hC : wOK C cX12_must 2 RX12) (hRm : wRm C 3 57 0 0) (hE : wEnd C none ad n (fun _ I' J' R' => (R' = R) ∧ Q I' J')) {l0 : Nat}   (hk0 : kK l0 = 12)  (hw : P12_must_b21 l0 I J R Q) : WM C ad n I J R 0 0 21 [(0, vr l0)] [] := by
  unfold P12_must_b21 at hw
  refine wm_aload_n hC 0 dX12_must_21 rfl (k_ne0 hk0 (by decide)) ?_
  refine x_getI hC 8 fl_X12_36 rfl hk0 dX12_must_22 ?_
  refine wm_if_ne (tgt := 32) hC dX12_must_25 (by decide) hw (fun hw => ?_) (fun hw => ?_)
  · refine wm_aload_n hC 0 dX12_must_28 rfl (k_ne0 hk0 (by decide)) ?_
    refine y_callV_v_IJ hC hRm noS ml_X12_247 hk0 (C12_ahead hk0 hw) (Nat.le_of_ble_eq_true rfl) (Nat.le_of_ble_eq_true rfl) ⟨Nat.zero_le _, Nat.zero_le _⟩ rfl (st := []) rfl (Nat.le_of_ble_eq_true rfl) dX12_must_29 (fun I3 J1 hw => ?_)
    exact wm_return hC hE dX12_must_32 ⟨rfl, hw⟩
  · exact wm_return hC hE dX12_must_32 ⟨rfl, hw⟩
def P12_must (l0 : Nat) (l1 : Int) (I : mI) (J : mI) (R : mR) (Q : mI → mI → Prop) : Prop := (P12_lex l0 I (fun I1 => (P12_isSign l0 l1 I1 (fun r1 => (if r1 = 0 then (P12_blame l0 1 (I1 l0 4) I1 (fun I2 => (P12_must_b21 l0 I2 J R Q))) else (P12_must_b21 l0 I1 J R Q))))))
set_option maxRecDepth 20000 in
theorem C12_must {ad : Nat → Nat} {n : Nat} {I J : mI} {R : mR} {Q : mI → mI → Prop}  {l0 : Nat} {l1 : Int} (hk0 : kK l0 = 12) (hw : P12_must l0 l1 I J R Q) : wMet yX12_must cX12_must 2 none 3 57 false ad n I J R [vr l0, vi l1] (fun _ I' J' R' => (R' = R) ∧ Q I' J') := by
  refine wMet_of (by decide) (Nat.le_of_ble_eq_true rfl) (fun C hC hRm hE hS => ?_)
  refine (show WM C ad n I J R 0 0 0 [(0, vr l0), (1, vi l1)] [] from ?_)
  unfold P12_must at hw
  refine wm_aload_n hC 0 dX12_must_0 rfl (k_ne0 hk0 (by decide)) ?_
  refine y_callV_v_I hC hRm noS ml_X12_241 hk0 (C12_lex hk0 hw) (Nat.le_of_ble_eq_true rfl) (Nat.le_of_ble_eq_true rfl) ⟨Nat.zero_le _, Nat.zero_le _⟩ rfl (st := []) rfl (Nat.le_of_ble_eq_true rfl) dX12_must_1 (fun I1 hw => ?_)
  refine wm_aload_n hC 0 dX12_must_4 rfl (k_ne0 hk0 (by decide)) ?_
  refine wm_iload_n hC 1 dX12_must_5 rfl ?_
  refine y_callV_z_n hC hRm noS ml_X12_244 hk0 (C12_isSign hk0 hw) (Nat.le_of_ble_eq_true rfl) (Nat.le_of_ble_eq_true rfl) ⟨Nat.zero_le _, Nat.zero_le _⟩ rfl (st := []) rfl (Nat.le_of_ble_eq_true rfl) dX12_must_6 (fun r1 hw => ?_)
  refine wm_if_ne (tgt := 21) hC dX12_must_9 (by decide) hw (fun hw => ?_) (fun hw => ?_)
  · refine wm_aload_n hC 0 dX12_must_12 rfl (k_ne0 hk0 (by decide)) ?_
    refine wm_iconst hC dX12_must_13 (k := ?_)
    refine wm_aload_n hC 0 dX12_must_14 rfl (k_ne0 hk0 (by decide)) ?_
    refine x_getI hC 4 fl_X12_23 rfl hk0 dX12_must_15 ?_
    refine y_callV_v_I hC hRm noS ml_X12_230 hk0 (C12_blame hk0 hw) (Nat.le_of_ble_eq_true rfl) (Nat.le_of_ble_eq_true rfl) ⟨Nat.zero_le _, Nat.zero_le _⟩ rfl (st := []) rfl (Nat.le_of_ble_eq_true rfl) dX12_must_18 (fun I2 hw => ?_)
    refine wm_sub [0] (L2 := [(0, vr l0)]) rfl ?_
    exact W12_must_b21 hC hRm hE hk0 hw
  · refine wm_sub [0] (L2 := [(0, vr l0)]) rfl ?_
    exact W12_must_b21 hC hRm hE hk0 hw
def P12_isOwn (l0 : Nat) (l1 : Int)  (Q : Int → Prop) : Prop := (if l1 = 422725643876 then (Q 1) else (if l1 = 2002874989 then (Q 1) else (if l1 = 1819243876 then (Q 1) else (if l1 = 1684366704 then (Q 1) else (if l1 = 109330211763570 then (Q 1) else (if l1 = 1668248436 then (Q 1) else (if l1 = 499967946343 then (Q 1) else (if l1 = 1818326117 then (Q 1) else (if l1 = 1852137842 then (Q 1) else (if l1 = 512801993331 then (Q 1) else (if l1 = 483006772069 then (Q 1) else (if l1 = 7499639 then (Q 1) else (if l1 = 126870908724595 then (Q 1) else (if l1 = 109330362692723 then (Q 1) else (if l1 = 444150998387 then (Q 1) else (if l1 = 2036687218 then (Q 1) else (if l1 = 1836019556 then (Q 1) else (if l1 = 469786452840 then (Q 1) else (if l1 = 2003792494 then (Q 1) else (if l1 = 448377483876 then (Q 1) else (if l1 = 1650553445 then (Q 1) else (if l1 = 26982 then (Q 1) else (if l1 = 28530 then (Q 1) else (if l1 = 6385252 then (Q 1) else (if l1 = 7237492 then (Q 1) else (if l1 = 6384748 then (Q 1) else (if l1 = 7170414 then (Q 1) else (if l1 = 7168376 then (Q 1) else (Q 0)))))))))))))))))))))))))))))
set_option maxRecDepth 20000 in
theorem C12_isOwn {ad : Nat → Nat} {n : Nat} {I J : mI} {R : mR} {Q : Int → Prop}  {l0 : Nat} {l1 : Int} (hk0 : kK l0 = 12) (hw : P12_isOwn l0 l1 Q) : wMet yX12_isOwn cX12_isOwn 3 (some .boolean) 1 12 false ad n I J R [vr l0, vl l1] (fun r I' J' R' => (I' = I ∧ J' = J ∧ R' = R) ∧ Q r) := by
  refine wMet_of (by decide) (Nat.le_of_ble_eq_true rfl) (fun C hC hRm hE hS => ?_)
  refine (show WM C ad n I J R 0 0 0 [(0, vr l0), (1, vl l1)] [] from ?_)
  unfold P12_isOwn at hw
  refine wm_lload_n hC 1 dX12_isOwn_0 rfl ?_
  refine wm_ldc2 hC (x := 422725643876) tc_X12_250 rfl dX12_isOwn_1 (k := ?_)
  refine wm_lcmp_eq (tgt := 40) hC dX12_isOwn_4 dX12_isOwn_5 (by decide) hw (fun hw => ?_) (fun hw => ?_)
  · refine wm_iconst hC dX12_isOwn_40 (k := ?_)
    exact wm_zreturn hC hE (Or.inr rfl) dX12_isOwn_41 ⟨⟨rfl, rfl, rfl⟩, hw⟩
  · refine wm_lload_n hC 1 dX12_isOwn_8 rfl ?_
    refine wm_ldc2 hC (x := 2002874989) tc_X12_252 rfl dX12_isOwn_9 (k := ?_)
    refine wm_lcmp_eq (tgt := 40) hC dX12_isOwn_12 dX12_isOwn_13 (by decide) hw (fun hw => ?_) (fun hw => ?_)
    · refine wm_iconst hC dX12_isOwn_40 (k := ?_)
      exact wm_zreturn hC hE (Or.inr rfl) dX12_isOwn_41 ⟨⟨rfl, rfl, rfl⟩, hw⟩
    · refine wm_lload_n hC 1 dX12_isOwn_16 rfl ?_
      refine wm_ldc2 hC (x := 1819243876) tc_X12_254 rfl dX12_isOwn_17 (k := ?_)
      refine wm_lcmp_eq (tgt := 40) hC dX12_isOwn_20 dX12_isOwn_21 (by decide) hw (fun hw => ?_) (fun hw => ?_)
      · refine wm_iconst hC dX12_isOwn_40 (k := ?_)
        exact wm_zreturn hC hE (Or.inr rfl) dX12_isOwn_41 ⟨⟨rfl, rfl, rfl⟩, hw⟩
      · refine wm_lload_n hC 1 dX12_isOwn_24 rfl ?_
        refine wm_ldc2 hC (x := 1684366704) tc_X12_256 rfl dX12_isOwn_25 (k := ?_)
        refine wm_lcmp_eq (tgt := 40) hC dX12_isOwn_28 dX12_isOwn_29 (by decide) hw (fun hw => ?_) (fun hw => ?_)
        · refine wm_iconst hC dX12_isOwn_40 (k := ?_)
          exact wm_zreturn hC hE (Or.inr rfl) dX12_isOwn_41 ⟨⟨rfl, rfl, rfl⟩, hw⟩
        · refine wm_lload_n hC 1 dX12_isOwn_32 rfl ?_
          refine wm_ldc2 hC (x := 109330211763570) tc_X12_258 rfl dX12_isOwn_33 (k := ?_)
          refine wm_lcmp_ne (tgt := 42) hC dX12_isOwn_36 dX12_isOwn_37 (by decide) hw (fun hw => ?_) (fun hw => ?_)
          · refine wm_iconst hC dX12_isOwn_40 (k := ?_)
            exact wm_zreturn hC hE (Or.inr rfl) dX12_isOwn_41 ⟨⟨rfl, rfl, rfl⟩, hw⟩
          · refine wm_lload_n hC 1 dX12_isOwn_42 rfl ?_
            refine wm_ldc2 hC (x := 1668248436) tc_X12_260 rfl dX12_isOwn_43 (k := ?_)
            refine wm_lcmp_eq (tgt := 82) hC dX12_isOwn_46 dX12_isOwn_47 (by decide) hw (fun hw => ?_) (fun hw => ?_)
            · refine wm_iconst hC dX12_isOwn_82 (k := ?_)
              exact wm_zreturn hC hE (Or.inr rfl) dX12_isOwn_83 ⟨⟨rfl, rfl, rfl⟩, hw⟩
            · refine wm_lload_n hC 1 dX12_isOwn_50 rfl ?_
              refine wm_ldc2 hC (x := 499967946343) tc_X12_262 rfl dX12_isOwn_51 (k := ?_)
              refine wm_lcmp_eq (tgt := 82) hC dX12_isOwn_54 dX12_isOwn_55 (by decide) hw (fun hw => ?_) (fun hw => ?_)
              · refine wm_iconst hC dX12_isOwn_82 (k := ?_)
                exact wm_zreturn hC hE (Or.inr rfl) dX12_isOwn_83 ⟨⟨rfl, rfl, rfl⟩, hw⟩
              · refine wm_lload_n hC 1 dX12_isOwn_58 rfl ?_
                refine wm_ldc2 hC (x := 1818326117) tc_X12_264 rfl dX12_isOwn_59 (k := ?_)
                refine wm_lcmp_eq (tgt := 82) hC dX12_isOwn_62 dX12_isOwn_63 (by decide) hw (fun hw => ?_) (fun hw => ?_)
                · refine wm_iconst hC dX12_isOwn_82 (k := ?_)
                  exact wm_zreturn hC hE (Or.inr rfl) dX12_isOwn_83 ⟨⟨rfl, rfl, rfl⟩, hw⟩
                · refine wm_lload_n hC 1 dX12_isOwn_66 rfl ?_
                  refine wm_ldc2 hC (x := 1852137842) tc_X12_266 rfl dX12_isOwn_67 (k := ?_)
                  refine wm_lcmp_eq (tgt := 82) hC dX12_isOwn_70 dX12_isOwn_71 (by decide) hw (fun hw => ?_) (fun hw => ?_)
                  · refine wm_iconst hC dX12_isOwn_82 (k := ?_)
                    exact wm_zreturn hC hE (Or.inr rfl) dX12_isOwn_83 ⟨⟨rfl, rfl, rfl⟩, hw⟩
                  · refine wm_lload_n hC 1 dX12_isOwn_74 rfl ?_
                    refine wm_ldc2 hC (x := 512801993331) tc_X12_268 rfl dX12_isOwn_75 (k := ?_)
                    refine wm_lcmp_ne (tgt := 84) hC dX12_isOwn_78 dX12_isOwn_79 (by decide) hw (fun hw => ?_) (fun hw => ?_)
                    · refine wm_iconst hC dX12_isOwn_82 (k := ?_)
                      exact wm_zreturn hC hE (Or.inr rfl) dX12_isOwn_83 ⟨⟨rfl, rfl, rfl⟩, hw⟩
                    · refine wm_lload_n hC 1 dX12_isOwn_84 rfl ?_
                      refine wm_ldc2 hC (x := 483006772069) tc_X12_270 rfl dX12_isOwn_85 (k := ?_)
                      refine wm_lcmp_eq (tgt := 124) hC dX12_isOwn_88 dX12_isOwn_89 (by decide) hw (fun hw => ?_) (fun hw => ?_)
                      · refine wm_iconst hC dX12_isOwn_124 (k := ?_)
                        exact wm_zreturn hC hE (Or.inr rfl) dX12_isOwn_125 ⟨⟨rfl, rfl, rfl⟩, hw⟩
                      · refine wm_lload_n hC 1 dX12_isOwn_92 rfl ?_
                        refine wm_ldc2 hC (x := 7499639) tc_X12_272 rfl dX12_isOwn_93 (k := ?_)
                        refine wm_lcmp_eq (tgt := 124) hC dX12_isOwn_96 dX12_isOwn_97 (by decide) hw (fun hw => ?_) (fun hw => ?_)
                        · refine wm_iconst hC dX12_isOwn_124 (k := ?_)
                          exact wm_zreturn hC hE (Or.inr rfl) dX12_isOwn_125 ⟨⟨rfl, rfl, rfl⟩, hw⟩
                        · refine wm_lload_n hC 1 dX12_isOwn_100 rfl ?_
                          refine wm_ldc2 hC (x := 126870908724595) tc_X12_274 rfl dX12_isOwn_101 (k := ?_)
                          refine wm_lcmp_eq (tgt := 124) hC dX12_isOwn_104 dX12_isOwn_105 (by decide) hw (fun hw => ?_) (fun hw => ?_)
                          · refine wm_iconst hC dX12_isOwn_124 (k := ?_)
                            exact wm_zreturn hC hE (Or.inr rfl) dX12_isOwn_125 ⟨⟨rfl, rfl, rfl⟩, hw⟩
                          · refine wm_lload_n hC 1 dX12_isOwn_108 rfl ?_
                            refine wm_ldc2 hC (x := 109330362692723) tc_X12_276 rfl dX12_isOwn_109 (k := ?_)
                            refine wm_lcmp_eq (tgt := 124) hC dX12_isOwn_112 dX12_isOwn_113 (by decide) hw (fun hw => ?_) (fun hw => ?_)
                            · refine wm_iconst hC dX12_isOwn_124 (k := ?_)
                              exact wm_zreturn hC hE (Or.inr rfl) dX12_isOwn_125 ⟨⟨rfl, rfl, rfl⟩, hw⟩
                            · refine wm_lload_n hC 1 dX12_isOwn_116 rfl ?_
                              refine wm_ldc2 hC (x := 444150998387) tc_X12_278 rfl dX12_isOwn_117 (k := ?_)
                              refine wm_lcmp_ne (tgt := 126) hC dX12_isOwn_120 dX12_isOwn_121 (by decide) hw (fun hw => ?_) (fun hw => ?_)
                              · refine wm_iconst hC dX12_isOwn_124 (k := ?_)
                                exact wm_zreturn hC hE (Or.inr rfl) dX12_isOwn_125 ⟨⟨rfl, rfl, rfl⟩, hw⟩
                              · refine wm_lload_n hC 1 dX12_isOwn_126 rfl ?_
                                refine wm_ldc2 hC (x := 2036687218) tc_X12_280 rfl dX12_isOwn_127 (k := ?_)
                                refine wm_lcmp_eq (tgt := 166) hC dX12_isOwn_130 dX12_isOwn_131 (by decide) hw (fun hw => ?_) (fun hw => ?_)
                                · refine wm_iconst hC dX12_isOwn_166 (k := ?_)
                                  exact wm_zreturn hC hE (Or.inr rfl) dX12_isOwn_167 ⟨⟨rfl, rfl, rfl⟩, hw⟩
                                · refine wm_lload_n hC 1 dX12_isOwn_134 rfl ?_
                                  refine wm_ldc2 hC (x := 1836019556) tc_X12_282 rfl dX12_isOwn_135 (k := ?_)
                                  refine wm_lcmp_eq (tgt := 166) hC dX12_isOwn_138 dX12_isOwn_139 (by decide) hw (fun hw => ?_) (fun hw => ?_)
                                  · refine wm_iconst hC dX12_isOwn_166 (k := ?_)
                                    exact wm_zreturn hC hE (Or.inr rfl) dX12_isOwn_167 ⟨⟨rfl, rfl, rfl⟩, hw⟩
                                  · refine wm_lload_n hC 1 dX12_isOwn_142 rfl ?_
                                    refine wm_ldc2 hC (x := 469786452840) tc_X12_284 rfl dX12_isOwn_143 (k := ?_)
                                    refine wm_lcmp_eq (tgt := 166) hC dX12_isOwn_146 dX12_isOwn_147 (by decide) hw (fun hw => ?_) (fun hw => ?_)
                                    · refine wm_iconst hC dX12_isOwn_166 (k := ?_)
                                      exact wm_zreturn hC hE (Or.inr rfl) dX12_isOwn_167 ⟨⟨rfl, rfl, rfl⟩, hw⟩
                                    · refine wm_lload_n hC 1 dX12_isOwn_150 rfl ?_
                                      refine wm_ldc2 hC (x := 2003792494) tc_X12_286 rfl dX12_isOwn_151 (k := ?_)
                                      refine wm_lcmp_eq (tgt := 166) hC dX12_isOwn_154 dX12_isOwn_155 (by decide) hw (fun hw => ?_) (fun hw => ?_)
                                      · refine wm_iconst hC dX12_isOwn_166 (k := ?_)
                                        exact wm_zreturn hC hE (Or.inr rfl) dX12_isOwn_167 ⟨⟨rfl, rfl, rfl⟩, hw⟩
                                      · refine wm_lload_n hC 1 dX12_isOwn_158 rfl ?_
                                        refine wm_ldc2 hC (x := 448377483876) tc_X12_288 rfl dX12_isOwn_159 (k := ?_)
                                        refine wm_lcmp_ne (tgt := 168) hC dX12_isOwn_162 dX12_isOwn_163 (by decide) hw (fun hw => ?_) (fun hw => ?_)
                                        · refine wm_iconst hC dX12_isOwn_166 (k := ?_)
                                          exact wm_zreturn hC hE (Or.inr rfl) dX12_isOwn_167 ⟨⟨rfl, rfl, rfl⟩, hw⟩
                                        · refine wm_lload_n hC 1 dX12_isOwn_168 rfl ?_
                                          refine wm_ldc2 hC (x := 1650553445) tc_X12_290 rfl dX12_isOwn_169 (k := ?_)
                                          refine wm_lcmp_eq (tgt := 208) hC dX12_isOwn_172 dX12_isOwn_173 (by decide) hw (fun hw => ?_) (fun hw => ?_)
                                          · refine wm_iconst hC dX12_isOwn_208 (k := ?_)
                                            exact wm_zreturn hC hE (Or.inr rfl) dX12_isOwn_209 ⟨⟨rfl, rfl, rfl⟩, hw⟩
                                          · refine wm_lload_n hC 1 dX12_isOwn_176 rfl ?_
                                            refine wm_ldc2 hC (x := 26982) tc_X12_292 rfl dX12_isOwn_177 (k := ?_)
                                            refine wm_lcmp_eq (tgt := 208) hC dX12_isOwn_180 dX12_isOwn_181 (by decide) hw (fun hw => ?_) (fun hw => ?_)
                                            · refine wm_iconst hC dX12_isOwn_208 (k := ?_)
                                              exact wm_zreturn hC hE (Or.inr rfl) dX12_isOwn_209 ⟨⟨rfl, rfl, rfl⟩, hw⟩
                                            · refine wm_lload_n hC 1 dX12_isOwn_184 rfl ?_
                                              refine wm_ldc2 hC (x := 28530) tc_X12_294 rfl dX12_isOwn_185 (k := ?_)
                                              refine wm_lcmp_eq (tgt := 208) hC dX12_isOwn_188 dX12_isOwn_189 (by decide) hw (fun hw => ?_) (fun hw => ?_)
                                              · refine wm_iconst hC dX12_isOwn_208 (k := ?_)
                                                exact wm_zreturn hC hE (Or.inr rfl) dX12_isOwn_209 ⟨⟨rfl, rfl, rfl⟩, hw⟩
                                              · refine wm_lload_n hC 1 dX12_isOwn_192 rfl ?_
                                                refine wm_ldc2 hC (x := 6385252) tc_X12_296 rfl dX12_isOwn_193 (k := ?_)
                                                refine wm_lcmp_eq (tgt := 208) hC dX12_isOwn_196 dX12_isOwn_197 (by decide) hw (fun hw => ?_) (fun hw => ?_)
                                                · refine wm_iconst hC dX12_isOwn_208 (k := ?_)
                                                  exact wm_zreturn hC hE (Or.inr rfl) dX12_isOwn_209 ⟨⟨rfl, rfl, rfl⟩, hw⟩
                                                · refine wm_lload_n hC 1 dX12_isOwn_200 rfl ?_
                                                  refine wm_ldc2 hC (x := 7237492) tc_X12_298 rfl dX12_isOwn_201 (k := ?_)
                                                  refine wm_lcmp_ne (tgt := 210) hC dX12_isOwn_204 dX12_isOwn_205 (by decide) hw (fun hw => ?_) (fun hw => ?_)
                                                  · refine wm_iconst hC dX12_isOwn_208 (k := ?_)
                                                    exact wm_zreturn hC hE (Or.inr rfl) dX12_isOwn_209 ⟨⟨rfl, rfl, rfl⟩, hw⟩
                                                  · refine wm_lload_n hC 1 dX12_isOwn_210 rfl ?_
                                                    refine wm_ldc2 hC (x := 6384748) tc_X12_300 rfl dX12_isOwn_211 (k := ?_)
                                                    refine wm_lcmp_eq (tgt := 234) hC dX12_isOwn_214 dX12_isOwn_215 (by decide) hw (fun hw => ?_) (fun hw => ?_)
                                                    · refine wm_iconst hC dX12_isOwn_234 (k := ?_)
                                                      exact wm_zreturn hC hE (Or.inr rfl) dX12_isOwn_235 ⟨⟨rfl, rfl, rfl⟩, hw⟩
                                                    · refine wm_lload_n hC 1 dX12_isOwn_218 rfl ?_
                                                      refine wm_ldc2 hC (x := 7170414) tc_X12_302 rfl dX12_isOwn_219 (k := ?_)
                                                      refine wm_lcmp_eq (tgt := 234) hC dX12_isOwn_222 dX12_isOwn_223 (by decide) hw (fun hw => ?_) (fun hw => ?_)
                                                      · refine wm_iconst hC dX12_isOwn_234 (k := ?_)
                                                        exact wm_zreturn hC hE (Or.inr rfl) dX12_isOwn_235 ⟨⟨rfl, rfl, rfl⟩, hw⟩
                                                      · refine wm_lload_n hC 1 dX12_isOwn_226 rfl ?_
                                                        refine wm_ldc2 hC (x := 7168376) tc_X12_304 rfl dX12_isOwn_227 (k := ?_)
                                                        refine wm_lcmp_ne (tgt := 236) hC dX12_isOwn_230 dX12_isOwn_231 (by decide) hw (fun hw => ?_) (fun hw => ?_)
                                                        · refine wm_iconst hC dX12_isOwn_234 (k := ?_)
                                                          exact wm_zreturn hC hE (Or.inr rfl) dX12_isOwn_235 ⟨⟨rfl, rfl, rfl⟩, hw⟩
                                                        · refine wm_iconst hC dX12_isOwn_236 (k := ?_)
                                                          exact wm_zreturn hC hE (Or.inl rfl) dX12_isOwn_237 ⟨⟨rfl, rfl, rfl⟩, hw⟩
def P12_manyOf (l0 : Nat) (l1 : Int) (I : mI) (R : mR) (Q : Int → Prop) : Prop := (if l1 = 0 then (kK (R l0 14) = 21 ∧ (((0 : Int) ≤ (I l0 32) ∧ (I l0 32) < (kN (R l0 14) : Int)) ∧ (Q (I (R l0 14) (I l0 32))))) else (if l1 = 1 then (kK (R l0 17) = 21 ∧ (((0 : Int) ≤ (I l0 32) ∧ (I l0 32) < (kN (R l0 17) : Int)) ∧ (Q (I (R l0 17) (I l0 32))))) else (kK (R l0 20) = 21 ∧ (((0 : Int) ≤ (I l0 32) ∧ (I l0 32) < (kN (R l0 20) : Int)) ∧ (Q (I (R l0 20) (I l0 32)))))))
set_option maxRecDepth 20000 in
theorem C12_manyOf {ad : Nat → Nat} {n : Nat} {I J : mI} {R : mR} {Q : Int → Prop}  {l0 : Nat} {l1 : Int} (hk0 : kK l0 = 12) (hw : P12_manyOf l0 l1 I R Q) : wMet yX12_manyOf cX12_manyOf 2 (some .int) 1 12 false ad n I J R [vr l0, vi l1] (fun r I' J' R' => (I' = I ∧ J' = J ∧ R' = R) ∧ Q r) := by
  refine wMet_of (by decide) (Nat.le_of_ble_eq_true rfl) (fun C hC hRm hE hS => ?_)
  refine (show WM C ad n I J R 0 0 0 [(0, vr l0), (1, vi l1)] [] from ?_)
  unfold P12_manyOf at hw
  refine wm_iload_n hC 1 dX12_manyOf_0 rfl ?_
  refine wm_if_ne (tgt := 16) hC dX12_manyOf_1 (by decide) hw (fun hw => ?_) (fun hw => ?_)
  · refine wm_aload_n hC 0 dX12_manyOf_4 rfl (k_ne0 hk0 (by decide)) ?_
    refine x_getR2 hC 14 fl_X12_54 rfl hk0 dX12_manyOf_5 hw (fun g3 hw => ?_)
    refine wm_aload_n hC 0 dX12_manyOf_8 rfl (k_ne0 hk0 (by decide)) ?_
    refine x_getI hC 32 fl_X12_109 rfl hk0 dX12_manyOf_9 ?_
    refine x_iald hC g3 dX12_manyOf_12 hw (fun hw => ?_)
    refine wm_goto (tgt := 42) hC dX12_manyOf_13 (by decide) ?_
    exact wm_ireturn hC hE dX12_manyOf_42 ⟨⟨rfl, rfl, rfl⟩, hw⟩
  · refine wm_iload_n hC 1 dX12_manyOf_16 rfl ?_
    refine wm_iconst hC dX12_manyOf_17 (k := ?_)
    refine wm_icmp_ne (tgt := 33) hC dX12_manyOf_18 (by decide) hw (fun hw => ?_) (fun hw => ?_)
    · refine wm_aload_n hC 0 dX12_manyOf_21 rfl (k_ne0 hk0 (by decide)) ?_
      refine x_getR2 hC 17 fl_X12_63 rfl hk0 dX12_manyOf_22 hw (fun g2 hw => ?_)
      refine wm_aload_n hC 0 dX12_manyOf_25 rfl (k_ne0 hk0 (by decide)) ?_
      refine x_getI hC 32 fl_X12_109 rfl hk0 dX12_manyOf_26 ?_
      refine x_iald hC g2 dX12_manyOf_29 hw (fun hw => ?_)
      refine wm_goto (tgt := 42) hC dX12_manyOf_30 (by decide) ?_
      exact wm_ireturn hC hE dX12_manyOf_42 ⟨⟨rfl, rfl, rfl⟩, hw⟩
    · refine wm_aload_n hC 0 dX12_manyOf_33 rfl (k_ne0 hk0 (by decide)) ?_
      refine x_getR2 hC 20 fl_X12_72 rfl hk0 dX12_manyOf_34 hw (fun g1 hw => ?_)
      refine wm_aload_n hC 0 dX12_manyOf_37 rfl (k_ne0 hk0 (by decide)) ?_
      refine x_getI hC 32 fl_X12_109 rfl hk0 dX12_manyOf_38 ?_
      refine x_iald hC g1 dX12_manyOf_41 hw (fun hw => ?_)
      exact wm_ireturn hC hE dX12_manyOf_42 ⟨⟨rfl, rfl, rfl⟩, hw⟩
def P12_named_b3_body (l0 : Nat) (l1 : Int) (l2 : Int) (I : mI) (J : mI) (R : mR) (Q : Int → Prop) (k3 : Int → Prop) (l4 : Int) : Prop := (P12_manyOf l0 l1 I R (fun r1 => (if r1 ≤ l4 then (Q (-1)) else (kK (R l0 30) = 22 ∧ (rg (18 * (I l0 32)) ∧ (rg (6 * l1) ∧ (rg ((18 * (I l0 32)) + (6 * l1)) ∧ (rg (((18 * (I l0 32)) + (6 * l1)) + l4) ∧ (((0 : Int) ≤ (((18 * (I l0 32)) + (6 * l1)) + l4) ∧ (((18 * (I l0 32)) + (6 * l1)) + l4) < (kN (R l0 30) : Int)) ∧ (if (J (R l0 30) (((18 * (I l0 32)) + (6 * l1)) + l4)) = l2 then (Q l4) else (rg (l4 + 1) ∧ (k3 (l4 + 1)))))))))))))
def P12_named_b3 (l0 : Nat) (l1 : Int) (l2 : Int) (I : mI) (J : mI) (R : mR) (Q : Int → Prop) : Nat → Int → Prop
  | 0 => fun _ => False
  | f + 1 => fun l4 => P12_named_b3_body l0 l1 l2 I J R Q (P12_named_b3 l0 l1 l2 I J R Q f) l4
set_option maxRecDepth 20000 in
theorem W12_named_b3_body {C : wX} {ad : Nat → Nat} {n : Nat} {I J : mI} {R : mR} {Q : Int → Prop} (hC : wOK C cX12_named 5 RX12) (hRm : wRm C 2 33 0 0) (hE : wEnd C (some .int) ad n (fun r I' J' R' => (I' = I ∧ J' = J ∧ R' = R) ∧ Q r)) {l0 : Nat} {l1 : Int} {l2 : Int} {l4 : Int}   (hk0 : kK l0 = 12)  {k3 : Int → Prop} (kk3 : ∀ (y4 : Int), k3 y4 → WM C ad n I J R 0 0 3 [(0, vr l0), (1, vi l1), (2, vl l2), (4, vi y4)] []) (hw : P12_named_b3_body l0 l1 l2 I J R Q k3 l4) : WM C ad n I J R 0 0 3 [(0, vr l0), (1, vi l1), (2, vl l2), (4, vi l4)] [] := by
  unfold P12_named_b3_body at hw
  refine wm_iload hC 3 dX12_named_3 rfl ?_
  refine wm_aload_n hC 0 dX12_named_5 rfl (k_ne0 hk0 (by decide)) ?_
  refine wm_iload_n hC 1 dX12_named_6 rfl ?_
  refine y_callV_i_n hC hRm noS ml_X12_306 hk0 (C12_manyOf hk0 hw) (Nat.le_of_ble_eq_true rfl) (Nat.le_of_ble_eq_true rfl) ⟨Nat.zero_le _, Nat.zero_le _⟩ rfl (st := [vi l4]) rfl (Nat.le_of_ble_eq_true rfl) dX12_named_7 (fun r1 hw => ?_)
  refine wm_icmp_ge (tgt := 47) hC dX12_named_10 (by decide) hw (fun hw => ?_) (fun hw => ?_)
  · refine wm_iconst hC dX12_named_47 (k := ?_)
    exact wm_ireturn hC hE dX12_named_48 ⟨⟨rfl, rfl, rfl⟩, hw⟩
  · refine wm_aload_n hC 0 dX12_named_13 rfl (k_ne0 hk0 (by decide)) ?_
    refine x_getR2 hC 30 fl_X12_102 rfl hk0 dX12_named_14 hw (fun g1 hw => ?_)
    refine wm_bipush hC dX12_named_17 (k := ?_)
    refine wm_aload_n hC 0 dX12_named_19 rfl (k_ne0 hk0 (by decide)) ?_
    refine x_getI hC 32 fl_X12_109 rfl hk0 dX12_named_20 ?_
    refine x_imul hC dX12_named_23 hw (fun hw => ?_)
    refine wm_bipush hC dX12_named_24 (k := ?_)
    refine wm_iload_n hC 1 dX12_named_26 rfl ?_
    refine x_imul hC dX12_named_27 hw (fun hw => ?_)
    refine x_iadd hC dX12_named_28 hw (fun hw => ?_)
    refine wm_iload hC 3 dX12_named_29 rfl ?_
    refine x_iadd hC dX12_named_31 hw (fun hw => ?_)
    refine x_lald hC g1 dX12_named_32 hw (fun hw => ?_)
    refine wm_lload_n hC 2 dX12_named_33 rfl ?_
    refine wm_lcmp_ne (tgt := 41) hC dX12_named_34 dX12_named_35 (by decide) hw (fun hw => ?_) (fun hw => ?_)
    · refine wm_iload hC 3 dX12_named_38 rfl ?_
      exact wm_ireturn hC hE dX12_named_40 ⟨⟨rfl, rfl, rfl⟩, hw⟩
    · refine x_iinc hC 3 dX12_named_41 rfl (by decide) (L2 := [(4, vi (l4 + 1)), (0, vr l0), (1, vi l1), (2, vl l2)]) rfl hw (fun hw => ?_)
      refine wm_goto (tgt := 3) hC dX12_named_44 (by decide) ?_
      refine wm_sub [1, 2, 3, 0] (L2 := [(0, vr l0), (1, vi l1), (2, vl l2), (4, vi (l4 + 1))]) rfl ?_
      exact kk3 _ hw
set_option maxRecDepth 20000 in
theorem W12_named_b3 {C : wX} {ad : Nat → Nat} {n : Nat} {I J : mI} {R : mR} {Q : Int → Prop} (hC : wOK C cX12_named 5 RX12) (hRm : wRm C 2 33 0 0) (hE : wEnd C (some .int) ad n (fun r I' J' R' => (I' = I ∧ J' = J ∧ R' = R) ∧ Q r)) {l0 : Nat} {l1 : Int} {l2 : Int}   (hk0 : kK l0 = 12)  : ∀ (f : Nat) (l4 : Int), P12_named_b3 l0 l1 l2 I J R Q f l4 → WM C ad n I J R 0 0 3 [(0, vr l0), (1, vi l1), (2, vl l2), (4, vi l4)] [] := by
  intro f
  induction f with
  | zero => intro l4 hw; exact hw.elim
  | succ f ih => intro l4 hw; exact W12_named_b3_body hC hRm hE hk0 (fun a0 hw => ih a0 hw) hw
def P12_named (l0 : Nat) (l1 : Int) (l2 : Int) (I : mI) (J : mI) (R : mR) (Q : Int → Prop) : Prop := (∃ f, P12_named_b3 l0 l1 l2 I J R Q f 0)
set_option maxRecDepth 20000 in
theorem C12_named {ad : Nat → Nat} {n : Nat} {I J : mI} {R : mR} {Q : Int → Prop}  {l0 : Nat} {l1 : Int} {l2 : Int} (hk0 : kK l0 = 12) (hw : P12_named l0 l1 l2 I J R Q) : wMet yX12_named cX12_named 5 (some .int) 2 33 false ad n I J R [vr l0, vi l1, vl l2] (fun r I' J' R' => (I' = I ∧ J' = J ∧ R' = R) ∧ Q r) := by
  refine wMet_of (by decide) (Nat.le_of_ble_eq_true rfl) (fun C hC hRm hE hS => ?_)
  refine (show WM C ad n I J R 0 0 0 [(0, vr l0), (1, vi l1), (2, vl l2)] [] from ?_)
  unfold P12_named at hw
  refine wm_iconst hC dX12_named_0 (k := ?_)
  refine wm_istore hC dX12_named_1 (by decide) (L2 := [(4, vi 0), (0, vr l0), (1, vi l1), (2, vl l2)]) rfl ?_
  obtain ⟨f, hw⟩ := hw
  refine wm_sub [1, 2, 3, 0] (L2 := [(0, vr l0), (1, vi l1), (2, vl l2), (4, vi 0)]) rfl ?_
  exact W12_named_b3 hC hRm hE hk0 f _ hw
def P12_number_b58 (l0 : Nat) (I : mI) (J : mI) (R : mR) (Q : Int → mI → mI → Prop) : Prop := (if (I l0 8) = 0 then (P12_ahead l0 I J R (fun I4 J1 => (Q (I l0 6) I4 J1))) else (Q (I l0 6) I J))
set_option maxRecDepth 20000 in
theorem W12_number_b58 {C : wX} {ad : Nat → Nat} {n : Nat} {I J : mI} {R : mR} {Q : Int → mI → mI → Prop} (hC : wOK C cX12_number 4 RX12) (hRm : wRm C 3 57 0 0) (hE : wEnd C (some .int) ad n (fun r I' J' R' => (R' = R) ∧ Q r I' J')) {l0 : Nat}   (hk0 : kK l0 = 12)  (hw : P12_number_b58 l0 I J R Q) : WM C ad n I J R 0 0 58 [(0, vr l0)] [] := by
  unfold P12_number_b58 at hw
  refine wm_aload_n hC 0 dX12_number_58 rfl (k_ne0 hk0 (by decide)) ?_
  refine x_getI hC 6 fl_X12_29 rfl hk0 dX12_number_59 ?_
  refine wm_istore_n hC dX12_number_62 (by decide) (L2 := [(3, vi (I l0 6)), (0, vr l0)]) rfl ?_
  refine wm_aload_n hC 1 dX12_number_63 rfl (k_ne0 hk0 (by decide)) ?_
  refine x_getI hC 8 fl_X12_36 rfl hk0 dX12_number_64 ?_
  refine wm_if_ne (tgt := 74) hC dX12_number_67 (by decide) hw (fun hw => ?_) (fun hw => ?_)
  · refine wm_aload_n hC 1 dX12_number_70 rfl (k_ne0 hk0 (by decide)) ?_
    refine y_callV_v_IJ hC hRm noS ml_X12_247 hk0 (C12_ahead hk0 hw) (Nat.le_of_ble_eq_true rfl) (Nat.le_of_ble_eq_true rfl) ⟨Nat.zero_le _, Nat.zero_le _⟩ rfl (st := []) rfl (Nat.le_of_ble_eq_true rfl) dX12_number_71 (fun I4 J1 hw => ?_)
    refine wm_iload_n hC 0 dX12_number_74 rfl ?_
    exact wm_ireturn hC hE dX12_number_75 ⟨rfl, hw⟩
  · refine wm_iload_n hC 0 dX12_number_74 rfl ?_
    exact wm_ireturn hC hE dX12_number_75 ⟨rfl, hw⟩
def P12_number_b30 (l0 : Nat) (l1 : Int) (l2 : Int) (I : mI) (J : mI) (R : mR) (Q : Int → mI → mI → Prop) : Prop := (if (I l0 8) = 0 then (P12_is (I l0 6) l1 l2 (fun r1 => (if r1 = 0 then (P12_blame l0 4 (I l0 4) I (fun I3 => (P12_number_b58 l0 I3 J R Q))) else (P12_number_b58 l0 I J R Q)))) else (P12_number_b58 l0 I J R Q))
set_option maxRecDepth 20000 in
theorem W12_number_b30 {C : wX} {ad : Nat → Nat} {n : Nat} {I J : mI} {R : mR} {Q : Int → mI → mI → Prop} (hC : wOK C cX12_number 4 RX12) (hRm : wRm C 3 57 0 0) (hE : wEnd C (some .int) ad n (fun r I' J' R' => (R' = R) ∧ Q r I' J')) {l0 : Nat} {l1 : Int} {l2 : Int}   (hk0 : kK l0 = 12)  (hw : P12_number_b30 l0 l1 l2 I J R Q) : WM C ad n I J R 0 0 30 [(0, vr l0), (1, vi l1), (2, vi l2)] [] := by
  unfold P12_number_b30 at hw
  refine wm_aload_n hC 0 dX12_number_30 rfl (k_ne0 hk0 (by decide)) ?_
  refine x_getI hC 8 fl_X12_36 rfl hk0 dX12_number_31 ?_
  refine wm_if_ne (tgt := 58) hC dX12_number_34 (by decide) hw (fun hw => ?_) (fun hw => ?_)
  · refine wm_aload_n hC 0 dX12_number_37 rfl (k_ne0 hk0 (by decide)) ?_
    refine x_getI hC 6 fl_X12_29 rfl hk0 dX12_number_38 ?_
    refine wm_iload_n hC 1 dX12_number_41 rfl ?_
    refine wm_iload_n hC 2 dX12_number_42 rfl ?_
    refine y_callS_z_n hC hRm noS ml_X12_309 (C12_is  hw) (Nat.le_of_ble_eq_true rfl) (Nat.le_of_ble_eq_true rfl) ⟨Nat.zero_le _, Nat.zero_le _⟩ rfl (st := []) rfl (Nat.le_of_ble_eq_true rfl) dX12_number_43 (fun r1 hw => ?_)
    refine wm_if_ne (tgt := 58) hC dX12_number_46 (by decide) hw (fun hw => ?_) (fun hw => ?_)
    · refine wm_aload_n hC 0 dX12_number_49 rfl (k_ne0 hk0 (by decide)) ?_
      refine wm_iconst hC dX12_number_50 (k := ?_)
      refine wm_aload_n hC 0 dX12_number_51 rfl (k_ne0 hk0 (by decide)) ?_
      refine x_getI hC 4 fl_X12_23 rfl hk0 dX12_number_52 ?_
      refine y_callV_v_I hC hRm noS ml_X12_230 hk0 (C12_blame hk0 hw) (Nat.le_of_ble_eq_true rfl) (Nat.le_of_ble_eq_true rfl) ⟨Nat.zero_le _, Nat.zero_le _⟩ rfl (st := []) rfl (Nat.le_of_ble_eq_true rfl) dX12_number_55 (fun I3 hw => ?_)
      refine wm_sub [0] (L2 := [(0, vr l0)]) rfl ?_
      exact W12_number_b58 hC hRm hE hk0 hw
    · refine wm_sub [0] (L2 := [(0, vr l0)]) rfl ?_
      exact W12_number_b58 hC hRm hE hk0 hw
  · refine wm_sub [0] (L2 := [(0, vr l0)]) rfl ?_
    exact W12_number_b58 hC hRm hE hk0 hw
def P12_number (l0 : Nat) (l1 : Int) (l2 : Int) (I : mI) (J : mI) (R : mR) (Q : Int → mI → mI → Prop) : Prop := (P12_lex l0 I (fun I1 => (if (I1 l0 8) ≤ 0 then (if (I1 l0 3) = 2 then (P12_number_b30 l0 l1 l2 I1 J R Q) else (P12_blame l0 1 (I1 l0 4) I1 (fun I2 => (P12_number_b30 l0 l1 l2 I2 J R Q)))) else (Q 0 I1 J))))
set_option maxRecDepth 20000 in
theorem C12_number {ad : Nat → Nat} {n : Nat} {I J : mI} {R : mR} {Q : Int → mI → mI → Prop}  {l0 : Nat} {l1 : Int} {l2 : Int} (hk0 : kK l0 = 12) (hw : P12_number l0 l1 l2 I J R Q) : wMet yX12_number cX12_number 4 (some .int) 3 57 false ad n I J R [vr l0, vi l1, vi l2] (fun r I' J' R' => (R' = R) ∧ Q r I' J') := by
  refine wMet_of (by decide) (Nat.le_of_ble_eq_true rfl) (fun C hC hRm hE hS => ?_)
  refine (show WM C ad n I J R 0 0 0 [(0, vr l0), (1, vi l1), (2, vi l2)] [] from ?_)
  unfold P12_number at hw
  refine wm_aload_n hC 0 dX12_number_0 rfl (k_ne0 hk0 (by decide)) ?_
  refine y_callV_v_I hC hRm noS ml_X12_241 hk0 (C12_lex hk0 hw) (Nat.le_of_ble_eq_true rfl) (Nat.le_of_ble_eq_true rfl) ⟨Nat.zero_le _, Nat.zero_le _⟩ rfl (st := []) rfl (Nat.le_of_ble_eq_true rfl) dX12_number_1 (fun I1 hw => ?_)
  refine wm_aload_n hC 0 dX12_number_4 rfl (k_ne0 hk0 (by decide)) ?_
  refine x_getI hC 8 fl_X12_36 rfl hk0 dX12_number_5 ?_
  refine wm_if_le (tgt := 13) hC dX12_number_8 (by decide) hw (fun hw => ?_) (fun hw => ?_)
  · refine wm_aload_n hC 0 dX12_number_13 rfl (k_ne0 hk0 (by decide)) ?_
    refine x_getI hC 3 fl_X12_20 rfl hk0 dX12_number_14 ?_
    refine wm_iconst hC dX12_number_17 (k := ?_)
    refine wm_icmp_eq (tgt := 30) hC dX12_number_18 (by decide) hw (fun hw => ?_) (fun hw => ?_)
    · exact W12_number_b30 hC hRm hE hk0 hw
    · refine wm_aload_n hC 0 dX12_number_21 rfl (k_ne0 hk0 (by decide)) ?_
      refine wm_iconst hC dX12_number_22 (k := ?_)
      refine wm_aload_n hC 0 dX12_number_23 rfl (k_ne0 hk0 (by decide)) ?_
      refine x_getI hC 4 fl_X12_23 rfl hk0 dX12_number_24 ?_
      refine y_callV_v_I hC hRm noS ml_X12_230 hk0 (C12_blame hk0 hw) (Nat.le_of_ble_eq_true rfl) (Nat.le_of_ble_eq_true rfl) ⟨Nat.zero_le _, Nat.zero_le _⟩ rfl (st := []) rfl (Nat.le_of_ble_eq_true rfl) dX12_number_27 (fun I2 hw => ?_)
      exact W12_number_b30 hC hRm hE hk0 hw
  · refine wm_iconst hC dX12_number_11 (k := ?_)
    exact wm_ireturn hC hE dX12_number_12 ⟨rfl, hw⟩
def P12_add (l0 : Nat) (l1 : Int) (l2 : Int) (I : mI) (R : mR) (Q : mI → Prop) : Prop := (kK (R l0 28) = 21 ∧ (rg (1600 * (I l0 32)) ∧ (rg ((1600 * (I l0 32)) + (I l0 31)) ∧ (((0 : Int) ≤ ((1600 * (I l0 32)) + (I l0 31)) ∧ ((1600 * (I l0 32)) + (I l0 31)) < (kN (R l0 28) : Int)) ∧ wLet (up I (R l0 28) ((1600 * (I l0 32)) + (I l0 31)) l1) (fun I1 => (kK (R l0 29) = 21 ∧ (rg (1600 * (I1 l0 32)) ∧ (rg ((1600 * (I1 l0 32)) + (I1 l0 31)) ∧ (((0 : Int) ≤ ((1600 * (I1 l0 32)) + (I1 l0 31)) ∧ ((1600 * (I1 l0 32)) + (I1 l0 31)) < (kN (R l0 29) : Int)) ∧ wLet (up I1 (R l0 29) ((1600 * (I1 l0 32)) + (I1 l0 31)) l2) (fun I2 => (rg ((I2 l0 31) + 1) ∧ (wLet (up I2 l0 31 ((I2 l0 31) + 1)) (fun I3 => (Q I3))))))))))))))
set_option maxRecDepth 20000 in
theorem C12_add {ad : Nat → Nat} {n : Nat} {I J : mI} {R : mR} {Q : mI → Prop}  {l0 : Nat} {l1 : Int} {l2 : Int} (hk0 : kK l0 = 12) (hw : P12_add l0 l1 l2 I R Q) : wMet yX12_add cX12_add 3 none 1 12 false ad n I J R [vr l0, vi l1, vi l2] (fun _ I' J' R' => (J' = J ∧ R' = R) ∧ Q I') := by
  refine wMet_of (by decide) (Nat.le_of_ble_eq_true rfl) (fun C hC hRm hE hS => ?_)
  refine (show WM C ad n I J R 0 0 0 [(0, vr l0), (1, vi l1), (2, vi l2)] [] from ?_)
  unfold P12_add at hw
  refine wm_aload_n hC 0 dX12_add_0 rfl (k_ne0 hk0 (by decide)) ?_
  refine x_getR2 hC 28 fl_X12_96 rfl hk0 dX12_add_1 hw (fun g1 hw => ?_)
  refine wm_sipush hC dX12_add_4 (k := ?_)
  refine wm_aload_n hC 0 dX12_add_7 rfl (k_ne0 hk0 (by decide)) ?_
  refine x_getI hC 32 fl_X12_109 rfl hk0 dX12_add_8 ?_
  refine x_imul hC dX12_add_11 hw (fun hw => ?_)
  refine wm_aload_n hC 0 dX12_add_12 rfl (k_ne0 hk0 (by decide)) ?_
  refine x_getI hC 31 fl_X12_106 rfl hk0 dX12_add_13 ?_
  refine x_iadd hC dX12_add_16 hw (fun hw => ?_)
  refine wm_iload_n hC 1 dX12_add_17 rfl ?_
  refine x_iast hC g1 dX12_add_18 hw (fun I1 hw => ?_)
  refine wm_aload_n hC 0 dX12_add_19 rfl (k_ne0 hk0 (by decide)) ?_
  refine x_getR2 hC 29 fl_X12_99 rfl hk0 dX12_add_20 hw (fun g2 hw => ?_)
  refine wm_sipush hC dX12_add_23 (k := ?_)
  refine wm_aload_n hC 0 dX12_add_26 rfl (k_ne0 hk0 (by decide)) ?_
  refine x_getI hC 32 fl_X12_109 rfl hk0 dX12_add_27 ?_
  refine x_imul hC dX12_add_30 hw (fun hw => ?_)
  refine wm_aload_n hC 0 dX12_add_31 rfl (k_ne0 hk0 (by decide)) ?_
  refine x_getI hC 31 fl_X12_106 rfl hk0 dX12_add_32 ?_
  refine x_iadd hC dX12_add_35 hw (fun hw => ?_)
  refine wm_iload_n hC 2 dX12_add_36 rfl ?_
  refine x_iast hC g2 dX12_add_37 hw (fun I2 hw => ?_)
  refine wm_aload_n hC 0 dX12_add_38 rfl (k_ne0 hk0 (by decide)) ?_
  refine wm_dup hC dX12_add_39 (k := ?_)
  refine x_getI hC 31 fl_X12_106 rfl hk0 dX12_add_40 ?_
  refine wm_iconst hC dX12_add_43 (k := ?_)
  refine x_iadd hC dX12_add_44 hw (fun hw => ?_)
  refine x_putI hC 31 fl_X12_106 rfl hk0 dX12_add_45 hw (fun I3 hw => ?_)
  exact wm_return hC hE dX12_add_48 ⟨⟨rfl, rfl⟩, hw⟩
def P12_rank (l0 : Int)  (Q : Int → Prop) : Prop := (if l0 = 42 then (Q 1) else (if l0 = 41 then (Q 2) else (if l0 = 43 then (Q 3) else (if l0 = 38 then (Q 4) else (if l0 = 39 then (Q 4) else (if l0 = 40 then (Q 4) else (if l0 = 31 then (Q 5) else (if l0 = 32 then (Q 5) else (Q 6)))))))))
set_option maxRecDepth 20000 in
theorem C12_rank {ad : Nat → Nat} {n : Nat} {I J : mI} {R : mR} {Q : Int → Prop}  {l0 : Int}  (hw : P12_rank l0 Q) : wMet yX12_rank cX12_rank 1 (some .int) 1 12 false ad n I J R [vi l0] (fun r I' J' R' => (I' = I ∧ J' = J ∧ R' = R) ∧ Q r) := by
  refine wMet_of (by decide) (Nat.le_of_ble_eq_true rfl) (fun C hC hRm hE hS => ?_)
  refine (show WM C ad n I J R 0 0 0 [(0, vi l0)] [] from ?_)
  unfold P12_rank at hw
  refine wm_iload_n hC 0 dX12_rank_0 rfl ?_
  refine wm_bipush hC dX12_rank_1 (k := ?_)
  refine wm_icmp_ne (tgt := 10) hC dX12_rank_3 (by decide) hw (fun hw => ?_) (fun hw => ?_)
  · refine wm_iconst hC dX12_rank_6 (k := ?_)
    refine wm_goto (tgt := 70) hC dX12_rank_7 (by decide) ?_
    exact wm_ireturn hC hE dX12_rank_70 ⟨⟨rfl, rfl, rfl⟩, hw⟩
  · refine wm_iload_n hC 0 dX12_rank_10 rfl ?_
    refine wm_bipush hC dX12_rank_11 (k := ?_)
    refine wm_icmp_ne (tgt := 20) hC dX12_rank_13 (by decide) hw (fun hw => ?_) (fun hw => ?_)
    · refine wm_iconst hC dX12_rank_16 (k := ?_)
      refine wm_goto (tgt := 70) hC dX12_rank_17 (by decide) ?_
      exact wm_ireturn hC hE dX12_rank_70 ⟨⟨rfl, rfl, rfl⟩, hw⟩
    · refine wm_iload_n hC 0 dX12_rank_20 rfl ?_
      refine wm_bipush hC dX12_rank_21 (k := ?_)
      refine wm_icmp_ne (tgt := 30) hC dX12_rank_23 (by decide) hw (fun hw => ?_) (fun hw => ?_)
      · refine wm_iconst hC dX12_rank_26 (k := ?_)
        refine wm_goto (tgt := 70) hC dX12_rank_27 (by decide) ?_
        exact wm_ireturn hC hE dX12_rank_70 ⟨⟨rfl, rfl, rfl⟩, hw⟩
      · refine wm_iload_n hC 0 dX12_rank_30 rfl ?_
        refine wm_bipush hC dX12_rank_31 (k := ?_)
        refine wm_icmp_eq (tgt := 48) hC dX12_rank_33 (by decide) hw (fun hw => ?_) (fun hw => ?_)
        · refine wm_iconst hC dX12_rank_48 (k := ?_)
          refine wm_goto (tgt := 70) hC dX12_rank_49 (by decide) ?_
          exact wm_ireturn hC hE dX12_rank_70 ⟨⟨rfl, rfl, rfl⟩, hw⟩
        · refine wm_iload_n hC 0 dX12_rank_36 rfl ?_
          refine wm_bipush hC dX12_rank_37 (k := ?_)
          refine wm_icmp_eq (tgt := 48) hC dX12_rank_39 (by decide) hw (fun hw => ?_) (fun hw => ?_)
          · refine wm_iconst hC dX12_rank_48 (k := ?_)
            refine wm_goto (tgt := 70) hC dX12_rank_49 (by decide) ?_
            exact wm_ireturn hC hE dX12_rank_70 ⟨⟨rfl, rfl, rfl⟩, hw⟩
          · refine wm_iload_n hC 0 dX12_rank_42 rfl ?_
            refine wm_bipush hC dX12_rank_43 (k := ?_)
            refine wm_icmp_ne (tgt := 52) hC dX12_rank_45 (by decide) hw (fun hw => ?_) (fun hw => ?_)
            · refine wm_iconst hC dX12_rank_48 (k := ?_)
              refine wm_goto (tgt := 70) hC dX12_rank_49 (by decide) ?_
              exact wm_ireturn hC hE dX12_rank_70 ⟨⟨rfl, rfl, rfl⟩, hw⟩
            · refine wm_iload_n hC 0 dX12_rank_52 rfl ?_
              refine wm_bipush hC dX12_rank_53 (k := ?_)
              refine wm_icmp_eq (tgt := 64) hC dX12_rank_55 (by decide) hw (fun hw => ?_) (fun hw => ?_)
              · refine wm_iconst hC dX12_rank_64 (k := ?_)
                refine wm_goto (tgt := 70) hC dX12_rank_65 (by decide) ?_
                exact wm_ireturn hC hE dX12_rank_70 ⟨⟨rfl, rfl, rfl⟩, hw⟩
              · refine wm_iload_n hC 0 dX12_rank_58 rfl ?_
                refine wm_bipush hC dX12_rank_59 (k := ?_)
                refine wm_icmp_ne (tgt := 68) hC dX12_rank_61 (by decide) hw (fun hw => ?_) (fun hw => ?_)
                · refine wm_iconst hC dX12_rank_64 (k := ?_)
                  refine wm_goto (tgt := 70) hC dX12_rank_65 (by decide) ?_
                  exact wm_ireturn hC hE dX12_rank_70 ⟨⟨rfl, rfl, rfl⟩, hw⟩
                · refine wm_bipush hC dX12_rank_68 (k := ?_)
                  exact wm_ireturn hC hE dX12_rank_70 ⟨⟨rfl, rfl, rfl⟩, hw⟩
def P12_joins_b0_body (l0 : Nat) (l1 : Int) (R : mR) (Q : mI → Prop) (k0 : mI → Prop) (I : mI) : Prop := (kK (R l0 38) = 21 ∧ (rg ((I l0 39) - 1) ∧ (((0 : Int) ≤ ((I l0 39) - 1) ∧ ((I l0 39) - 1) < (kN (R l0 38) : Int)) ∧ (if (I l0 42) ≤ (I (R l0 38) ((I l0 39) - 1)) then (Q I) else (kK (R l0 41) = 21 ∧ (rg ((I l0 42) - 1) ∧ (((0 : Int) ≤ ((I l0 42) - 1) ∧ ((I l0 42) - 1) < (kN (R l0 41) : Int)) ∧ (P12_rank (I (R l0 41) ((I l0 42) - 1)) (fun r1 => (if r1 < l1 then (Q I) else (rg ((I l0 42) - 1) ∧ (wLet (up I l0 42 ((I l0 42) - 1)) (fun I1 => (kK (R l0 41) = 21 ∧ (((0 : Int) ≤ (I1 l0 42) ∧ (I1 l0 42) < (kN (R l0 41) : Int)) ∧ (P12_add l0 (I1 (R l0 41) (I1 l0 42)) 0 I1 R (fun I2 => (kK (R l0 41) = 21 ∧ (((0 : Int) ≤ (I2 l0 42) ∧ (I2 l0 42) < (kN (R l0 41) : Int)) ∧ (if (I2 (R l0 41) (I2 l0 42)) = 43 then (rg ((I2 l0 40) - 1) ∧ (wLet (up I2 l0 40 ((I2 l0 40) - 1)) (fun I3 => (k0 I3)))) else (k0 I2)))))))))))))))))))))
def P12_joins_b0 (l0 : Nat) (l1 : Int) (R : mR) (Q : mI → Prop) : Nat → mI → Prop
  | 0 => fun _ => False
  | f + 1 => fun I => P12_joins_b0_body l0 l1 R Q (P12_joins_b0 l0 l1 R Q f) I
set_option maxRecDepth 20000 in
theorem W12_joins_b0_body {C : wX} {ad : Nat → Nat} {n : Nat} {I J : mI} {R : mR} {Q : mI → Prop} (hC : wOK C cX12_joins 2 RX12) (hRm : wRm C 2 34 0 0) (hE : wEnd C none ad n (fun _ I' J' R' => (J' = J ∧ R' = R) ∧ Q I')) {l0 : Nat} {l1 : Int}    (hk0 : kK l0 = 12)  {k0 : mI → Prop} (kk0 : ∀ (I' : mI), k0 I' → WM C ad n I' J R 0 0 0 [(0, vr l0), (1, vi l1)] []) (hw : P12_joins_b0_body l0 l1 R Q k0 I) : WM C ad n I J R 0 0 0 [(0, vr l0), (1, vi l1)] [] := by
  unfold P12_joins_b0_body at hw
  refine wm_aload_n hC 0 dX12_joins_0 rfl (k_ne0 hk0 (by decide)) ?_
  refine x_getI hC 42 fl_X12_140 rfl hk0 dX12_joins_1 ?_
  refine wm_aload_n hC 0 dX12_joins_4 rfl (k_ne0 hk0 (by decide)) ?_
  refine x_getR2 hC 38 fl_X12_128 rfl hk0 dX12_joins_5 hw (fun g1 hw => ?_)
  refine wm_aload_n hC 0 dX12_joins_8 rfl (k_ne0 hk0 (by decide)) ?_
  refine x_getI hC 39 fl_X12_131 rfl hk0 dX12_joins_9 ?_
  refine wm_iconst hC dX12_joins_12 (k := ?_)
  refine x_isub hC dX12_joins_13 hw (fun hw => ?_)
  refine x_iald hC g1 dX12_joins_14 hw (fun hw => ?_)
  refine wm_icmp_le (tgt := 87) hC dX12_joins_15 (by decide) hw (fun hw => ?_) (fun hw => ?_)
  · exact wm_return hC hE dX12_joins_87 ⟨⟨rfl, rfl⟩, hw⟩
  · refine wm_aload_n hC 0 dX12_joins_18 rfl (k_ne0 hk0 (by decide)) ?_
    refine x_getR2 hC 41 fl_X12_137 rfl hk0 dX12_joins_19 hw (fun g2 hw => ?_)
    refine wm_aload_n hC 0 dX12_joins_22 rfl (k_ne0 hk0 (by decide)) ?_
    refine x_getI hC 42 fl_X12_140 rfl hk0 dX12_joins_23 ?_
    refine wm_iconst hC dX12_joins_26 (k := ?_)
    refine x_isub hC dX12_joins_27 hw (fun hw => ?_)
    refine x_iald hC g2 dX12_joins_28 hw (fun hw => ?_)
    refine y_callS_i_n hC hRm noS ml_X12_313 (C12_rank  hw) (Nat.le_of_ble_eq_true rfl) (Nat.le_of_ble_eq_true rfl) ⟨Nat.zero_le _, Nat.zero_le _⟩ rfl (st := []) rfl (Nat.le_of_ble_eq_true rfl) dX12_joins_29 (fun r1 hw => ?_)
    refine wm_iload_n hC 1 dX12_joins_32 rfl ?_
    refine wm_icmp_lt (tgt := 87) hC dX12_joins_33 (by decide) hw (fun hw => ?_) (fun hw => ?_)
    · exact wm_return hC hE dX12_joins_87 ⟨⟨rfl, rfl⟩, hw⟩
    · refine wm_aload_n hC 0 dX12_joins_36 rfl (k_ne0 hk0 (by decide)) ?_
      refine wm_dup hC dX12_joins_37 (k := ?_)
      refine x_getI hC 42 fl_X12_140 rfl hk0 dX12_joins_38 ?_
      refine wm_iconst hC dX12_joins_41 (k := ?_)
      refine x_isub hC dX12_joins_42 hw (fun hw => ?_)
      refine x_putI hC 42 fl_X12_140 rfl hk0 dX12_joins_43 hw (fun I1 hw => ?_)
      refine wm_aload_n hC 0 dX12_joins_46 rfl (k_ne0 hk0 (by decide)) ?_
      refine wm_aload_n hC 0 dX12_joins_47 rfl (k_ne0 hk0 (by decide)) ?_
      refine x_getR2 hC 41 fl_X12_137 rfl hk0 dX12_joins_48 hw (fun g3 hw => ?_)
      refine wm_aload_n hC 0 dX12_joins_51 rfl (k_ne0 hk0 (by decide)) ?_
      refine x_getI hC 42 fl_X12_140 rfl hk0 dX12_joins_52 ?_
      refine x_iald hC g3 dX12_joins_55 hw (fun hw => ?_)
      refine wm_iconst hC dX12_joins_56 (k := ?_)
      refine y_callV_v_I hC hRm noS ml_X12_316 hk0 (C12_add hk0 hw) (Nat.le_of_ble_eq_true rfl) (Nat.le_of_ble_eq_true rfl) ⟨Nat.zero_le _, Nat.zero_le _⟩ rfl (st := []) rfl (Nat.le_of_ble_eq_true rfl) dX12_joins_57 (fun I2 hw => ?_)
      refine wm_aload_n hC 0 dX12_joins_60 rfl (k_ne0 hk0 (by decide)) ?_
      refine x_getR2 hC 41 fl_X12_137 rfl hk0 dX12_joins_61 hw (fun g4 hw => ?_)
      refine wm_aload_n hC 0 dX12_joins_64 rfl (k_ne0 hk0 (by decide)) ?_
      refine x_getI hC 42 fl_X12_140 rfl hk0 dX12_joins_65 ?_
      refine x_iald hC g4 dX12_joins_68 hw (fun hw => ?_)
      refine wm_bipush hC dX12_joins_69 (k := ?_)
      refine wm_icmp_ne (tgt := 0) hC dX12_joins_71 (by decide) hw (fun hw => ?_) (fun hw => ?_)
      · refine wm_aload_n hC 0 dX12_joins_74 rfl (k_ne0 hk0 (by decide)) ?_
        refine wm_dup hC dX12_joins_75 (k := ?_)
        refine x_getI hC 40 fl_X12_134 rfl hk0 dX12_joins_76 ?_
        refine wm_iconst hC dX12_joins_79 (k := ?_)
        refine x_isub hC dX12_joins_80 hw (fun hw => ?_)
        refine x_putI hC 40 fl_X12_134 rfl hk0 dX12_joins_81 hw (fun I3 hw => ?_)
        refine wm_goto (tgt := 0) hC dX12_joins_84 (by decide) ?_
        exact kk0 _ hw
      · exact kk0 _ hw
set_option maxRecDepth 20000 in
theorem W12_joins_b0 {C : wX} {ad : Nat → Nat} {n : Nat} {J : mI} {R : mR} {Q : mI → Prop} (hC : wOK C cX12_joins 2 RX12) (hRm : wRm C 2 34 0 0) (hE : wEnd C none ad n (fun _ I' J' R' => (J' = J ∧ R' = R) ∧ Q I')) {l0 : Nat} {l1 : Int}   (hk0 : kK l0 = 12)  : ∀ (f : Nat) (I : mI), P12_joins_b0 l0 l1 R Q f I → WM C ad n I J R 0 0 0 [(0, vr l0), (1, vi l1)] [] := by
  intro f
  induction f with
  | zero => intro I hw; exact hw.elim
  | succ f ih => intro I hw; exact W12_joins_b0_body hC hRm hE hk0 (fun a0 hw => ih a0 hw) hw
def P12_joins (l0 : Nat) (l1 : Int) (I : mI) (R : mR) (Q : mI → Prop) : Prop := (∃ f, P12_joins_b0 l0 l1 R Q f I)
set_option maxRecDepth 20000 in
theorem C12_joins {ad : Nat → Nat} {n : Nat} {I J : mI} {R : mR} {Q : mI → Prop}  {l0 : Nat} {l1 : Int} (hk0 : kK l0 = 12) (hw : P12_joins l0 l1 I R Q) : wMet yX12_joins cX12_joins 2 none 2 34 false ad n I J R [vr l0, vi l1] (fun _ I' J' R' => (J' = J ∧ R' = R) ∧ Q I') := by
  refine wMet_of (by decide) (Nat.le_of_ble_eq_true rfl) (fun C hC hRm hE hS => ?_)
  refine (show WM C ad n I J R 0 0 0 [(0, vr l0), (1, vi l1)] [] from ?_)
  unfold P12_joins at hw
  obtain ⟨f, hw⟩ := hw
  exact W12_joins_b0 hC hRm hE hk0 f _ hw
def P12_holdsBack (l0 : Nat) (l1 : Int) (I : mI) (R : mR) (Q : mI → Prop) : Prop := (kK (R l0 41) = 21 ∧ (((0 : Int) ≤ (I l0 42) ∧ (I l0 42) < (kN (R l0 41) : Int)) ∧ wLet (up I (R l0 41) (I l0 42) l1) (fun I1 => (rg ((I1 l0 42) + 1) ∧ (wLet (up I1 l0 42 ((I1 l0 42) + 1)) (fun I2 => (Q I2)))))))
set_option maxRecDepth 20000 in
theorem C12_holdsBack {ad : Nat → Nat} {n : Nat} {I J : mI} {R : mR} {Q : mI → Prop}  {l0 : Nat} {l1 : Int} (hk0 : kK l0 = 12) (hw : P12_holdsBack l0 l1 I R Q) : wMet yX12_holdsBack cX12_holdsBack 2 none 1 12 false ad n I J R [vr l0, vi l1] (fun _ I' J' R' => (J' = J ∧ R' = R) ∧ Q I') := by
  refine wMet_of (by decide) (Nat.le_of_ble_eq_true rfl) (fun C hC hRm hE hS => ?_)
  refine (show WM C ad n I J R 0 0 0 [(0, vr l0), (1, vi l1)] [] from ?_)
  unfold P12_holdsBack at hw
  refine wm_aload_n hC 0 dX12_holdsBack_0 rfl (k_ne0 hk0 (by decide)) ?_
  refine x_getR2 hC 41 fl_X12_137 rfl hk0 dX12_holdsBack_1 hw (fun g1 hw => ?_)
  refine wm_aload_n hC 0 dX12_holdsBack_4 rfl (k_ne0 hk0 (by decide)) ?_
  refine x_getI hC 42 fl_X12_140 rfl hk0 dX12_holdsBack_5 ?_
  refine wm_iload_n hC 1 dX12_holdsBack_8 rfl ?_
  refine x_iast hC g1 dX12_holdsBack_9 hw (fun I1 hw => ?_)
  refine wm_aload_n hC 0 dX12_holdsBack_10 rfl (k_ne0 hk0 (by decide)) ?_
  refine wm_dup hC dX12_holdsBack_11 (k := ?_)
  refine x_getI hC 42 fl_X12_140 rfl hk0 dX12_holdsBack_12 ?_
  refine wm_iconst hC dX12_holdsBack_15 (k := ?_)
  refine x_iadd hC dX12_holdsBack_16 hw (fun hw => ?_)
  refine x_putI hC 42 fl_X12_140 rfl hk0 dX12_holdsBack_17 hw (fun I2 hw => ?_)
  exact wm_return hC hE dX12_holdsBack_20 ⟨⟨rfl, rfl⟩, hw⟩
def P12_pushes (l0 : Nat) (l1 : Int) (I : mI) (R : mR) (Q : mI → Prop) : Prop := (kK (R l0 34) = 21 ∧ (((0 : Int) ≤ (I l0 39) ∧ (I l0 39) < (kN (R l0 34) : Int)) ∧ wLet (up I (R l0 34) (I l0 39) l1) (fun I1 => (kK (R l0 35) = 21 ∧ (((0 : Int) ≤ (I1 l0 39) ∧ (I1 l0 39) < (kN (R l0 35) : Int)) ∧ wLet (up I1 (R l0 35) (I1 l0 39) 0) (fun I2 => (kK (R l0 36) = 23 ∧ (((0 : Int) ≤ (I2 l0 39) ∧ (I2 l0 39) < (kN (R l0 36) : Int)) ∧ wLet (up I2 (R l0 36) (I2 l0 39) 1) (fun I3 => (kK (R l0 38) = 21 ∧ (((0 : Int) ≤ (I3 l0 39) ∧ (I3 l0 39) < (kN (R l0 38) : Int)) ∧ wLet (up I3 (R l0 38) (I3 l0 39) (I3 l0 42)) (fun I4 => (rg ((I4 l0 39) + 1) ∧ (wLet (up I4 l0 39 ((I4 l0 39) + 1)) (fun I5 => (Q I5))))))))))))))))
set_option maxRecDepth 20000 in
theorem C12_pushes {ad : Nat → Nat} {n : Nat} {I J : mI} {R : mR} {Q : mI → Prop}  {l0 : Nat} {l1 : Int} (hk0 : kK l0 = 12) (hw : P12_pushes l0 l1 I R Q) : wMet yX12_pushes cX12_pushes 2 none 1 12 false ad n I J R [vr l0, vi l1] (fun _ I' J' R' => (J' = J ∧ R' = R) ∧ Q I') := by
  refine wMet_of (by decide) (Nat.le_of_ble_eq_true rfl) (fun C hC hRm hE hS => ?_)
  refine (show WM C ad n I J R 0 0 0 [(0, vr l0), (1, vi l1)] [] from ?_)
  unfold P12_pushes at hw
  refine wm_aload_n hC 0 dX12_pushes_0 rfl (k_ne0 hk0 (by decide)) ?_
  refine x_getR2 hC 34 fl_X12_115 rfl hk0 dX12_pushes_1 hw (fun g1 hw => ?_)
  refine wm_aload_n hC 0 dX12_pushes_4 rfl (k_ne0 hk0 (by decide)) ?_
  refine x_getI hC 39 fl_X12_131 rfl hk0 dX12_pushes_5 ?_
  refine wm_iload_n hC 1 dX12_pushes_8 rfl ?_
  refine x_iast hC g1 dX12_pushes_9 hw (fun I1 hw => ?_)
  refine wm_aload_n hC 0 dX12_pushes_10 rfl (k_ne0 hk0 (by decide)) ?_
  refine x_getR2 hC 35 fl_X12_118 rfl hk0 dX12_pushes_11 hw (fun g2 hw => ?_)
  refine wm_aload_n hC 0 dX12_pushes_14 rfl (k_ne0 hk0 (by decide)) ?_
  refine x_getI hC 39 fl_X12_131 rfl hk0 dX12_pushes_15 ?_
  refine wm_iconst hC dX12_pushes_18 (k := ?_)
  refine x_iast hC g2 dX12_pushes_19 hw (fun I2 hw => ?_)
  refine wm_aload_n hC 0 dX12_pushes_20 rfl (k_ne0 hk0 (by decide)) ?_
  refine x_getR2 hC 36 fl_X12_121 rfl hk0 dX12_pushes_21 hw (fun g3 hw => ?_)
  refine wm_aload_n hC 0 dX12_pushes_24 rfl (k_ne0 hk0 (by decide)) ?_
  refine x_getI hC 39 fl_X12_131 rfl hk0 dX12_pushes_25 ?_
  refine wm_iconst hC dX12_pushes_28 (k := ?_)
  refine x_zast hC g3 (Or.inr rfl) dX12_pushes_29 hw (fun I3 hw => ?_)
  refine wm_aload_n hC 0 dX12_pushes_30 rfl (k_ne0 hk0 (by decide)) ?_
  refine x_getR2 hC 38 fl_X12_128 rfl hk0 dX12_pushes_31 hw (fun g4 hw => ?_)
  refine wm_aload_n hC 0 dX12_pushes_34 rfl (k_ne0 hk0 (by decide)) ?_
  refine x_getI hC 39 fl_X12_131 rfl hk0 dX12_pushes_35 ?_
  refine wm_aload_n hC 0 dX12_pushes_38 rfl (k_ne0 hk0 (by decide)) ?_
  refine x_getI hC 42 fl_X12_140 rfl hk0 dX12_pushes_39 ?_
  refine x_iast hC g4 dX12_pushes_42 hw (fun I4 hw => ?_)
  refine wm_aload_n hC 0 dX12_pushes_43 rfl (k_ne0 hk0 (by decide)) ?_
  refine wm_dup hC dX12_pushes_44 (k := ?_)
  refine x_getI hC 39 fl_X12_131 rfl hk0 dX12_pushes_45 ?_
  refine wm_iconst hC dX12_pushes_48 (k := ?_)
  refine x_iadd hC dX12_pushes_49 hw (fun hw => ?_)
  refine x_putI hC 39 fl_X12_131 rfl hk0 dX12_pushes_50 hw (fun I5 hw => ?_)
  exact wm_return hC hE dX12_pushes_53 ⟨⟨rfl, rfl⟩, hw⟩
def P12_opens_b18 (l0 : Nat) (l1 : Int) (I : mI) (J : mI) (R : mR) (Q : mI → mI → Prop) : Prop := (if (I l0 8) ≤ 0 then (rg ((I l0 40) + 1) ∧ (wLet (up I l0 40 ((I l0 40) + 1)) (fun I2 => (P12_ahead l0 I2 J R (fun I3 J1 => (P12_pushes l0 l1 I3 R (fun I4 => (Q I4 J1)))))))) else (Q I J))
set_option maxRecDepth 20000 in
theorem W12_opens_b18 {C : wX} {ad : Nat → Nat} {n : Nat} {I J : mI} {R : mR} {Q : mI → mI → Prop} (hC : wOK C cX12_opens 2 RX12) (hRm : wRm C 3 57 0 0) (hE : wEnd C none ad n (fun _ I' J' R' => (R' = R) ∧ Q I' J')) {l0 : Nat} {l1 : Int}   (hk0 : kK l0 = 12)  (hw : P12_opens_b18 l0 l1 I J R Q) : WM C ad n I J R 0 0 18 [(0, vr l0), (1, vi l1)] [] := by
  unfold P12_opens_b18 at hw
  refine wm_aload_n hC 0 dX12_opens_18 rfl (k_ne0 hk0 (by decide)) ?_
  refine x_getI hC 8 fl_X12_36 rfl hk0 dX12_opens_19 ?_
  refine wm_if_le (tgt := 26) hC dX12_opens_22 (by decide) hw (fun hw => ?_) (fun hw => ?_)
  · refine wm_aload_n hC 0 dX12_opens_26 rfl (k_ne0 hk0 (by decide)) ?_
    refine wm_dup hC dX12_opens_27 (k := ?_)
    refine x_getI hC 40 fl_X12_134 rfl hk0 dX12_opens_28 ?_
    refine wm_iconst hC dX12_opens_31 (k := ?_)
    refine x_iadd hC dX12_opens_32 hw (fun hw => ?_)
    refine x_putI hC 40 fl_X12_134 rfl hk0 dX12_opens_33 hw (fun I2 hw => ?_)
    refine wm_aload_n hC 0 dX12_opens_36 rfl (k_ne0 hk0 (by decide)) ?_
    refine y_callV_v_IJ hC hRm noS ml_X12_247 hk0 (C12_ahead hk0 hw) (Nat.le_of_ble_eq_true rfl) (Nat.le_of_ble_eq_true rfl) ⟨Nat.zero_le _, Nat.zero_le _⟩ rfl (st := []) rfl (Nat.le_of_ble_eq_true rfl) dX12_opens_37 (fun I3 J1 hw => ?_)
    refine wm_aload_n hC 0 dX12_opens_40 rfl (k_ne0 hk0 (by decide)) ?_
    refine wm_iload_n hC 1 dX12_opens_41 rfl ?_
    refine y_callV_v_I hC hRm noS ml_X12_319 hk0 (C12_pushes hk0 hw) (Nat.le_of_ble_eq_true rfl) (Nat.le_of_ble_eq_true rfl) ⟨Nat.zero_le _, Nat.zero_le _⟩ rfl (st := []) rfl (Nat.le_of_ble_eq_true rfl) dX12_opens_42 (fun I4 hw => ?_)
    exact wm_return hC hE dX12_opens_45 ⟨rfl, hw⟩
  · exact wm_return hC hE dX12_opens_25 ⟨rfl, hw⟩
def P12_opens (l0 : Nat) (l1 : Int) (I : mI) (J : mI) (R : mR) (Q : mI → mI → Prop) : Prop := (if (I l0 40) = 7 then (P12_blame l0 5 (I l0 4) I (fun I1 => (P12_opens_b18 l0 l1 I1 J R Q))) else (P12_opens_b18 l0 l1 I J R Q))
set_option maxRecDepth 20000 in
theorem C12_opens {ad : Nat → Nat} {n : Nat} {I J : mI} {R : mR} {Q : mI → mI → Prop}  {l0 : Nat} {l1 : Int} (hk0 : kK l0 = 12) (hw : P12_opens l0 l1 I J R Q) : wMet yX12_opens cX12_opens 2 none 3 57 false ad n I J R [vr l0, vi l1] (fun _ I' J' R' => (R' = R) ∧ Q I' J') := by
  refine wMet_of (by decide) (Nat.le_of_ble_eq_true rfl) (fun C hC hRm hE hS => ?_)
  refine (show WM C ad n I J R 0 0 0 [(0, vr l0), (1, vi l1)] [] from ?_)
  unfold P12_opens at hw
  refine wm_aload_n hC 0 dX12_opens_0 rfl (k_ne0 hk0 (by decide)) ?_
  refine x_getI hC 40 fl_X12_134 rfl hk0 dX12_opens_1 ?_
  refine wm_bipush hC dX12_opens_4 (k := ?_)
  refine wm_icmp_ne (tgt := 18) hC dX12_opens_6 (by decide) hw (fun hw => ?_) (fun hw => ?_)
  · refine wm_aload_n hC 0 dX12_opens_9 rfl (k_ne0 hk0 (by decide)) ?_
    refine wm_iconst hC dX12_opens_10 (k := ?_)
    refine wm_aload_n hC 0 dX12_opens_11 rfl (k_ne0 hk0 (by decide)) ?_
    refine x_getI hC 4 fl_X12_23 rfl hk0 dX12_opens_12 ?_
    refine y_callV_v_I hC hRm noS ml_X12_230 hk0 (C12_blame hk0 hw) (Nat.le_of_ble_eq_true rfl) (Nat.le_of_ble_eq_true rfl) ⟨Nat.zero_le _, Nat.zero_le _⟩ rfl (st := []) rfl (Nat.le_of_ble_eq_true rfl) dX12_opens_15 (fun I1 hw => ?_)
    exact W12_opens_b18 hC hRm hE hk0 hw
  · exact W12_opens_b18 hC hRm hE hk0 hw
def P12_isTest (l0 : Int)  (Q : Int → Prop) : Prop := (if l0 = 1 then (Q 1) else (if l0 = 5 then (Q 1) else (if l0 = 6 then (Q 1) else (Q 0))))
set_option maxRecDepth 20000 in
theorem C12_isTest {ad : Nat → Nat} {n : Nat} {I J : mI} {R : mR} {Q : Int → Prop}  {l0 : Int}  (hw : P12_isTest l0 Q) : wMet yX12_isTest cX12_isTest 1 (some .boolean) 1 12 false ad n I J R [vi l0] (fun r I' J' R' => (I' = I ∧ J' = J ∧ R' = R) ∧ Q r) := by
  refine wMet_of (by decide) (Nat.le_of_ble_eq_true rfl) (fun C hC hRm hE hS => ?_)
  refine (show WM C ad n I J R 0 0 0 [(0, vi l0)] [] from ?_)
  unfold P12_isTest at hw
  refine wm_iload_n hC 0 dX12_isTest_0 rfl ?_
  refine wm_iconst hC dX12_isTest_1 (k := ?_)
  refine wm_icmp_eq (tgt := 16) hC dX12_isTest_2 (by decide) hw (fun hw => ?_) (fun hw => ?_)
  · refine wm_iconst hC dX12_isTest_16 (k := ?_)
    refine wm_goto (tgt := 21) hC dX12_isTest_17 (by decide) ?_
    exact wm_zreturn hC hE (Or.inr rfl) dX12_isTest_21 ⟨⟨rfl, rfl, rfl⟩, hw⟩
  · refine wm_iload_n hC 0 dX12_isTest_5 rfl ?_
    refine wm_iconst hC dX12_isTest_6 (k := ?_)
    refine wm_icmp_eq (tgt := 16) hC dX12_isTest_7 (by decide) hw (fun hw => ?_) (fun hw => ?_)
    · refine wm_iconst hC dX12_isTest_16 (k := ?_)
      refine wm_goto (tgt := 21) hC dX12_isTest_17 (by decide) ?_
      exact wm_zreturn hC hE (Or.inr rfl) dX12_isTest_21 ⟨⟨rfl, rfl, rfl⟩, hw⟩
    · refine wm_iload_n hC 0 dX12_isTest_10 rfl ?_
      refine wm_bipush hC dX12_isTest_11 (k := ?_)
      refine wm_icmp_ne (tgt := 20) hC dX12_isTest_13 (by decide) hw (fun hw => ?_) (fun hw => ?_)
      · refine wm_iconst hC dX12_isTest_16 (k := ?_)
        refine wm_goto (tgt := 21) hC dX12_isTest_17 (by decide) ?_
        exact wm_zreturn hC hE (Or.inr rfl) dX12_isTest_21 ⟨⟨rfl, rfl, rfl⟩, hw⟩
      · refine wm_iconst hC dX12_isTest_20 (k := ?_)
        exact wm_zreturn hC hE (Or.inl rfl) dX12_isTest_21 ⟨⟨rfl, rfl, rfl⟩, hw⟩
def P12_operand_b79 (l0 : Nat) (I : mI) (J : mI) (R : mR) (Q : Int → mI → mI → Prop) : Prop := (if (I l0 8) ≤ 0 then (rg ((I l0 40) + 1) ∧ (wLet (up I l0 40 ((I l0 40) + 1)) (fun I3 => (P12_holdsBack l0 43 I3 R (fun I4 => (P12_ahead l0 I4 J R (fun I5 J1 => (Q 0 I5 J1)))))))) else (Q 1 I J))
set_option maxRecDepth 20000 in
theorem W12_operand_b79 {C : wX} {ad : Nat → Nat} {n : Nat} {I J : mI} {R : mR} {Q : Int → mI → mI → Prop} (hC : wOK C cX12_operand 4 RX12) (hRm : wRm C 4 78 0 0) (hE : wEnd C (some .boolean) ad n (fun r I' J' R' => (R' = R) ∧ Q r I' J')) {l0 : Nat}   (hk0 : kK l0 = 12)  (hw : P12_operand_b79 l0 I J R Q) : WM C ad n I J R 0 0 79 [(0, vr l0)] [] := by
  unfold P12_operand_b79 at hw
  refine wm_aload_n hC 0 dX12_operand_79 rfl (k_ne0 hk0 (by decide)) ?_
  refine x_getI hC 8 fl_X12_36 rfl hk0 dX12_operand_80 ?_
  refine wm_if_le (tgt := 88) hC dX12_operand_83 (by decide) hw (fun hw => ?_) (fun hw => ?_)
  · refine wm_aload_n hC 0 dX12_operand_88 rfl (k_ne0 hk0 (by decide)) ?_
    refine wm_dup hC dX12_operand_89 (k := ?_)
    refine x_getI hC 40 fl_X12_134 rfl hk0 dX12_operand_90 ?_
    refine wm_iconst hC dX12_operand_93 (k := ?_)
    refine x_iadd hC dX12_operand_94 hw (fun hw => ?_)
    refine x_putI hC 40 fl_X12_134 rfl hk0 dX12_operand_95 hw (fun I3 hw => ?_)
    refine wm_aload_n hC 0 dX12_operand_98 rfl (k_ne0 hk0 (by decide)) ?_
    refine wm_bipush hC dX12_operand_99 (k := ?_)
    refine y_callV_v_I hC hRm noS ml_X12_329 hk0 (C12_holdsBack hk0 hw) (Nat.le_of_ble_eq_true rfl) (Nat.le_of_ble_eq_true rfl) ⟨Nat.zero_le _, Nat.zero_le _⟩ rfl (st := []) rfl (Nat.le_of_ble_eq_true rfl) dX12_operand_101 (fun I4 hw => ?_)
    refine wm_aload_n hC 0 dX12_operand_104 rfl (k_ne0 hk0 (by decide)) ?_
    refine y_callV_v_IJ hC hRm noS ml_X12_247 hk0 (C12_ahead hk0 hw) (Nat.le_of_ble_eq_true rfl) (Nat.le_of_ble_eq_true rfl) ⟨Nat.zero_le _, Nat.zero_le _⟩ rfl (st := []) rfl (Nat.le_of_ble_eq_true rfl) dX12_operand_105 (fun I5 J1 hw => ?_)
    refine wm_iconst hC dX12_operand_108 (k := ?_)
    exact wm_zreturn hC hE (Or.inl rfl) dX12_operand_109 ⟨rfl, hw⟩
  · refine wm_iconst hC dX12_operand_86 (k := ?_)
    exact wm_zreturn hC hE (Or.inr rfl) dX12_operand_87 ⟨rfl, hw⟩
def P12_operand_b289 (l0 : Nat) (l3 : Int) (s0 : Nat) (s1 : Int) (I : mI) (J : mI) (R : mR) (Q : Int → mI → mI → Prop) : Prop := (P12_opens s0 s1 I J R (fun I15 J6 => (if (I15 l0 8) = 0 then (kK (R l0 37) = 21 ∧ (rg ((I15 l0 39) - 1) ∧ (((0 : Int) ≤ ((I15 l0 39) - 1) ∧ ((I15 l0 39) - 1) < (kN (R l0 37) : Int)) ∧ wLet (up I15 (R l0 37) ((I15 l0 39) - 1) l3) (fun I16 => (Q 0 I16 J6))))) else (Q 0 I15 J6))))
set_option maxRecDepth 20000 in
theorem W12_operand_b289 {C : wX} {ad : Nat → Nat} {n : Nat} {I J : mI} {R : mR} {Q : Int → mI → mI → Prop} (hC : wOK C cX12_operand 4 RX12) (hRm : wRm C 4 78 0 0) (hE : wEnd C (some .boolean) ad n (fun r I' J' R' => (R' = R) ∧ Q r I' J')) {l0 : Nat} {l3 : Int} {s0 : Nat} {s1 : Int}   (hk0 : kK l0 = 12) (hs0 : kK s0 = 12)  (hw : P12_operand_b289 l0 l3 s0 s1 I J R Q) : WM C ad n I J R 0 0 289 [(0, vr l0), (3, vi l3)] [vi s1, vr s0] := by
  unfold P12_operand_b289 at hw
  refine y_callV_v_IJ hC hRm noS ml_X12_332 hs0 (C12_opens hs0 hw) (Nat.le_of_ble_eq_true rfl) (Nat.le_of_ble_eq_true rfl) ⟨Nat.zero_le _, Nat.zero_le _⟩ rfl (st := []) rfl (Nat.le_of_ble_eq_true rfl) dX12_operand_289 (fun I15 J6 hw => ?_)
  refine wm_aload_n hC 0 dX12_operand_292 rfl (k_ne0 hk0 (by decide)) ?_
  refine x_getI hC 8 fl_X12_36 rfl hk0 dX12_operand_293 ?_
  refine wm_if_ne (tgt := 311) hC dX12_operand_296 (by decide) hw (fun hw => ?_) (fun hw => ?_)
  · refine wm_aload_n hC 0 dX12_operand_299 rfl (k_ne0 hk0 (by decide)) ?_
    refine x_getR2 hC 37 fl_X12_125 rfl hk0 dX12_operand_300 hw (fun g5 hw => ?_)
    refine wm_aload_n hC 0 dX12_operand_303 rfl (k_ne0 hk0 (by decide)) ?_
    refine x_getI hC 39 fl_X12_131 rfl hk0 dX12_operand_304 ?_
    refine wm_iconst hC dX12_operand_307 (k := ?_)
    refine x_isub hC dX12_operand_308 hw (fun hw => ?_)
    refine wm_iload_n hC 1 dX12_operand_309 rfl ?_
    refine x_iast hC g5 dX12_operand_310 hw (fun I16 hw => ?_)
    refine wm_iconst hC dX12_operand_311 (k := ?_)
    exact wm_zreturn hC hE (Or.inl rfl) dX12_operand_312 ⟨rfl, hw⟩
  · refine wm_iconst hC dX12_operand_311 (k := ?_)
    exact wm_zreturn hC hE (Or.inl rfl) dX12_operand_312 ⟨rfl, hw⟩
def P12_operand_b276 (l0 : Nat) (l3 : Int) (I : mI) (J : mI) (R : mR) (Q : Int → mI → mI → Prop) : Prop := (if l3 = 44 then (P12_operand_b289 l0 l3 l0 6 I J R Q) else (P12_operand_b289 l0 l3 l0 3 I J R Q))
set_option maxRecDepth 20000 in
theorem W12_operand_b276 {C : wX} {ad : Nat → Nat} {n : Nat} {I J : mI} {R : mR} {Q : Int → mI → mI → Prop} (hC : wOK C cX12_operand 4 RX12) (hRm : wRm C 4 78 0 0) (hE : wEnd C (some .boolean) ad n (fun r I' J' R' => (R' = R) ∧ Q r I' J')) {l0 : Nat} {l3 : Int}   (hk0 : kK l0 = 12)  (hw : P12_operand_b276 l0 l3 I J R Q) : WM C ad n I J R 0 0 276 [(0, vr l0), (3, vi l3)] [] := by
  unfold P12_operand_b276 at hw
  refine wm_aload_n hC 0 dX12_operand_276 rfl (k_ne0 hk0 (by decide)) ?_
  refine wm_iload_n hC 1 dX12_operand_277 rfl ?_
  refine wm_bipush hC dX12_operand_278 (k := ?_)
  refine wm_icmp_ne (tgt := 288) hC dX12_operand_280 (by decide) hw (fun hw => ?_) (fun hw => ?_)
  · refine wm_bipush hC dX12_operand_283 (k := ?_)
    refine wm_goto (tgt := 289) hC dX12_operand_285 (by decide) ?_
    exact W12_operand_b289 hC hRm hE hk0 hk0 hw
  · refine wm_iconst hC dX12_operand_288 (k := ?_)
    exact W12_operand_b289 hC hRm hE hk0 hk0 hw
def P12_operand_b249 (l0 : Nat) (s0 : Int) (I : mI) (J : mI) (R : mR) (Q : Int → mI → mI → Prop) : Prop := (P12_ahead l0 I J R (fun I12 J5 => (P12_lex l0 I12 (fun I13 => (P12_isSign l0 40 I13 (fun r20 => (if r20 = 0 then (P12_blame l0 1 (I13 l0 4) I13 (fun I14 => (P12_operand_b276 l0 s0 I14 J5 R Q))) else (P12_operand_b276 l0 s0 I13 J5 R Q))))))))
set_option maxRecDepth 20000 in
theorem W12_operand_b249 {C : wX} {ad : Nat → Nat} {n : Nat} {I J : mI} {R : mR} {Q : Int → mI → mI → Prop} (hC : wOK C cX12_operand 4 RX12) (hRm : wRm C 4 78 0 0) (hE : wEnd C (some .boolean) ad n (fun r I' J' R' => (R' = R) ∧ Q r I' J')) {l0 : Nat} {s0 : Int}   (hk0 : kK l0 = 12)  (hw : P12_operand_b249 l0 s0 I J R Q) : WM C ad n I J R 0 0 249 [(0, vr l0)] [vi s0] := by
  unfold P12_operand_b249 at hw
  refine wm_istore_n hC dX12_operand_249 (by decide) (L2 := [(3, vi s0), (0, vr l0)]) rfl ?_
  refine wm_aload_n hC 1 dX12_operand_250 rfl (k_ne0 hk0 (by decide)) ?_
  refine y_callV_v_IJ hC hRm noS ml_X12_247 hk0 (C12_ahead hk0 hw) (Nat.le_of_ble_eq_true rfl) (Nat.le_of_ble_eq_true rfl) ⟨Nat.zero_le _, Nat.zero_le _⟩ rfl (st := []) rfl (Nat.le_of_ble_eq_true rfl) dX12_operand_251 (fun I12 J5 hw => ?_)
  refine wm_aload_n hC 1 dX12_operand_254 rfl (k_ne0 hk0 (by decide)) ?_
  refine y_callV_v_I hC hRm noS ml_X12_241 hk0 (C12_lex hk0 hw) (Nat.le_of_ble_eq_true rfl) (Nat.le_of_ble_eq_true rfl) ⟨Nat.zero_le _, Nat.zero_le _⟩ rfl (st := []) rfl (Nat.le_of_ble_eq_true rfl) dX12_operand_255 (fun I13 hw => ?_)
  refine wm_aload_n hC 1 dX12_operand_258 rfl (k_ne0 hk0 (by decide)) ?_
  refine wm_bipush hC dX12_operand_259 (k := ?_)
  refine y_callV_z_n hC hRm noS ml_X12_244 hk0 (C12_isSign hk0 hw) (Nat.le_of_ble_eq_true rfl) (Nat.le_of_ble_eq_true rfl) ⟨Nat.zero_le _, Nat.zero_le _⟩ rfl (st := []) rfl (Nat.le_of_ble_eq_true rfl) dX12_operand_261 (fun r20 hw => ?_)
  refine wm_if_ne (tgt := 276) hC dX12_operand_264 (by decide) hw (fun hw => ?_) (fun hw => ?_)
  · refine wm_aload_n hC 1 dX12_operand_267 rfl (k_ne0 hk0 (by decide)) ?_
    refine wm_iconst hC dX12_operand_268 (k := ?_)
    refine wm_aload_n hC 1 dX12_operand_269 rfl (k_ne0 hk0 (by decide)) ?_
    refine x_getI hC 4 fl_X12_23 rfl hk0 dX12_operand_270 ?_
    refine y_callV_v_I hC hRm noS ml_X12_230 hk0 (C12_blame hk0 hw) (Nat.le_of_ble_eq_true rfl) (Nat.le_of_ble_eq_true rfl) ⟨Nat.zero_le _, Nat.zero_le _⟩ rfl (st := []) rfl (Nat.le_of_ble_eq_true rfl) dX12_operand_273 (fun I14 hw => ?_)
    refine wm_sub [1, 0] (L2 := [(0, vr l0), (3, vi s0)]) rfl ?_
    exact W12_operand_b276 hC hRm hE hk0 hw
  · refine wm_sub [1, 0] (L2 := [(0, vr l0), (3, vi s0)]) rfl ?_
    exact W12_operand_b276 hC hRm hE hk0 hw
def P12_operand_b217 (l0 : Nat) (I : mI) (J : mI) (R : mR) (Q : Int → mI → mI → Prop) : Prop := (P12_isWord l0 7170414 I J (fun r18 => (if r18 = 0 then (P12_isWord l0 7168376 I J (fun r19 => (if r19 = 0 then (P12_operand_b249 l0 44 I J R Q) else (P12_operand_b249 l0 37 I J R Q)))) else (P12_operand_b249 l0 36 I J R Q))))
set_option maxRecDepth 20000 in
theorem W12_operand_b217 {C : wX} {ad : Nat → Nat} {n : Nat} {I J : mI} {R : mR} {Q : Int → mI → mI → Prop} (hC : wOK C cX12_operand 4 RX12) (hRm : wRm C 4 78 0 0) (hE : wEnd C (some .boolean) ad n (fun r I' J' R' => (R' = R) ∧ Q r I' J')) {l0 : Nat}   (hk0 : kK l0 = 12)  (hw : P12_operand_b217 l0 I J R Q) : WM C ad n I J R 0 0 217 [(0, vr l0)] [] := by
  unfold P12_operand_b217 at hw
  refine wm_aload_n hC 0 dX12_operand_217 rfl (k_ne0 hk0 (by decide)) ?_
  refine wm_ldc2 hC (x := 7170414) tc_X12_302 rfl dX12_operand_218 (k := ?_)
  refine y_callV_z_n hC hRm noS ml_X12_325 hk0 (C12_isWord hk0 hw) (Nat.le_of_ble_eq_true rfl) (Nat.le_of_ble_eq_true rfl) ⟨Nat.zero_le _, Nat.zero_le _⟩ rfl (st := []) rfl (Nat.le_of_ble_eq_true rfl) dX12_operand_221 (fun r18 hw => ?_)
  refine wm_if_eq (tgt := 232) hC dX12_operand_224 (by decide) hw (fun hw => ?_) (fun hw => ?_)
  · refine wm_aload_n hC 0 dX12_operand_232 rfl (k_ne0 hk0 (by decide)) ?_
    refine wm_ldc2 hC (x := 7168376) tc_X12_304 rfl dX12_operand_233 (k := ?_)
    refine y_callV_z_n hC hRm noS ml_X12_325 hk0 (C12_isWord hk0 hw) (Nat.le_of_ble_eq_true rfl) (Nat.le_of_ble_eq_true rfl) ⟨Nat.zero_le _, Nat.zero_le _⟩ rfl (st := []) rfl (Nat.le_of_ble_eq_true rfl) dX12_operand_236 (fun r19 hw => ?_)
    refine wm_if_eq (tgt := 247) hC dX12_operand_239 (by decide) hw (fun hw => ?_) (fun hw => ?_)
    · refine wm_bipush hC dX12_operand_247 (k := ?_)
      exact W12_operand_b249 hC hRm hE hk0 hw
    · refine wm_bipush hC dX12_operand_242 (k := ?_)
      refine wm_goto (tgt := 249) hC dX12_operand_244 (by decide) ?_
      exact W12_operand_b249 hC hRm hE hk0 hw
  · refine wm_bipush hC dX12_operand_227 (k := ?_)
    refine wm_goto (tgt := 249) hC dX12_operand_229 (by decide) ?_
    exact W12_operand_b249 hC hRm hE hk0 hw
def P12_operand_b525 (l0 : Nat) (l3 : Int) (I : mI) (J : mI) (R : mR) (Q : Int → mI → mI → Prop) : Prop := (if (I l0 8) ≤ 0 then (P12_add l0 l3 (I l0 6) I R (fun I18 => (P12_ahead l0 I18 J R (fun I19 J7 => (Q 1 I19 J7))))) else (Q 1 I J))
set_option maxRecDepth 20000 in
theorem W12_operand_b525 {C : wX} {ad : Nat → Nat} {n : Nat} {I J : mI} {R : mR} {Q : Int → mI → mI → Prop} (hC : wOK C cX12_operand 4 RX12) (hRm : wRm C 4 78 0 0) (hE : wEnd C (some .boolean) ad n (fun r I' J' R' => (R' = R) ∧ Q r I' J')) {l0 : Nat} {l3 : Int}   (hk0 : kK l0 = 12)  (hw : P12_operand_b525 l0 l3 I J R Q) : WM C ad n I J R 0 0 525 [(0, vr l0), (3, vi l3)] [] := by
  unfold P12_operand_b525 at hw
  refine wm_aload_n hC 0 dX12_operand_525 rfl (k_ne0 hk0 (by decide)) ?_
  refine x_getI hC 8 fl_X12_36 rfl hk0 dX12_operand_526 ?_
  refine wm_if_le (tgt := 534) hC dX12_operand_529 (by decide) hw (fun hw => ?_) (fun hw => ?_)
  · refine wm_aload_n hC 0 dX12_operand_534 rfl (k_ne0 hk0 (by decide)) ?_
    refine wm_iload_n hC 1 dX12_operand_535 rfl ?_
    refine wm_aload_n hC 0 dX12_operand_536 rfl (k_ne0 hk0 (by decide)) ?_
    refine x_getI hC 6 fl_X12_29 rfl hk0 dX12_operand_537 ?_
    refine y_callV_v_I hC hRm noS ml_X12_316 hk0 (C12_add hk0 hw) (Nat.le_of_ble_eq_true rfl) (Nat.le_of_ble_eq_true rfl) ⟨Nat.zero_le _, Nat.zero_le _⟩ rfl (st := []) rfl (Nat.le_of_ble_eq_true rfl) dX12_operand_540 (fun I18 hw => ?_)
    refine wm_aload_n hC 0 dX12_operand_543 rfl (k_ne0 hk0 (by decide)) ?_
    refine y_callV_v_IJ hC hRm noS ml_X12_247 hk0 (C12_ahead hk0 hw) (Nat.le_of_ble_eq_true rfl) (Nat.le_of_ble_eq_true rfl) ⟨Nat.zero_le _, Nat.zero_le _⟩ rfl (st := []) rfl (Nat.le_of_ble_eq_true rfl) dX12_operand_544 (fun I19 J7 hw => ?_)
    refine wm_iconst hC dX12_operand_547 (k := ?_)
    exact wm_zreturn hC hE (Or.inr rfl) dX12_operand_548 ⟨rfl, hw⟩
  · refine wm_iconst hC dX12_operand_532 (k := ?_)
    exact wm_zreturn hC hE (Or.inr rfl) dX12_operand_533 ⟨rfl, hw⟩
def P12_operand_b511 (l0 : Nat) (l3 : Int) (I : mI) (J : mI) (R : mR) (Q : Int → mI → mI → Prop) : Prop := (if l3 = (-1) then (P12_blame l0 1 (I l0 4) I (fun I17 => (P12_operand_b525 l0 l3 I17 J R Q))) else (P12_operand_b525 l0 l3 I J R Q))
set_option maxRecDepth 20000 in
theorem W12_operand_b511 {C : wX} {ad : Nat → Nat} {n : Nat} {I J : mI} {R : mR} {Q : Int → mI → mI → Prop} (hC : wOK C cX12_operand 4 RX12) (hRm : wRm C 4 78 0 0) (hE : wEnd C (some .boolean) ad n (fun r I' J' R' => (R' = R) ∧ Q r I' J')) {l0 : Nat} {l3 : Int}   (hk0 : kK l0 = 12)  (hw : P12_operand_b511 l0 l3 I J R Q) : WM C ad n I J R 0 0 511 [(0, vr l0), (3, vi l3)] [] := by
  unfold P12_operand_b511 at hw
  refine wm_iload_n hC 1 dX12_operand_511 rfl ?_
  refine wm_iconst hC dX12_operand_512 (k := ?_)
  refine wm_icmp_ne (tgt := 525) hC dX12_operand_513 (by decide) hw (fun hw => ?_) (fun hw => ?_)
  · refine wm_aload_n hC 0 dX12_operand_516 rfl (k_ne0 hk0 (by decide)) ?_
    refine wm_iconst hC dX12_operand_517 (k := ?_)
    refine wm_aload_n hC 0 dX12_operand_518 rfl (k_ne0 hk0 (by decide)) ?_
    refine x_getI hC 4 fl_X12_23 rfl hk0 dX12_operand_519 ?_
    refine y_callV_v_I hC hRm noS ml_X12_230 hk0 (C12_blame hk0 hw) (Nat.le_of_ble_eq_true rfl) (Nat.le_of_ble_eq_true rfl) ⟨Nat.zero_le _, Nat.zero_le _⟩ rfl (st := []) rfl (Nat.le_of_ble_eq_true rfl) dX12_operand_522 (fun I17 hw => ?_)
    exact W12_operand_b525 hC hRm hE hk0 hw
  · exact W12_operand_b525 hC hRm hE hk0 hw
def P12_operand_b491 (l0 : Nat) (l3 : Int) (I : mI) (J : mI) (R : mR) (Q : Int → mI → mI → Prop) : Prop := (if l3 < 4 then (P12_operand_b511 l0 l3 I J R Q) else (if (7 : Int) < l3 then (P12_operand_b511 l0 l3 I J R Q) else (if (I l0 33) = 0 then (P12_operand_b511 l0 l3 I J R Q) else (P12_operand_b511 l0 (-1) I J R Q))))
set_option maxRecDepth 20000 in
theorem W12_operand_b491 {C : wX} {ad : Nat → Nat} {n : Nat} {I J : mI} {R : mR} {Q : Int → mI → mI → Prop} (hC : wOK C cX12_operand 4 RX12) (hRm : wRm C 4 78 0 0) (hE : wEnd C (some .boolean) ad n (fun r I' J' R' => (R' = R) ∧ Q r I' J')) {l0 : Nat} {l3 : Int}   (hk0 : kK l0 = 12)  (hw : P12_operand_b491 l0 l3 I J R Q) : WM C ad n I J R 0 0 491 [(0, vr l0), (3, vi l3)] [] := by
  unfold P12_operand_b491 at hw
  refine wm_iload_n hC 1 dX12_operand_491 rfl ?_
  refine wm_iconst hC dX12_operand_492 (k := ?_)
  refine wm_icmp_lt (tgt := 511) hC dX12_operand_493 (by decide) hw (fun hw => ?_) (fun hw => ?_)
  · exact W12_operand_b511 hC hRm hE hk0 hw
  · refine wm_iload_n hC 1 dX12_operand_496 rfl ?_
    refine wm_bipush hC dX12_operand_497 (k := ?_)
    refine wm_icmp_gt (tgt := 511) hC dX12_operand_499 (by decide) hw (fun hw => ?_) (fun hw => ?_)
    · exact W12_operand_b511 hC hRm hE hk0 hw
    · refine wm_aload_n hC 0 dX12_operand_502 rfl (k_ne0 hk0 (by decide)) ?_
      refine x_getI hC 33 fl_X12_112 rfl hk0 dX12_operand_503 ?_
      refine wm_if_eq (tgt := 511) hC dX12_operand_506 (by decide) hw (fun hw => ?_) (fun hw => ?_)
      · exact W12_operand_b511 hC hRm hE hk0 hw
      · refine wm_iconst hC dX12_operand_509 (k := ?_)
        refine wm_istore_n hC dX12_operand_510 (by decide) (L2 := [(3, vi (-1)), (0, vr l0)]) rfl ?_
        refine wm_sub [1, 0] (L2 := [(0, vr l0), (3, vi (-1))]) rfl ?_
        exact W12_operand_b511 hC hRm hE hk0 hw
def P12_operand_b486 (l0 : Nat) (l3 : Int) (s0 : Int) (s1 : Int) (I : mI) (J : mI) (R : mR) (Q : Int → mI → mI → Prop) : Prop := (if s0 = s1 then (P12_operand_b491 l0 l3 I J R Q) else (P12_operand_b491 l0 (-1) I J R Q))
set_option maxRecDepth 20000 in
theorem W12_operand_b486 {C : wX} {ad : Nat → Nat} {n : Nat} {I J : mI} {R : mR} {Q : Int → mI → mI → Prop} (hC : wOK C cX12_operand 4 RX12) (hRm : wRm C 4 78 0 0) (hE : wEnd C (some .boolean) ad n (fun r I' J' R' => (R' = R) ∧ Q r I' J')) {l0 : Nat} {l3 : Int} {s0 : Int} {s1 : Int}   (hk0 : kK l0 = 12)  (hw : P12_operand_b486 l0 l3 s0 s1 I J R Q) : WM C ad n I J R 0 0 486 [(0, vr l0), (3, vi l3)] [vi s1, vi s0] := by
  unfold P12_operand_b486 at hw
  refine wm_icmp_eq (tgt := 491) hC dX12_operand_486 (by decide) hw (fun hw => ?_) (fun hw => ?_)
  · exact W12_operand_b491 hC hRm hE hk0 hw
  · refine wm_iconst hC dX12_operand_489 (k := ?_)
    refine wm_istore_n hC dX12_operand_490 (by decide) (L2 := [(3, vi (-1)), (0, vr l0)]) rfl ?_
    refine wm_sub [1, 0] (L2 := [(0, vr l0), (3, vi (-1))]) rfl ?_
    exact W12_operand_b491 hC hRm hE hk0 hw
def P12_operand_b473 (l0 : Nat) (l3 : Int) (s0 : Int) (I : mI) (J : mI) (R : mR) (Q : Int → mI → mI → Prop) : Prop := (if (I l0 33) = 2 then (P12_operand_b486 l0 l3 s0 1 I J R Q) else (P12_operand_b486 l0 l3 s0 0 I J R Q))
set_option maxRecDepth 20000 in
theorem W12_operand_b473 {C : wX} {ad : Nat → Nat} {n : Nat} {I J : mI} {R : mR} {Q : Int → mI → mI → Prop} (hC : wOK C cX12_operand 4 RX12) (hRm : wRm C 4 78 0 0) (hE : wEnd C (some .boolean) ad n (fun r I' J' R' => (R' = R) ∧ Q r I' J')) {l0 : Nat} {l3 : Int} {s0 : Int}   (hk0 : kK l0 = 12)  (hw : P12_operand_b473 l0 l3 s0 I J R Q) : WM C ad n I J R 0 0 473 [(0, vr l0), (3, vi l3)] [vi s0] := by
  unfold P12_operand_b473 at hw
  refine wm_aload_n hC 0 dX12_operand_473 rfl (k_ne0 hk0 (by decide)) ?_
  refine x_getI hC 33 fl_X12_112 rfl hk0 dX12_operand_474 ?_
  refine wm_iconst hC dX12_operand_477 (k := ?_)
  refine wm_icmp_ne (tgt := 485) hC dX12_operand_478 (by decide) hw (fun hw => ?_) (fun hw => ?_)
  · refine wm_iconst hC dX12_operand_481 (k := ?_)
    refine wm_goto (tgt := 486) hC dX12_operand_482 (by decide) ?_
    exact W12_operand_b486 hC hRm hE hk0 hw
  · refine wm_iconst hC dX12_operand_485 (k := ?_)
    exact W12_operand_b486 hC hRm hE hk0 hw
def P12_operand_b456 (l0 : Nat) (s0 : Int) (I : mI) (J : mI) (R : mR) (Q : Int → mI → mI → Prop) : Prop := (if s0 ≤ 1 then (P12_operand_b491 l0 s0 I J R Q) else (if s0 < 8 then (P12_operand_b473 l0 s0 0 I J R Q) else (P12_operand_b473 l0 s0 1 I J R Q)))
set_option maxRecDepth 20000 in
theorem W12_operand_b456 {C : wX} {ad : Nat → Nat} {n : Nat} {I J : mI} {R : mR} {Q : Int → mI → mI → Prop} (hC : wOK C cX12_operand 4 RX12) (hRm : wRm C 4 78 0 0) (hE : wEnd C (some .boolean) ad n (fun r I' J' R' => (R' = R) ∧ Q r I' J')) {l0 : Nat} {s0 : Int}   (hk0 : kK l0 = 12)  (hw : P12_operand_b456 l0 s0 I J R Q) : WM C ad n I J R 0 0 456 [(0, vr l0)] [vi s0] := by
  unfold P12_operand_b456 at hw
  refine wm_istore_n hC dX12_operand_456 (by decide) (L2 := [(3, vi s0), (0, vr l0)]) rfl ?_
  refine wm_iload_n hC 0 dX12_operand_457 rfl ?_
  refine wm_iconst hC dX12_operand_458 (k := ?_)
  refine wm_icmp_le (tgt := 491) hC dX12_operand_459 (by decide) hw (fun hw => ?_) (fun hw => ?_)
  · refine wm_sub [1, 0] (L2 := [(0, vr l0), (3, vi s0)]) rfl ?_
    exact W12_operand_b491 hC hRm hE hk0 hw
  · refine wm_iload_n hC 0 dX12_operand_462 rfl ?_
    refine wm_bipush hC dX12_operand_463 (k := ?_)
    refine wm_icmp_lt (tgt := 472) hC dX12_operand_465 (by decide) hw (fun hw => ?_) (fun hw => ?_)
    · refine wm_iconst hC dX12_operand_472 (k := ?_)
      refine wm_sub [1, 0] (L2 := [(0, vr l0), (3, vi s0)]) rfl ?_
      exact W12_operand_b473 hC hRm hE hk0 hw
    · refine wm_iconst hC dX12_operand_468 (k := ?_)
      refine wm_goto (tgt := 473) hC dX12_operand_469 (by decide) ?_
      refine wm_sub [1, 0] (L2 := [(0, vr l0), (3, vi s0)]) rfl ?_
      exact W12_operand_b473 hC hRm hE hk0 hw
def P12_operand_b171 (l0 : Nat) (I : mI) (J : mI) (R : mR) (Q : Int → mI → mI → Prop) : Prop := (P12_isSign l0 40 I (fun r5 => (if r5 = 0 then (P12_isWord l0 7170414 I J (fun r6 => (if r6 = 0 then (P12_isWord l0 7168376 I J (fun r7 => (if r7 = 0 then (P12_isWord l0 26982 I J (fun r8 => (if r8 = 0 then (if (I l0 3) = 2 then (P12_operand_b456 l0 0 I J R Q) else (P12_isWord l0 2036687218 I J (fun r9 => (if r9 = 0 then (P12_isWord l0 1836019556 I J (fun r10 => (if r10 = 0 then (P12_isWord l0 1818326117 I J (fun r11 => (if r11 = 0 then (P12_isWord l0 469786452840 I J (fun r12 => (if r12 = 0 then (P12_isWord l0 2003792494 I J (fun r13 => (if r13 = 0 then (P12_isWord l0 448377483876 I J (fun r14 => (if r14 = 0 then (P12_isWord l0 1668248436 I J (fun r15 => (if r15 = 0 then (P12_isWord l0 483006772069 I J (fun r16 => (if r16 = 0 then (P12_isWord l0 1650553445 I J (fun r17 => (if r17 = 0 then (P12_operand_b456 l0 (-1) I J R Q) else (P12_operand_b456 l0 9 I J R Q)))) else (P12_operand_b456 l0 8 I J R Q)))) else (P12_operand_b456 l0 7 I J R Q)))) else (P12_operand_b456 l0 6 I J R Q)))) else (P12_operand_b456 l0 5 I J R Q)))) else (P12_operand_b456 l0 4 I J R Q)))) else (P12_operand_b456 l0 3 I J R Q)))) else (P12_operand_b456 l0 2 I J R Q)))) else (P12_operand_b456 l0 1 I J R Q))))) else (P12_operand_b217 l0 I J R Q)))) else (P12_operand_b217 l0 I J R Q)))) else (P12_operand_b217 l0 I J R Q)))) else (P12_opens l0 2 I J R (fun I11 J4 => (Q 0 I11 J4))))))
set_option maxRecDepth 20000 in
theorem W12_operand_b171 {C : wX} {ad : Nat → Nat} {n : Nat} {I J : mI} {R : mR} {Q : Int → mI → mI → Prop} (hC : wOK C cX12_operand 4 RX12) (hRm : wRm C 4 78 0 0) (hE : wEnd C (some .boolean) ad n (fun r I' J' R' => (R' = R) ∧ Q r I' J')) {l0 : Nat}   (hk0 : kK l0 = 12)  (hw : P12_operand_b171 l0 I J R Q) : WM C ad n I J R 0 0 171 [(0, vr l0)] [] := by
  unfold P12_operand_b171 at hw
  refine wm_aload_n hC 0 dX12_operand_171 rfl (k_ne0 hk0 (by decide)) ?_
  refine wm_bipush hC dX12_operand_172 (k := ?_)
  refine y_callV_z_n hC hRm noS ml_X12_244 hk0 (C12_isSign hk0 hw) (Nat.le_of_ble_eq_true rfl) (Nat.le_of_ble_eq_true rfl) ⟨Nat.zero_le _, Nat.zero_le _⟩ rfl (st := []) rfl (Nat.le_of_ble_eq_true rfl) dX12_operand_174 (fun r5 hw => ?_)
  refine wm_if_eq (tgt := 187) hC dX12_operand_177 (by decide) hw (fun hw => ?_) (fun hw => ?_)
  · refine wm_aload_n hC 0 dX12_operand_187 rfl (k_ne0 hk0 (by decide)) ?_
    refine wm_ldc2 hC (x := 7170414) tc_X12_302 rfl dX12_operand_188 (k := ?_)
    refine y_callV_z_n hC hRm noS ml_X12_325 hk0 (C12_isWord hk0 hw) (Nat.le_of_ble_eq_true rfl) (Nat.le_of_ble_eq_true rfl) ⟨Nat.zero_le _, Nat.zero_le _⟩ rfl (st := []) rfl (Nat.le_of_ble_eq_true rfl) dX12_operand_191 (fun r6 hw => ?_)
    refine wm_if_ne (tgt := 217) hC dX12_operand_194 (by decide) hw (fun hw => ?_) (fun hw => ?_)
    · refine wm_aload_n hC 0 dX12_operand_197 rfl (k_ne0 hk0 (by decide)) ?_
      refine wm_ldc2 hC (x := 7168376) tc_X12_304 rfl dX12_operand_198 (k := ?_)
      refine y_callV_z_n hC hRm noS ml_X12_325 hk0 (C12_isWord hk0 hw) (Nat.le_of_ble_eq_true rfl) (Nat.le_of_ble_eq_true rfl) ⟨Nat.zero_le _, Nat.zero_le _⟩ rfl (st := []) rfl (Nat.le_of_ble_eq_true rfl) dX12_operand_201 (fun r7 hw => ?_)
      refine wm_if_ne (tgt := 217) hC dX12_operand_204 (by decide) hw (fun hw => ?_) (fun hw => ?_)
      · refine wm_aload_n hC 0 dX12_operand_207 rfl (k_ne0 hk0 (by decide)) ?_
        refine wm_ldc2 hC (x := 26982) tc_X12_292 rfl dX12_operand_208 (k := ?_)
        refine y_callV_z_n hC hRm noS ml_X12_325 hk0 (C12_isWord hk0 hw) (Nat.le_of_ble_eq_true rfl) (Nat.le_of_ble_eq_true rfl) ⟨Nat.zero_le _, Nat.zero_le _⟩ rfl (st := []) rfl (Nat.le_of_ble_eq_true rfl) dX12_operand_211 (fun r8 hw => ?_)
        refine wm_if_eq (tgt := 313) hC dX12_operand_214 (by decide) hw (fun hw => ?_) (fun hw => ?_)
        · refine wm_aload_n hC 0 dX12_operand_313 rfl (k_ne0 hk0 (by decide)) ?_
          refine x_getI hC 3 fl_X12_20 rfl hk0 dX12_operand_314 ?_
          refine wm_iconst hC dX12_operand_317 (k := ?_)
          refine wm_icmp_ne (tgt := 325) hC dX12_operand_318 (by decide) hw (fun hw => ?_) (fun hw => ?_)
          · refine wm_iconst hC dX12_operand_321 (k := ?_)
            refine wm_goto (tgt := 456) hC dX12_operand_322 (by decide) ?_
            exact W12_operand_b456 hC hRm hE hk0 hw
          · refine wm_aload_n hC 0 dX12_operand_325 rfl (k_ne0 hk0 (by decide)) ?_
            refine wm_ldc2 hC (x := 2036687218) tc_X12_280 rfl dX12_operand_326 (k := ?_)
            refine y_callV_z_n hC hRm noS ml_X12_325 hk0 (C12_isWord hk0 hw) (Nat.le_of_ble_eq_true rfl) (Nat.le_of_ble_eq_true rfl) ⟨Nat.zero_le _, Nat.zero_le _⟩ rfl (st := []) rfl (Nat.le_of_ble_eq_true rfl) dX12_operand_329 (fun r9 hw => ?_)
            refine wm_if_eq (tgt := 339) hC dX12_operand_332 (by decide) hw (fun hw => ?_) (fun hw => ?_)
            · refine wm_aload_n hC 0 dX12_operand_339 rfl (k_ne0 hk0 (by decide)) ?_
              refine wm_ldc2 hC (x := 1836019556) tc_X12_282 rfl dX12_operand_340 (k := ?_)
              refine y_callV_z_n hC hRm noS ml_X12_325 hk0 (C12_isWord hk0 hw) (Nat.le_of_ble_eq_true rfl) (Nat.le_of_ble_eq_true rfl) ⟨Nat.zero_le _, Nat.zero_le _⟩ rfl (st := []) rfl (Nat.le_of_ble_eq_true rfl) dX12_operand_343 (fun r10 hw => ?_)
              refine wm_if_eq (tgt := 353) hC dX12_operand_346 (by decide) hw (fun hw => ?_) (fun hw => ?_)
              · refine wm_aload_n hC 0 dX12_operand_353 rfl (k_ne0 hk0 (by decide)) ?_
                refine wm_ldc2 hC (x := 1818326117) tc_X12_264 rfl dX12_operand_354 (k := ?_)
                refine y_callV_z_n hC hRm noS ml_X12_325 hk0 (C12_isWord hk0 hw) (Nat.le_of_ble_eq_true rfl) (Nat.le_of_ble_eq_true rfl) ⟨Nat.zero_le _, Nat.zero_le _⟩ rfl (st := []) rfl (Nat.le_of_ble_eq_true rfl) dX12_operand_357 (fun r11 hw => ?_)
                refine wm_if_eq (tgt := 367) hC dX12_operand_360 (by decide) hw (fun hw => ?_) (fun hw => ?_)
                · refine wm_aload_n hC 0 dX12_operand_367 rfl (k_ne0 hk0 (by decide)) ?_
                  refine wm_ldc2 hC (x := 469786452840) tc_X12_284 rfl dX12_operand_368 (k := ?_)
                  refine y_callV_z_n hC hRm noS ml_X12_325 hk0 (C12_isWord hk0 hw) (Nat.le_of_ble_eq_true rfl) (Nat.le_of_ble_eq_true rfl) ⟨Nat.zero_le _, Nat.zero_le _⟩ rfl (st := []) rfl (Nat.le_of_ble_eq_true rfl) dX12_operand_371 (fun r12 hw => ?_)
                  refine wm_if_eq (tgt := 381) hC dX12_operand_374 (by decide) hw (fun hw => ?_) (fun hw => ?_)
                  · refine wm_aload_n hC 0 dX12_operand_381 rfl (k_ne0 hk0 (by decide)) ?_
                    refine wm_ldc2 hC (x := 2003792494) tc_X12_286 rfl dX12_operand_382 (k := ?_)
                    refine y_callV_z_n hC hRm noS ml_X12_325 hk0 (C12_isWord hk0 hw) (Nat.le_of_ble_eq_true rfl) (Nat.le_of_ble_eq_true rfl) ⟨Nat.zero_le _, Nat.zero_le _⟩ rfl (st := []) rfl (Nat.le_of_ble_eq_true rfl) dX12_operand_385 (fun r13 hw => ?_)
                    refine wm_if_eq (tgt := 395) hC dX12_operand_388 (by decide) hw (fun hw => ?_) (fun hw => ?_)
                    · refine wm_aload_n hC 0 dX12_operand_395 rfl (k_ne0 hk0 (by decide)) ?_
                      refine wm_ldc2 hC (x := 448377483876) tc_X12_288 rfl dX12_operand_396 (k := ?_)
                      refine y_callV_z_n hC hRm noS ml_X12_325 hk0 (C12_isWord hk0 hw) (Nat.le_of_ble_eq_true rfl) (Nat.le_of_ble_eq_true rfl) ⟨Nat.zero_le _, Nat.zero_le _⟩ rfl (st := []) rfl (Nat.le_of_ble_eq_true rfl) dX12_operand_399 (fun r14 hw => ?_)
                      refine wm_if_eq (tgt := 410) hC dX12_operand_402 (by decide) hw (fun hw => ?_) (fun hw => ?_)
                      · refine wm_aload_n hC 0 dX12_operand_410 rfl (k_ne0 hk0 (by decide)) ?_
                        refine wm_ldc2 hC (x := 1668248436) tc_X12_260 rfl dX12_operand_411 (k := ?_)
                        refine y_callV_z_n hC hRm noS ml_X12_325 hk0 (C12_isWord hk0 hw) (Nat.le_of_ble_eq_true rfl) (Nat.le_of_ble_eq_true rfl) ⟨Nat.zero_le _, Nat.zero_le _⟩ rfl (st := []) rfl (Nat.le_of_ble_eq_true rfl) dX12_operand_414 (fun r15 hw => ?_)
                        refine wm_if_eq (tgt := 425) hC dX12_operand_417 (by decide) hw (fun hw => ?_) (fun hw => ?_)
                        · refine wm_aload_n hC 0 dX12_operand_425 rfl (k_ne0 hk0 (by decide)) ?_
                          refine wm_ldc2 hC (x := 483006772069) tc_X12_270 rfl dX12_operand_426 (k := ?_)
                          refine y_callV_z_n hC hRm noS ml_X12_325 hk0 (C12_isWord hk0 hw) (Nat.le_of_ble_eq_true rfl) (Nat.le_of_ble_eq_true rfl) ⟨Nat.zero_le _, Nat.zero_le _⟩ rfl (st := []) rfl (Nat.le_of_ble_eq_true rfl) dX12_operand_429 (fun r16 hw => ?_)
                          refine wm_if_eq (tgt := 440) hC dX12_operand_432 (by decide) hw (fun hw => ?_) (fun hw => ?_)
                          · refine wm_aload_n hC 0 dX12_operand_440 rfl (k_ne0 hk0 (by decide)) ?_
                            refine wm_ldc2 hC (x := 1650553445) tc_X12_290 rfl dX12_operand_441 (k := ?_)
                            refine y_callV_z_n hC hRm noS ml_X12_325 hk0 (C12_isWord hk0 hw) (Nat.le_of_ble_eq_true rfl) (Nat.le_of_ble_eq_true rfl) ⟨Nat.zero_le _, Nat.zero_le _⟩ rfl (st := []) rfl (Nat.le_of_ble_eq_true rfl) dX12_operand_444 (fun r17 hw => ?_)
                            refine wm_if_eq (tgt := 455) hC dX12_operand_447 (by decide) hw (fun hw => ?_) (fun hw => ?_)
                            · refine wm_iconst hC dX12_operand_455 (k := ?_)
                              exact W12_operand_b456 hC hRm hE hk0 hw
                            · refine wm_bipush hC dX12_operand_450 (k := ?_)
                              refine wm_goto (tgt := 456) hC dX12_operand_452 (by decide) ?_
                              exact W12_operand_b456 hC hRm hE hk0 hw
                          · refine wm_bipush hC dX12_operand_435 (k := ?_)
                            refine wm_goto (tgt := 456) hC dX12_operand_437 (by decide) ?_
                            exact W12_operand_b456 hC hRm hE hk0 hw
                        · refine wm_bipush hC dX12_operand_420 (k := ?_)
                          refine wm_goto (tgt := 456) hC dX12_operand_422 (by decide) ?_
                          exact W12_operand_b456 hC hRm hE hk0 hw
                      · refine wm_bipush hC dX12_operand_405 (k := ?_)
                        refine wm_goto (tgt := 456) hC dX12_operand_407 (by decide) ?_
                        exact W12_operand_b456 hC hRm hE hk0 hw
                    · refine wm_iconst hC dX12_operand_391 (k := ?_)
                      refine wm_goto (tgt := 456) hC dX12_operand_392 (by decide) ?_
                      exact W12_operand_b456 hC hRm hE hk0 hw
                  · refine wm_iconst hC dX12_operand_377 (k := ?_)
                    refine wm_goto (tgt := 456) hC dX12_operand_378 (by decide) ?_
                    exact W12_operand_b456 hC hRm hE hk0 hw
                · refine wm_iconst hC dX12_operand_363 (k := ?_)
                  refine wm_goto (tgt := 456) hC dX12_operand_364 (by decide) ?_
                  exact W12_operand_b456 hC hRm hE hk0 hw
              · refine wm_iconst hC dX12_operand_349 (k := ?_)
                refine wm_goto (tgt := 456) hC dX12_operand_350 (by decide) ?_
                exact W12_operand_b456 hC hRm hE hk0 hw
            · refine wm_iconst hC dX12_operand_335 (k := ?_)
              refine wm_goto (tgt := 456) hC dX12_operand_336 (by decide) ?_
              exact W12_operand_b456 hC hRm hE hk0 hw
        · exact W12_operand_b217 hC hRm hE hk0 hw
      · exact W12_operand_b217 hC hRm hE hk0 hw
    · exact W12_operand_b217 hC hRm hE hk0 hw
  · refine wm_aload_n hC 0 dX12_operand_180 rfl (k_ne0 hk0 (by decide)) ?_
    refine wm_iconst hC dX12_operand_181 (k := ?_)
    refine y_callV_v_IJ hC hRm noS ml_X12_332 hk0 (C12_opens hk0 hw) (Nat.le_of_ble_eq_true rfl) (Nat.le_of_ble_eq_true rfl) ⟨Nat.zero_le _, Nat.zero_le _⟩ rfl (st := []) rfl (Nat.le_of_ble_eq_true rfl) dX12_operand_182 (fun I11 J4 hw => ?_)
    refine wm_iconst hC dX12_operand_185 (k := ?_)
    exact wm_zreturn hC hE (Or.inl rfl) dX12_operand_186 ⟨rfl, hw⟩
def P12_operand_b137 (l0 : Nat) (l1 : Int) (l2 : Int) (I : mI) (J : mI) (R : mR) (Q : Int → mI → mI → Prop) : Prop := (if l2 = 0 then (P12_operand_b171 l0 I J R Q) else (P12_isWord l0 6384748 I J (fun r4 => (if r4 = 0 then (P12_operand_b171 l0 I J R Q) else (P12_add l0 30 0 I R (fun I8 => (kK (R l0 35) = 21 ∧ (((0 : Int) ≤ l1 ∧ l1 < (kN (R l0 35) : Int)) ∧ wLet (up I8 (R l0 35) l1 2) (fun I9 => (P12_ahead l0 I9 J R (fun I10 J3 => (Q 1 I10 J3))))))))))))
set_option maxRecDepth 20000 in
theorem W12_operand_b137 {C : wX} {ad : Nat → Nat} {n : Nat} {I J : mI} {R : mR} {Q : Int → mI → mI → Prop} (hC : wOK C cX12_operand 4 RX12) (hRm : wRm C 4 78 0 0) (hE : wEnd C (some .boolean) ad n (fun r I' J' R' => (R' = R) ∧ Q r I' J')) {l0 : Nat} {l1 : Int} {l2 : Int}   (hk0 : kK l0 = 12)  (hw : P12_operand_b137 l0 l1 l2 I J R Q) : WM C ad n I J R 0 0 137 [(0, vr l0), (1, vi l1), (2, vi l2)] [] := by
  unfold P12_operand_b137 at hw
  refine wm_iload_n hC 2 dX12_operand_137 rfl ?_
  refine wm_if_eq (tgt := 171) hC dX12_operand_138 (by decide) hw (fun hw => ?_) (fun hw => ?_)
  · refine wm_sub [0] (L2 := [(0, vr l0)]) rfl ?_
    exact W12_operand_b171 hC hRm hE hk0 hw
  · refine wm_aload_n hC 0 dX12_operand_141 rfl (k_ne0 hk0 (by decide)) ?_
    refine wm_ldc2 hC (x := 6384748) tc_X12_300 rfl dX12_operand_142 (k := ?_)
    refine y_callV_z_n hC hRm noS ml_X12_325 hk0 (C12_isWord hk0 hw) (Nat.le_of_ble_eq_true rfl) (Nat.le_of_ble_eq_true rfl) ⟨Nat.zero_le _, Nat.zero_le _⟩ rfl (st := []) rfl (Nat.le_of_ble_eq_true rfl) dX12_operand_145 (fun r4 hw => ?_)
    refine wm_if_eq (tgt := 171) hC dX12_operand_148 (by decide) hw (fun hw => ?_) (fun hw => ?_)
    · refine wm_sub [0] (L2 := [(0, vr l0)]) rfl ?_
      exact W12_operand_b171 hC hRm hE hk0 hw
    · refine wm_aload_n hC 0 dX12_operand_151 rfl (k_ne0 hk0 (by decide)) ?_
      refine wm_bipush hC dX12_operand_152 (k := ?_)
      refine wm_iconst hC dX12_operand_154 (k := ?_)
      refine y_callV_v_I hC hRm noS ml_X12_316 hk0 (C12_add hk0 hw) (Nat.le_of_ble_eq_true rfl) (Nat.le_of_ble_eq_true rfl) ⟨Nat.zero_le _, Nat.zero_le _⟩ rfl (st := []) rfl (Nat.le_of_ble_eq_true rfl) dX12_operand_155 (fun I8 hw => ?_)
      refine wm_aload_n hC 0 dX12_operand_158 rfl (k_ne0 hk0 (by decide)) ?_
      refine x_getR2 hC 35 fl_X12_118 rfl hk0 dX12_operand_159 hw (fun g4 hw => ?_)
      refine wm_iload_n hC 1 dX12_operand_162 rfl ?_
      refine wm_iconst hC dX12_operand_163 (k := ?_)
      refine x_iast hC g4 dX12_operand_164 hw (fun I9 hw => ?_)
      refine wm_aload_n hC 0 dX12_operand_165 rfl (k_ne0 hk0 (by decide)) ?_
      refine y_callV_v_IJ hC hRm noS ml_X12_247 hk0 (C12_ahead hk0 hw) (Nat.le_of_ble_eq_true rfl) (Nat.le_of_ble_eq_true rfl) ⟨Nat.zero_le _, Nat.zero_le _⟩ rfl (st := []) rfl (Nat.le_of_ble_eq_true rfl) dX12_operand_166 (fun I10 J3 hw => ?_)
      refine wm_iconst hC dX12_operand_169 (k := ?_)
      exact wm_zreturn hC hE (Or.inr rfl) dX12_operand_170 ⟨rfl, hw⟩
def P12_operand_b110 (l0 : Nat) (l1 : Int) (l2 : Int) (I : mI) (J : mI) (R : mR) (Q : Int → mI → mI → Prop) : Prop := (kK (R l0 36) = 23 ∧ (((0 : Int) ≤ l1 ∧ l1 < (kN (R l0 36) : Int)) ∧ wLet (up I (R l0 36) l1 0) (fun I6 => (if l2 = 0 then (P12_operand_b137 l0 l1 l2 I6 J R Q) else (P12_isSign l0 91 I6 (fun r3 => (if r3 = 0 then (P12_operand_b137 l0 l1 l2 I6 J R Q) else (P12_opens l0 5 I6 J R (fun I7 J2 => (Q 0 I7 J2))))))))))
set_option maxRecDepth 20000 in
theorem W12_operand_b110 {C : wX} {ad : Nat → Nat} {n : Nat} {I J : mI} {R : mR} {Q : Int → mI → mI → Prop} (hC : wOK C cX12_operand 4 RX12) (hRm : wRm C 4 78 0 0) (hE : wEnd C (some .boolean) ad n (fun r I' J' R' => (R' = R) ∧ Q r I' J')) {l0 : Nat} {l1 : Int} {l2 : Int}   (hk0 : kK l0 = 12)  (hw : P12_operand_b110 l0 l1 l2 I J R Q) : WM C ad n I J R 0 0 110 [(0, vr l0), (1, vi l1), (2, vi l2)] [] := by
  unfold P12_operand_b110 at hw
  refine wm_aload_n hC 0 dX12_operand_110 rfl (k_ne0 hk0 (by decide)) ?_
  refine x_getR2 hC 36 fl_X12_121 rfl hk0 dX12_operand_111 hw (fun g3 hw => ?_)
  refine wm_iload_n hC 1 dX12_operand_114 rfl ?_
  refine wm_iconst hC dX12_operand_115 (k := ?_)
  refine x_zast hC g3 (Or.inl rfl) dX12_operand_116 hw (fun I6 hw => ?_)
  refine wm_iload_n hC 2 dX12_operand_117 rfl ?_
  refine wm_if_eq (tgt := 137) hC dX12_operand_118 (by decide) hw (fun hw => ?_) (fun hw => ?_)
  · exact W12_operand_b137 hC hRm hE hk0 hw
  · refine wm_aload_n hC 0 dX12_operand_121 rfl (k_ne0 hk0 (by decide)) ?_
    refine wm_bipush hC dX12_operand_122 (k := ?_)
    refine y_callV_z_n hC hRm noS ml_X12_244 hk0 (C12_isSign hk0 hw) (Nat.le_of_ble_eq_true rfl) (Nat.le_of_ble_eq_true rfl) ⟨Nat.zero_le _, Nat.zero_le _⟩ rfl (st := []) rfl (Nat.le_of_ble_eq_true rfl) dX12_operand_124 (fun r3 hw => ?_)
    refine wm_if_eq (tgt := 137) hC dX12_operand_127 (by decide) hw (fun hw => ?_) (fun hw => ?_)
    · exact W12_operand_b137 hC hRm hE hk0 hw
    · refine wm_aload_n hC 0 dX12_operand_130 rfl (k_ne0 hk0 (by decide)) ?_
      refine wm_iconst hC dX12_operand_131 (k := ?_)
      refine y_callV_v_IJ hC hRm noS ml_X12_332 hk0 (C12_opens hk0 hw) (Nat.le_of_ble_eq_true rfl) (Nat.le_of_ble_eq_true rfl) ⟨Nat.zero_le _, Nat.zero_le _⟩ rfl (st := []) rfl (Nat.le_of_ble_eq_true rfl) dX12_operand_132 (fun I7 J2 hw => ?_)
      refine wm_iconst hC dX12_operand_135 (k := ?_)
      exact wm_zreturn hC hE (Or.inl rfl) dX12_operand_136 ⟨rfl, hw⟩
def P12_operand_b46 (l0 : Nat) (l1 : Int) (s0 : Int) (I : mI) (J : mI) (R : mR) (Q : Int → mI → mI → Prop) : Prop := (if s0 = 0 then (P12_operand_b110 l0 l1 s0 I J R Q) else (P12_isWord l0 7237492 I J (fun r2 => (if r2 = 0 then (P12_operand_b110 l0 l1 s0 I J R Q) else (if (I l0 40) = 7 then (P12_blame l0 5 (I l0 4) I (fun I2 => (P12_operand_b79 l0 I2 J R Q))) else (P12_operand_b79 l0 I J R Q))))))
set_option maxRecDepth 20000 in
theorem W12_operand_b46 {C : wX} {ad : Nat → Nat} {n : Nat} {I J : mI} {R : mR} {Q : Int → mI → mI → Prop} (hC : wOK C cX12_operand 4 RX12) (hRm : wRm C 4 78 0 0) (hE : wEnd C (some .boolean) ad n (fun r I' J' R' => (R' = R) ∧ Q r I' J')) {l0 : Nat} {l1 : Int} {s0 : Int}   (hk0 : kK l0 = 12)  (hw : P12_operand_b46 l0 l1 s0 I J R Q) : WM C ad n I J R 0 0 46 [(0, vr l0), (1, vi l1)] [vi s0] := by
  unfold P12_operand_b46 at hw
  refine wm_istore_n hC dX12_operand_46 (by decide) (L2 := [(2, vi s0), (0, vr l0), (1, vi l1)]) rfl ?_
  refine wm_iload_n hC 0 dX12_operand_47 rfl ?_
  refine wm_if_eq (tgt := 110) hC dX12_operand_48 (by decide) hw (fun hw => ?_) (fun hw => ?_)
  · refine wm_sub [1, 2, 0] (L2 := [(0, vr l0), (1, vi l1), (2, vi s0)]) rfl ?_
    exact W12_operand_b110 hC hRm hE hk0 hw
  · refine wm_aload_n hC 1 dX12_operand_51 rfl (k_ne0 hk0 (by decide)) ?_
    refine wm_ldc2 hC (x := 7237492) tc_X12_298 rfl dX12_operand_52 (k := ?_)
    refine y_callV_z_n hC hRm noS ml_X12_325 hk0 (C12_isWord hk0 hw) (Nat.le_of_ble_eq_true rfl) (Nat.le_of_ble_eq_true rfl) ⟨Nat.zero_le _, Nat.zero_le _⟩ rfl (st := []) rfl (Nat.le_of_ble_eq_true rfl) dX12_operand_55 (fun r2 hw => ?_)
    refine wm_if_eq (tgt := 110) hC dX12_operand_58 (by decide) hw (fun hw => ?_) (fun hw => ?_)
    · refine wm_sub [1, 2, 0] (L2 := [(0, vr l0), (1, vi l1), (2, vi s0)]) rfl ?_
      exact W12_operand_b110 hC hRm hE hk0 hw
    · refine wm_aload_n hC 1 dX12_operand_61 rfl (k_ne0 hk0 (by decide)) ?_
      refine x_getI hC 40 fl_X12_134 rfl hk0 dX12_operand_62 ?_
      refine wm_bipush hC dX12_operand_65 (k := ?_)
      refine wm_icmp_ne (tgt := 79) hC dX12_operand_67 (by decide) hw (fun hw => ?_) (fun hw => ?_)
      · refine wm_aload_n hC 1 dX12_operand_70 rfl (k_ne0 hk0 (by decide)) ?_
        refine wm_iconst hC dX12_operand_71 (k := ?_)
        refine wm_aload_n hC 1 dX12_operand_72 rfl (k_ne0 hk0 (by decide)) ?_
        refine x_getI hC 4 fl_X12_23 rfl hk0 dX12_operand_73 ?_
        refine y_callV_v_I hC hRm noS ml_X12_230 hk0 (C12_blame hk0 hw) (Nat.le_of_ble_eq_true rfl) (Nat.le_of_ble_eq_true rfl) ⟨Nat.zero_le _, Nat.zero_le _⟩ rfl (st := []) rfl (Nat.le_of_ble_eq_true rfl) dX12_operand_76 (fun I2 hw => ?_)
        refine wm_sub [1] (L2 := [(0, vr l0)]) rfl ?_
        exact W12_operand_b79 hC hRm hE hk0 hw
      · refine wm_sub [1] (L2 := [(0, vr l0)]) rfl ?_
        exact W12_operand_b79 hC hRm hE hk0 hw
def P12_operand_b45 (l0 : Nat) (l1 : Int) (I : mI) (J : mI) (R : mR) (Q : Int → mI → mI → Prop) : Prop := (P12_operand_b46 l0 l1 0 I J R Q)
set_option maxRecDepth 20000 in
theorem W12_operand_b45 {C : wX} {ad : Nat → Nat} {n : Nat} {I J : mI} {R : mR} {Q : Int → mI → mI → Prop} (hC : wOK C cX12_operand 4 RX12) (hRm : wRm C 4 78 0 0) (hE : wEnd C (some .boolean) ad n (fun r I' J' R' => (R' = R) ∧ Q r I' J')) {l0 : Nat} {l1 : Int}   (hk0 : kK l0 = 12)  (hw : P12_operand_b45 l0 l1 I J R Q) : WM C ad n I J R 0 0 45 [(0, vr l0), (1, vi l1)] [] := by
  unfold P12_operand_b45 at hw
  refine wm_iconst hC dX12_operand_45 (k := ?_)
  exact W12_operand_b46 hC hRm hE hk0 hw
def P12_operand (l0 : Nat) (I : mI) (J : mI) (R : mR) (Q : Int → mI → mI → Prop) : Prop := (P12_lex l0 I (fun I1 => (if (I1 l0 8) ≤ 0 then (rg ((I1 l0 39) - 1) ∧ (kK (R l0 34) = 21 ∧ (((0 : Int) ≤ ((I1 l0 39) - 1) ∧ ((I1 l0 39) - 1) < (kN (R l0 34) : Int)) ∧ (P12_isTest (I1 (R l0 34) ((I1 l0 39) - 1)) (fun r1 => (if r1 = 0 then (P12_operand_b45 l0 ((I1 l0 39) - 1) I1 J R Q) else (kK (R l0 36) = 23 ∧ (((0 : Int) ≤ ((I1 l0 39) - 1) ∧ ((I1 l0 39) - 1) < (kN (R l0 36) : Int)) ∧ (if (I1 (R l0 36) ((I1 l0 39) - 1)) = 0 then (P12_operand_b45 l0 ((I1 l0 39) - 1) I1 J R Q) else (P12_operand_b46 l0 ((I1 l0 39) - 1) 1 I1 J R Q)))))))))) else (Q 1 I1 J))))
set_option maxRecDepth 20000 in
theorem C12_operand {ad : Nat → Nat} {n : Nat} {I J : mI} {R : mR} {Q : Int → mI → mI → Prop}  {l0 : Nat} (hk0 : kK l0 = 12) (hw : P12_operand l0 I J R Q) : wMet yX12_operand cX12_operand 4 (some .boolean) 4 78 false ad n I J R [vr l0] (fun r I' J' R' => (R' = R) ∧ Q r I' J') := by
  refine wMet_of (by decide) (Nat.le_of_ble_eq_true rfl) (fun C hC hRm hE hS => ?_)
  refine (show WM C ad n I J R 0 0 0 [(0, vr l0)] [] from ?_)
  unfold P12_operand at hw
  refine wm_aload_n hC 0 dX12_operand_0 rfl (k_ne0 hk0 (by decide)) ?_
  refine y_callV_v_I hC hRm noS ml_X12_241 hk0 (C12_lex hk0 hw) (Nat.le_of_ble_eq_true rfl) (Nat.le_of_ble_eq_true rfl) ⟨Nat.zero_le _, Nat.zero_le _⟩ rfl (st := []) rfl (Nat.le_of_ble_eq_true rfl) dX12_operand_1 (fun I1 hw => ?_)
  refine wm_aload_n hC 0 dX12_operand_4 rfl (k_ne0 hk0 (by decide)) ?_
  refine x_getI hC 8 fl_X12_36 rfl hk0 dX12_operand_5 ?_
  refine wm_if_le (tgt := 13) hC dX12_operand_8 (by decide) hw (fun hw => ?_) (fun hw => ?_)
  · refine wm_aload_n hC 0 dX12_operand_13 rfl (k_ne0 hk0 (by decide)) ?_
    refine x_getI hC 39 fl_X12_131 rfl hk0 dX12_operand_14 ?_
    refine wm_iconst hC dX12_operand_17 (k := ?_)
    refine x_isub hC dX12_operand_18 hw (fun hw => ?_)
    refine wm_istore_n hC dX12_operand_19 (by decide) (L2 := [(1, vi ((I1 l0 39) - 1)), (0, vr l0)]) rfl ?_
    refine wm_aload_n hC 1 dX12_operand_20 rfl (k_ne0 hk0 (by decide)) ?_
    refine x_getR2 hC 34 fl_X12_115 rfl hk0 dX12_operand_21 hw (fun g1 hw => ?_)
    refine wm_iload_n hC 0 dX12_operand_24 rfl ?_
    refine x_iald hC g1 dX12_operand_25 hw (fun hw => ?_)
    refine y_callS_z_n hC hRm noS ml_X12_322 (C12_isTest  hw) (Nat.le_of_ble_eq_true rfl) (Nat.le_of_ble_eq_true rfl) ⟨Nat.zero_le _, Nat.zero_le _⟩ rfl (st := []) rfl (Nat.le_of_ble_eq_true rfl) dX12_operand_26 (fun r1 hw => ?_)
    refine wm_if_eq (tgt := 45) hC dX12_operand_29 (by decide) hw (fun hw => ?_) (fun hw => ?_)
    · refine wm_sub [1, 0] (L2 := [(0, vr l0), (1, vi ((I1 l0 39) - 1))]) rfl ?_
      exact W12_operand_b45 hC hRm hE hk0 hw
    · refine wm_aload_n hC 1 dX12_operand_32 rfl (k_ne0 hk0 (by decide)) ?_
      refine x_getR2 hC 36 fl_X12_121 rfl hk0 dX12_operand_33 hw (fun g2 hw => ?_)
      refine wm_iload_n hC 0 dX12_operand_36 rfl ?_
      refine x_zald hC g2 dX12_operand_37 hw (fun hw => ?_)
      refine wm_if_eq (tgt := 45) hC dX12_operand_38 (by decide) hw (fun hw => ?_) (fun hw => ?_)
      · refine wm_sub [1, 0] (L2 := [(0, vr l0), (1, vi ((I1 l0 39) - 1))]) rfl ?_
        exact W12_operand_b45 hC hRm hE hk0 hw
      · refine wm_iconst hC dX12_operand_41 (k := ?_)
        refine wm_goto (tgt := 46) hC dX12_operand_42 (by decide) ?_
        refine wm_sub [1, 0] (L2 := [(0, vr l0), (1, vi ((I1 l0 39) - 1))]) rfl ?_
        exact W12_operand_b46 hC hRm hE hk0 hw
  · refine wm_iconst hC dX12_operand_11 (k := ?_)
    exact wm_zreturn hC hE (Or.inr rfl) dX12_operand_12 ⟨rfl, hw⟩
def P12_goesOn_b174 (l0 : Nat) (s0 : Nat) (s1 : Int) (I : mI) (J : mI) (R : mR) (Q : Int → mI → mI → Prop) : Prop := (P12_holdsBack s0 s1 I R (fun I3 => (P12_ahead l0 I3 J R (fun I4 J1 => (wLet (up I4 l0 43 0) (fun I5 => (Q 1 I5 J1)))))))
set_option maxRecDepth 20000 in
theorem W12_goesOn_b174 {C : wX} {ad : Nat → Nat} {n : Nat} {I J : mI} {R : mR} {Q : Int → mI → mI → Prop} (hC : wOK C cX12_goesOn 5 RX12) (hRm : wRm C 3 57 0 0) (hE : wEnd C (some .boolean) ad n (fun r I' J' R' => (R' = R) ∧ Q r I' J')) {l0 : Nat} {s0 : Nat} {s1 : Int}   (hk0 : kK l0 = 12) (hs0 : kK s0 = 12)  (hw : P12_goesOn_b174 l0 s0 s1 I J R Q) : WM C ad n I J R 0 0 174 [(0, vr l0)] [vi s1, vr s0] := by
  unfold P12_goesOn_b174 at hw
  refine y_callV_v_I hC hRm noS ml_X12_329 hs0 (C12_holdsBack hs0 hw) (Nat.le_of_ble_eq_true rfl) (Nat.le_of_ble_eq_true rfl) ⟨Nat.zero_le _, Nat.zero_le _⟩ rfl (st := []) rfl (Nat.le_of_ble_eq_true rfl) dX12_goesOn_174 (fun I3 hw => ?_)
  refine wm_aload_n hC 0 dX12_goesOn_177 rfl (k_ne0 hk0 (by decide)) ?_
  refine y_callV_v_IJ hC hRm noS ml_X12_247 hk0 (C12_ahead hk0 hw) (Nat.le_of_ble_eq_true rfl) (Nat.le_of_ble_eq_true rfl) ⟨Nat.zero_le _, Nat.zero_le _⟩ rfl (st := []) rfl (Nat.le_of_ble_eq_true rfl) dX12_goesOn_178 (fun I4 J1 hw => ?_)
  refine wm_aload_n hC 0 dX12_goesOn_181 rfl (k_ne0 hk0 (by decide)) ?_
  refine wm_iconst hC dX12_goesOn_182 (k := ?_)
  refine x_putZ hC 43 fl_X12_143 rfl hk0 (Or.inl rfl) dX12_goesOn_183 hw (fun I5 hw => ?_)
  refine wm_iconst hC dX12_goesOn_186 (k := ?_)
  exact wm_zreturn hC hE (Or.inr rfl) dX12_goesOn_187 ⟨rfl, hw⟩
def P12_goesOn_b112 (l0 : Nat) (s0 : Nat) (s1 : Int) (I : mI) (J : mI) (R : mR) (Q : Int → mI → mI → Prop) : Prop := (P12_joins s0 s1 I R (fun I2 => (P12_isSign l0 43 I2 (fun r9 => (if r9 = 0 then (P12_isSign l0 45 I2 (fun r10 => (if r10 = 0 then (P12_isSign l0 42 I2 (fun r11 => (if r11 = 0 then (P12_isSign l0 47 I2 (fun r12 => (if r12 = 0 then (P12_goesOn_b174 l0 l0 35 I2 J R Q) else (P12_goesOn_b174 l0 l0 34 I2 J R Q)))) else (P12_goesOn_b174 l0 l0 33 I2 J R Q)))) else (P12_goesOn_b174 l0 l0 32 I2 J R Q)))) else (P12_goesOn_b174 l0 l0 31 I2 J R Q))))))
set_option maxRecDepth 20000 in
theorem W12_goesOn_b112 {C : wX} {ad : Nat → Nat} {n : Nat} {I J : mI} {R : mR} {Q : Int → mI → mI → Prop} (hC : wOK C cX12_goesOn 5 RX12) (hRm : wRm C 3 57 0 0) (hE : wEnd C (some .boolean) ad n (fun r I' J' R' => (R' = R) ∧ Q r I' J')) {l0 : Nat} {s0 : Nat} {s1 : Int}   (hk0 : kK l0 = 12) (hs0 : kK s0 = 12)  (hw : P12_goesOn_b112 l0 s0 s1 I J R Q) : WM C ad n I J R 0 0 112 [(0, vr l0)] [vi s1, vr s0] := by
  unfold P12_goesOn_b112 at hw
  refine y_callV_v_I hC hRm noS ml_X12_335 hs0 (C12_joins hs0 hw) (Nat.le_of_ble_eq_true rfl) (Nat.le_of_ble_eq_true rfl) ⟨Nat.zero_le _, Nat.zero_le _⟩ rfl (st := []) rfl (Nat.le_of_ble_eq_true rfl) dX12_goesOn_112 (fun I2 hw => ?_)
  refine wm_aload_n hC 0 dX12_goesOn_115 rfl (k_ne0 hk0 (by decide)) ?_
  refine wm_aload_n hC 0 dX12_goesOn_116 rfl (k_ne0 hk0 (by decide)) ?_
  refine wm_bipush hC dX12_goesOn_117 (k := ?_)
  refine y_callV_z_n hC hRm noS ml_X12_244 hk0 (C12_isSign hk0 hw) (Nat.le_of_ble_eq_true rfl) (Nat.le_of_ble_eq_true rfl) ⟨Nat.zero_le _, Nat.zero_le _⟩ rfl (st := [vr l0]) rfl (Nat.le_of_ble_eq_true rfl) dX12_goesOn_119 (fun r9 hw => ?_)
  refine wm_if_eq (tgt := 130) hC dX12_goesOn_122 (by decide) hw (fun hw => ?_) (fun hw => ?_)
  · refine wm_aload_n hC 0 dX12_goesOn_130 rfl (k_ne0 hk0 (by decide)) ?_
    refine wm_bipush hC dX12_goesOn_131 (k := ?_)
    refine y_callV_z_n hC hRm noS ml_X12_244 hk0 (C12_isSign hk0 hw) (Nat.le_of_ble_eq_true rfl) (Nat.le_of_ble_eq_true rfl) ⟨Nat.zero_le _, Nat.zero_le _⟩ rfl (st := [vr l0]) rfl (Nat.le_of_ble_eq_true rfl) dX12_goesOn_133 (fun r10 hw => ?_)
    refine wm_if_eq (tgt := 144) hC dX12_goesOn_136 (by decide) hw (fun hw => ?_) (fun hw => ?_)
    · refine wm_aload_n hC 0 dX12_goesOn_144 rfl (k_ne0 hk0 (by decide)) ?_
      refine wm_bipush hC dX12_goesOn_145 (k := ?_)
      refine y_callV_z_n hC hRm noS ml_X12_244 hk0 (C12_isSign hk0 hw) (Nat.le_of_ble_eq_true rfl) (Nat.le_of_ble_eq_true rfl) ⟨Nat.zero_le _, Nat.zero_le _⟩ rfl (st := [vr l0]) rfl (Nat.le_of_ble_eq_true rfl) dX12_goesOn_147 (fun r11 hw => ?_)
      refine wm_if_eq (tgt := 158) hC dX12_goesOn_150 (by decide) hw (fun hw => ?_) (fun hw => ?_)
      · refine wm_aload_n hC 0 dX12_goesOn_158 rfl (k_ne0 hk0 (by decide)) ?_
        refine wm_bipush hC dX12_goesOn_159 (k := ?_)
        refine y_callV_z_n hC hRm noS ml_X12_244 hk0 (C12_isSign hk0 hw) (Nat.le_of_ble_eq_true rfl) (Nat.le_of_ble_eq_true rfl) ⟨Nat.zero_le _, Nat.zero_le _⟩ rfl (st := [vr l0]) rfl (Nat.le_of_ble_eq_true rfl) dX12_goesOn_161 (fun r12 hw => ?_)
        refine wm_if_eq (tgt := 172) hC dX12_goesOn_164 (by decide) hw (fun hw => ?_) (fun hw => ?_)
        · refine wm_bipush hC dX12_goesOn_172 (k := ?_)
          exact W12_goesOn_b174 hC hRm hE hk0 hk0 hw
        · refine wm_bipush hC dX12_goesOn_167 (k := ?_)
          refine wm_goto (tgt := 174) hC dX12_goesOn_169 (by decide) ?_
          exact W12_goesOn_b174 hC hRm hE hk0 hk0 hw
      · refine wm_bipush hC dX12_goesOn_153 (k := ?_)
        refine wm_goto (tgt := 174) hC dX12_goesOn_155 (by decide) ?_
        exact W12_goesOn_b174 hC hRm hE hk0 hk0 hw
    · refine wm_bipush hC dX12_goesOn_139 (k := ?_)
      refine wm_goto (tgt := 174) hC dX12_goesOn_141 (by decide) ?_
      exact W12_goesOn_b174 hC hRm hE hk0 hk0 hw
  · refine wm_bipush hC dX12_goesOn_125 (k := ?_)
    refine wm_goto (tgt := 174) hC dX12_goesOn_127 (by decide) ?_
    exact W12_goesOn_b174 hC hRm hE hk0 hk0 hw
def P12_goesOn_b106 (l0 : Nat) (s0 : Nat) (I : mI) (J : mI) (R : mR) (Q : Int → mI → mI → Prop) : Prop := (P12_goesOn_b112 l0 s0 5 I J R Q)
set_option maxRecDepth 20000 in
theorem W12_goesOn_b106 {C : wX} {ad : Nat → Nat} {n : Nat} {I J : mI} {R : mR} {Q : Int → mI → mI → Prop} (hC : wOK C cX12_goesOn 5 RX12) (hRm : wRm C 3 57 0 0) (hE : wEnd C (some .boolean) ad n (fun r I' J' R' => (R' = R) ∧ Q r I' J')) {l0 : Nat} {s0 : Nat}   (hk0 : kK l0 = 12) (hs0 : kK s0 = 12)  (hw : P12_goesOn_b106 l0 s0 I J R Q) : WM C ad n I J R 0 0 106 [(0, vr l0)] [vr s0] := by
  unfold P12_goesOn_b106 at hw
  refine wm_iconst hC dX12_goesOn_106 (k := ?_)
  refine wm_goto (tgt := 112) hC dX12_goesOn_107 (by decide) ?_
  exact W12_goesOn_b112 hC hRm hE hk0 hs0 hw
def P12_goesOn_b87 (l0 : Nat) (I : mI) (J : mI) (R : mR) (Q : Int → mI → mI → Prop) : Prop := (P12_isSign l0 43 I (fun r7 => (if r7 = 0 then (P12_isSign l0 45 I (fun r8 => (if r8 = 0 then (P12_goesOn_b112 l0 l0 6 I J R Q) else (P12_goesOn_b106 l0 l0 I J R Q)))) else (P12_goesOn_b106 l0 l0 I J R Q))))
set_option maxRecDepth 20000 in
theorem W12_goesOn_b87 {C : wX} {ad : Nat → Nat} {n : Nat} {I J : mI} {R : mR} {Q : Int → mI → mI → Prop} (hC : wOK C cX12_goesOn 5 RX12) (hRm : wRm C 3 57 0 0) (hE : wEnd C (some .boolean) ad n (fun r I' J' R' => (R' = R) ∧ Q r I' J')) {l0 : Nat}   (hk0 : kK l0 = 12)  (hw : P12_goesOn_b87 l0 I J R Q) : WM C ad n I J R 0 0 87 [(0, vr l0)] [] := by
  unfold P12_goesOn_b87 at hw
  refine wm_aload_n hC 0 dX12_goesOn_87 rfl (k_ne0 hk0 (by decide)) ?_
  refine wm_aload_n hC 0 dX12_goesOn_88 rfl (k_ne0 hk0 (by decide)) ?_
  refine wm_bipush hC dX12_goesOn_89 (k := ?_)
  refine y_callV_z_n hC hRm noS ml_X12_244 hk0 (C12_isSign hk0 hw) (Nat.le_of_ble_eq_true rfl) (Nat.le_of_ble_eq_true rfl) ⟨Nat.zero_le _, Nat.zero_le _⟩ rfl (st := [vr l0]) rfl (Nat.le_of_ble_eq_true rfl) dX12_goesOn_91 (fun r7 hw => ?_)
  refine wm_if_ne (tgt := 106) hC dX12_goesOn_94 (by decide) hw (fun hw => ?_) (fun hw => ?_)
  · refine wm_aload_n hC 0 dX12_goesOn_97 rfl (k_ne0 hk0 (by decide)) ?_
    refine wm_bipush hC dX12_goesOn_98 (k := ?_)
    refine y_callV_z_n hC hRm noS ml_X12_244 hk0 (C12_isSign hk0 hw) (Nat.le_of_ble_eq_true rfl) (Nat.le_of_ble_eq_true rfl) ⟨Nat.zero_le _, Nat.zero_le _⟩ rfl (st := [vr l0]) rfl (Nat.le_of_ble_eq_true rfl) dX12_goesOn_100 (fun r8 hw => ?_)
    refine wm_if_eq (tgt := 110) hC dX12_goesOn_103 (by decide) hw (fun hw => ?_) (fun hw => ?_)
    · refine wm_bipush hC dX12_goesOn_110 (k := ?_)
      exact W12_goesOn_b112 hC hRm hE hk0 hk0 hw
    · exact W12_goesOn_b106 hC hRm hE hk0 hk0 hw
  · exact W12_goesOn_b106 hC hRm hE hk0 hk0 hw
def P12_goesOn_b264 (l0 : Nat) (l1 : Int) (s0 : Nat) (s1 : Int) (I : mI) (J : mI) (R : mR) (Q : Int → mI → mI → Prop) : Prop := (P12_holdsBack s0 s1 I R (fun I7 => (kK (R l0 35) = 21 ∧ (((0 : Int) ≤ l1 ∧ l1 < (kN (R l0 35) : Int)) ∧ wLet (up I7 (R l0 35) l1 1) (fun I8 => (P12_ahead l0 I8 J R (fun I9 J2 => (wLet (up I9 l0 43 0) (fun I10 => (Q 1 I10 J2))))))))))
set_option maxRecDepth 20000 in
theorem W12_goesOn_b264 {C : wX} {ad : Nat → Nat} {n : Nat} {I J : mI} {R : mR} {Q : Int → mI → mI → Prop} (hC : wOK C cX12_goesOn 5 RX12) (hRm : wRm C 3 57 0 0) (hE : wEnd C (some .boolean) ad n (fun r I' J' R' => (R' = R) ∧ Q r I' J')) {l0 : Nat} {l1 : Int} {s0 : Nat} {s1 : Int}   (hk0 : kK l0 = 12) (hs0 : kK s0 = 12)  (hw : P12_goesOn_b264 l0 l1 s0 s1 I J R Q) : WM C ad n I J R 0 0 264 [(0, vr l0), (1, vi l1)] [vi s1, vr s0] := by
  unfold P12_goesOn_b264 at hw
  refine y_callV_v_I hC hRm noS ml_X12_329 hs0 (C12_holdsBack hs0 hw) (Nat.le_of_ble_eq_true rfl) (Nat.le_of_ble_eq_true rfl) ⟨Nat.zero_le _, Nat.zero_le _⟩ rfl (st := []) rfl (Nat.le_of_ble_eq_true rfl) dX12_goesOn_264 (fun I7 hw => ?_)
  refine wm_aload_n hC 0 dX12_goesOn_267 rfl (k_ne0 hk0 (by decide)) ?_
  refine x_getR2 hC 35 fl_X12_118 rfl hk0 dX12_goesOn_268 hw (fun g4 hw => ?_)
  refine wm_iload_n hC 1 dX12_goesOn_271 rfl ?_
  refine wm_iconst hC dX12_goesOn_272 (k := ?_)
  refine x_iast hC g4 dX12_goesOn_273 hw (fun I8 hw => ?_)
  refine wm_aload_n hC 0 dX12_goesOn_274 rfl (k_ne0 hk0 (by decide)) ?_
  refine y_callV_v_IJ hC hRm noS ml_X12_247 hk0 (C12_ahead hk0 hw) (Nat.le_of_ble_eq_true rfl) (Nat.le_of_ble_eq_true rfl) ⟨Nat.zero_le _, Nat.zero_le _⟩ rfl (st := []) rfl (Nat.le_of_ble_eq_true rfl) dX12_goesOn_275 (fun I9 J2 hw => ?_)
  refine wm_aload_n hC 0 dX12_goesOn_278 rfl (k_ne0 hk0 (by decide)) ?_
  refine wm_iconst hC dX12_goesOn_279 (k := ?_)
  refine x_putZ hC 43 fl_X12_143 rfl hk0 (Or.inl rfl) dX12_goesOn_280 hw (fun I10 hw => ?_)
  refine wm_iconst hC dX12_goesOn_283 (k := ?_)
  exact wm_zreturn hC hE (Or.inr rfl) dX12_goesOn_284 ⟨rfl, hw⟩
def P12_goesOn_b228 (l0 : Nat) (l1 : Int) (I : mI) (J : mI) (R : mR) (Q : Int → mI → mI → Prop) : Prop := (P12_joins l0 5 I R (fun I6 => (P12_isSign l0 60 I6 (fun r16 => (if r16 = 0 then (P12_isSign l0 62 I6 (fun r17 => (if r17 = 0 then (P12_goesOn_b264 l0 l1 l0 40 I6 J R Q) else (P12_goesOn_b264 l0 l1 l0 39 I6 J R Q)))) else (P12_goesOn_b264 l0 l1 l0 38 I6 J R Q))))))
set_option maxRecDepth 20000 in
theorem W12_goesOn_b228 {C : wX} {ad : Nat → Nat} {n : Nat} {I J : mI} {R : mR} {Q : Int → mI → mI → Prop} (hC : wOK C cX12_goesOn 5 RX12) (hRm : wRm C 3 57 0 0) (hE : wEnd C (some .boolean) ad n (fun r I' J' R' => (R' = R) ∧ Q r I' J')) {l0 : Nat} {l1 : Int}   (hk0 : kK l0 = 12)  (hw : P12_goesOn_b228 l0 l1 I J R Q) : WM C ad n I J R 0 0 228 [(0, vr l0), (1, vi l1)] [] := by
  unfold P12_goesOn_b228 at hw
  refine wm_aload_n hC 0 dX12_goesOn_228 rfl (k_ne0 hk0 (by decide)) ?_
  refine wm_iconst hC dX12_goesOn_229 (k := ?_)
  refine y_callV_v_I hC hRm noS ml_X12_335 hk0 (C12_joins hk0 hw) (Nat.le_of_ble_eq_true rfl) (Nat.le_of_ble_eq_true rfl) ⟨Nat.zero_le _, Nat.zero_le _⟩ rfl (st := []) rfl (Nat.le_of_ble_eq_true rfl) dX12_goesOn_230 (fun I6 hw => ?_)
  refine wm_aload_n hC 0 dX12_goesOn_233 rfl (k_ne0 hk0 (by decide)) ?_
  refine wm_aload_n hC 0 dX12_goesOn_234 rfl (k_ne0 hk0 (by decide)) ?_
  refine wm_bipush hC dX12_goesOn_235 (k := ?_)
  refine y_callV_z_n hC hRm noS ml_X12_244 hk0 (C12_isSign hk0 hw) (Nat.le_of_ble_eq_true rfl) (Nat.le_of_ble_eq_true rfl) ⟨Nat.zero_le _, Nat.zero_le _⟩ rfl (st := [vr l0]) rfl (Nat.le_of_ble_eq_true rfl) dX12_goesOn_237 (fun r16 hw => ?_)
  refine wm_if_eq (tgt := 248) hC dX12_goesOn_240 (by decide) hw (fun hw => ?_) (fun hw => ?_)
  · refine wm_aload_n hC 0 dX12_goesOn_248 rfl (k_ne0 hk0 (by decide)) ?_
    refine wm_bipush hC dX12_goesOn_249 (k := ?_)
    refine y_callV_z_n hC hRm noS ml_X12_244 hk0 (C12_isSign hk0 hw) (Nat.le_of_ble_eq_true rfl) (Nat.le_of_ble_eq_true rfl) ⟨Nat.zero_le _, Nat.zero_le _⟩ rfl (st := [vr l0]) rfl (Nat.le_of_ble_eq_true rfl) dX12_goesOn_251 (fun r17 hw => ?_)
    refine wm_if_eq (tgt := 262) hC dX12_goesOn_254 (by decide) hw (fun hw => ?_) (fun hw => ?_)
    · refine wm_bipush hC dX12_goesOn_262 (k := ?_)
      exact W12_goesOn_b264 hC hRm hE hk0 hk0 hw
    · refine wm_bipush hC dX12_goesOn_257 (k := ?_)
      refine wm_goto (tgt := 264) hC dX12_goesOn_259 (by decide) ?_
      exact W12_goesOn_b264 hC hRm hE hk0 hk0 hw
  · refine wm_bipush hC dX12_goesOn_243 (k := ?_)
    refine wm_goto (tgt := 264) hC dX12_goesOn_245 (by decide) ?_
    exact W12_goesOn_b264 hC hRm hE hk0 hk0 hw
def P12_goesOn_b372 (l0 : Nat) (l1 : Int) (s0 : Nat) (s1 : Int) (I : mI) (J : mI) (R : mR) (Q : Int → mI → mI → Prop) : Prop := (P12_holdsBack s0 s1 I R (fun I13 => (kK (R l0 35) = 21 ∧ (((0 : Int) ≤ l1 ∧ l1 < (kN (R l0 35) : Int)) ∧ wLet (up I13 (R l0 35) l1 0) (fun I14 => (kK (R l0 36) = 23 ∧ (((0 : Int) ≤ l1 ∧ l1 < (kN (R l0 36) : Int)) ∧ wLet (up I14 (R l0 36) l1 1) (fun I15 => (P12_ahead l0 I15 J R (fun I16 J3 => (wLet (up I16 l0 43 0) (fun I17 => (Q 1 I17 J3)))))))))))))
set_option maxRecDepth 20000 in
theorem W12_goesOn_b372 {C : wX} {ad : Nat → Nat} {n : Nat} {I J : mI} {R : mR} {Q : Int → mI → mI → Prop} (hC : wOK C cX12_goesOn 5 RX12) (hRm : wRm C 3 57 0 0) (hE : wEnd C (some .boolean) ad n (fun r I' J' R' => (R' = R) ∧ Q r I' J')) {l0 : Nat} {l1 : Int} {s0 : Nat} {s1 : Int}   (hk0 : kK l0 = 12) (hs0 : kK s0 = 12)  (hw : P12_goesOn_b372 l0 l1 s0 s1 I J R Q) : WM C ad n I J R 0 0 372 [(0, vr l0), (1, vi l1)] [vi s1, vr s0] := by
  unfold P12_goesOn_b372 at hw
  refine y_callV_v_I hC hRm noS ml_X12_329 hs0 (C12_holdsBack hs0 hw) (Nat.le_of_ble_eq_true rfl) (Nat.le_of_ble_eq_true rfl) ⟨Nat.zero_le _, Nat.zero_le _⟩ rfl (st := []) rfl (Nat.le_of_ble_eq_true rfl) dX12_goesOn_372 (fun I13 hw => ?_)
  refine wm_aload_n hC 0 dX12_goesOn_375 rfl (k_ne0 hk0 (by decide)) ?_
  refine x_getR2 hC 35 fl_X12_118 rfl hk0 dX12_goesOn_376 hw (fun g6 hw => ?_)
  refine wm_iload_n hC 1 dX12_goesOn_379 rfl ?_
  refine wm_iconst hC dX12_goesOn_380 (k := ?_)
  refine x_iast hC g6 dX12_goesOn_381 hw (fun I14 hw => ?_)
  refine wm_aload_n hC 0 dX12_goesOn_382 rfl (k_ne0 hk0 (by decide)) ?_
  refine x_getR2 hC 36 fl_X12_121 rfl hk0 dX12_goesOn_383 hw (fun g7 hw => ?_)
  refine wm_iload_n hC 1 dX12_goesOn_386 rfl ?_
  refine wm_iconst hC dX12_goesOn_387 (k := ?_)
  refine x_zast hC g7 (Or.inr rfl) dX12_goesOn_388 hw (fun I15 hw => ?_)
  refine wm_aload_n hC 0 dX12_goesOn_389 rfl (k_ne0 hk0 (by decide)) ?_
  refine y_callV_v_IJ hC hRm noS ml_X12_247 hk0 (C12_ahead hk0 hw) (Nat.le_of_ble_eq_true rfl) (Nat.le_of_ble_eq_true rfl) ⟨Nat.zero_le _, Nat.zero_le _⟩ rfl (st := []) rfl (Nat.le_of_ble_eq_true rfl) dX12_goesOn_390 (fun I16 J3 hw => ?_)
  refine wm_aload_n hC 0 dX12_goesOn_393 rfl (k_ne0 hk0 (by decide)) ?_
  refine wm_iconst hC dX12_goesOn_394 (k := ?_)
  refine x_putZ hC 43 fl_X12_143 rfl hk0 (Or.inl rfl) dX12_goesOn_395 hw (fun I17 hw => ?_)
  refine wm_iconst hC dX12_goesOn_398 (k := ?_)
  exact wm_zreturn hC hE (Or.inr rfl) dX12_goesOn_399 ⟨rfl, hw⟩
def P12_goesOn_b356 (l0 : Nat) (l1 : Int) (l4 : Int) (s0 : Nat) (s1 : Int) (I : mI) (J : mI) (R : mR) (Q : Int → mI → mI → Prop) : Prop := (P12_joins s0 s1 I R (fun I12 => (if l4 = 0 then (P12_goesOn_b372 l0 l1 l0 42 I12 J R Q) else (P12_goesOn_b372 l0 l1 l0 41 I12 J R Q))))
set_option maxRecDepth 20000 in
theorem W12_goesOn_b356 {C : wX} {ad : Nat → Nat} {n : Nat} {I J : mI} {R : mR} {Q : Int → mI → mI → Prop} (hC : wOK C cX12_goesOn 5 RX12) (hRm : wRm C 3 57 0 0) (hE : wEnd C (some .boolean) ad n (fun r I' J' R' => (R' = R) ∧ Q r I' J')) {l0 : Nat} {l1 : Int} {l4 : Int} {s0 : Nat} {s1 : Int}   (hk0 : kK l0 = 12) (hs0 : kK s0 = 12)  (hw : P12_goesOn_b356 l0 l1 l4 s0 s1 I J R Q) : WM C ad n I J R 0 0 356 [(0, vr l0), (1, vi l1), (4, vi l4)] [vi s1, vr s0] := by
  unfold P12_goesOn_b356 at hw
  refine y_callV_v_I hC hRm noS ml_X12_335 hs0 (C12_joins hs0 hw) (Nat.le_of_ble_eq_true rfl) (Nat.le_of_ble_eq_true rfl) ⟨Nat.zero_le _, Nat.zero_le _⟩ rfl (st := []) rfl (Nat.le_of_ble_eq_true rfl) dX12_goesOn_356 (fun I12 hw => ?_)
  refine wm_aload_n hC 0 dX12_goesOn_359 rfl (k_ne0 hk0 (by decide)) ?_
  refine wm_iload hC 2 dX12_goesOn_360 rfl ?_
  refine wm_if_eq (tgt := 370) hC dX12_goesOn_362 (by decide) hw (fun hw => ?_) (fun hw => ?_)
  · refine wm_bipush hC dX12_goesOn_370 (k := ?_)
    refine wm_sub [0, 1] (L2 := [(0, vr l0), (1, vi l1)]) rfl ?_
    exact W12_goesOn_b372 hC hRm hE hk0 hk0 hw
  · refine wm_bipush hC dX12_goesOn_365 (k := ?_)
    refine wm_goto (tgt := 372) hC dX12_goesOn_367 (by decide) ?_
    refine wm_sub [0, 1] (L2 := [(0, vr l0), (1, vi l1)]) rfl ?_
    exact W12_goesOn_b372 hC hRm hE hk0 hk0 hw
def P12_goesOn_b327 (l0 : Nat) (l1 : Int) (I : mI) (J : mI) (R : mR) (Q : Int → mI → mI → Prop) : Prop := (if (I l0 8) ≤ 0 then (P12_isWord l0 6385252 I J (fun r20 => (if r20 = 0 then (P12_goesOn_b356 l0 l1 r20 l0 1 I J R Q) else (P12_goesOn_b356 l0 l1 r20 l0 2 I J R Q)))) else (Q 0 I J))
set_option maxRecDepth 20000 in
theorem W12_goesOn_b327 {C : wX} {ad : Nat → Nat} {n : Nat} {I J : mI} {R : mR} {Q : Int → mI → mI → Prop} (hC : wOK C cX12_goesOn 5 RX12) (hRm : wRm C 3 57 0 0) (hE : wEnd C (some .boolean) ad n (fun r I' J' R' => (R' = R) ∧ Q r I' J')) {l0 : Nat} {l1 : Int}   (hk0 : kK l0 = 12)  (hw : P12_goesOn_b327 l0 l1 I J R Q) : WM C ad n I J R 0 0 327 [(0, vr l0), (1, vi l1)] [] := by
  unfold P12_goesOn_b327 at hw
  refine wm_aload_n hC 0 dX12_goesOn_327 rfl (k_ne0 hk0 (by decide)) ?_
  refine x_getI hC 8 fl_X12_36 rfl hk0 dX12_goesOn_328 ?_
  refine wm_if_le (tgt := 336) hC dX12_goesOn_331 (by decide) hw (fun hw => ?_) (fun hw => ?_)
  · refine wm_aload_n hC 0 dX12_goesOn_336 rfl (k_ne0 hk0 (by decide)) ?_
    refine wm_ldc2 hC (x := 6385252) tc_X12_296 rfl dX12_goesOn_337 (k := ?_)
    refine y_callV_z_n hC hRm noS ml_X12_325 hk0 (C12_isWord hk0 hw) (Nat.le_of_ble_eq_true rfl) (Nat.le_of_ble_eq_true rfl) ⟨Nat.zero_le _, Nat.zero_le _⟩ rfl (st := []) rfl (Nat.le_of_ble_eq_true rfl) dX12_goesOn_340 (fun r20 hw => ?_)
    refine wm_istore hC dX12_goesOn_343 (by decide) (L2 := [(4, vi r20), (0, vr l0), (1, vi l1)]) rfl ?_
    refine wm_aload_n hC 1 dX12_goesOn_345 rfl (k_ne0 hk0 (by decide)) ?_
    refine wm_iload hC 0 dX12_goesOn_346 rfl ?_
    refine wm_if_eq (tgt := 355) hC dX12_goesOn_348 (by decide) hw (fun hw => ?_) (fun hw => ?_)
    · refine wm_iconst hC dX12_goesOn_355 (k := ?_)
      refine wm_sub [1, 2, 0] (L2 := [(0, vr l0), (1, vi l1), (4, vi r20)]) rfl ?_
      exact W12_goesOn_b356 hC hRm hE hk0 hk0 hw
    · refine wm_iconst hC dX12_goesOn_351 (k := ?_)
      refine wm_goto (tgt := 356) hC dX12_goesOn_352 (by decide) ?_
      refine wm_sub [1, 2, 0] (L2 := [(0, vr l0), (1, vi l1), (4, vi r20)]) rfl ?_
      exact W12_goesOn_b356 hC hRm hE hk0 hk0 hw
  · refine wm_iconst hC dX12_goesOn_334 (k := ?_)
    exact wm_zreturn hC hE (Or.inl rfl) dX12_goesOn_335 ⟨rfl, hw⟩
def P12_goesOn_b309 (l0 : Nat) (l1 : Int) (I : mI) (J : mI) (R : mR) (Q : Int → mI → mI → Prop) : Prop := (kK (R l0 35) = 21 ∧ (((0 : Int) ≤ l1 ∧ l1 < (kN (R l0 35) : Int)) ∧ (if (I (R l0 35) l1) = 0 then (P12_blame l0 1 (I l0 4) I (fun I11 => (P12_goesOn_b327 l0 l1 I11 J R Q))) else (P12_goesOn_b327 l0 l1 I J R Q))))
set_option maxRecDepth 20000 in
theorem W12_goesOn_b309 {C : wX} {ad : Nat → Nat} {n : Nat} {I J : mI} {R : mR} {Q : Int → mI → mI → Prop} (hC : wOK C cX12_goesOn 5 RX12) (hRm : wRm C 3 57 0 0) (hE : wEnd C (some .boolean) ad n (fun r I' J' R' => (R' = R) ∧ Q r I' J')) {l0 : Nat} {l1 : Int}   (hk0 : kK l0 = 12)  (hw : P12_goesOn_b309 l0 l1 I J R Q) : WM C ad n I J R 0 0 309 [(0, vr l0), (1, vi l1)] [] := by
  unfold P12_goesOn_b309 at hw
  refine wm_aload_n hC 0 dX12_goesOn_309 rfl (k_ne0 hk0 (by decide)) ?_
  refine x_getR2 hC 35 fl_X12_118 rfl hk0 dX12_goesOn_310 hw (fun g5 hw => ?_)
  refine wm_iload_n hC 1 dX12_goesOn_313 rfl ?_
  refine x_iald hC g5 dX12_goesOn_314 hw (fun hw => ?_)
  refine wm_if_ne (tgt := 327) hC dX12_goesOn_315 (by decide) hw (fun hw => ?_) (fun hw => ?_)
  · refine wm_aload_n hC 0 dX12_goesOn_318 rfl (k_ne0 hk0 (by decide)) ?_
    refine wm_iconst hC dX12_goesOn_319 (k := ?_)
    refine wm_aload_n hC 0 dX12_goesOn_320 rfl (k_ne0 hk0 (by decide)) ?_
    refine x_getI hC 4 fl_X12_23 rfl hk0 dX12_goesOn_321 ?_
    refine y_callV_v_I hC hRm noS ml_X12_230 hk0 (C12_blame hk0 hw) (Nat.le_of_ble_eq_true rfl) (Nat.le_of_ble_eq_true rfl) ⟨Nat.zero_le _, Nat.zero_le _⟩ rfl (st := []) rfl (Nat.le_of_ble_eq_true rfl) dX12_goesOn_324 (fun I11 hw => ?_)
    exact W12_goesOn_b327 hC hRm hE hk0 hw
  · exact W12_goesOn_b327 hC hRm hE hk0 hw
def P12_goesOn_b499 (l0 : Nat) (l1 : Int) (s0 : Nat) (s1 : Int) (s2 : Int) (I : mI) (J : mI) (R : mR) (Q : Int → mI → mI → Prop) : Prop := (((0 : Int) ≤ s1 ∧ s1 < (kN s0 : Int)) ∧ wLet (up I s0 s1 s2) (fun I22 => (kK (R l0 35) = 21 ∧ (((0 : Int) ≤ l1 ∧ l1 < (kN (R l0 35) : Int)) ∧ wLet (up I22 (R l0 35) l1 0) (fun I23 => (P12_ahead l0 I23 J R (fun I24 J4 => (wLet (up I24 l0 43 0) (fun I25 => (Q 1 I25 J4))))))))))
set_option maxRecDepth 20000 in
theorem W12_goesOn_b499 {C : wX} {ad : Nat → Nat} {n : Nat} {I J : mI} {R : mR} {Q : Int → mI → mI → Prop} (hC : wOK C cX12_goesOn 5 RX12) (hRm : wRm C 3 57 0 0) (hE : wEnd C (some .boolean) ad n (fun r I' J' R' => (R' = R) ∧ Q r I' J')) {l0 : Nat} {l1 : Int} {s0 : Nat} {s1 : Int} {s2 : Int}   (hk0 : kK l0 = 12) (hs0 : kK s0 = 21)  (hw : P12_goesOn_b499 l0 l1 s0 s1 s2 I J R Q) : WM C ad n I J R 0 0 499 [(0, vr l0), (1, vi l1)] [vi s2, vi s1, vr s0] := by
  unfold P12_goesOn_b499 at hw
  refine x_iast hC hs0 dX12_goesOn_499 hw (fun I22 hw => ?_)
  refine wm_aload_n hC 0 dX12_goesOn_500 rfl (k_ne0 hk0 (by decide)) ?_
  refine x_getR2 hC 35 fl_X12_118 rfl hk0 dX12_goesOn_501 hw (fun g10 hw => ?_)
  refine wm_iload_n hC 1 dX12_goesOn_504 rfl ?_
  refine wm_iconst hC dX12_goesOn_505 (k := ?_)
  refine x_iast hC g10 dX12_goesOn_506 hw (fun I23 hw => ?_)
  refine wm_aload_n hC 0 dX12_goesOn_507 rfl (k_ne0 hk0 (by decide)) ?_
  refine y_callV_v_IJ hC hRm noS ml_X12_247 hk0 (C12_ahead hk0 hw) (Nat.le_of_ble_eq_true rfl) (Nat.le_of_ble_eq_true rfl) ⟨Nat.zero_le _, Nat.zero_le _⟩ rfl (st := []) rfl (Nat.le_of_ble_eq_true rfl) dX12_goesOn_508 (fun I24 J4 hw => ?_)
  refine wm_aload_n hC 0 dX12_goesOn_511 rfl (k_ne0 hk0 (by decide)) ?_
  refine wm_iconst hC dX12_goesOn_512 (k := ?_)
  refine x_putZ hC 43 fl_X12_143 rfl hk0 (Or.inl rfl) dX12_goesOn_513 hw (fun I25 hw => ?_)
  refine wm_iconst hC dX12_goesOn_516 (k := ?_)
  exact wm_zreturn hC hE (Or.inr rfl) dX12_goesOn_517 ⟨rfl, hw⟩
def P12_goesOn_b470 (l0 : Nat) (l1 : Int) (l2 : Int) (I : mI) (J : mI) (R : mR) (Q : Int → mI → mI → Prop) : Prop := (if (I l0 8) ≤ 0 then (P12_joins l0 1 I R (fun I21 => (kK (R l0 34) = 21 ∧ (if l2 = 3 then (P12_goesOn_b499 l0 l1 (R l0 34) l1 4 I21 J R Q) else (P12_goesOn_b499 l0 l1 (R l0 34) l1 3 I21 J R Q))))) else (Q 0 I J))
set_option maxRecDepth 20000 in
theorem W12_goesOn_b470 {C : wX} {ad : Nat → Nat} {n : Nat} {I J : mI} {R : mR} {Q : Int → mI → mI → Prop} (hC : wOK C cX12_goesOn 5 RX12) (hRm : wRm C 3 57 0 0) (hE : wEnd C (some .boolean) ad n (fun r I' J' R' => (R' = R) ∧ Q r I' J')) {l0 : Nat} {l1 : Int} {l2 : Int}   (hk0 : kK l0 = 12)  (hw : P12_goesOn_b470 l0 l1 l2 I J R Q) : WM C ad n I J R 0 0 470 [(0, vr l0), (1, vi l1), (2, vi l2)] [] := by
  unfold P12_goesOn_b470 at hw
  refine wm_aload_n hC 0 dX12_goesOn_470 rfl (k_ne0 hk0 (by decide)) ?_
  refine x_getI hC 8 fl_X12_36 rfl hk0 dX12_goesOn_471 ?_
  refine wm_if_le (tgt := 479) hC dX12_goesOn_474 (by decide) hw (fun hw => ?_) (fun hw => ?_)
  · refine wm_aload_n hC 0 dX12_goesOn_479 rfl (k_ne0 hk0 (by decide)) ?_
    refine wm_iconst hC dX12_goesOn_480 (k := ?_)
    refine y_callV_v_I hC hRm noS ml_X12_335 hk0 (C12_joins hk0 hw) (Nat.le_of_ble_eq_true rfl) (Nat.le_of_ble_eq_true rfl) ⟨Nat.zero_le _, Nat.zero_le _⟩ rfl (st := []) rfl (Nat.le_of_ble_eq_true rfl) dX12_goesOn_481 (fun I21 hw => ?_)
    refine wm_aload_n hC 0 dX12_goesOn_484 rfl (k_ne0 hk0 (by decide)) ?_
    refine x_getR2 hC 34 fl_X12_115 rfl hk0 dX12_goesOn_485 hw (fun g9 hw => ?_)
    refine wm_iload_n hC 1 dX12_goesOn_488 rfl ?_
    refine wm_iload_n hC 2 dX12_goesOn_489 rfl ?_
    refine wm_iconst hC dX12_goesOn_490 (k := ?_)
    refine wm_icmp_ne (tgt := 498) hC dX12_goesOn_491 (by decide) hw (fun hw => ?_) (fun hw => ?_)
    · refine wm_iconst hC dX12_goesOn_494 (k := ?_)
      refine wm_goto (tgt := 499) hC dX12_goesOn_495 (by decide) ?_
      refine wm_sub [0, 1] (L2 := [(0, vr l0), (1, vi l1)]) rfl ?_
      exact W12_goesOn_b499 hC hRm hE hk0 g9 hw
    · refine wm_iconst hC dX12_goesOn_498 (k := ?_)
      refine wm_sub [0, 1] (L2 := [(0, vr l0), (1, vi l1)]) rfl ?_
      exact W12_goesOn_b499 hC hRm hE hk0 g9 hw
  · refine wm_iconst hC dX12_goesOn_477 (k := ?_)
    exact wm_zreturn hC hE (Or.inl rfl) dX12_goesOn_478 ⟨rfl, hw⟩
def P12_goesOn_b452 (l0 : Nat) (l1 : Int) (l2 : Int) (I : mI) (J : mI) (R : mR) (Q : Int → mI → mI → Prop) : Prop := (P12_isSign l0 44 I (fun r21 => (if r21 = 0 then (P12_blame l0 1 (I l0 4) I (fun I20 => (P12_goesOn_b470 l0 l1 l2 I20 J R Q))) else (P12_goesOn_b470 l0 l1 l2 I J R Q))))
set_option maxRecDepth 20000 in
theorem W12_goesOn_b452 {C : wX} {ad : Nat → Nat} {n : Nat} {I J : mI} {R : mR} {Q : Int → mI → mI → Prop} (hC : wOK C cX12_goesOn 5 RX12) (hRm : wRm C 3 57 0 0) (hE : wEnd C (some .boolean) ad n (fun r I' J' R' => (R' = R) ∧ Q r I' J')) {l0 : Nat} {l1 : Int} {l2 : Int}   (hk0 : kK l0 = 12)  (hw : P12_goesOn_b452 l0 l1 l2 I J R Q) : WM C ad n I J R 0 0 452 [(0, vr l0), (1, vi l1), (2, vi l2)] [] := by
  unfold P12_goesOn_b452 at hw
  refine wm_aload_n hC 0 dX12_goesOn_452 rfl (k_ne0 hk0 (by decide)) ?_
  refine wm_bipush hC dX12_goesOn_453 (k := ?_)
  refine y_callV_z_n hC hRm noS ml_X12_244 hk0 (C12_isSign hk0 hw) (Nat.le_of_ble_eq_true rfl) (Nat.le_of_ble_eq_true rfl) ⟨Nat.zero_le _, Nat.zero_le _⟩ rfl (st := []) rfl (Nat.le_of_ble_eq_true rfl) dX12_goesOn_455 (fun r21 hw => ?_)
  refine wm_if_ne (tgt := 470) hC dX12_goesOn_458 (by decide) hw (fun hw => ?_) (fun hw => ?_)
  · refine wm_aload_n hC 0 dX12_goesOn_461 rfl (k_ne0 hk0 (by decide)) ?_
    refine wm_iconst hC dX12_goesOn_462 (k := ?_)
    refine wm_aload_n hC 0 dX12_goesOn_463 rfl (k_ne0 hk0 (by decide)) ?_
    refine x_getI hC 4 fl_X12_23 rfl hk0 dX12_goesOn_464 ?_
    refine y_callV_v_I hC hRm noS ml_X12_230 hk0 (C12_blame hk0 hw) (Nat.le_of_ble_eq_true rfl) (Nat.le_of_ble_eq_true rfl) ⟨Nat.zero_le _, Nat.zero_le _⟩ rfl (st := []) rfl (Nat.le_of_ble_eq_true rfl) dX12_goesOn_467 (fun I20 hw => ?_)
    exact W12_goesOn_b470 hC hRm hE hk0 hw
  · exact W12_goesOn_b470 hC hRm hE hk0 hw
def P12_goesOn_b596 (l0 : Nat) (l2 : Int) (I : mI) (J : mI) (R : mR) (Q : Int → mI → mI → Prop) : Prop := (if l2 = 5 then (kK (R l0 35) = 21 ∧ (rg ((I l0 39) - 1) ∧ (((0 : Int) ≤ ((I l0 39) - 1) ∧ ((I l0 39) - 1) < (kN (R l0 35) : Int)) ∧ wLet (up I (R l0 35) ((I l0 39) - 1) 2) (fun I32 => (P12_ahead l0 I32 J R (fun I33 J6 => (Q 1 I33 J6))))))) else (P12_ahead l0 I J R (fun I31 J5 => (Q 1 I31 J5))))
set_option maxRecDepth 20000 in
theorem W12_goesOn_b596 {C : wX} {ad : Nat → Nat} {n : Nat} {I J : mI} {R : mR} {Q : Int → mI → mI → Prop} (hC : wOK C cX12_goesOn 5 RX12) (hRm : wRm C 3 57 0 0) (hE : wEnd C (some .boolean) ad n (fun r I' J' R' => (R' = R) ∧ Q r I' J')) {l0 : Nat} {l2 : Int}   (hk0 : kK l0 = 12)  (hw : P12_goesOn_b596 l0 l2 I J R Q) : WM C ad n I J R 0 0 596 [(0, vr l0), (2, vi l2)] [] := by
  unfold P12_goesOn_b596 at hw
  refine wm_iload_n hC 1 dX12_goesOn_596 rfl ?_
  refine wm_iconst hC dX12_goesOn_597 (k := ?_)
  refine wm_icmp_ne (tgt := 613) hC dX12_goesOn_598 (by decide) hw (fun hw => ?_) (fun hw => ?_)
  · refine wm_aload_n hC 0 dX12_goesOn_601 rfl (k_ne0 hk0 (by decide)) ?_
    refine x_getR2 hC 35 fl_X12_118 rfl hk0 dX12_goesOn_602 hw (fun g12 hw => ?_)
    refine wm_aload_n hC 0 dX12_goesOn_605 rfl (k_ne0 hk0 (by decide)) ?_
    refine x_getI hC 39 fl_X12_131 rfl hk0 dX12_goesOn_606 ?_
    refine wm_iconst hC dX12_goesOn_609 (k := ?_)
    refine x_isub hC dX12_goesOn_610 hw (fun hw => ?_)
    refine wm_iconst hC dX12_goesOn_611 (k := ?_)
    refine x_iast hC g12 dX12_goesOn_612 hw (fun I32 hw => ?_)
    refine wm_aload_n hC 0 dX12_goesOn_613 rfl (k_ne0 hk0 (by decide)) ?_
    refine y_callV_v_IJ hC hRm noS ml_X12_247 hk0 (C12_ahead hk0 hw) (Nat.le_of_ble_eq_true rfl) (Nat.le_of_ble_eq_true rfl) ⟨Nat.zero_le _, Nat.zero_le _⟩ rfl (st := []) rfl (Nat.le_of_ble_eq_true rfl) dX12_goesOn_614 (fun I33 J6 hw => ?_)
    refine wm_iconst hC dX12_goesOn_617 (k := ?_)
    exact wm_zreturn hC hE (Or.inr rfl) dX12_goesOn_618 ⟨rfl, hw⟩
  · refine wm_aload_n hC 0 dX12_goesOn_613 rfl (k_ne0 hk0 (by decide)) ?_
    refine y_callV_v_IJ hC hRm noS ml_X12_247 hk0 (C12_ahead hk0 hw) (Nat.le_of_ble_eq_true rfl) (Nat.le_of_ble_eq_true rfl) ⟨Nat.zero_le _, Nat.zero_le _⟩ rfl (st := []) rfl (Nat.le_of_ble_eq_true rfl) dX12_goesOn_614 (fun I31 J5 hw => ?_)
    refine wm_iconst hC dX12_goesOn_617 (k := ?_)
    exact wm_zreturn hC hE (Or.inr rfl) dX12_goesOn_618 ⟨rfl, hw⟩
def P12_goesOn_b546 (l0 : Nat) (l1 : Int) (l2 : Int) (I : mI) (J : mI) (R : mR) (Q : Int → mI → mI → Prop) : Prop := (if (I l0 8) ≤ 0 then (P12_joins l0 1 I R (fun I27 => (rg ((I27 l0 39) - 1) ∧ (wLet (up I27 l0 39 ((I27 l0 39) - 1)) (fun I28 => (rg ((I28 l0 40) - 1) ∧ (wLet (up I28 l0 40 ((I28 l0 40) - 1)) (fun I29 => (if l2 = 4 then (kK (R l0 37) = 21 ∧ (((0 : Int) ≤ l1 ∧ l1 < (kN (R l0 37) : Int)) ∧ (P12_add l0 (I29 (R l0 37) l1) 0 I29 R (fun I30 => (P12_goesOn_b596 l0 l2 I30 J R Q))))) else (P12_goesOn_b596 l0 l2 I29 J R Q)))))))))) else (Q 0 I J))
set_option maxRecDepth 20000 in
theorem W12_goesOn_b546 {C : wX} {ad : Nat → Nat} {n : Nat} {I J : mI} {R : mR} {Q : Int → mI → mI → Prop} (hC : wOK C cX12_goesOn 5 RX12) (hRm : wRm C 3 57 0 0) (hE : wEnd C (some .boolean) ad n (fun r I' J' R' => (R' = R) ∧ Q r I' J')) {l0 : Nat} {l1 : Int} {l2 : Int}   (hk0 : kK l0 = 12)  (hw : P12_goesOn_b546 l0 l1 l2 I J R Q) : WM C ad n I J R 0 0 546 [(0, vr l0), (1, vi l1), (2, vi l2)] [] := by
  unfold P12_goesOn_b546 at hw
  refine wm_aload_n hC 0 dX12_goesOn_546 rfl (k_ne0 hk0 (by decide)) ?_
  refine x_getI hC 8 fl_X12_36 rfl hk0 dX12_goesOn_547 ?_
  refine wm_if_le (tgt := 555) hC dX12_goesOn_550 (by decide) hw (fun hw => ?_) (fun hw => ?_)
  · refine wm_aload_n hC 0 dX12_goesOn_555 rfl (k_ne0 hk0 (by decide)) ?_
    refine wm_iconst hC dX12_goesOn_556 (k := ?_)
    refine y_callV_v_I hC hRm noS ml_X12_335 hk0 (C12_joins hk0 hw) (Nat.le_of_ble_eq_true rfl) (Nat.le_of_ble_eq_true rfl) ⟨Nat.zero_le _, Nat.zero_le _⟩ rfl (st := []) rfl (Nat.le_of_ble_eq_true rfl) dX12_goesOn_557 (fun I27 hw => ?_)
    refine wm_aload_n hC 0 dX12_goesOn_560 rfl (k_ne0 hk0 (by decide)) ?_
    refine wm_dup hC dX12_goesOn_561 (k := ?_)
    refine x_getI hC 39 fl_X12_131 rfl hk0 dX12_goesOn_562 ?_
    refine wm_iconst hC dX12_goesOn_565 (k := ?_)
    refine x_isub hC dX12_goesOn_566 hw (fun hw => ?_)
    refine x_putI hC 39 fl_X12_131 rfl hk0 dX12_goesOn_567 hw (fun I28 hw => ?_)
    refine wm_aload_n hC 0 dX12_goesOn_570 rfl (k_ne0 hk0 (by decide)) ?_
    refine wm_dup hC dX12_goesOn_571 (k := ?_)
    refine x_getI hC 40 fl_X12_134 rfl hk0 dX12_goesOn_572 ?_
    refine wm_iconst hC dX12_goesOn_575 (k := ?_)
    refine x_isub hC dX12_goesOn_576 hw (fun hw => ?_)
    refine x_putI hC 40 fl_X12_134 rfl hk0 dX12_goesOn_577 hw (fun I29 hw => ?_)
    refine wm_iload_n hC 2 dX12_goesOn_580 rfl ?_
    refine wm_iconst hC dX12_goesOn_581 (k := ?_)
    refine wm_icmp_ne (tgt := 596) hC dX12_goesOn_582 (by decide) hw (fun hw => ?_) (fun hw => ?_)
    · refine wm_aload_n hC 0 dX12_goesOn_585 rfl (k_ne0 hk0 (by decide)) ?_
      refine wm_aload_n hC 0 dX12_goesOn_586 rfl (k_ne0 hk0 (by decide)) ?_
      refine x_getR2 hC 37 fl_X12_125 rfl hk0 dX12_goesOn_587 hw (fun g11 hw => ?_)
      refine wm_iload_n hC 1 dX12_goesOn_590 rfl ?_
      refine x_iald hC g11 dX12_goesOn_591 hw (fun hw => ?_)
      refine wm_iconst hC dX12_goesOn_592 (k := ?_)
      refine y_callV_v_I hC hRm noS ml_X12_316 hk0 (C12_add hk0 hw) (Nat.le_of_ble_eq_true rfl) (Nat.le_of_ble_eq_true rfl) ⟨Nat.zero_le _, Nat.zero_le _⟩ rfl (st := []) rfl (Nat.le_of_ble_eq_true rfl) dX12_goesOn_593 (fun I30 hw => ?_)
      refine wm_sub [0, 2] (L2 := [(0, vr l0), (2, vi l2)]) rfl ?_
      exact W12_goesOn_b596 hC hRm hE hk0 hw
    · refine wm_sub [0, 2] (L2 := [(0, vr l0), (2, vi l2)]) rfl ?_
      exact W12_goesOn_b596 hC hRm hE hk0 hw
  · refine wm_iconst hC dX12_goesOn_553 (k := ?_)
    exact wm_zreturn hC hE (Or.inl rfl) dX12_goesOn_554 ⟨rfl, hw⟩
def P12_goesOn_b531 (l0 : Nat) (l1 : Int) (l2 : Int) (s0 : Nat) (s1 : Int) (I : mI) (J : mI) (R : mR) (Q : Int → mI → mI → Prop) : Prop := (P12_isSign s0 s1 I (fun r22 => (if r22 = 0 then (P12_blame l0 1 (I l0 4) I (fun I26 => (P12_goesOn_b546 l0 l1 l2 I26 J R Q))) else (P12_goesOn_b546 l0 l1 l2 I J R Q))))
set_option maxRecDepth 20000 in
theorem W12_goesOn_b531 {C : wX} {ad : Nat → Nat} {n : Nat} {I J : mI} {R : mR} {Q : Int → mI → mI → Prop} (hC : wOK C cX12_goesOn 5 RX12) (hRm : wRm C 3 57 0 0) (hE : wEnd C (some .boolean) ad n (fun r I' J' R' => (R' = R) ∧ Q r I' J')) {l0 : Nat} {l1 : Int} {l2 : Int} {s0 : Nat} {s1 : Int}   (hk0 : kK l0 = 12) (hs0 : kK s0 = 12)  (hw : P12_goesOn_b531 l0 l1 l2 s0 s1 I J R Q) : WM C ad n I J R 0 0 531 [(0, vr l0), (1, vi l1), (2, vi l2)] [vi s1, vr s0] := by
  unfold P12_goesOn_b531 at hw
  refine y_callV_z_n hC hRm noS ml_X12_244 hs0 (C12_isSign hs0 hw) (Nat.le_of_ble_eq_true rfl) (Nat.le_of_ble_eq_true rfl) ⟨Nat.zero_le _, Nat.zero_le _⟩ rfl (st := []) rfl (Nat.le_of_ble_eq_true rfl) dX12_goesOn_531 (fun r22 hw => ?_)
  refine wm_if_ne (tgt := 546) hC dX12_goesOn_534 (by decide) hw (fun hw => ?_) (fun hw => ?_)
  · refine wm_aload_n hC 0 dX12_goesOn_537 rfl (k_ne0 hk0 (by decide)) ?_
    refine wm_iconst hC dX12_goesOn_538 (k := ?_)
    refine wm_aload_n hC 0 dX12_goesOn_539 rfl (k_ne0 hk0 (by decide)) ?_
    refine x_getI hC 4 fl_X12_23 rfl hk0 dX12_goesOn_540 ?_
    refine y_callV_v_I hC hRm noS ml_X12_230 hk0 (C12_blame hk0 hw) (Nat.le_of_ble_eq_true rfl) (Nat.le_of_ble_eq_true rfl) ⟨Nat.zero_le _, Nat.zero_le _⟩ rfl (st := []) rfl (Nat.le_of_ble_eq_true rfl) dX12_goesOn_543 (fun I26 hw => ?_)
    exact W12_goesOn_b546 hC hRm hE hk0 hw
  · exact W12_goesOn_b546 hC hRm hE hk0 hw
def P12_goesOn_b422 (l0 : Nat) (l1 : Int) (l2 : Int) (I : mI) (J : mI) (R : mR) (Q : Int → mI → mI → Prop) : Prop := (if (2 : Int) ≤ l2 then (if l2 = 3 then (P12_goesOn_b452 l0 l1 l2 I J R Q) else (if l2 = 6 then (P12_goesOn_b452 l0 l1 l2 I J R Q) else (if l2 = 5 then (P12_goesOn_b531 l0 l1 l2 l0 93 I J R Q) else (P12_goesOn_b531 l0 l1 l2 l0 41 I J R Q)))) else (if (I l0 8) = 0 then (P12_joins l0 1 I R (fun I19 => (Q 0 I19 J))) else (Q 0 I J)))
set_option maxRecDepth 20000 in
theorem W12_goesOn_b422 {C : wX} {ad : Nat → Nat} {n : Nat} {I J : mI} {R : mR} {Q : Int → mI → mI → Prop} (hC : wOK C cX12_goesOn 5 RX12) (hRm : wRm C 3 57 0 0) (hE : wEnd C (some .boolean) ad n (fun r I' J' R' => (R' = R) ∧ Q r I' J')) {l0 : Nat} {l1 : Int} {l2 : Int}   (hk0 : kK l0 = 12)  (hw : P12_goesOn_b422 l0 l1 l2 I J R Q) : WM C ad n I J R 0 0 422 [(0, vr l0), (1, vi l1), (2, vi l2)] [] := by
  unfold P12_goesOn_b422 at hw
  refine wm_iload_n hC 2 dX12_goesOn_422 rfl ?_
  refine wm_iconst hC dX12_goesOn_423 (k := ?_)
  refine wm_icmp_ge (tgt := 441) hC dX12_goesOn_424 (by decide) hw (fun hw => ?_) (fun hw => ?_)
  · refine wm_iload_n hC 2 dX12_goesOn_441 rfl ?_
    refine wm_iconst hC dX12_goesOn_442 (k := ?_)
    refine wm_icmp_eq (tgt := 452) hC dX12_goesOn_443 (by decide) hw (fun hw => ?_) (fun hw => ?_)
    · exact W12_goesOn_b452 hC hRm hE hk0 hw
    · refine wm_iload_n hC 2 dX12_goesOn_446 rfl ?_
      refine wm_bipush hC dX12_goesOn_447 (k := ?_)
      refine wm_icmp_ne (tgt := 518) hC dX12_goesOn_449 (by decide) hw (fun hw => ?_) (fun hw => ?_)
      · exact W12_goesOn_b452 hC hRm hE hk0 hw
      · refine wm_aload_n hC 0 dX12_goesOn_518 rfl (k_ne0 hk0 (by decide)) ?_
        refine wm_iload_n hC 2 dX12_goesOn_519 rfl ?_
        refine wm_iconst hC dX12_goesOn_520 (k := ?_)
        refine wm_icmp_ne (tgt := 529) hC dX12_goesOn_521 (by decide) hw (fun hw => ?_) (fun hw => ?_)
        · refine wm_bipush hC dX12_goesOn_524 (k := ?_)
          refine wm_goto (tgt := 531) hC dX12_goesOn_526 (by decide) ?_
          exact W12_goesOn_b531 hC hRm hE hk0 hk0 hw
        · refine wm_bipush hC dX12_goesOn_529 (k := ?_)
          exact W12_goesOn_b531 hC hRm hE hk0 hk0 hw
  · refine wm_aload_n hC 0 dX12_goesOn_427 rfl (k_ne0 hk0 (by decide)) ?_
    refine x_getI hC 8 fl_X12_36 rfl hk0 dX12_goesOn_428 ?_
    refine wm_if_ne (tgt := 439) hC dX12_goesOn_431 (by decide) hw (fun hw => ?_) (fun hw => ?_)
    · refine wm_aload_n hC 0 dX12_goesOn_434 rfl (k_ne0 hk0 (by decide)) ?_
      refine wm_iconst hC dX12_goesOn_435 (k := ?_)
      refine y_callV_v_I hC hRm noS ml_X12_335 hk0 (C12_joins hk0 hw) (Nat.le_of_ble_eq_true rfl) (Nat.le_of_ble_eq_true rfl) ⟨Nat.zero_le _, Nat.zero_le _⟩ rfl (st := []) rfl (Nat.le_of_ble_eq_true rfl) dX12_goesOn_436 (fun I19 hw => ?_)
      refine wm_iconst hC dX12_goesOn_439 (k := ?_)
      exact wm_zreturn hC hE (Or.inl rfl) dX12_goesOn_440 ⟨rfl, hw⟩
    · refine wm_iconst hC dX12_goesOn_439 (k := ?_)
      exact wm_zreturn hC hE (Or.inl rfl) dX12_goesOn_440 ⟨rfl, hw⟩
def P12_goesOn_b400 (l0 : Nat) (l1 : Int) (l2 : Int) (l3 : Int) (I : mI) (J : mI) (R : mR) (Q : Int → mI → mI → Prop) : Prop := (if l3 = 0 then (P12_goesOn_b422 l0 l1 l2 I J R Q) else (kK (R l0 35) = 21 ∧ (((0 : Int) ≤ l1 ∧ l1 < (kN (R l0 35) : Int)) ∧ (if (I (R l0 35) l1) = 0 then (P12_blame l0 1 (I l0 4) I (fun I18 => (P12_goesOn_b422 l0 l1 l2 I18 J R Q))) else (P12_goesOn_b422 l0 l1 l2 I J R Q)))))
set_option maxRecDepth 20000 in
theorem W12_goesOn_b400 {C : wX} {ad : Nat → Nat} {n : Nat} {I J : mI} {R : mR} {Q : Int → mI → mI → Prop} (hC : wOK C cX12_goesOn 5 RX12) (hRm : wRm C 3 57 0 0) (hE : wEnd C (some .boolean) ad n (fun r I' J' R' => (R' = R) ∧ Q r I' J')) {l0 : Nat} {l1 : Int} {l2 : Int} {l3 : Int}   (hk0 : kK l0 = 12)  (hw : P12_goesOn_b400 l0 l1 l2 l3 I J R Q) : WM C ad n I J R 0 0 400 [(0, vr l0), (1, vi l1), (2, vi l2), (3, vi l3)] [] := by
  unfold P12_goesOn_b400 at hw
  refine wm_iload_n hC 3 dX12_goesOn_400 rfl ?_
  refine wm_if_eq (tgt := 422) hC dX12_goesOn_401 (by decide) hw (fun hw => ?_) (fun hw => ?_)
  · refine wm_sub [0, 1, 2] (L2 := [(0, vr l0), (1, vi l1), (2, vi l2)]) rfl ?_
    exact W12_goesOn_b422 hC hRm hE hk0 hw
  · refine wm_aload_n hC 0 dX12_goesOn_404 rfl (k_ne0 hk0 (by decide)) ?_
    refine x_getR2 hC 35 fl_X12_118 rfl hk0 dX12_goesOn_405 hw (fun g8 hw => ?_)
    refine wm_iload_n hC 1 dX12_goesOn_408 rfl ?_
    refine x_iald hC g8 dX12_goesOn_409 hw (fun hw => ?_)
    refine wm_if_ne (tgt := 422) hC dX12_goesOn_410 (by decide) hw (fun hw => ?_) (fun hw => ?_)
    · refine wm_aload_n hC 0 dX12_goesOn_413 rfl (k_ne0 hk0 (by decide)) ?_
      refine wm_iconst hC dX12_goesOn_414 (k := ?_)
      refine wm_aload_n hC 0 dX12_goesOn_415 rfl (k_ne0 hk0 (by decide)) ?_
      refine x_getI hC 4 fl_X12_23 rfl hk0 dX12_goesOn_416 ?_
      refine y_callV_v_I hC hRm noS ml_X12_230 hk0 (C12_blame hk0 hw) (Nat.le_of_ble_eq_true rfl) (Nat.le_of_ble_eq_true rfl) ⟨Nat.zero_le _, Nat.zero_le _⟩ rfl (st := []) rfl (Nat.le_of_ble_eq_true rfl) dX12_goesOn_419 (fun I18 hw => ?_)
      refine wm_sub [0, 1, 2] (L2 := [(0, vr l0), (1, vi l1), (2, vi l2)]) rfl ?_
      exact W12_goesOn_b422 hC hRm hE hk0 hw
    · refine wm_sub [0, 1, 2] (L2 := [(0, vr l0), (1, vi l1), (2, vi l2)]) rfl ?_
      exact W12_goesOn_b422 hC hRm hE hk0 hw
def P12_goesOn_b285 (l0 : Nat) (l1 : Int) (l2 : Int) (l3 : Int) (I : mI) (J : mI) (R : mR) (Q : Int → mI → mI → Prop) : Prop := (if l3 = 0 then (P12_goesOn_b400 l0 l1 l2 l3 I J R Q) else (P12_isWord l0 6385252 I J (fun r18 => (if r18 = 0 then (P12_isWord l0 28530 I J (fun r19 => (if r19 = 0 then (P12_goesOn_b400 l0 l1 l2 l3 I J R Q) else (P12_goesOn_b309 l0 l1 I J R Q)))) else (P12_goesOn_b309 l0 l1 I J R Q)))))
set_option maxRecDepth 20000 in
theorem W12_goesOn_b285 {C : wX} {ad : Nat → Nat} {n : Nat} {I J : mI} {R : mR} {Q : Int → mI → mI → Prop} (hC : wOK C cX12_goesOn 5 RX12) (hRm : wRm C 3 57 0 0) (hE : wEnd C (some .boolean) ad n (fun r I' J' R' => (R' = R) ∧ Q r I' J')) {l0 : Nat} {l1 : Int} {l2 : Int} {l3 : Int}   (hk0 : kK l0 = 12)  (hw : P12_goesOn_b285 l0 l1 l2 l3 I J R Q) : WM C ad n I J R 0 0 285 [(0, vr l0), (1, vi l1), (2, vi l2), (3, vi l3)] [] := by
  unfold P12_goesOn_b285 at hw
  refine wm_iload_n hC 3 dX12_goesOn_285 rfl ?_
  refine wm_if_eq (tgt := 400) hC dX12_goesOn_286 (by decide) hw (fun hw => ?_) (fun hw => ?_)
  · exact W12_goesOn_b400 hC hRm hE hk0 hw
  · refine wm_aload_n hC 0 dX12_goesOn_289 rfl (k_ne0 hk0 (by decide)) ?_
    refine wm_ldc2 hC (x := 6385252) tc_X12_296 rfl dX12_goesOn_290 (k := ?_)
    refine y_callV_z_n hC hRm noS ml_X12_325 hk0 (C12_isWord hk0 hw) (Nat.le_of_ble_eq_true rfl) (Nat.le_of_ble_eq_true rfl) ⟨Nat.zero_le _, Nat.zero_le _⟩ rfl (st := []) rfl (Nat.le_of_ble_eq_true rfl) dX12_goesOn_293 (fun r18 hw => ?_)
    refine wm_if_ne (tgt := 309) hC dX12_goesOn_296 (by decide) hw (fun hw => ?_) (fun hw => ?_)
    · refine wm_aload_n hC 0 dX12_goesOn_299 rfl (k_ne0 hk0 (by decide)) ?_
      refine wm_ldc2 hC (x := 28530) tc_X12_294 rfl dX12_goesOn_300 (k := ?_)
      refine y_callV_z_n hC hRm noS ml_X12_325 hk0 (C12_isWord hk0 hw) (Nat.le_of_ble_eq_true rfl) (Nat.le_of_ble_eq_true rfl) ⟨Nat.zero_le _, Nat.zero_le _⟩ rfl (st := []) rfl (Nat.le_of_ble_eq_true rfl) dX12_goesOn_303 (fun r19 hw => ?_)
      refine wm_if_eq (tgt := 400) hC dX12_goesOn_306 (by decide) hw (fun hw => ?_) (fun hw => ?_)
      · exact W12_goesOn_b400 hC hRm hE hk0 hw
      · refine wm_sub [0, 1] (L2 := [(0, vr l0), (1, vi l1)]) rfl ?_
        exact W12_goesOn_b309 hC hRm hE hk0 hw
    · refine wm_sub [0, 1] (L2 := [(0, vr l0), (1, vi l1)]) rfl ?_
      exact W12_goesOn_b309 hC hRm hE hk0 hw
def P12_goesOn_b188 (l0 : Nat) (l1 : Int) (l2 : Int) (l3 : Int) (I : mI) (J : mI) (R : mR) (Q : Int → mI → mI → Prop) : Prop := (if l3 = 0 then (P12_goesOn_b285 l0 l1 l2 l3 I J R Q) else (kK (R l0 35) = 21 ∧ (((0 : Int) ≤ l1 ∧ l1 < (kN (R l0 35) : Int)) ∧ (if (I (R l0 35) l1) = 0 then (P12_isSign l0 60 I (fun r13 => (if r13 = 0 then (P12_isSign l0 62 I (fun r14 => (if r14 = 0 then (P12_isSign l0 61 I (fun r15 => (if r15 = 0 then (P12_goesOn_b285 l0 l1 l2 l3 I J R Q) else (P12_goesOn_b228 l0 l1 I J R Q)))) else (P12_goesOn_b228 l0 l1 I J R Q)))) else (P12_goesOn_b228 l0 l1 I J R Q)))) else (P12_goesOn_b285 l0 l1 l2 l3 I J R Q)))))
set_option maxRecDepth 20000 in
theorem W12_goesOn_b188 {C : wX} {ad : Nat → Nat} {n : Nat} {I J : mI} {R : mR} {Q : Int → mI → mI → Prop} (hC : wOK C cX12_goesOn 5 RX12) (hRm : wRm C 3 57 0 0) (hE : wEnd C (some .boolean) ad n (fun r I' J' R' => (R' = R) ∧ Q r I' J')) {l0 : Nat} {l1 : Int} {l2 : Int} {l3 : Int}   (hk0 : kK l0 = 12)  (hw : P12_goesOn_b188 l0 l1 l2 l3 I J R Q) : WM C ad n I J R 0 0 188 [(0, vr l0), (1, vi l1), (2, vi l2), (3, vi l3)] [] := by
  unfold P12_goesOn_b188 at hw
  refine wm_iload_n hC 3 dX12_goesOn_188 rfl ?_
  refine wm_if_eq (tgt := 285) hC dX12_goesOn_189 (by decide) hw (fun hw => ?_) (fun hw => ?_)
  · exact W12_goesOn_b285 hC hRm hE hk0 hw
  · refine wm_aload_n hC 0 dX12_goesOn_192 rfl (k_ne0 hk0 (by decide)) ?_
    refine x_getR2 hC 35 fl_X12_118 rfl hk0 dX12_goesOn_193 hw (fun g3 hw => ?_)
    refine wm_iload_n hC 1 dX12_goesOn_196 rfl ?_
    refine x_iald hC g3 dX12_goesOn_197 hw (fun hw => ?_)
    refine wm_if_ne (tgt := 285) hC dX12_goesOn_198 (by decide) hw (fun hw => ?_) (fun hw => ?_)
    · refine wm_aload_n hC 0 dX12_goesOn_201 rfl (k_ne0 hk0 (by decide)) ?_
      refine wm_bipush hC dX12_goesOn_202 (k := ?_)
      refine y_callV_z_n hC hRm noS ml_X12_244 hk0 (C12_isSign hk0 hw) (Nat.le_of_ble_eq_true rfl) (Nat.le_of_ble_eq_true rfl) ⟨Nat.zero_le _, Nat.zero_le _⟩ rfl (st := []) rfl (Nat.le_of_ble_eq_true rfl) dX12_goesOn_204 (fun r13 hw => ?_)
      refine wm_if_ne (tgt := 228) hC dX12_goesOn_207 (by decide) hw (fun hw => ?_) (fun hw => ?_)
      · refine wm_aload_n hC 0 dX12_goesOn_210 rfl (k_ne0 hk0 (by decide)) ?_
        refine wm_bipush hC dX12_goesOn_211 (k := ?_)
        refine y_callV_z_n hC hRm noS ml_X12_244 hk0 (C12_isSign hk0 hw) (Nat.le_of_ble_eq_true rfl) (Nat.le_of_ble_eq_true rfl) ⟨Nat.zero_le _, Nat.zero_le _⟩ rfl (st := []) rfl (Nat.le_of_ble_eq_true rfl) dX12_goesOn_213 (fun r14 hw => ?_)
        refine wm_if_ne (tgt := 228) hC dX12_goesOn_216 (by decide) hw (fun hw => ?_) (fun hw => ?_)
        · refine wm_aload_n hC 0 dX12_goesOn_219 rfl (k_ne0 hk0 (by decide)) ?_
          refine wm_bipush hC dX12_goesOn_220 (k := ?_)
          refine y_callV_z_n hC hRm noS ml_X12_244 hk0 (C12_isSign hk0 hw) (Nat.le_of_ble_eq_true rfl) (Nat.le_of_ble_eq_true rfl) ⟨Nat.zero_le _, Nat.zero_le _⟩ rfl (st := []) rfl (Nat.le_of_ble_eq_true rfl) dX12_goesOn_222 (fun r15 hw => ?_)
          refine wm_if_eq (tgt := 285) hC dX12_goesOn_225 (by decide) hw (fun hw => ?_) (fun hw => ?_)
          · exact W12_goesOn_b285 hC hRm hE hk0 hw
          · refine wm_sub [0, 1] (L2 := [(0, vr l0), (1, vi l1)]) rfl ?_
            exact W12_goesOn_b228 hC hRm hE hk0 hw
        · refine wm_sub [0, 1] (L2 := [(0, vr l0), (1, vi l1)]) rfl ?_
          exact W12_goesOn_b228 hC hRm hE hk0 hw
      · refine wm_sub [0, 1] (L2 := [(0, vr l0), (1, vi l1)]) rfl ?_
        exact W12_goesOn_b228 hC hRm hE hk0 hw
    · exact W12_goesOn_b285 hC hRm hE hk0 hw
def P12_goesOn (l0 : Nat) (I : mI) (J : mI) (R : mR) (Q : Int → mI → mI → Prop) : Prop := (P12_lex l0 I (fun I1 => (if (I1 l0 8) ≤ 0 then (rg ((I1 l0 39) - 1) ∧ (kK (R l0 34) = 21 ∧ (((0 : Int) ≤ ((I1 l0 39) - 1) ∧ ((I1 l0 39) - 1) < (kN (R l0 34) : Int)) ∧ (wLet (I1 (R l0 34) ((I1 l0 39) - 1)) (fun x1 => (P12_isTest x1 (fun r1 => (kK (R l0 35) = 21 ∧ (((0 : Int) ≤ ((I1 l0 39) - 1) ∧ ((I1 l0 39) - 1) < (kN (R l0 35) : Int)) ∧ (if (2 : Int) ≤ (I1 (R l0 35) ((I1 l0 39) - 1)) then (P12_goesOn_b188 l0 ((I1 l0 39) - 1) x1 r1 I1 J R Q) else (P12_isSign l0 43 I1 (fun r2 => (if r2 = 0 then (P12_isSign l0 45 I1 (fun r3 => (if r3 = 0 then (P12_isSign l0 42 I1 (fun r4 => (if r4 = 0 then (P12_isSign l0 47 I1 (fun r5 => (if r5 = 0 then (P12_isSign l0 37 I1 (fun r6 => (if r6 = 0 then (P12_goesOn_b188 l0 ((I1 l0 39) - 1) x1 r1 I1 J R Q) else (P12_goesOn_b87 l0 I1 J R Q)))) else (P12_goesOn_b87 l0 I1 J R Q)))) else (P12_goesOn_b87 l0 I1 J R Q)))) else (P12_goesOn_b87 l0 I1 J R Q)))) else (P12_goesOn_b87 l0 I1 J R Q)))))))))))))) else (Q 0 I1 J))))
set_option maxRecDepth 20000 in
theorem C12_goesOn {ad : Nat → Nat} {n : Nat} {I J : mI} {R : mR} {Q : Int → mI → mI → Prop}  {l0 : Nat} (hk0 : kK l0 = 12) (hw : P12_goesOn l0 I J R Q) : wMet yX12_goesOn cX12_goesOn 5 (some .boolean) 3 57 false ad n I J R [vr l0] (fun r I' J' R' => (R' = R) ∧ Q r I' J') := by
  refine wMet_of (by decide) (Nat.le_of_ble_eq_true rfl) (fun C hC hRm hE hS => ?_)
  refine (show WM C ad n I J R 0 0 0 [(0, vr l0)] [] from ?_)
  unfold P12_goesOn at hw
  refine wm_aload_n hC 0 dX12_goesOn_0 rfl (k_ne0 hk0 (by decide)) ?_
  refine y_callV_v_I hC hRm noS ml_X12_241 hk0 (C12_lex hk0 hw) (Nat.le_of_ble_eq_true rfl) (Nat.le_of_ble_eq_true rfl) ⟨Nat.zero_le _, Nat.zero_le _⟩ rfl (st := []) rfl (Nat.le_of_ble_eq_true rfl) dX12_goesOn_1 (fun I1 hw => ?_)
  refine wm_aload_n hC 0 dX12_goesOn_4 rfl (k_ne0 hk0 (by decide)) ?_
  refine x_getI hC 8 fl_X12_36 rfl hk0 dX12_goesOn_5 ?_
  refine wm_if_le (tgt := 13) hC dX12_goesOn_8 (by decide) hw (fun hw => ?_) (fun hw => ?_)
  · refine wm_aload_n hC 0 dX12_goesOn_13 rfl (k_ne0 hk0 (by decide)) ?_
    refine x_getI hC 39 fl_X12_131 rfl hk0 dX12_goesOn_14 ?_
    refine wm_iconst hC dX12_goesOn_17 (k := ?_)
    refine x_isub hC dX12_goesOn_18 hw (fun hw => ?_)
    refine wm_istore_n hC dX12_goesOn_19 (by decide) (L2 := [(1, vi ((I1 l0 39) - 1)), (0, vr l0)]) rfl ?_
    refine wm_aload_n hC 1 dX12_goesOn_20 rfl (k_ne0 hk0 (by decide)) ?_
    refine x_getR2 hC 34 fl_X12_115 rfl hk0 dX12_goesOn_21 hw (fun g1 hw => ?_)
    refine wm_iload_n hC 0 dX12_goesOn_24 rfl ?_
    refine x_iald hC g1 dX12_goesOn_25 hw (fun hw => ?_)
    refine x_nameI hw (fun x1 hw => ?_)
    refine wm_istore_n hC dX12_goesOn_26 (by decide) (L2 := [(2, vi x1), (1, vi ((I1 l0 39) - 1)), (0, vr l0)]) rfl ?_
    refine wm_iload_n hC 0 dX12_goesOn_27 rfl ?_
    refine y_callS_z_n hC hRm noS ml_X12_322 (C12_isTest  hw) (Nat.le_of_ble_eq_true rfl) (Nat.le_of_ble_eq_true rfl) ⟨Nat.zero_le _, Nat.zero_le _⟩ rfl (st := []) rfl (Nat.le_of_ble_eq_true rfl) dX12_goesOn_28 (fun r1 hw => ?_)
    refine wm_istore_n hC dX12_goesOn_31 (by decide) (L2 := [(3, vi r1), (2, vi x1), (1, vi ((I1 l0 39) - 1)), (0, vr l0)]) rfl ?_
    refine wm_aload_n hC 3 dX12_goesOn_32 rfl (k_ne0 hk0 (by decide)) ?_
    refine x_getR2 hC 35 fl_X12_118 rfl hk0 dX12_goesOn_33 hw (fun g2 hw => ?_)
    refine wm_iload_n hC 2 dX12_goesOn_36 rfl ?_
    refine x_iald hC g2 dX12_goesOn_37 hw (fun hw => ?_)
    refine wm_iconst hC dX12_goesOn_38 (k := ?_)
    refine wm_icmp_ge (tgt := 188) hC dX12_goesOn_39 (by decide) hw (fun hw => ?_) (fun hw => ?_)
    · refine wm_sub [3, 2, 1, 0] (L2 := [(0, vr l0), (1, vi ((I1 l0 39) - 1)), (2, vi x1), (3, vi r1)]) rfl ?_
      exact W12_goesOn_b188 hC hRm hE hk0 hw
    · refine wm_aload_n hC 3 dX12_goesOn_42 rfl (k_ne0 hk0 (by decide)) ?_
      refine wm_bipush hC dX12_goesOn_43 (k := ?_)
      refine y_callV_z_n hC hRm noS ml_X12_244 hk0 (C12_isSign hk0 hw) (Nat.le_of_ble_eq_true rfl) (Nat.le_of_ble_eq_true rfl) ⟨Nat.zero_le _, Nat.zero_le _⟩ rfl (st := []) rfl (Nat.le_of_ble_eq_true rfl) dX12_goesOn_45 (fun r2 hw => ?_)
      refine wm_if_ne (tgt := 87) hC dX12_goesOn_48 (by decide) hw (fun hw => ?_) (fun hw => ?_)
      · refine wm_aload_n hC 3 dX12_goesOn_51 rfl (k_ne0 hk0 (by decide)) ?_
        refine wm_bipush hC dX12_goesOn_52 (k := ?_)
        refine y_callV_z_n hC hRm noS ml_X12_244 hk0 (C12_isSign hk0 hw) (Nat.le_of_ble_eq_true rfl) (Nat.le_of_ble_eq_true rfl) ⟨Nat.zero_le _, Nat.zero_le _⟩ rfl (st := []) rfl (Nat.le_of_ble_eq_true rfl) dX12_goesOn_54 (fun r3 hw => ?_)
        refine wm_if_ne (tgt := 87) hC dX12_goesOn_57 (by decide) hw (fun hw => ?_) (fun hw => ?_)
        · refine wm_aload_n hC 3 dX12_goesOn_60 rfl (k_ne0 hk0 (by decide)) ?_
          refine wm_bipush hC dX12_goesOn_61 (k := ?_)
          refine y_callV_z_n hC hRm noS ml_X12_244 hk0 (C12_isSign hk0 hw) (Nat.le_of_ble_eq_true rfl) (Nat.le_of_ble_eq_true rfl) ⟨Nat.zero_le _, Nat.zero_le _⟩ rfl (st := []) rfl (Nat.le_of_ble_eq_true rfl) dX12_goesOn_63 (fun r4 hw => ?_)
          refine wm_if_ne (tgt := 87) hC dX12_goesOn_66 (by decide) hw (fun hw => ?_) (fun hw => ?_)
          · refine wm_aload_n hC 3 dX12_goesOn_69 rfl (k_ne0 hk0 (by decide)) ?_
            refine wm_bipush hC dX12_goesOn_70 (k := ?_)
            refine y_callV_z_n hC hRm noS ml_X12_244 hk0 (C12_isSign hk0 hw) (Nat.le_of_ble_eq_true rfl) (Nat.le_of_ble_eq_true rfl) ⟨Nat.zero_le _, Nat.zero_le _⟩ rfl (st := []) rfl (Nat.le_of_ble_eq_true rfl) dX12_goesOn_72 (fun r5 hw => ?_)
            refine wm_if_ne (tgt := 87) hC dX12_goesOn_75 (by decide) hw (fun hw => ?_) (fun hw => ?_)
            · refine wm_aload_n hC 3 dX12_goesOn_78 rfl (k_ne0 hk0 (by decide)) ?_
              refine wm_bipush hC dX12_goesOn_79 (k := ?_)
              refine y_callV_z_n hC hRm noS ml_X12_244 hk0 (C12_isSign hk0 hw) (Nat.le_of_ble_eq_true rfl) (Nat.le_of_ble_eq_true rfl) ⟨Nat.zero_le _, Nat.zero_le _⟩ rfl (st := []) rfl (Nat.le_of_ble_eq_true rfl) dX12_goesOn_81 (fun r6 hw => ?_)
              refine wm_if_eq (tgt := 188) hC dX12_goesOn_84 (by decide) hw (fun hw => ?_) (fun hw => ?_)
              · refine wm_sub [3, 2, 1, 0] (L2 := [(0, vr l0), (1, vi ((I1 l0 39) - 1)), (2, vi x1), (3, vi r1)]) rfl ?_
                exact W12_goesOn_b188 hC hRm hE hk0 hw
              · refine wm_sub [3] (L2 := [(0, vr l0)]) rfl ?_
                exact W12_goesOn_b87 hC hRm hE hk0 hw
            · refine wm_sub [3] (L2 := [(0, vr l0)]) rfl ?_
              exact W12_goesOn_b87 hC hRm hE hk0 hw
          · refine wm_sub [3] (L2 := [(0, vr l0)]) rfl ?_
            exact W12_goesOn_b87 hC hRm hE hk0 hw
        · refine wm_sub [3] (L2 := [(0, vr l0)]) rfl ?_
          exact W12_goesOn_b87 hC hRm hE hk0 hw
      · refine wm_sub [3] (L2 := [(0, vr l0)]) rfl ?_
        exact W12_goesOn_b87 hC hRm hE hk0 hw
  · refine wm_iconst hC dX12_goesOn_11 (k := ?_)
    exact wm_zreturn hC hE (Or.inl rfl) dX12_goesOn_12 ⟨rfl, hw⟩
