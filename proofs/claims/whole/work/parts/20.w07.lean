def p12_ahead_b293 (l1 : Int) (l2 : Int) (l3 : Int) (l4 : Int) (l5 : Int) (I : mI) (J : mI) (k204 : Int → Int → mI → mI → Prop) (Q : mI → mI → Prop) : Prop := (if l4 ≤ l5 then (rg (l5 + 1) ∧ (rg (l1 + 1) ∧ (k204 (l1 + 1) (l5 + 1) I J))) else (if l3 = 0 then (rg (l5 + 1) ∧ (rg (l1 + 1) ∧ (k204 (l1 + 1) (l5 + 1) I J))) else (rg (10 * (I 159 6)) ∧ (((0 : Int) ≤ l1 ∧ l1 < (1800 : Int)) ∧ (rg ((10 * (I 159 6)) + (I 160 l1)) ∧ (rg (((10 * (I 159 6)) + (I 160 l1)) - 48) ∧ (wLet (up I 159 6 (((10 * (I 159 6)) + (I 160 l1)) - 48)) (fun I15 => (rg (l5 + 1) ∧ (rg (l1 + 1) ∧ (k204 (l1 + 1) (l5 + 1) I15 J)))))))))))
set_option maxRecDepth 20000 in
theorem w12_ahead_b293 {C : wX} {ad : Nat → Nat} {n : Nat} {I J : mI} {R : mR} {Q : mI → mI → Prop} (hC : wOK C cX12_ahead 6 RX12) (hRm : wRm C 2 32 0 0) (hE : wEnd C none ad n (fun _ I' J' R' => (R' = R) ∧ Q I' J')) (hRF : RF R) {l1 : Int} {l2 : Int} {l3 : Int} {l4 : Int} {l5 : Int}  {k204 : Int → Int → mI → mI → Prop}  (kk204 : ∀ (y1 : Int) (y5 : Int) (I' : mI) (J' : mI), k204 y1 y5 I' J' → WM C ad n I' J' R 0 0 204 [(0, vr 159), (1, vi y1), (2, vi l2), (3, vi l3), (4, vi l4), (5, vi y5)] []) (hw : p12_ahead_b293 l1 l2 l3 l4 l5 I J k204 Q) : WM C ad n I J R 0 0 293 [(0, vr 159), (1, vi l1), (2, vi l2), (3, vi l3), (4, vi l4), (5, vi l5)] [] := by
  unfold p12_ahead_b293 at hw
  refine wm_iload hC 5 dX12_ahead_293 rfl ?_
  refine wm_iload hC 4 dX12_ahead_295 rfl ?_
  refine wm_icmp_ge (tgt := 325) hC dX12_ahead_297 (by decide) hw (fun hw => ?_) (fun hw => ?_)
  · refine x_iinc hC 5 dX12_ahead_325 rfl (by decide) (L2 := [(5, vi (l5 + 1)), (0, vr 159), (1, vi l1), (2, vi l2), (3, vi l3), (4, vi l4)]) rfl hw (fun hw => ?_)
    refine x_iinc hC 2 dX12_ahead_328 rfl (by decide) (L2 := [(1, vi (l1 + 1)), (5, vi (l5 + 1)), (0, vr 159), (2, vi l2), (3, vi l3), (4, vi l4)]) rfl hw (fun hw => ?_)
    refine wm_goto (tgt := 204) hC dX12_ahead_331 (by decide) ?_
    refine wm_sub [2, 0, 3, 4, 5, 1] (L2 := [(0, vr 159), (1, vi (l1 + 1)), (2, vi l2), (3, vi l3), (4, vi l4), (5, vi (l5 + 1))]) rfl ?_
    exact kk204 _ _ _ _ hw
  · refine wm_iload_n hC 3 dX12_ahead_300 rfl ?_
    refine wm_if_eq (tgt := 325) hC dX12_ahead_301 (by decide) hw (fun hw => ?_) (fun hw => ?_)
    · refine x_iinc hC 5 dX12_ahead_325 rfl (by decide) (L2 := [(5, vi (l5 + 1)), (0, vr 159), (1, vi l1), (2, vi l2), (3, vi l3), (4, vi l4)]) rfl hw (fun hw => ?_)
      refine x_iinc hC 2 dX12_ahead_328 rfl (by decide) (L2 := [(1, vi (l1 + 1)), (5, vi (l5 + 1)), (0, vr 159), (2, vi l2), (3, vi l3), (4, vi l4)]) rfl hw (fun hw => ?_)
      refine wm_goto (tgt := 204) hC dX12_ahead_331 (by decide) ?_
      refine wm_sub [2, 0, 3, 4, 5, 1] (L2 := [(0, vr 159), (1, vi (l1 + 1)), (2, vi l2), (3, vi l3), (4, vi l4), (5, vi (l5 + 1))]) rfl ?_
      exact kk204 _ _ _ _ hw
    · refine wm_aload_n hC 0 dX12_ahead_304 rfl (k_ne0 kk_159 (by decide)) ?_
      refine wm_bipush hC dX12_ahead_305 (k := ?_)
      refine wm_aload_n hC 0 dX12_ahead_307 rfl (k_ne0 kk_159 (by decide)) ?_
      refine x_getI hC 6 fl_X12_29 rfl kk_159 dX12_ahead_308 ?_
      refine x_imul hC dX12_ahead_311 hw (fun hw => ?_)
      refine wm_aload_n hC 0 dX12_ahead_312 rfl (k_ne0 kk_159 (by decide)) ?_
      refine x_getR3 hC 0 fl_X12_7 rfl kk_159 (rf_159_0 hRF) dX12_ahead_313 ?_
      refine wm_iload_n hC 1 dX12_ahead_316 rfl ?_
      refine x_iald2 hC kk_160 kn_160 dX12_ahead_317 hw (fun hw => ?_)
      refine x_iadd hC dX12_ahead_318 hw (fun hw => ?_)
      refine wm_bipush hC dX12_ahead_319 (k := ?_)
      refine x_isub hC dX12_ahead_321 hw (fun hw => ?_)
      refine x_putI hC 6 fl_X12_29 rfl kk_159 dX12_ahead_322 hw (fun I15 hw => ?_)
      refine x_iinc hC 5 dX12_ahead_325 rfl (by decide) (L2 := [(5, vi (l5 + 1)), (0, vr 159), (1, vi l1), (2, vi l2), (3, vi l3), (4, vi l4)]) rfl hw (fun hw => ?_)
      refine x_iinc hC 2 dX12_ahead_328 rfl (by decide) (L2 := [(1, vi (l1 + 1)), (5, vi (l5 + 1)), (0, vr 159), (2, vi l2), (3, vi l3), (4, vi l4)]) rfl hw (fun hw => ?_)
      refine wm_goto (tgt := 204) hC dX12_ahead_331 (by decide) ?_
      refine wm_sub [2, 0, 3, 4, 5, 1] (L2 := [(0, vr 159), (1, vi (l1 + 1)), (2, vi l2), (3, vi l3), (4, vi l4), (5, vi (l5 + 1))]) rfl ?_
      exact kk204 _ _ _ _ hw
def p12_ahead_b263 (l1 : Int) (l2 : Int) (l3 : Int) (l4 : Int) (l5 : Int) (I : mI) (J : mI) (k204 : Int → Int → mI → mI → Prop) (Q : mI → mI → Prop) : Prop := (if l4 ≤ l5 then (p12_ahead_b293 l1 l2 l3 l4 l5 I J k204 Q) else (if l2 = 0 then (p12_ahead_b293 l1 l2 l3 l4 l5 I J k204 Q) else (((0 : Int) ≤ l1 ∧ l1 < (1800 : Int)) ∧ (wLet (up J 159 7 (lOr (lShl (J 159 7) 8) (I 160 l1))) (fun J2 => (p12_ahead_b293 l1 l2 l3 l4 l5 I J2 k204 Q))))))
set_option maxRecDepth 20000 in
theorem w12_ahead_b263 {C : wX} {ad : Nat → Nat} {n : Nat} {I J : mI} {R : mR} {Q : mI → mI → Prop} (hC : wOK C cX12_ahead 6 RX12) (hRm : wRm C 2 32 0 0) (hE : wEnd C none ad n (fun _ I' J' R' => (R' = R) ∧ Q I' J')) (hRF : RF R) {l1 : Int} {l2 : Int} {l3 : Int} {l4 : Int} {l5 : Int}  {k204 : Int → Int → mI → mI → Prop}  (kk204 : ∀ (y1 : Int) (y5 : Int) (I' : mI) (J' : mI), k204 y1 y5 I' J' → WM C ad n I' J' R 0 0 204 [(0, vr 159), (1, vi y1), (2, vi l2), (3, vi l3), (4, vi l4), (5, vi y5)] []) (hw : p12_ahead_b263 l1 l2 l3 l4 l5 I J k204 Q) : WM C ad n I J R 0 0 263 [(0, vr 159), (1, vi l1), (2, vi l2), (3, vi l3), (4, vi l4), (5, vi l5)] [] := by
  unfold p12_ahead_b263 at hw
  refine wm_iload hC 5 dX12_ahead_263 rfl ?_
  refine wm_iload hC 4 dX12_ahead_265 rfl ?_
  refine wm_icmp_ge (tgt := 293) hC dX12_ahead_267 (by decide) hw (fun hw => ?_) (fun hw => ?_)
  · exact w12_ahead_b293 hC hRm hE hRF kk204 hw
  · refine wm_iload_n hC 2 dX12_ahead_270 rfl ?_
    refine wm_if_eq (tgt := 293) hC dX12_ahead_271 (by decide) hw (fun hw => ?_) (fun hw => ?_)
    · exact w12_ahead_b293 hC hRm hE hRF kk204 hw
    · refine wm_aload_n hC 0 dX12_ahead_274 rfl (k_ne0 kk_159 (by decide)) ?_
      refine wm_aload_n hC 0 dX12_ahead_275 rfl (k_ne0 kk_159 (by decide)) ?_
      refine x_getJ hC 7 fl_X12_32 rfl kk_159 dX12_ahead_276 ?_
      refine wm_bipush hC dX12_ahead_279 (k := ?_)
      refine wm_lshl hC dX12_ahead_281 ?_
      refine wm_aload_n hC 0 dX12_ahead_282 rfl (k_ne0 kk_159 (by decide)) ?_
      refine x_getR3 hC 0 fl_X12_7 rfl kk_159 (rf_159_0 hRF) dX12_ahead_283 ?_
      refine wm_iload_n hC 1 dX12_ahead_286 rfl ?_
      refine x_iald2 hC kk_160 kn_160 dX12_ahead_287 hw (fun hw => ?_)
      refine wm_i2l hC dX12_ahead_288 ?_
      refine wm_lor hC dX12_ahead_289 ?_
      refine x_putJ hC 7 fl_X12_32 rfl kk_159 dX12_ahead_290 hw (fun J2 hw => ?_)
      exact w12_ahead_b293 hC hRm hE hRF kk204 hw
def p12_ahead_b243 (l1 : Int) (l2 : Int) (l3 : Int) (l4 : Int) (l5 : Int) (I : mI) (J : mI) (k204 : Int → Int → mI → mI → Prop) (Q : mI → mI → Prop) : Prop := (if l5 = l4 then (if (I 159 12) = (-1) then (wLet (up I 159 12 l1) (fun I14 => (p12_ahead_b263 l1 l2 l3 l4 l5 I14 J k204 Q))) else (p12_ahead_b263 l1 l2 l3 l4 l5 I J k204 Q)) else (p12_ahead_b263 l1 l2 l3 l4 l5 I J k204 Q))
set_option maxRecDepth 20000 in
theorem w12_ahead_b243 {C : wX} {ad : Nat → Nat} {n : Nat} {I J : mI} {R : mR} {Q : mI → mI → Prop} (hC : wOK C cX12_ahead 6 RX12) (hRm : wRm C 2 32 0 0) (hE : wEnd C none ad n (fun _ I' J' R' => (R' = R) ∧ Q I' J')) (hRF : RF R) {l1 : Int} {l2 : Int} {l3 : Int} {l4 : Int} {l5 : Int}  {k204 : Int → Int → mI → mI → Prop}  (kk204 : ∀ (y1 : Int) (y5 : Int) (I' : mI) (J' : mI), k204 y1 y5 I' J' → WM C ad n I' J' R 0 0 204 [(0, vr 159), (1, vi y1), (2, vi l2), (3, vi l3), (4, vi l4), (5, vi y5)] []) (hw : p12_ahead_b243 l1 l2 l3 l4 l5 I J k204 Q) : WM C ad n I J R 0 0 243 [(0, vr 159), (1, vi l1), (2, vi l2), (3, vi l3), (4, vi l4), (5, vi l5)] [] := by
  unfold p12_ahead_b243 at hw
  refine wm_iload hC 5 dX12_ahead_243 rfl ?_
  refine wm_iload hC 4 dX12_ahead_245 rfl ?_
  refine wm_icmp_ne (tgt := 263) hC dX12_ahead_247 (by decide) hw (fun hw => ?_) (fun hw => ?_)
  · refine wm_aload_n hC 0 dX12_ahead_250 rfl (k_ne0 kk_159 (by decide)) ?_
    refine x_getI hC 12 fl_X12_48 rfl kk_159 dX12_ahead_251 ?_
    refine wm_iconst hC dX12_ahead_254 (k := ?_)
    refine wm_icmp_ne (tgt := 263) hC dX12_ahead_255 (by decide) hw (fun hw => ?_) (fun hw => ?_)
    · refine wm_aload_n hC 0 dX12_ahead_258 rfl (k_ne0 kk_159 (by decide)) ?_
      refine wm_iload_n hC 1 dX12_ahead_259 rfl ?_
      refine x_putI hC 12 fl_X12_48 rfl kk_159 dX12_ahead_260 hw (fun I14 hw => ?_)
      exact w12_ahead_b263 hC hRm hE hRF kk204 hw
    · exact w12_ahead_b263 hC hRm hE hRF kk204 hw
  · exact w12_ahead_b263 hC hRm hE hRF kk204 hw
def p12_ahead_b204_body (l2 : Int) (l3 : Int) (l4 : Int) (Q : mI → mI → Prop) (k204 : Int → Int → mI → mI → Prop) (l1 : Int) (l5 : Int) (I : mI) (J : mI) : Prop := (if (I 159 2) ≤ l1 then (wLet (up I 159 5 l1) (fun I11 => (Q I11 J))) else (if l2 = 0 then (((0 : Int) ≤ l1 ∧ l1 < (1800 : Int)) ∧ (p12_isDigit (I 160 l1) (fun r5 => (if r5 = 0 then (wLet (up I 159 5 l1) (fun I12 => (Q I12 J))) else (p12_ahead_b243 l1 l2 l3 l4 l5 I J k204 Q))))) else (((0 : Int) ≤ l1 ∧ l1 < (1800 : Int)) ∧ (p12_isLetter (I 160 l1) (fun r6 => (if r6 = 0 then (wLet (up I 159 5 l1) (fun I13 => (Q I13 J))) else (p12_ahead_b243 l1 l2 l3 l4 l5 I J k204 Q)))))))
def p12_ahead_b204 (l2 : Int) (l3 : Int) (l4 : Int) (Q : mI → mI → Prop) : Nat → Int → Int → mI → mI → Prop
  | 0 => fun _ _ _ _ => False
  | f + 1 => fun l1 l5 I J => p12_ahead_b204_body l2 l3 l4 Q (p12_ahead_b204 l2 l3 l4 Q f) l1 l5 I J
set_option maxRecDepth 20000 in
theorem w12_ahead_b204_body {C : wX} {ad : Nat → Nat} {n : Nat} {I J : mI} {R : mR} {Q : mI → mI → Prop} (hC : wOK C cX12_ahead 6 RX12) (hRm : wRm C 2 32 0 0) (hE : wEnd C none ad n (fun _ I' J' R' => (R' = R) ∧ Q I' J')) (hRF : RF R) {l2 : Int} {l3 : Int} {l4 : Int} {l1 : Int} {l5 : Int}     {k204 : Int → Int → mI → mI → Prop} (kk204 : ∀ (y1 : Int) (y5 : Int) (I' : mI) (J' : mI), k204 y1 y5 I' J' → WM C ad n I' J' R 0 0 204 [(0, vr 159), (1, vi y1), (2, vi l2), (3, vi l3), (4, vi l4), (5, vi y5)] []) (hw : p12_ahead_b204_body l2 l3 l4 Q k204 l1 l5 I J) : WM C ad n I J R 0 0 204 [(0, vr 159), (1, vi l1), (2, vi l2), (3, vi l3), (4, vi l4), (5, vi l5)] [] := by
  unfold p12_ahead_b204_body at hw
  refine wm_iload_n hC 1 dX12_ahead_204 rfl ?_
  refine wm_aload_n hC 0 dX12_ahead_205 rfl (k_ne0 kk_159 (by decide)) ?_
  refine x_getI hC 2 fl_X12_17 rfl kk_159 dX12_ahead_206 ?_
  refine wm_icmp_ge (tgt := 334) hC dX12_ahead_209 (by decide) hw (fun hw => ?_) (fun hw => ?_)
  · refine wm_aload_n hC 0 dX12_ahead_334 rfl (k_ne0 kk_159 (by decide)) ?_
    refine wm_iload_n hC 1 dX12_ahead_335 rfl ?_
    refine x_putI hC 5 fl_X12_26 rfl kk_159 dX12_ahead_336 hw (fun I11 hw => ?_)
    exact wm_return hC hE dX12_ahead_339 ⟨rfl, hw⟩
  · refine wm_iload_n hC 2 dX12_ahead_212 rfl ?_
    refine wm_if_eq (tgt := 231) hC dX12_ahead_213 (by decide) hw (fun hw => ?_) (fun hw => ?_)
    · refine wm_aload_n hC 0 dX12_ahead_231 rfl (k_ne0 kk_159 (by decide)) ?_
      refine x_getR3 hC 0 fl_X12_7 rfl kk_159 (rf_159_0 hRF) dX12_ahead_232 ?_
      refine wm_iload_n hC 1 dX12_ahead_235 rfl ?_
      refine x_iald2 hC kk_160 kn_160 dX12_ahead_236 hw (fun hw => ?_)
      refine y_callS_z_n hC hRm noS ml_X12_238 (c12_isDigit hRF  hw) (Nat.le_of_ble_eq_true rfl) (Nat.le_of_ble_eq_true rfl) ⟨Nat.zero_le _, Nat.zero_le _⟩ rfl (st := []) rfl (Nat.le_of_ble_eq_true rfl) dX12_ahead_237 (fun r5 hw => ?_)
      refine wm_if_eq (tgt := 334) hC dX12_ahead_240 (by decide) hw (fun hw => ?_) (fun hw => ?_)
      · refine wm_aload_n hC 0 dX12_ahead_334 rfl (k_ne0 kk_159 (by decide)) ?_
        refine wm_iload_n hC 1 dX12_ahead_335 rfl ?_
        refine x_putI hC 5 fl_X12_26 rfl kk_159 dX12_ahead_336 hw (fun I12 hw => ?_)
        exact wm_return hC hE dX12_ahead_339 ⟨rfl, hw⟩
      · exact w12_ahead_b243 hC hRm hE hRF kk204 hw
    · refine wm_aload_n hC 0 dX12_ahead_216 rfl (k_ne0 kk_159 (by decide)) ?_
      refine x_getR3 hC 0 fl_X12_7 rfl kk_159 (rf_159_0 hRF) dX12_ahead_217 ?_
      refine wm_iload_n hC 1 dX12_ahead_220 rfl ?_
      refine x_iald2 hC kk_160 kn_160 dX12_ahead_221 hw (fun hw => ?_)
      refine y_callS_z_n hC hRm noS ml_X12_234 (c12_isLetter hRF  hw) (Nat.le_of_ble_eq_true rfl) (Nat.le_of_ble_eq_true rfl) ⟨Nat.zero_le _, Nat.zero_le _⟩ rfl (st := []) rfl (Nat.le_of_ble_eq_true rfl) dX12_ahead_222 (fun r6 hw => ?_)
      refine wm_if_eq (tgt := 334) hC dX12_ahead_225 (by decide) hw (fun hw => ?_) (fun hw => ?_)
      · refine wm_aload_n hC 0 dX12_ahead_334 rfl (k_ne0 kk_159 (by decide)) ?_
        refine wm_iload_n hC 1 dX12_ahead_335 rfl ?_
        refine x_putI hC 5 fl_X12_26 rfl kk_159 dX12_ahead_336 hw (fun I13 hw => ?_)
        exact wm_return hC hE dX12_ahead_339 ⟨rfl, hw⟩
      · refine wm_goto (tgt := 243) hC dX12_ahead_228 (by decide) ?_
        exact w12_ahead_b243 hC hRm hE hRF kk204 hw
set_option maxRecDepth 20000 in
theorem w12_ahead_b204 {C : wX} {ad : Nat → Nat} {n : Nat} {R : mR} {Q : mI → mI → Prop} (hC : wOK C cX12_ahead 6 RX12) (hRm : wRm C 2 32 0 0) (hE : wEnd C none ad n (fun _ I' J' R' => (R' = R) ∧ Q I' J')) (hRF : RF R) {l2 : Int} {l3 : Int} {l4 : Int}     : ∀ (f : Nat) (l1 : Int) (l5 : Int) (I : mI) (J : mI), p12_ahead_b204 l2 l3 l4 Q f l1 l5 I J → WM C ad n I J R 0 0 204 [(0, vr 159), (1, vi l1), (2, vi l2), (3, vi l3), (4, vi l4), (5, vi l5)] [] := by
  intro f
  induction f with
  | zero => intro l1 l5 I J hw; exact hw.elim
  | succ f ih => intro l1 l5 I J hw; exact w12_ahead_b204_body hC hRm hE hRF  (fun a0 a1 a2 a3 aw => ih a0 a1 a2 a3 aw) hw
def p12_ahead_b186 (l1 : Int) (l2 : Int) (l3 : Int) (s1 : Int) (I : mI) (J : mI) (Q : mI → mI → Prop) : Prop := (wLet (up I 159 3 s1) (fun I10 => (if l2 = 0 then (∃ f, p12_ahead_b204 l2 l3 4 Q f l1 0 I10 J) else (∃ f, p12_ahead_b204 l2 l3 6 Q f l1 0 I10 J))))
set_option maxRecDepth 20000 in
theorem w12_ahead_b186 {C : wX} {ad : Nat → Nat} {n : Nat} {I J : mI} {R : mR} {Q : mI → mI → Prop} (hC : wOK C cX12_ahead 6 RX12) (hRm : wRm C 2 32 0 0) (hE : wEnd C none ad n (fun _ I' J' R' => (R' = R) ∧ Q I' J')) (hRF : RF R) {l1 : Int} {l2 : Int} {l3 : Int} {s1 : Int}     (hw : p12_ahead_b186 l1 l2 l3 s1 I J Q) : WM C ad n I J R 0 0 186 [(0, vr 159), (1, vi l1), (2, vi l2), (3, vi l3)] [vi s1, vr 159] := by
  unfold p12_ahead_b186 at hw
  refine x_putI hC 3 fl_X12_20 rfl kk_159 dX12_ahead_186 hw (fun I10 hw => ?_)
  refine wm_iload_n hC 2 dX12_ahead_189 rfl ?_
  refine wm_if_eq (tgt := 198) hC dX12_ahead_190 (by decide) hw (fun hw => ?_) (fun hw => ?_)
  · refine wm_iconst hC dX12_ahead_198 (k := ?_)
    refine wm_istore hC dX12_ahead_199 (by decide) (L2 := [(4, vi 4), (0, vr 159), (1, vi l1), (2, vi l2), (3, vi l3)]) rfl ?_
    refine wm_iconst hC dX12_ahead_201 (k := ?_)
    refine wm_istore hC dX12_ahead_202 (by decide) (L2 := [(5, vi 0), (4, vi 4), (0, vr 159), (1, vi l1), (2, vi l2), (3, vi l3)]) rfl ?_
    obtain ⟨f, hw⟩ := hw
    refine wm_sub [2, 3, 4, 5, 1, 0] (L2 := [(0, vr 159), (1, vi l1), (2, vi l2), (3, vi l3), (4, vi 4), (5, vi 0)]) rfl ?_
    exact w12_ahead_b204 hC hRm hE hRF  f _ _ _ _ hw
  · refine wm_bipush hC dX12_ahead_193 (k := ?_)
    refine wm_goto (tgt := 199) hC dX12_ahead_195 (by decide) ?_
    refine wm_istore hC dX12_ahead_199 (by decide) (L2 := [(4, vi 6), (0, vr 159), (1, vi l1), (2, vi l2), (3, vi l3)]) rfl ?_
    refine wm_iconst hC dX12_ahead_201 (k := ?_)
    refine wm_istore hC dX12_ahead_202 (by decide) (L2 := [(5, vi 0), (4, vi 6), (0, vr 159), (1, vi l1), (2, vi l2), (3, vi l3)]) rfl ?_
    obtain ⟨f, hw⟩ := hw
    refine wm_sub [2, 3, 4, 5, 1, 0] (L2 := [(0, vr 159), (1, vi l1), (2, vi l2), (3, vi l3), (4, vi 6), (5, vi 0)]) rfl ?_
    exact w12_ahead_b204 hC hRm hE hRF  f _ _ _ _ hw
def p12_ahead_b176 (l1 : Int) (l2 : Int) (l3 : Int) (I : mI) (J : mI) (Q : mI → mI → Prop) : Prop := (if l2 = 0 then (p12_ahead_b186 l1 l2 l3 2 I J Q) else (p12_ahead_b186 l1 l2 l3 1 I J Q))
set_option maxRecDepth 20000 in
theorem w12_ahead_b176 {C : wX} {ad : Nat → Nat} {n : Nat} {I J : mI} {R : mR} {Q : mI → mI → Prop} (hC : wOK C cX12_ahead 6 RX12) (hRm : wRm C 2 32 0 0) (hE : wEnd C none ad n (fun _ I' J' R' => (R' = R) ∧ Q I' J')) (hRF : RF R) {l1 : Int} {l2 : Int} {l3 : Int}     (hw : p12_ahead_b176 l1 l2 l3 I J Q) : WM C ad n I J R 0 0 176 [(0, vr 159), (1, vi l1), (2, vi l2), (3, vi l3)] [] := by
  unfold p12_ahead_b176 at hw
  refine wm_aload_n hC 0 dX12_ahead_176 rfl (k_ne0 kk_159 (by decide)) ?_
  refine wm_iload_n hC 2 dX12_ahead_177 rfl ?_
  refine wm_if_eq (tgt := 185) hC dX12_ahead_178 (by decide) hw (fun hw => ?_) (fun hw => ?_)
  · refine wm_iconst hC dX12_ahead_185 (k := ?_)
    exact w12_ahead_b186 hC hRm hE hRF  hw
  · refine wm_iconst hC dX12_ahead_181 (k := ?_)
    refine wm_goto (tgt := 186) hC dX12_ahead_182 (by decide) ?_
    exact w12_ahead_b186 hC hRm hE hRF  hw
def p12_ahead_b135 (l1 : Int) (l2 : Int) (l3 : Int) (I : mI) (J : mI) (Q : mI → mI → Prop) : Prop := (wLet (up I 159 6 0) (fun I6 => (wLet (up J 159 7 0) (fun J1 => (wLet (up I6 159 3 3) (fun I7 => (rg (l1 + 1) ∧ (wLet (up I7 159 5 (l1 + 1)) (fun I8 => (if l2 = 0 then (if l3 = 0 then (((0 : Int) ≤ l1 ∧ l1 < (1800 : Int)) ∧ (wLet (up I8 159 6 (I8 160 l1)) (fun I9 => (Q I9 J1)))) else (p12_ahead_b176 l1 l2 l3 I8 J1 Q)) else (p12_ahead_b176 l1 l2 l3 I8 J1 Q)))))))))))
set_option maxRecDepth 20000 in
theorem w12_ahead_b135 {C : wX} {ad : Nat → Nat} {n : Nat} {I J : mI} {R : mR} {Q : mI → mI → Prop} (hC : wOK C cX12_ahead 6 RX12) (hRm : wRm C 2 32 0 0) (hE : wEnd C none ad n (fun _ I' J' R' => (R' = R) ∧ Q I' J')) (hRF : RF R) {l1 : Int} {l2 : Int} {l3 : Int}     (hw : p12_ahead_b135 l1 l2 l3 I J Q) : WM C ad n I J R 0 0 135 [(0, vr 159), (1, vi l1), (2, vi l2), (3, vi l3)] [] := by
  unfold p12_ahead_b135 at hw
  refine wm_aload_n hC 0 dX12_ahead_135 rfl (k_ne0 kk_159 (by decide)) ?_
  refine wm_iconst hC dX12_ahead_136 (k := ?_)
  refine x_putI hC 6 fl_X12_29 rfl kk_159 dX12_ahead_137 hw (fun I6 hw => ?_)
  refine wm_aload_n hC 0 dX12_ahead_140 rfl (k_ne0 kk_159 (by decide)) ?_
  refine wm_lconst hC (x := 0) dX12_ahead_141 (k := ?_)
  refine x_putJ hC 7 fl_X12_32 rfl kk_159 dX12_ahead_142 hw (fun J1 hw => ?_)
  refine wm_aload_n hC 0 dX12_ahead_145 rfl (k_ne0 kk_159 (by decide)) ?_
  refine wm_iconst hC dX12_ahead_146 (k := ?_)
  refine x_putI hC 3 fl_X12_20 rfl kk_159 dX12_ahead_147 hw (fun I7 hw => ?_)
  refine wm_aload_n hC 0 dX12_ahead_150 rfl (k_ne0 kk_159 (by decide)) ?_
  refine wm_iload_n hC 1 dX12_ahead_151 rfl ?_
  refine wm_iconst hC dX12_ahead_152 (k := ?_)
  refine x_iadd hC dX12_ahead_153 hw (fun hw => ?_)
  refine x_putI hC 5 fl_X12_26 rfl kk_159 dX12_ahead_154 hw (fun I8 hw => ?_)
  refine wm_iload_n hC 2 dX12_ahead_157 rfl ?_
  refine wm_if_ne (tgt := 176) hC dX12_ahead_158 (by decide) hw (fun hw => ?_) (fun hw => ?_)
  · refine wm_iload_n hC 3 dX12_ahead_161 rfl ?_
    refine wm_if_ne (tgt := 176) hC dX12_ahead_162 (by decide) hw (fun hw => ?_) (fun hw => ?_)
    · refine wm_aload_n hC 0 dX12_ahead_165 rfl (k_ne0 kk_159 (by decide)) ?_
      refine wm_aload_n hC 0 dX12_ahead_166 rfl (k_ne0 kk_159 (by decide)) ?_
      refine x_getR3 hC 0 fl_X12_7 rfl kk_159 (rf_159_0 hRF) dX12_ahead_167 ?_
      refine wm_iload_n hC 1 dX12_ahead_170 rfl ?_
      refine x_iald2 hC kk_160 kn_160 dX12_ahead_171 hw (fun hw => ?_)
      refine x_putI hC 6 fl_X12_29 rfl kk_159 dX12_ahead_172 hw (fun I9 hw => ?_)
      exact wm_return hC hE dX12_ahead_175 ⟨rfl, hw⟩
    · exact w12_ahead_b176 hC hRm hE hRF  hw
  · exact w12_ahead_b176 hC hRm hE hRF  hw
def p12_ahead_b130 (l1 : Int) (l2 : Int) (l3 : Int) (I : mI) (J : mI) (Q : mI → mI → Prop) : Prop := (wLet (up I 159 12 l1) (fun I5 => (p12_ahead_b135 l1 l2 l3 I5 J Q)))
set_option maxRecDepth 20000 in
theorem w12_ahead_b130 {C : wX} {ad : Nat → Nat} {n : Nat} {I J : mI} {R : mR} {Q : mI → mI → Prop} (hC : wOK C cX12_ahead 6 RX12) (hRm : wRm C 2 32 0 0) (hE : wEnd C none ad n (fun _ I' J' R' => (R' = R) ∧ Q I' J')) (hRF : RF R) {l1 : Int} {l2 : Int} {l3 : Int}     (hw : p12_ahead_b130 l1 l2 l3 I J Q) : WM C ad n I J R 0 0 130 [(0, vr 159), (1, vi l1), (2, vi l2), (3, vi l3)] [] := by
  unfold p12_ahead_b130 at hw
  refine wm_aload_n hC 0 dX12_ahead_130 rfl (k_ne0 kk_159 (by decide)) ?_
  refine wm_iload_n hC 1 dX12_ahead_131 rfl ?_
  refine x_putI hC 12 fl_X12_48 rfl kk_159 dX12_ahead_132 hw (fun I5 hw => ?_)
  exact w12_ahead_b135 hC hRm hE hRF  hw
def p12_ahead_b98 (l1 : Int) (l2 : Int) (l3 : Int) (I : mI) (J : mI) (Q : mI → mI → Prop) : Prop := (if l1 ≤ 0 then (p12_ahead_b135 l1 l2 l3 I J Q) else (rg (l1 - 1) ∧ (((0 : Int) ≤ (l1 - 1) ∧ (l1 - 1) < (1800 : Int)) ∧ (p12_isLetter (I 160 (l1 - 1)) (fun r3 => (if r3 = 0 then (rg (l1 - 1) ∧ (((0 : Int) ≤ (l1 - 1) ∧ (l1 - 1) < (1800 : Int)) ∧ (p12_isDigit (I 160 (l1 - 1)) (fun r4 => (if r4 = 0 then (p12_ahead_b135 l1 l2 l3 I J Q) else (p12_ahead_b130 l1 l2 l3 I J Q)))))) else (p12_ahead_b130 l1 l2 l3 I J Q)))))))
set_option maxRecDepth 20000 in
theorem w12_ahead_b98 {C : wX} {ad : Nat → Nat} {n : Nat} {I J : mI} {R : mR} {Q : mI → mI → Prop} (hC : wOK C cX12_ahead 6 RX12) (hRm : wRm C 2 32 0 0) (hE : wEnd C none ad n (fun _ I' J' R' => (R' = R) ∧ Q I' J')) (hRF : RF R) {l1 : Int} {l2 : Int} {l3 : Int}     (hw : p12_ahead_b98 l1 l2 l3 I J Q) : WM C ad n I J R 0 0 98 [(0, vr 159), (1, vi l1), (2, vi l2), (3, vi l3)] [] := by
  unfold p12_ahead_b98 at hw
  refine wm_iload_n hC 1 dX12_ahead_98 rfl ?_
  refine wm_if_le (tgt := 135) hC dX12_ahead_99 (by decide) hw (fun hw => ?_) (fun hw => ?_)
  · exact w12_ahead_b135 hC hRm hE hRF  hw
  · refine wm_aload_n hC 0 dX12_ahead_102 rfl (k_ne0 kk_159 (by decide)) ?_
    refine x_getR3 hC 0 fl_X12_7 rfl kk_159 (rf_159_0 hRF) dX12_ahead_103 ?_
    refine wm_iload_n hC 1 dX12_ahead_106 rfl ?_
    refine wm_iconst hC dX12_ahead_107 (k := ?_)
    refine x_isub hC dX12_ahead_108 hw (fun hw => ?_)
    refine x_iald2 hC kk_160 kn_160 dX12_ahead_109 hw (fun hw => ?_)
    refine y_callS_z_n hC hRm noS ml_X12_234 (c12_isLetter hRF  hw) (Nat.le_of_ble_eq_true rfl) (Nat.le_of_ble_eq_true rfl) ⟨Nat.zero_le _, Nat.zero_le _⟩ rfl (st := []) rfl (Nat.le_of_ble_eq_true rfl) dX12_ahead_110 (fun r3 hw => ?_)
    refine wm_if_ne (tgt := 130) hC dX12_ahead_113 (by decide) hw (fun hw => ?_) (fun hw => ?_)
    · refine wm_aload_n hC 0 dX12_ahead_116 rfl (k_ne0 kk_159 (by decide)) ?_
      refine x_getR3 hC 0 fl_X12_7 rfl kk_159 (rf_159_0 hRF) dX12_ahead_117 ?_
      refine wm_iload_n hC 1 dX12_ahead_120 rfl ?_
      refine wm_iconst hC dX12_ahead_121 (k := ?_)
      refine x_isub hC dX12_ahead_122 hw (fun hw => ?_)
      refine x_iald2 hC kk_160 kn_160 dX12_ahead_123 hw (fun hw => ?_)
      refine y_callS_z_n hC hRm noS ml_X12_238 (c12_isDigit hRF  hw) (Nat.le_of_ble_eq_true rfl) (Nat.le_of_ble_eq_true rfl) ⟨Nat.zero_le _, Nat.zero_le _⟩ rfl (st := []) rfl (Nat.le_of_ble_eq_true rfl) dX12_ahead_124 (fun r4 hw => ?_)
      refine wm_if_eq (tgt := 135) hC dX12_ahead_127 (by decide) hw (fun hw => ?_) (fun hw => ?_)
      · exact w12_ahead_b135 hC hRm hE hRF  hw
      · exact w12_ahead_b130 hC hRm hE hRF  hw
    · exact w12_ahead_b130 hC hRm hE hRF  hw
def p12_ahead_b41 (l1 : Int) (I : mI) (J : mI) (Q : mI → mI → Prop) : Prop := (wLet (up I 159 4 l1) (fun I1 => (wLet (up I1 159 5 l1) (fun I2 => (wLet (up I2 159 3 0) (fun I3 => (wLet (up I3 159 12 (-1)) (fun I4 => (if l1 < (I4 159 2) then (((0 : Int) ≤ l1 ∧ l1 < (1800 : Int)) ∧ (p12_isLetter (I4 160 l1) (fun r1 => (((0 : Int) ≤ l1 ∧ l1 < (1800 : Int)) ∧ (p12_isDigit (I4 160 l1) (fun r2 => (if r1 = 0 then (if r2 = 0 then (p12_ahead_b135 l1 r1 r2 I4 J Q) else (p12_ahead_b98 l1 r1 r2 I4 J Q)) else (p12_ahead_b98 l1 r1 r2 I4 J Q)))))))) else (Q I4 J))))))))))
set_option maxRecDepth 20000 in
theorem w12_ahead_b41 {C : wX} {ad : Nat → Nat} {n : Nat} {I J : mI} {R : mR} {Q : mI → mI → Prop} (hC : wOK C cX12_ahead 6 RX12) (hRm : wRm C 2 32 0 0) (hE : wEnd C none ad n (fun _ I' J' R' => (R' = R) ∧ Q I' J')) (hRF : RF R) {l1 : Int}     (hw : p12_ahead_b41 l1 I J Q) : WM C ad n I J R 0 0 41 [(0, vr 159), (1, vi l1)] [] := by
  unfold p12_ahead_b41 at hw
  refine wm_aload_n hC 0 dX12_ahead_41 rfl (k_ne0 kk_159 (by decide)) ?_
  refine wm_iload_n hC 1 dX12_ahead_42 rfl ?_
  refine x_putI hC 4 fl_X12_23 rfl kk_159 dX12_ahead_43 hw (fun I1 hw => ?_)
  refine wm_aload_n hC 0 dX12_ahead_46 rfl (k_ne0 kk_159 (by decide)) ?_
  refine wm_iload_n hC 1 dX12_ahead_47 rfl ?_
  refine x_putI hC 5 fl_X12_26 rfl kk_159 dX12_ahead_48 hw (fun I2 hw => ?_)
  refine wm_aload_n hC 0 dX12_ahead_51 rfl (k_ne0 kk_159 (by decide)) ?_
  refine wm_iconst hC dX12_ahead_52 (k := ?_)
  refine x_putI hC 3 fl_X12_20 rfl kk_159 dX12_ahead_53 hw (fun I3 hw => ?_)
  refine wm_aload_n hC 0 dX12_ahead_56 rfl (k_ne0 kk_159 (by decide)) ?_
  refine wm_iconst hC dX12_ahead_57 (k := ?_)
  refine x_putI hC 12 fl_X12_48 rfl kk_159 dX12_ahead_58 hw (fun I4 hw => ?_)
  refine wm_iload_n hC 1 dX12_ahead_61 rfl ?_
  refine wm_aload_n hC 0 dX12_ahead_62 rfl (k_ne0 kk_159 (by decide)) ?_
  refine x_getI hC 2 fl_X12_17 rfl kk_159 dX12_ahead_63 ?_
  refine wm_icmp_lt (tgt := 70) hC dX12_ahead_66 (by decide) hw (fun hw => ?_) (fun hw => ?_)
  · refine wm_aload_n hC 0 dX12_ahead_70 rfl (k_ne0 kk_159 (by decide)) ?_
    refine x_getR3 hC 0 fl_X12_7 rfl kk_159 (rf_159_0 hRF) dX12_ahead_71 ?_
    refine wm_iload_n hC 1 dX12_ahead_74 rfl ?_
    refine x_iald2 hC kk_160 kn_160 dX12_ahead_75 hw (fun hw => ?_)
    refine y_callS_z_n hC hRm noS ml_X12_234 (c12_isLetter hRF  hw) (Nat.le_of_ble_eq_true rfl) (Nat.le_of_ble_eq_true rfl) ⟨Nat.zero_le _, Nat.zero_le _⟩ rfl (st := []) rfl (Nat.le_of_ble_eq_true rfl) dX12_ahead_76 (fun r1 hw => ?_)
    refine wm_istore_n hC dX12_ahead_79 (by decide) (L2 := [(2, vi r1), (0, vr 159), (1, vi l1)]) rfl ?_
    refine wm_aload_n hC 1 dX12_ahead_80 rfl (k_ne0 kk_159 (by decide)) ?_
    refine x_getR3 hC 0 fl_X12_7 rfl kk_159 (rf_159_0 hRF) dX12_ahead_81 ?_
    refine wm_iload_n hC 2 dX12_ahead_84 rfl ?_
    refine x_iald2 hC kk_160 kn_160 dX12_ahead_85 hw (fun hw => ?_)
    refine y_callS_z_n hC hRm noS ml_X12_238 (c12_isDigit hRF  hw) (Nat.le_of_ble_eq_true rfl) (Nat.le_of_ble_eq_true rfl) ⟨Nat.zero_le _, Nat.zero_le _⟩ rfl (st := []) rfl (Nat.le_of_ble_eq_true rfl) dX12_ahead_86 (fun r2 hw => ?_)
    refine wm_istore_n hC dX12_ahead_89 (by decide) (L2 := [(3, vi r2), (2, vi r1), (0, vr 159), (1, vi l1)]) rfl ?_
    refine wm_iload_n hC 1 dX12_ahead_90 rfl ?_
    refine wm_if_ne (tgt := 98) hC dX12_ahead_91 (by decide) hw (fun hw => ?_) (fun hw => ?_)
    · refine wm_iload_n hC 0 dX12_ahead_94 rfl ?_
      refine wm_if_eq (tgt := 135) hC dX12_ahead_95 (by decide) hw (fun hw => ?_) (fun hw => ?_)
      · refine wm_sub [2, 3, 1, 0] (L2 := [(0, vr 159), (1, vi l1), (2, vi r1), (3, vi r2)]) rfl ?_
        exact w12_ahead_b135 hC hRm hE hRF  hw
      · refine wm_sub [2, 3, 1, 0] (L2 := [(0, vr 159), (1, vi l1), (2, vi r1), (3, vi r2)]) rfl ?_
        exact w12_ahead_b98 hC hRm hE hRF  hw
    · refine wm_sub [2, 3, 1, 0] (L2 := [(0, vr 159), (1, vi l1), (2, vi r1), (3, vi r2)]) rfl ?_
      exact w12_ahead_b98 hC hRm hE hRF  hw
  · exact wm_return hC hE dX12_ahead_69 ⟨rfl, hw⟩
def p12_ahead_b5_body (I : mI) (J : mI) (Q : mI → mI → Prop) (k5 : Int → Prop) (l1 : Int) : Prop := (if (I 159 2) ≤ l1 then (p12_ahead_b41 l1 I J Q) else (((0 : Int) ≤ l1 ∧ l1 < (1800 : Int)) ∧ (if (I 160 l1) = 32 then (rg (l1 + 1) ∧ (k5 (l1 + 1))) else (((0 : Int) ≤ l1 ∧ l1 < (1800 : Int)) ∧ (if (I 160 l1) = 10 then (rg (l1 + 1) ∧ (k5 (l1 + 1))) else (p12_ahead_b41 l1 I J Q))))))
def p12_ahead_b5 (I : mI) (J : mI) (Q : mI → mI → Prop) : Nat → Int → Prop
  | 0 => fun _ => False
  | f + 1 => fun l1 => p12_ahead_b5_body I J Q (p12_ahead_b5 I J Q f) l1
set_option maxRecDepth 20000 in
theorem w12_ahead_b5_body {C : wX} {ad : Nat → Nat} {n : Nat} {I J : mI} {R : mR} {Q : mI → mI → Prop} (hC : wOK C cX12_ahead 6 RX12) (hRm : wRm C 2 32 0 0) (hE : wEnd C none ad n (fun _ I' J' R' => (R' = R) ∧ Q I' J')) (hRF : RF R)  {l1 : Int}     {k5 : Int → Prop} (kk5 : ∀ (y1 : Int), k5 y1 → WM C ad n I J R 0 0 5 [(0, vr 159), (1, vi y1)] []) (hw : p12_ahead_b5_body I J Q k5 l1) : WM C ad n I J R 0 0 5 [(0, vr 159), (1, vi l1)] [] := by
  unfold p12_ahead_b5_body at hw
  refine wm_iload_n hC 1 dX12_ahead_5 rfl ?_
  refine wm_aload_n hC 0 dX12_ahead_6 rfl (k_ne0 kk_159 (by decide)) ?_
  refine x_getI hC 2 fl_X12_17 rfl kk_159 dX12_ahead_7 ?_
  refine wm_icmp_ge (tgt := 41) hC dX12_ahead_10 (by decide) hw (fun hw => ?_) (fun hw => ?_)
  · exact w12_ahead_b41 hC hRm hE hRF  hw
  · refine wm_aload_n hC 0 dX12_ahead_13 rfl (k_ne0 kk_159 (by decide)) ?_
    refine x_getR3 hC 0 fl_X12_7 rfl kk_159 (rf_159_0 hRF) dX12_ahead_14 ?_
    refine wm_iload_n hC 1 dX12_ahead_17 rfl ?_
    refine x_iald2 hC kk_160 kn_160 dX12_ahead_18 hw (fun hw => ?_)
    refine wm_bipush hC dX12_ahead_19 (k := ?_)
    refine wm_icmp_eq (tgt := 35) hC dX12_ahead_21 (by decide) hw (fun hw => ?_) (fun hw => ?_)
    · refine x_iinc hC 1 dX12_ahead_35 rfl (by decide) (L2 := [(1, vi (l1 + 1)), (0, vr 159)]) rfl hw (fun hw => ?_)
      refine wm_goto (tgt := 5) hC dX12_ahead_38 (by decide) ?_
      refine wm_sub [1, 0] (L2 := [(0, vr 159), (1, vi (l1 + 1))]) rfl ?_
      exact kk5 _ hw
    · refine wm_aload_n hC 0 dX12_ahead_24 rfl (k_ne0 kk_159 (by decide)) ?_
      refine x_getR3 hC 0 fl_X12_7 rfl kk_159 (rf_159_0 hRF) dX12_ahead_25 ?_
      refine wm_iload_n hC 1 dX12_ahead_28 rfl ?_
      refine x_iald2 hC kk_160 kn_160 dX12_ahead_29 hw (fun hw => ?_)
      refine wm_bipush hC dX12_ahead_30 (k := ?_)
      refine wm_icmp_ne (tgt := 41) hC dX12_ahead_32 (by decide) hw (fun hw => ?_) (fun hw => ?_)
      · refine x_iinc hC 1 dX12_ahead_35 rfl (by decide) (L2 := [(1, vi (l1 + 1)), (0, vr 159)]) rfl hw (fun hw => ?_)
        refine wm_goto (tgt := 5) hC dX12_ahead_38 (by decide) ?_
        refine wm_sub [1, 0] (L2 := [(0, vr 159), (1, vi (l1 + 1))]) rfl ?_
        exact kk5 _ hw
      · exact w12_ahead_b41 hC hRm hE hRF  hw
set_option maxRecDepth 20000 in
theorem w12_ahead_b5 {C : wX} {ad : Nat → Nat} {n : Nat} {I : mI} {J : mI} {R : mR} {Q : mI → mI → Prop} (hC : wOK C cX12_ahead 6 RX12) (hRm : wRm C 2 32 0 0) (hE : wEnd C none ad n (fun _ I' J' R' => (R' = R) ∧ Q I' J')) (hRF : RF R)      : ∀ (f : Nat) (l1 : Int), p12_ahead_b5 I J Q f l1 → WM C ad n I J R 0 0 5 [(0, vr 159), (1, vi l1)] [] := by
  intro f
  induction f with
  | zero => intro l1 hw; exact hw.elim
  | succ f ih => intro l1 hw; exact w12_ahead_b5_body hC hRm hE hRF  (fun a0 aw => ih a0 aw) hw
def p12_ahead (I : mI) (J : mI) (Q : mI → mI → Prop) : Prop := (∃ f, p12_ahead_b5 I J Q f (I 159 5))
set_option maxRecDepth 20000 in
theorem c12_ahead {ad : Nat → Nat} {n : Nat} {I J : mI} {R : mR} {Q : mI → mI → Prop}  (hRF : RF R)   (hw : p12_ahead I J Q) : wMet yX12_ahead cX12_ahead 6 none 2 32 false ad n I J R [vr 159] (fun _ I' J' R' => (R' = R) ∧ Q I' J') := by
  refine wMet_of (by decide) (Nat.le_of_ble_eq_true rfl) (fun C hC hRm hE hS => ?_)
  refine (show WM C ad n I J R 0 0 0 [(0, vr 159)] [] from ?_)
  unfold p12_ahead at hw
  refine wm_aload_n hC 0 dX12_ahead_0 rfl (k_ne0 kk_159 (by decide)) ?_
  refine x_getI hC 5 fl_X12_26 rfl kk_159 dX12_ahead_1 ?_
  refine wm_istore_n hC dX12_ahead_4 (by decide) (L2 := [(1, vi (I 159 5)), (0, vr 159)]) rfl ?_
  obtain ⟨f, hw⟩ := hw
  refine wm_sub [1, 0] (L2 := [(0, vr 159), (1, vi (I 159 5))]) rfl ?_
  exact w12_ahead_b5 hC hRm hE hRF  f _ hw
def p12_begin_b89_body (Q : mI → Prop) (k89 : Int → mI → Prop) (l1 : Int) (I : mI) : Prop := (if (18 : Int) ≤ l1 then (wLet (up I 190 0 0) (fun I7 => (wLet (up I7 159 53 0) (fun I8 => (wLet (up I8 159 62 0) (fun I9 => (Q I9))))))) else (rg (18 * (I 159 13)) ∧ (rg ((18 * (I 159 13)) + l1) ∧ (((0 : Int) ≤ ((18 * (I 159 13)) + l1) ∧ ((18 * (I 159 13)) + l1) < (36 : Int)) ∧ (((0 : Int) ≤ l1 ∧ l1 < (18 : Int)) ∧ wLet (up I 192 l1 (I 162 ((18 * (I 159 13)) + l1))) (fun I10 => (rg (l1 + 1) ∧ (k89 (l1 + 1) I10))))))))
def p12_begin_b89 (Q : mI → Prop) : Nat → Int → mI → Prop
  | 0 => fun _ _ => False
  | f + 1 => fun l1 I => p12_begin_b89_body Q (p12_begin_b89 Q f) l1 I
set_option maxRecDepth 20000 in
theorem w12_begin_b89_body {C : wX} {ad : Nat → Nat} {n : Nat} {I J : mI} {R : mR} {Q : mI → Prop} (hC : wOK C cX12_begin 2 RX12) (hRm : wRm C 1 12 0 0) (hE : wEnd C none ad n (fun _ I' J' R' => (J' = J ∧ R' = R) ∧ Q I')) (hRF : RF R)  {l1 : Int}     {k89 : Int → mI → Prop} (kk89 : ∀ (y1 : Int) (I' : mI), k89 y1 I' → WM C ad n I' J R 0 0 89 [(0, vr 159), (1, vi y1)] []) (hw : p12_begin_b89_body Q k89 l1 I) : WM C ad n I J R 0 0 89 [(0, vr 159), (1, vi l1)] [] := by
  unfold p12_begin_b89_body at hw
  refine wm_iload_n hC 1 dX12_begin_89 rfl ?_
  refine wm_bipush hC dX12_begin_90 (k := ?_)
  refine wm_icmp_ge (tgt := 121) hC dX12_begin_92 (by decide) hw (fun hw => ?_) (fun hw => ?_)
  · refine wm_aload_n hC 0 dX12_begin_121 rfl (k_ne0 kk_159 (by decide)) ?_
    refine x_getR3 hC 50 fl_X12_165 rfl kk_159 (rf_159_50 hRF) dX12_begin_122 ?_
    refine wm_iconst hC dX12_begin_125 (k := ?_)
    refine wm_iconst hC dX12_begin_126 (k := ?_)
    refine x_iastK hC kk_190 kn_190 (by decide) (by decide) dX12_begin_127 hw (fun I7 hw => ?_)
    refine wm_aload_n hC 0 dX12_begin_128 rfl (k_ne0 kk_159 (by decide)) ?_
    refine wm_iconst hC dX12_begin_129 (k := ?_)
    refine x_putI hC 53 fl_X12_174 rfl kk_159 dX12_begin_130 hw (fun I8 hw => ?_)
    refine wm_aload_n hC 0 dX12_begin_133 rfl (k_ne0 kk_159 (by decide)) ?_
    refine wm_iconst hC dX12_begin_134 (k := ?_)
    refine x_putI hC 62 fl_X12_201 rfl kk_159 dX12_begin_135 hw (fun I9 hw => ?_)
    exact wm_return hC hE dX12_begin_138 ⟨⟨rfl, rfl⟩, hw⟩
  · refine wm_aload_n hC 0 dX12_begin_95 rfl (k_ne0 kk_159 (by decide)) ?_
    refine x_getR3 hC 55 fl_X12_180 rfl kk_159 (rf_159_55 hRF) dX12_begin_96 ?_
    refine wm_iload_n hC 1 dX12_begin_99 rfl ?_
    refine wm_aload_n hC 0 dX12_begin_100 rfl (k_ne0 kk_159 (by decide)) ?_
    refine x_getR3 hC 15 fl_X12_57 rfl kk_159 (rf_159_15 hRF) dX12_begin_101 ?_
    refine wm_bipush hC dX12_begin_104 (k := ?_)
    refine wm_aload_n hC 0 dX12_begin_106 rfl (k_ne0 kk_159 (by decide)) ?_
    refine x_getI hC 13 fl_X12_51 rfl kk_159 dX12_begin_107 ?_
    refine x_imul hC dX12_begin_110 hw (fun hw => ?_)
    refine wm_iload_n hC 1 dX12_begin_111 rfl ?_
    refine x_iadd hC dX12_begin_112 hw (fun hw => ?_)
    refine x_iald2 hC kk_162 kn_162 dX12_begin_113 hw (fun hw => ?_)
    refine x_iast2 hC kk_192 kn_192 dX12_begin_114 hw (fun I10 hw => ?_)
    refine x_iinc hC 1 dX12_begin_115 rfl (by decide) (L2 := [(1, vi (l1 + 1)), (0, vr 159)]) rfl hw (fun hw => ?_)
    refine wm_goto (tgt := 89) hC dX12_begin_118 (by decide) ?_
    refine wm_sub [1, 0] (L2 := [(0, vr 159), (1, vi (l1 + 1))]) rfl ?_
    exact kk89 _ _ hw
set_option maxRecDepth 20000 in
theorem w12_begin_b89 {C : wX} {ad : Nat → Nat} {n : Nat} {J : mI} {R : mR} {Q : mI → Prop} (hC : wOK C cX12_begin 2 RX12) (hRm : wRm C 1 12 0 0) (hE : wEnd C none ad n (fun _ I' J' R' => (J' = J ∧ R' = R) ∧ Q I')) (hRF : RF R)      : ∀ (f : Nat) (l1 : Int) (I : mI), p12_begin_b89 Q f l1 I → WM C ad n I J R 0 0 89 [(0, vr 159), (1, vi l1)] [] := by
  intro f
  induction f with
  | zero => intro l1 I hw; exact hw.elim
  | succ f ih => intro l1 I hw; exact w12_begin_b89_body hC hRm hE hRF  (fun a0 a1 aw => ih a0 a1 aw) hw
def p12_begin_b24_body (Q : mI → Prop) (k24 : Int → mI → Prop) (l1 : Int) (I : mI) : Prop := (if (6 : Int) ≤ l1 then (∃ f, p12_begin_b89 Q f 0 I) else (((0 : Int) ≤ l1 ∧ l1 < (132 : Int)) ∧ wLet (up I 187 l1 l1) (fun I3 => (((0 : Int) ≤ l1 ∧ l1 < (132 : Int)) ∧ wLet (up I3 188 l1 5) (fun I4 => (((0 : Int) ≤ (I4 159 13) ∧ (I4 159 13) < (2 : Int)) ∧ (if (I4 167 (I4 159 13)) ≤ l1 then (((0 : Int) ≤ l1 ∧ l1 < (132 : Int)) ∧ wLet (up I4 189 l1 (-1)) (fun I5 => (rg (l1 + 1) ∧ (k24 (l1 + 1) I5)))) else (rg (6 * (I4 159 13)) ∧ (rg ((6 * (I4 159 13)) + l1) ∧ (((0 : Int) ≤ ((6 * (I4 159 13)) + l1) ∧ ((6 * (I4 159 13)) + l1) < (12 : Int)) ∧ (((0 : Int) ≤ l1 ∧ l1 < (132 : Int)) ∧ wLet (up I4 189 l1 (I4 170 ((6 * (I4 159 13)) + l1))) (fun I6 => (rg (l1 + 1) ∧ (k24 (l1 + 1) I6))))))))))))))
def p12_begin_b24 (Q : mI → Prop) : Nat → Int → mI → Prop
  | 0 => fun _ _ => False
  | f + 1 => fun l1 I => p12_begin_b24_body Q (p12_begin_b24 Q f) l1 I
set_option maxRecDepth 20000 in
theorem w12_begin_b24_body {C : wX} {ad : Nat → Nat} {n : Nat} {I J : mI} {R : mR} {Q : mI → Prop} (hC : wOK C cX12_begin 2 RX12) (hRm : wRm C 1 12 0 0) (hE : wEnd C none ad n (fun _ I' J' R' => (J' = J ∧ R' = R) ∧ Q I')) (hRF : RF R)  {l1 : Int}     {k24 : Int → mI → Prop} (kk24 : ∀ (y1 : Int) (I' : mI), k24 y1 I' → WM C ad n I' J R 0 0 24 [(0, vr 159), (1, vi y1)] []) (hw : p12_begin_b24_body Q k24 l1 I) : WM C ad n I J R 0 0 24 [(0, vr 159), (1, vi l1)] [] := by
  unfold p12_begin_b24_body at hw
  refine wm_iload_n hC 1 dX12_begin_24 rfl ?_
  refine wm_bipush hC dX12_begin_25 (k := ?_)
  refine wm_icmp_ge (tgt := 87) hC dX12_begin_27 (by decide) hw (fun hw => ?_) (fun hw => ?_)
  · refine wm_iconst hC dX12_begin_87 (k := ?_)
    refine wm_istore_n hC dX12_begin_88 (by decide) (L2 := [(1, vi 0), (0, vr 159)]) rfl ?_
    obtain ⟨f, hw⟩ := hw
    refine wm_sub [1, 0] (L2 := [(0, vr 159), (1, vi 0)]) rfl ?_
    exact w12_begin_b89 hC hRm hE hRF  f _ _ hw
  · refine wm_aload_n hC 0 dX12_begin_30 rfl (k_ne0 kk_159 (by decide)) ?_
    refine x_getR3 hC 47 fl_X12_156 rfl kk_159 (rf_159_47 hRF) dX12_begin_31 ?_
    refine wm_iload_n hC 1 dX12_begin_34 rfl ?_
    refine wm_iload_n hC 1 dX12_begin_35 rfl ?_
    refine x_iast2 hC kk_187 kn_187 dX12_begin_36 hw (fun I3 hw => ?_)
    refine wm_aload_n hC 0 dX12_begin_37 rfl (k_ne0 kk_159 (by decide)) ?_
    refine x_getR3 hC 48 fl_X12_159 rfl kk_159 (rf_159_48 hRF) dX12_begin_38 ?_
    refine wm_iload_n hC 1 dX12_begin_41 rfl ?_
    refine wm_iconst hC dX12_begin_42 (k := ?_)
    refine x_iast2 hC kk_188 kn_188 dX12_begin_43 hw (fun I4 hw => ?_)
    refine wm_aload_n hC 0 dX12_begin_44 rfl (k_ne0 kk_159 (by decide)) ?_
    refine x_getR3 hC 49 fl_X12_162 rfl kk_159 (rf_159_49 hRF) dX12_begin_45 ?_
    refine wm_iload_n hC 1 dX12_begin_48 rfl ?_
    refine wm_iload_n hC 1 dX12_begin_49 rfl ?_
    refine wm_aload_n hC 0 dX12_begin_50 rfl (k_ne0 kk_159 (by decide)) ?_
    refine x_getR3 hC 20 fl_X12_72 rfl kk_159 (rf_159_20 hRF) dX12_begin_51 ?_
    refine wm_aload_n hC 0 dX12_begin_54 rfl (k_ne0 kk_159 (by decide)) ?_
    refine x_getI hC 13 fl_X12_51 rfl kk_159 dX12_begin_55 ?_
    refine x_iald2 hC kk_167 kn_167 dX12_begin_58 hw (fun hw => ?_)
    refine wm_icmp_ge (tgt := 79) hC dX12_begin_59 (by decide) hw (fun hw => ?_) (fun hw => ?_)
    · refine wm_iconst hC dX12_begin_79 (k := ?_)
      refine x_iast2 hC kk_189 kn_189 dX12_begin_80 hw (fun I5 hw => ?_)
      refine x_iinc hC 1 dX12_begin_81 rfl (by decide) (L2 := [(1, vi (l1 + 1)), (0, vr 159)]) rfl hw (fun hw => ?_)
      refine wm_goto (tgt := 24) hC dX12_begin_84 (by decide) ?_
      refine wm_sub [1, 0] (L2 := [(0, vr 159), (1, vi (l1 + 1))]) rfl ?_
      exact kk24 _ _ hw
    · refine wm_aload_n hC 0 dX12_begin_62 rfl (k_ne0 kk_159 (by decide)) ?_
      refine x_getR3 hC 23 fl_X12_81 rfl kk_159 (rf_159_23 hRF) dX12_begin_63 ?_
      refine wm_bipush hC dX12_begin_66 (k := ?_)
      refine wm_aload_n hC 0 dX12_begin_68 rfl (k_ne0 kk_159 (by decide)) ?_
      refine x_getI hC 13 fl_X12_51 rfl kk_159 dX12_begin_69 ?_
      refine x_imul hC dX12_begin_72 hw (fun hw => ?_)
      refine wm_iload_n hC 1 dX12_begin_73 rfl ?_
      refine x_iadd hC dX12_begin_74 hw (fun hw => ?_)
      refine x_iald2 hC kk_170 kn_170 dX12_begin_75 hw (fun hw => ?_)
      refine wm_goto (tgt := 80) hC dX12_begin_76 (by decide) ?_
      refine x_iast2 hC kk_189 kn_189 dX12_begin_80 hw (fun I6 hw => ?_)
      refine x_iinc hC 1 dX12_begin_81 rfl (by decide) (L2 := [(1, vi (l1 + 1)), (0, vr 159)]) rfl hw (fun hw => ?_)
      refine wm_goto (tgt := 24) hC dX12_begin_84 (by decide) ?_
      refine wm_sub [1, 0] (L2 := [(0, vr 159), (1, vi (l1 + 1))]) rfl ?_
      exact kk24 _ _ hw
set_option maxRecDepth 20000 in
theorem w12_begin_b24 {C : wX} {ad : Nat → Nat} {n : Nat} {J : mI} {R : mR} {Q : mI → Prop} (hC : wOK C cX12_begin 2 RX12) (hRm : wRm C 1 12 0 0) (hE : wEnd C none ad n (fun _ I' J' R' => (J' = J ∧ R' = R) ∧ Q I')) (hRF : RF R)      : ∀ (f : Nat) (l1 : Int) (I : mI), p12_begin_b24 Q f l1 I → WM C ad n I J R 0 0 24 [(0, vr 159), (1, vi l1)] [] := by
  intro f
  induction f with
  | zero => intro l1 I hw; exact hw.elim
  | succ f ih => intro l1 I hw; exact w12_begin_b24_body hC hRm hE hRF  (fun a0 a1 aw => ih a0 a1 aw) hw
def p12_begin (I : mI) (Q : mI → Prop) : Prop := (wLet (up I 185 0 0) (fun I1 => (((0 : Int) ≤ (I1 159 13) ∧ (I1 159 13) < (2 : Int)) ∧ (wLet (up I1 186 0 (I1 171 (I1 159 13))) (fun I2 => (∃ f, p12_begin_b24 Q f 0 I2))))))
set_option maxRecDepth 20000 in
theorem c12_begin {ad : Nat → Nat} {n : Nat} {I J : mI} {R : mR} {Q : mI → Prop}  (hRF : RF R)   (hw : p12_begin I Q) : wMet yX12_begin cX12_begin 2 none 1 12 false ad n I J R [vr 159] (fun _ I' J' R' => (J' = J ∧ R' = R) ∧ Q I') := by
  refine wMet_of (by decide) (Nat.le_of_ble_eq_true rfl) (fun C hC hRm hE hS => ?_)
  refine (show WM C ad n I J R 0 0 0 [(0, vr 159)] [] from ?_)
  unfold p12_begin at hw
  refine wm_aload_n hC 0 dX12_begin_0 rfl (k_ne0 kk_159 (by decide)) ?_
  refine x_getR3 hC 45 fl_X12_150 rfl kk_159 (rf_159_45 hRF) dX12_begin_1 ?_
  refine wm_iconst hC dX12_begin_4 (k := ?_)
  refine wm_iconst hC dX12_begin_5 (k := ?_)
  refine x_iastK hC kk_185 kn_185 (by decide) (by decide) dX12_begin_6 hw (fun I1 hw => ?_)
  refine wm_aload_n hC 0 dX12_begin_7 rfl (k_ne0 kk_159 (by decide)) ?_
  refine x_getR3 hC 46 fl_X12_153 rfl kk_159 (rf_159_46 hRF) dX12_begin_8 ?_
  refine wm_iconst hC dX12_begin_11 (k := ?_)
  refine wm_aload_n hC 0 dX12_begin_12 rfl (k_ne0 kk_159 (by decide)) ?_
  refine x_getR3 hC 24 fl_X12_84 rfl kk_159 (rf_159_24 hRF) dX12_begin_13 ?_
  refine wm_aload_n hC 0 dX12_begin_16 rfl (k_ne0 kk_159 (by decide)) ?_
  refine x_getI hC 13 fl_X12_51 rfl kk_159 dX12_begin_17 ?_
  refine x_iald2 hC kk_171 kn_171 dX12_begin_20 hw (fun hw => ?_)
  refine x_iastK hC kk_186 kn_186 (by decide) (by decide) dX12_begin_21 hw (fun I2 hw => ?_)
  refine wm_iconst hC dX12_begin_22 (k := ?_)
  refine wm_istore_n hC dX12_begin_23 (by decide) (L2 := [(1, vi 0), (0, vr 159)]) rfl ?_
  obtain ⟨f, hw⟩ := hw
  refine wm_sub [1, 0] (L2 := [(0, vr 159), (1, vi 0)]) rfl ?_
  exact w12_begin_b24 hC hRm hE hRF  f _ _ hw
def p12_bits_b4_body (Q : Int → Prop) (k4 : Int → Int → Prop) (l1 : Int) (l2 : Int) : Prop := (if l2 = 0 then (Q l1) else (rg (l1 + 1) ∧ (rg (l2 - 1) ∧ (k4 (l1 + 1) (bAnd l2 (l2 - 1))))))
def p12_bits_b4 (Q : Int → Prop) : Nat → Int → Int → Prop
  | 0 => fun _ _ => False
  | f + 1 => fun l1 l2 => p12_bits_b4_body Q (p12_bits_b4 Q f) l1 l2
set_option maxRecDepth 20000 in
theorem w12_bits_b4_body {C : wX} {ad : Nat → Nat} {n : Nat} {I J : mI} {R : mR} {Q : Int → Prop} (hC : wOK C cX12_bits 3 RX12) (hRm : wRm C 1 12 0 0) (hE : wEnd C (some .int) ad n (fun r I' J' R' => (I' = I ∧ J' = J ∧ R' = R) ∧ Q r)) (hRF : RF R)  {l1 : Int} {l2 : Int}     {k4 : Int → Int → Prop} (kk4 : ∀ (y1 : Int) (y2 : Int), k4 y1 y2 → WM C ad n I J R 0 0 4 [(1, vi y1), (2, vi y2)] []) (hw : p12_bits_b4_body Q k4 l1 l2) : WM C ad n I J R 0 0 4 [(1, vi l1), (2, vi l2)] [] := by
  unfold p12_bits_b4_body at hw
  refine wm_iload_n hC 1 dX12_bits_4 rfl ?_
  refine wm_if_eq (tgt := 20) hC dX12_bits_5 (by decide) hw (fun hw => ?_) (fun hw => ?_)
  · refine wm_iload_n hC 0 dX12_bits_20 rfl ?_
    exact wm_ireturn hC hE dX12_bits_21 ⟨⟨rfl, rfl, rfl⟩, hw⟩
  · refine x_iinc hC 0 dX12_bits_8 rfl (by decide) (L2 := [(1, vi (l1 + 1)), (2, vi l2)]) rfl hw (fun hw => ?_)
    refine wm_iload_n hC 1 dX12_bits_11 rfl ?_
    refine wm_iload_n hC 1 dX12_bits_12 rfl ?_
    refine wm_iconst hC dX12_bits_13 (k := ?_)
    refine x_isub hC dX12_bits_14 hw (fun hw => ?_)
    refine wm_iand hC dX12_bits_15 ?_
    refine wm_istore_n hC dX12_bits_16 (by decide) (L2 := [(2, vi (bAnd l2 (l2 - 1))), (1, vi (l1 + 1))]) rfl ?_
    refine wm_goto (tgt := 4) hC dX12_bits_17 (by decide) ?_
    refine wm_sub [1, 0] (L2 := [(1, vi (l1 + 1)), (2, vi (bAnd l2 (l2 - 1)))]) rfl ?_
    exact kk4 _ _ hw
set_option maxRecDepth 20000 in
theorem w12_bits_b4 {C : wX} {ad : Nat → Nat} {n : Nat} {I : mI} {J : mI} {R : mR} {Q : Int → Prop} (hC : wOK C cX12_bits 3 RX12) (hRm : wRm C 1 12 0 0) (hE : wEnd C (some .int) ad n (fun r I' J' R' => (I' = I ∧ J' = J ∧ R' = R) ∧ Q r)) (hRF : RF R)      : ∀ (f : Nat) (l1 : Int) (l2 : Int), p12_bits_b4 Q f l1 l2 → WM C ad n I J R 0 0 4 [(1, vi l1), (2, vi l2)] [] := by
  intro f
  induction f with
  | zero => intro l1 l2 hw; exact hw.elim
  | succ f ih => intro l1 l2 hw; exact w12_bits_b4_body hC hRm hE hRF  (fun a0 a1 aw => ih a0 a1 aw) hw
def p12_bits (l0 : Int) (Q : Int → Prop) : Prop := (∃ f, p12_bits_b4 Q f 0 l0)
set_option maxRecDepth 20000 in
theorem c12_bits {ad : Nat → Nat} {n : Nat} {I J : mI} {R : mR} {Q : Int → Prop}  (hRF : RF R) {l0 : Int}  (hw : p12_bits l0 Q) : wMet yX12_bits cX12_bits 3 (some .int) 1 12 false ad n I J R [vi l0] (fun r I' J' R' => (I' = I ∧ J' = J ∧ R' = R) ∧ Q r) := by
  refine wMet_of (by decide) (Nat.le_of_ble_eq_true rfl) (fun C hC hRm hE hS => ?_)
  refine (show WM C ad n I J R 0 0 0 [(0, vi l0)] [] from ?_)
  unfold p12_bits at hw
  refine wm_iconst hC dX12_bits_0 (k := ?_)
  refine wm_istore_n hC dX12_bits_1 (by decide) (L2 := [(1, vi 0), (0, vi l0)]) rfl ?_
  refine wm_iload_n hC 1 dX12_bits_2 rfl ?_
  refine wm_istore_n hC dX12_bits_3 (by decide) (L2 := [(2, vi l0), (1, vi 0), (0, vi l0)]) rfl ?_
  obtain ⟨f, hw⟩ := hw
  refine wm_sub [1, 0] (L2 := [(1, vi 0), (2, vi l0)]) rfl ?_
  exact w12_bits_b4 hC hRm hE hRF  f _ _ hw
def p12_blame (l1 : Int) (l2 : Int) (I : mI) (Q : mI → Prop) : Prop := (if (I 159 8) ≤ 0 then (wLet (up I 159 8 l1) (fun I1 => (wLet (up I1 159 9 l2) (fun I2 => (Q I2))))) else (Q I))
set_option maxRecDepth 20000 in
theorem c12_blame {ad : Nat → Nat} {n : Nat} {I J : mI} {R : mR} {Q : mI → Prop}  (hRF : RF R) {l1 : Int} {l2 : Int}    (hw : p12_blame l1 l2 I Q) : wMet yX12_blame cX12_blame 3 none 1 12 false ad n I J R [vr 159, vi l1, vi l2] (fun _ I' J' R' => (J' = J ∧ R' = R) ∧ Q I') := by
  refine wMet_of (by decide) (Nat.le_of_ble_eq_true rfl) (fun C hC hRm hE hS => ?_)
  refine (show WM C ad n I J R 0 0 0 [(0, vr 159), (1, vi l1), (2, vi l2)] [] from ?_)
  unfold p12_blame at hw
  refine wm_aload_n hC 0 dX12_blame_0 rfl (k_ne0 kk_159 (by decide)) ?_
  refine x_getI hC 8 fl_X12_36 rfl kk_159 dX12_blame_1 ?_
  refine wm_if_le (tgt := 8) hC dX12_blame_4 (by decide) hw (fun hw => ?_) (fun hw => ?_)
  · refine wm_aload_n hC 0 dX12_blame_8 rfl (k_ne0 kk_159 (by decide)) ?_
    refine wm_iload_n hC 1 dX12_blame_9 rfl ?_
    refine x_putI hC 8 fl_X12_36 rfl kk_159 dX12_blame_10 hw (fun I1 hw => ?_)
    refine wm_aload_n hC 0 dX12_blame_13 rfl (k_ne0 kk_159 (by decide)) ?_
    refine wm_iload_n hC 2 dX12_blame_14 rfl ?_
    refine x_putI hC 9 fl_X12_39 rfl kk_159 dX12_blame_15 hw (fun I2 hw => ?_)
    exact wm_return hC hE dX12_blame_18 ⟨⟨rfl, rfl⟩, hw⟩
  · exact wm_return hC hE dX12_blame_7 ⟨⟨rfl, rfl⟩, hw⟩
def p12_has2 (l0 : Int) (l1 : Int) (Q : Int → Prop) : Prop := (if (bAnd (bShr l0 l1) 1) = 1 then (Q 1) else (Q 0))
set_option maxRecDepth 20000 in
theorem c12_has2 {ad : Nat → Nat} {n : Nat} {I J : mI} {R : mR} {Q : Int → Prop}  (hRF : RF R) {l0 : Int} {l1 : Int}   (hw : p12_has2 l0 l1 Q) : wMet yX12_has2 cX12_has2 2 (some .boolean) 1 12 false ad n I J R [vi l0, vi l1] (fun r I' J' R' => (I' = I ∧ J' = J ∧ R' = R) ∧ Q r) := by
  refine wMet_of (by decide) (Nat.le_of_ble_eq_true rfl) (fun C hC hRm hE hS => ?_)
  refine (show WM C ad n I J R 0 0 0 [(0, vi l0), (1, vi l1)] [] from ?_)
  unfold p12_has2 at hw
  refine wm_iload_n hC 0 dX12_has2_0 rfl ?_
  refine wm_iload_n hC 1 dX12_has2_1 rfl ?_
  refine wm_ishr hC dX12_has2_2 ?_
  refine wm_iconst hC dX12_has2_3 (k := ?_)
  refine wm_iand hC dX12_has2_4 ?_
  refine wm_iconst hC dX12_has2_5 (k := ?_)
  refine wm_icmp_ne (tgt := 13) hC dX12_has2_6 (by decide) hw (fun hw => ?_) (fun hw => ?_)
  · refine wm_iconst hC dX12_has2_9 (k := ?_)
    refine wm_goto (tgt := 14) hC dX12_has2_10 (by decide) ?_
    exact wm_zreturn hC hE (Or.inr rfl) dX12_has2_14 ⟨⟨rfl, rfl, rfl⟩, hw⟩
  · refine wm_iconst hC dX12_has2_13 (k := ?_)
    exact wm_zreturn hC hE (Or.inl rfl) dX12_has2_14 ⟨⟨rfl, rfl, rfl⟩, hw⟩
def p12_isBlind (l1 : Int) (I : mI) (Q : Int → Prop) : Prop := (if l1 < 0 then (Q 0) else (((0 : Int) ≤ (I 159 13) ∧ (I 159 13) < (2 : Int)) ∧ (if (I 161 (I 159 13)) ≤ l1 then (Q 0) else (Q 1))))
set_option maxRecDepth 20000 in
theorem c12_isBlind {ad : Nat → Nat} {n : Nat} {I J : mI} {R : mR} {Q : Int → Prop}  (hRF : RF R) {l1 : Int}   (hw : p12_isBlind l1 I Q) : wMet yX12_isBlind cX12_isBlind 2 (some .boolean) 1 12 false ad n I J R [vr 159, vi l1] (fun r I' J' R' => (I' = I ∧ J' = J ∧ R' = R) ∧ Q r) := by
  refine wMet_of (by decide) (Nat.le_of_ble_eq_true rfl) (fun C hC hRm hE hS => ?_)
  refine (show WM C ad n I J R 0 0 0 [(0, vr 159), (1, vi l1)] [] from ?_)
  unfold p12_isBlind at hw
  refine wm_iload_n hC 1 dX12_isBlind_0 rfl ?_
  refine wm_if_lt (tgt := 21) hC dX12_isBlind_1 (by decide) hw (fun hw => ?_) (fun hw => ?_)
  · refine wm_iconst hC dX12_isBlind_21 (k := ?_)
    exact wm_zreturn hC hE (Or.inl rfl) dX12_isBlind_22 ⟨⟨rfl, rfl, rfl⟩, hw⟩
  · refine wm_iload_n hC 1 dX12_isBlind_4 rfl ?_
    refine wm_aload_n hC 0 dX12_isBlind_5 rfl (k_ne0 kk_159 (by decide)) ?_
    refine x_getR3 hC 14 fl_X12_54 rfl kk_159 (rf_159_14 hRF) dX12_isBlind_6 ?_
    refine wm_aload_n hC 0 dX12_isBlind_9 rfl (k_ne0 kk_159 (by decide)) ?_
    refine x_getI hC 13 fl_X12_51 rfl kk_159 dX12_isBlind_10 ?_
    refine x_iald2 hC kk_161 kn_161 dX12_isBlind_13 hw (fun hw => ?_)
    refine wm_icmp_ge (tgt := 21) hC dX12_isBlind_14 (by decide) hw (fun hw => ?_) (fun hw => ?_)
    · refine wm_iconst hC dX12_isBlind_21 (k := ?_)
      exact wm_zreturn hC hE (Or.inl rfl) dX12_isBlind_22 ⟨⟨rfl, rfl, rfl⟩, hw⟩
    · refine wm_iconst hC dX12_isBlind_17 (k := ?_)
      refine wm_goto (tgt := 22) hC dX12_isBlind_18 (by decide) ?_
      exact wm_zreturn hC hE (Or.inr rfl) dX12_isBlind_22 ⟨⟨rfl, rfl, rfl⟩, hw⟩
def p12_isTold (l1 : Int) (I : mI) (Q : Int → Prop) : Prop := (rg (3 * (I 159 13)) ∧ (rg ((3 * (I 159 13)) + l1) ∧ (((0 : Int) ≤ ((3 * (I 159 13)) + l1) ∧ ((3 * (I 159 13)) + l1) < (6 : Int)) ∧ (if (I 173 ((3 * (I 159 13)) + l1)) = (-1) then (Q 0) else (Q 1)))))
set_option maxRecDepth 20000 in
theorem c12_isTold {ad : Nat → Nat} {n : Nat} {I J : mI} {R : mR} {Q : Int → Prop}  (hRF : RF R) {l1 : Int}   (hw : p12_isTold l1 I Q) : wMet yX12_isTold cX12_isTold 2 (some .boolean) 1 12 false ad n I J R [vr 159, vi l1] (fun r I' J' R' => (I' = I ∧ J' = J ∧ R' = R) ∧ Q r) := by
  refine wMet_of (by decide) (Nat.le_of_ble_eq_true rfl) (fun C hC hRm hE hS => ?_)
  refine (show WM C ad n I J R 0 0 0 [(0, vr 159), (1, vi l1)] [] from ?_)
  unfold p12_isTold at hw
  refine wm_aload_n hC 0 dX12_isTold_0 rfl (k_ne0 kk_159 (by decide)) ?_
  refine x_getR3 hC 26 fl_X12_90 rfl kk_159 (rf_159_26 hRF) dX12_isTold_1 ?_
  refine wm_iconst hC dX12_isTold_4 (k := ?_)
  refine wm_aload_n hC 0 dX12_isTold_5 rfl (k_ne0 kk_159 (by decide)) ?_
  refine x_getI hC 13 fl_X12_51 rfl kk_159 dX12_isTold_6 ?_
  refine x_imul hC dX12_isTold_9 hw (fun hw => ?_)
  refine wm_iload_n hC 1 dX12_isTold_10 rfl ?_
  refine x_iadd hC dX12_isTold_11 hw (fun hw => ?_)
  refine x_iald2 hC kk_173 kn_173 dX12_isTold_12 hw (fun hw => ?_)
  refine wm_iconst hC dX12_isTold_13 (k := ?_)
  refine wm_icmp_eq (tgt := 21) hC dX12_isTold_14 (by decide) hw (fun hw => ?_) (fun hw => ?_)
  · refine wm_iconst hC dX12_isTold_21 (k := ?_)
    exact wm_zreturn hC hE (Or.inl rfl) dX12_isTold_22 ⟨⟨rfl, rfl, rfl⟩, hw⟩
  · refine wm_iconst hC dX12_isTold_17 (k := ?_)
    refine wm_goto (tgt := 22) hC dX12_isTold_18 (by decide) ?_
    exact wm_zreturn hC hE (Or.inr rfl) dX12_isTold_22 ⟨⟨rfl, rfl, rfl⟩, hw⟩
def p12_lays (l1 : Int) (l2 : Int) (I : mI) (Q : mI → Prop) : Prop := (((0 : Int) ≤ l1 ∧ l1 < (22 : Int)) ∧ (wLet (up I 194 1 (I 185 l1)) (fun I1 => (rg (6 * l1) ∧ (rg ((6 * l1) + l2) ∧ (((0 : Int) ≤ ((6 * l1) + l2) ∧ ((6 * l1) + l2) < (132 : Int)) ∧ (wLet (up I1 194 2 (I1 188 ((6 * l1) + l2))) (fun I2 => (((0 : Int) ≤ (I2 159 13) ∧ (I2 159 13) < (2 : Int)) ∧ (p12_has2 (I2 163 (I2 159 13)) l2 (fun r1 => (if r1 = 0 then (wLet (up I2 194 3 0) (fun I3 => (Q I3))) else (wLet (up I2 194 3 1) (fun I4 => (Q I4)))))))))))))))
set_option maxRecDepth 20000 in
theorem c12_lays {ad : Nat → Nat} {n : Nat} {I J : mI} {R : mR} {Q : mI → Prop}  (hRF : RF R) {l1 : Int} {l2 : Int}    (hw : p12_lays l1 l2 I Q) : wMet yX12_lays cX12_lays 3 none 2 33 false ad n I J R [vr 159, vi l1, vi l2] (fun _ I' J' R' => (J' = J ∧ R' = R) ∧ Q I') := by
  refine wMet_of (by decide) (Nat.le_of_ble_eq_true rfl) (fun C hC hRm hE hS => ?_)
  refine (show WM C ad n I J R 0 0 0 [(0, vr 159), (1, vi l1), (2, vi l2)] [] from ?_)
  unfold p12_lays at hw
  refine wm_aload_n hC 0 dX12_lays_0 rfl (k_ne0 kk_159 (by decide)) ?_
  refine x_getR3 hC 57 fl_X12_186 rfl kk_159 (rf_159_57 hRF) dX12_lays_1 ?_
  refine wm_iconst hC dX12_lays_4 (k := ?_)
  refine wm_aload_n hC 0 dX12_lays_5 rfl (k_ne0 kk_159 (by decide)) ?_
  refine x_getR3 hC 45 fl_X12_150 rfl kk_159 (rf_159_45 hRF) dX12_lays_6 ?_
  refine wm_iload_n hC 1 dX12_lays_9 rfl ?_
  refine x_iald2 hC kk_185 kn_185 dX12_lays_10 hw (fun hw => ?_)
  refine x_iastK hC kk_194 kn_194 (by decide) (by decide) dX12_lays_11 hw (fun I1 hw => ?_)
  refine wm_aload_n hC 0 dX12_lays_12 rfl (k_ne0 kk_159 (by decide)) ?_
  refine x_getR3 hC 57 fl_X12_186 rfl kk_159 (rf_159_57 hRF) dX12_lays_13 ?_
  refine wm_iconst hC dX12_lays_16 (k := ?_)
  refine wm_aload_n hC 0 dX12_lays_17 rfl (k_ne0 kk_159 (by decide)) ?_
  refine x_getR3 hC 48 fl_X12_159 rfl kk_159 (rf_159_48 hRF) dX12_lays_18 ?_
  refine wm_bipush hC dX12_lays_21 (k := ?_)
  refine wm_iload_n hC 1 dX12_lays_23 rfl ?_
  refine x_imul hC dX12_lays_24 hw (fun hw => ?_)
  refine wm_iload_n hC 2 dX12_lays_25 rfl ?_
  refine x_iadd hC dX12_lays_26 hw (fun hw => ?_)
  refine x_iald2 hC kk_188 kn_188 dX12_lays_27 hw (fun hw => ?_)
  refine x_iastK hC kk_194 kn_194 (by decide) (by decide) dX12_lays_28 hw (fun I2 hw => ?_)
  refine wm_aload_n hC 0 dX12_lays_29 rfl (k_ne0 kk_159 (by decide)) ?_
  refine x_getR3 hC 57 fl_X12_186 rfl kk_159 (rf_159_57 hRF) dX12_lays_30 ?_
  refine wm_iconst hC dX12_lays_33 (k := ?_)
  refine wm_aload_n hC 0 dX12_lays_34 rfl (k_ne0 kk_159 (by decide)) ?_
  refine x_getR3 hC 16 fl_X12_60 rfl kk_159 (rf_159_16 hRF) dX12_lays_35 ?_
  refine wm_aload_n hC 0 dX12_lays_38 rfl (k_ne0 kk_159 (by decide)) ?_
  refine x_getI hC 13 fl_X12_51 rfl kk_159 dX12_lays_39 ?_
  refine x_iald2 hC kk_163 kn_163 dX12_lays_42 hw (fun hw => ?_)
  refine wm_iload_n hC 2 dX12_lays_43 rfl ?_
  refine y_callS_z_n hC hRm noS ml_X12_351 (c12_has2 hRF  hw) (Nat.le_of_ble_eq_true rfl) (Nat.le_of_ble_eq_true rfl) ⟨Nat.zero_le _, Nat.zero_le _⟩ rfl (st := [vi 3, vr 194]) rfl (Nat.le_of_ble_eq_true rfl) dX12_lays_44 (fun r1 hw => ?_)
  refine wm_if_eq (tgt := 54) hC dX12_lays_47 (by decide) hw (fun hw => ?_) (fun hw => ?_)
  · refine wm_iconst hC dX12_lays_54 (k := ?_)
    refine x_iastK hC kk_194 kn_194 (by decide) (by decide) dX12_lays_55 hw (fun I3 hw => ?_)
    exact wm_return hC hE dX12_lays_56 ⟨⟨rfl, rfl⟩, hw⟩
  · refine wm_iconst hC dX12_lays_50 (k := ?_)
    refine wm_goto (tgt := 55) hC dX12_lays_51 (by decide) ?_
    refine x_iastK hC kk_194 kn_194 (by decide) (by decide) dX12_lays_55 hw (fun I4 hw => ?_)
    exact wm_return hC hE dX12_lays_56 ⟨⟨rfl, rfl⟩, hw⟩
def p12_floor_b43 (l4 : Int) (s0 : Int) (s1 : Int) (Q : Int → Prop) : Prop := (if s0 = s1 then (Q l4) else (rl (l4 - 1) ∧ (Q (l4 - 1))))
set_option maxRecDepth 20000 in
theorem w12_floor_b43 {C : wX} {ad : Nat → Nat} {n : Nat} {I J : mI} {R : mR} {Q : Int → Prop} (hC : wOK C cX12_floor 6 RX12) (hRm : wRm C 1 12 0 0) (hE : wEnd C (some .long) ad n (fun r I' J' R' => (I' = I ∧ J' = J ∧ R' = R) ∧ Q r)) (hRF : RF R) {l4 : Int} {s0 : Int} {s1 : Int}     (hw : p12_floor_b43 l4 s0 s1 Q) : WM C ad n I J R 0 0 43 [(4, vl l4)] [vi s1, vi s0] := by
  unfold p12_floor_b43 at hw
  refine wm_icmp_eq (tgt := 53) hC dX12_floor_43 (by decide) hw (fun hw => ?_) (fun hw => ?_)
  · refine wm_lload hC 0 dX12_floor_53 rfl ?_
    exact wm_lreturn hC hE dX12_floor_55 ⟨⟨rfl, rfl, rfl⟩, hw⟩
  · refine wm_lload hC 0 dX12_floor_46 rfl ?_
    refine wm_lconst hC (x := 1) dX12_floor_48 (k := ?_)
    refine x_lsub hC dX12_floor_49 hw (fun hw => ?_)
    refine wm_goto (tgt := 55) hC dX12_floor_50 (by decide) ?_
    exact wm_lreturn hC hE dX12_floor_55 ⟨⟨rfl, rfl, rfl⟩, hw⟩
def p12_floor_b32 (l2 : Int) (l4 : Int) (s0 : Int) (Q : Int → Prop) : Prop := (if (0 : Int) ≤ l2 then (p12_floor_b43 l4 s0 0 Q) else (p12_floor_b43 l4 s0 1 Q))
set_option maxRecDepth 20000 in
theorem w12_floor_b32 {C : wX} {ad : Nat → Nat} {n : Nat} {I J : mI} {R : mR} {Q : Int → Prop} (hC : wOK C cX12_floor 6 RX12) (hRm : wRm C 1 12 0 0) (hE : wEnd C (some .long) ad n (fun r I' J' R' => (I' = I ∧ J' = J ∧ R' = R) ∧ Q r)) (hRF : RF R) {l2 : Int} {l4 : Int} {s0 : Int}     (hw : p12_floor_b32 l2 l4 s0 Q) : WM C ad n I J R 0 0 32 [(2, vl l2), (4, vl l4)] [vi s0] := by
  unfold p12_floor_b32 at hw
  refine wm_lload_n hC 0 dX12_floor_32 rfl ?_
  refine wm_lconst hC (x := 0) dX12_floor_33 (k := ?_)
  refine wm_lcmp_ge (tgt := 42) hC dX12_floor_34 dX12_floor_35 (by decide) hw (fun hw => ?_) (fun hw => ?_)
  · refine wm_iconst hC dX12_floor_42 (k := ?_)
    refine wm_sub [1] (L2 := [(4, vl l4)]) rfl ?_
    exact w12_floor_b43 hC hRm hE hRF  hw
  · refine wm_iconst hC dX12_floor_38 (k := ?_)
    refine wm_goto (tgt := 43) hC dX12_floor_39 (by decide) ?_
    refine wm_sub [1] (L2 := [(4, vl l4)]) rfl ?_
    exact w12_floor_b43 hC hRm hE hRF  hw
def p12_floor (l0 : Int) (l2 : Int) (Q : Int → Prop) : Prop := (if l2 = 0 then (Q 0) else ((l2 ≠ 0 ∧ rl (Int.tdiv l0 l2)) ∧ (l2 ≠ 0 ∧ (if (Int.tmod l0 l2) = 0 then (Q (Int.tdiv l0 l2)) else (if (0 : Int) ≤ l0 then (p12_floor_b32 l2 (Int.tdiv l0 l2) 0 Q) else (p12_floor_b32 l2 (Int.tdiv l0 l2) 1 Q))))))
set_option maxRecDepth 20000 in
theorem c12_floor {ad : Nat → Nat} {n : Nat} {I J : mI} {R : mR} {Q : Int → Prop}  (hRF : RF R) {l0 : Int} {l2 : Int}   (hw : p12_floor l0 l2 Q) : wMet yX12_floor cX12_floor 6 (some .long) 1 12 false ad n I J R [vl l0, vl l2] (fun r I' J' R' => (I' = I ∧ J' = J ∧ R' = R) ∧ Q r) := by
  refine wMet_of (by decide) (Nat.le_of_ble_eq_true rfl) (fun C hC hRm hE hS => ?_)
  refine (show WM C ad n I J R 0 0 0 [(0, vl l0), (2, vl l2)] [] from ?_)
  unfold p12_floor at hw
  refine wm_lload_n hC 1 dX12_floor_0 rfl ?_
  refine wm_lconst hC (x := 0) dX12_floor_1 (k := ?_)
  refine wm_lcmp_ne (tgt := 8) hC dX12_floor_2 dX12_floor_3 (by decide) hw (fun hw => ?_) (fun hw => ?_)
  · refine wm_lconst hC (x := 0) dX12_floor_6 (k := ?_)
    exact wm_lreturn hC hE dX12_floor_7 ⟨⟨rfl, rfl, rfl⟩, hw⟩
  · refine wm_lload_n hC 0 dX12_floor_8 rfl ?_
    refine wm_lload_n hC 1 dX12_floor_9 rfl ?_
    refine x_ldiv hC dX12_floor_10 hw (fun hw => ?_)
    refine wm_lstore hC dX12_floor_11 (by decide) (L2 := [(4, vl (Int.tdiv l0 l2)), (0, vl l0), (2, vl l2)]) rfl ?_
    refine wm_lload_n hC 1 dX12_floor_13 rfl ?_
    refine wm_lload_n hC 2 dX12_floor_14 rfl ?_
    refine x_lrem hC dX12_floor_15 hw (fun hw => ?_)
    refine wm_lconst hC (x := 0) dX12_floor_16 (k := ?_)
    refine wm_lcmp_eq (tgt := 53) hC dX12_floor_17 dX12_floor_18 (by decide) hw (fun hw => ?_) (fun hw => ?_)
    · refine wm_lload hC 0 dX12_floor_53 rfl ?_
      exact wm_lreturn hC hE dX12_floor_55 ⟨⟨rfl, rfl, rfl⟩, hw⟩
    · refine wm_lload_n hC 1 dX12_floor_21 rfl ?_
      refine wm_lconst hC (x := 0) dX12_floor_22 (k := ?_)
      refine wm_lcmp_ge (tgt := 31) hC dX12_floor_23 dX12_floor_24 (by decide) hw (fun hw => ?_) (fun hw => ?_)
      · refine wm_iconst hC dX12_floor_31 (k := ?_)
        refine wm_sub [2, 0] (L2 := [(2, vl l2), (4, vl (Int.tdiv l0 l2))]) rfl ?_
        exact w12_floor_b32 hC hRm hE hRF  hw
      · refine wm_iconst hC dX12_floor_27 (k := ?_)
        refine wm_goto (tgt := 32) hC dX12_floor_28 (by decide) ?_
        refine wm_sub [2, 0] (L2 := [(2, vl l2), (4, vl (Int.tdiv l0 l2))]) rfl ?_
        exact w12_floor_b32 hC hRm hE hRF  hw
def p12_within (l0 : Int) (Q : Int → Prop) : Prop := (if l0 ≤ 1000000 then (if ((-1000000) : Int) ≤ l0 then (Q l0) else (Q (-1000000))) else (Q 1000000))
set_option maxRecDepth 20000 in
theorem c12_within {ad : Nat → Nat} {n : Nat} {I J : mI} {R : mR} {Q : Int → Prop}  (hRF : RF R) {l0 : Int}  (hw : p12_within l0 Q) : wMet yX12_within cX12_within 2 (some .long) 1 12 false ad n I J R [vl l0] (fun r I' J' R' => (I' = I ∧ J' = J ∧ R' = R) ∧ Q r) := by
  refine wMet_of (by decide) (Nat.le_of_ble_eq_true rfl) (fun C hC hRm hE hS => ?_)
  refine (show WM C ad n I J R 0 0 0 [(0, vl l0)] [] from ?_)
  unfold p12_within at hw
  refine wm_lload_n hC 0 dX12_within_0 rfl ?_
  refine wm_ldc2 hC (x := 1000000) tc_X12_427 rfl dX12_within_1 (k := ?_)
  refine wm_lcmp_le (tgt := 14) hC dX12_within_4 dX12_within_5 (by decide) hw (fun hw => ?_) (fun hw => ?_)
  · refine wm_lload_n hC 0 dX12_within_14 rfl ?_
    refine wm_ldc2 hC (x := (-1000000)) tc_X12_429 rfl dX12_within_15 (k := ?_)
    refine wm_lcmp_ge (tgt := 28) hC dX12_within_18 dX12_within_19 (by decide) hw (fun hw => ?_) (fun hw => ?_)
    · refine wm_lload_n hC 0 dX12_within_28 rfl ?_
      exact wm_lreturn hC hE dX12_within_29 ⟨⟨rfl, rfl, rfl⟩, hw⟩
    · refine wm_ldc2 hC (x := (-1000000)) tc_X12_429 rfl dX12_within_22 (k := ?_)
      refine wm_goto (tgt := 29) hC dX12_within_25 (by decide) ?_
      exact wm_lreturn hC hE dX12_within_29 ⟨⟨rfl, rfl, rfl⟩, hw⟩
  · refine wm_ldc2 hC (x := 1000000) tc_X12_427 rfl dX12_within_8 (k := ?_)
    refine wm_goto (tgt := 29) hC dX12_within_11 (by decide) ?_
    exact wm_lreturn hC hE dX12_within_29 ⟨⟨rfl, rfl, rfl⟩, hw⟩
def p12_two (l0 : Int) (l1 : Int) (l3 : Int) (Q : Int → Prop) : Prop := (if l0 = 31 then (rl (l1 + l3) ∧ (p12_within (l1 + l3) (fun r1 => (Q r1)))) else (if l0 = 32 then (rl (l1 - l3) ∧ (p12_within (l1 - l3) (fun r2 => (Q r2)))) else (if l0 = 33 then (rl (l1 * l3) ∧ (p12_within (l1 * l3) (fun r3 => (Q r3)))) else (if l0 = 34 then (p12_floor l1 l3 (fun r4 => (p12_within r4 (fun r5 => (Q r5))))) else (if l0 = 35 then (if l3 = 0 then (Q 0) else (p12_floor l1 l3 (fun r6 => (rl (l3 * r6) ∧ (rl (l1 - (l3 * r6)) ∧ (p12_within (l1 - (l3 * r6)) (fun r7 => (Q r7)))))))) else (if l0 = 36 then (if l3 ≤ l1 then (Q l3) else (Q l1)) else (if l0 = 37 then (if l1 ≤ l3 then (Q l3) else (Q l1)) else (if l0 = 38 then (if l3 ≤ l1 then (Q 0) else (Q 1)) else (if l0 = 39 then (if l1 ≤ l3 then (Q 0) else (Q 1)) else (if l0 = 40 then (if l1 = l3 then (Q 1) else (Q 0)) else (if l0 = 41 then (Q (lAnd l1 l3)) else (Q (lOr l1 l3)))))))))))))
set_option maxRecDepth 20000 in
theorem c12_two {ad : Nat → Nat} {n : Nat} {I J : mI} {R : mR} {Q : Int → Prop}  (hRF : RF R) {l0 : Int} {l1 : Int} {l3 : Int}    (hw : p12_two l0 l1 l3 Q) : wMet yX12_two cX12_two 5 (some .long) 2 37 false ad n I J R [vi l0, vl l1, vl l3] (fun r I' J' R' => (I' = I ∧ J' = J ∧ R' = R) ∧ Q r) := by
  refine wMet_of (by decide) (Nat.le_of_ble_eq_true rfl) (fun C hC hRm hE hS => ?_)
  refine (show WM C ad n I J R 0 0 0 [(0, vi l0), (1, vl l1), (3, vl l3)] [] from ?_)
  unfold p12_two at hw
  refine wm_iload_n hC 0 dX12_two_0 rfl ?_
  by_cases hc1 : l0 = 31
  · rw [if_pos hc1] at hw
    refine wm_tableIn (v := 31) (tgt := 60) hC dX12_two_1 hc1 (by decide) (by decide) rfl rfl ?_
    refine wm_lload_n hC 1 dX12_two_60 rfl ?_
    refine wm_lload_n hC 2 dX12_two_61 rfl ?_
    refine x_ladd hC dX12_two_62 hw (fun hw => ?_)
    refine y_callS_l_n hC hRm noS ml_X12_431 (c12_within hRF  hw) (Nat.le_of_ble_eq_true rfl) (Nat.le_of_ble_eq_true rfl) ⟨Nat.zero_le _, Nat.zero_le _⟩ rfl (st := []) rfl (Nat.le_of_ble_eq_true rfl) dX12_two_63 (fun r1 hw => ?_)
    exact wm_lreturn hC hE dX12_two_66 ⟨⟨rfl, rfl, rfl⟩, hw⟩
  rw [if_neg hc1] at hw
  by_cases hc2 : l0 = 32
  · rw [if_pos hc2] at hw
    refine wm_tableIn (v := 32) (tgt := 67) hC dX12_two_1 hc2 (by decide) (by decide) rfl rfl ?_
    refine wm_lload_n hC 1 dX12_two_67 rfl ?_
    refine wm_lload_n hC 2 dX12_two_68 rfl ?_
    refine x_lsub hC dX12_two_69 hw (fun hw => ?_)
    refine y_callS_l_n hC hRm noS ml_X12_431 (c12_within hRF  hw) (Nat.le_of_ble_eq_true rfl) (Nat.le_of_ble_eq_true rfl) ⟨Nat.zero_le _, Nat.zero_le _⟩ rfl (st := []) rfl (Nat.le_of_ble_eq_true rfl) dX12_two_70 (fun r2 hw => ?_)
    exact wm_lreturn hC hE dX12_two_73 ⟨⟨rfl, rfl, rfl⟩, hw⟩
  rw [if_neg hc2] at hw
  by_cases hc3 : l0 = 33
  · rw [if_pos hc3] at hw
    refine wm_tableIn (v := 33) (tgt := 74) hC dX12_two_1 hc3 (by decide) (by decide) rfl rfl ?_
    refine wm_lload_n hC 1 dX12_two_74 rfl ?_
    refine wm_lload_n hC 2 dX12_two_75 rfl ?_
    refine x_lmul hC dX12_two_76 hw (fun hw => ?_)
    refine y_callS_l_n hC hRm noS ml_X12_431 (c12_within hRF  hw) (Nat.le_of_ble_eq_true rfl) (Nat.le_of_ble_eq_true rfl) ⟨Nat.zero_le _, Nat.zero_le _⟩ rfl (st := []) rfl (Nat.le_of_ble_eq_true rfl) dX12_two_77 (fun r3 hw => ?_)
    exact wm_lreturn hC hE dX12_two_80 ⟨⟨rfl, rfl, rfl⟩, hw⟩
  rw [if_neg hc3] at hw
  by_cases hc4 : l0 = 34
  · rw [if_pos hc4] at hw
    refine wm_tableIn (v := 34) (tgt := 81) hC dX12_two_1 hc4 (by decide) (by decide) rfl rfl ?_
    refine wm_lload_n hC 1 dX12_two_81 rfl ?_
    refine wm_lload_n hC 2 dX12_two_82 rfl ?_
    refine y_callS_l_n hC hRm noS ml_X12_435 (c12_floor hRF  hw) (Nat.le_of_ble_eq_true rfl) (Nat.le_of_ble_eq_true rfl) ⟨Nat.zero_le _, Nat.zero_le _⟩ rfl (st := []) rfl (Nat.le_of_ble_eq_true rfl) dX12_two_83 (fun r4 hw => ?_)
    refine y_callS_l_n hC hRm noS ml_X12_431 (c12_within hRF  hw) (Nat.le_of_ble_eq_true rfl) (Nat.le_of_ble_eq_true rfl) ⟨Nat.zero_le _, Nat.zero_le _⟩ rfl (st := []) rfl (Nat.le_of_ble_eq_true rfl) dX12_two_86 (fun r5 hw => ?_)
    exact wm_lreturn hC hE dX12_two_89 ⟨⟨rfl, rfl, rfl⟩, hw⟩
  rw [if_neg hc4] at hw
  by_cases hc5 : l0 = 35
  · rw [if_pos hc5] at hw
    refine wm_tableIn (v := 35) (tgt := 90) hC dX12_two_1 hc5 (by decide) (by decide) rfl rfl ?_
    refine wm_lload_n hC 2 dX12_two_90 rfl ?_
    refine wm_lconst hC (x := 0) dX12_two_91 (k := ?_)
    refine wm_lcmp_ne (tgt := 100) hC dX12_two_92 dX12_two_93 (by decide) hw (fun hw => ?_) (fun hw => ?_)
    · refine wm_lconst hC (x := 0) dX12_two_96 (k := ?_)
      refine wm_goto (tgt := 112) hC dX12_two_97 (by decide) ?_
      exact wm_lreturn hC hE dX12_two_112 ⟨⟨rfl, rfl, rfl⟩, hw⟩
    · refine wm_lload_n hC 1 dX12_two_100 rfl ?_
      refine wm_lload_n hC 2 dX12_two_101 rfl ?_
      refine wm_lload_n hC 1 dX12_two_102 rfl ?_
      refine wm_lload_n hC 2 dX12_two_103 rfl ?_
      refine y_callS_l_n hC hRm noS ml_X12_435 (c12_floor hRF  hw) (Nat.le_of_ble_eq_true rfl) (Nat.le_of_ble_eq_true rfl) ⟨Nat.zero_le _, Nat.zero_le _⟩ rfl (st := [vl l3, vl l1]) rfl (Nat.le_of_ble_eq_true rfl) dX12_two_104 (fun r6 hw => ?_)
      refine x_lmul hC dX12_two_107 hw (fun hw => ?_)
      refine x_lsub hC dX12_two_108 hw (fun hw => ?_)
      refine y_callS_l_n hC hRm noS ml_X12_431 (c12_within hRF  hw) (Nat.le_of_ble_eq_true rfl) (Nat.le_of_ble_eq_true rfl) ⟨Nat.zero_le _, Nat.zero_le _⟩ rfl (st := []) rfl (Nat.le_of_ble_eq_true rfl) dX12_two_109 (fun r7 hw => ?_)
      exact wm_lreturn hC hE dX12_two_112 ⟨⟨rfl, rfl, rfl⟩, hw⟩
  rw [if_neg hc5] at hw
  by_cases hc6 : l0 = 36
  · rw [if_pos hc6] at hw
    refine wm_tableIn (v := 36) (tgt := 113) hC dX12_two_1 hc6 (by decide) (by decide) rfl rfl ?_
    refine wm_lload_n hC 1 dX12_two_113 rfl ?_
    refine wm_lload_n hC 2 dX12_two_114 rfl ?_
    refine wm_lcmp_ge (tgt := 123) hC dX12_two_115 dX12_two_116 (by decide) hw (fun hw => ?_) (fun hw => ?_)
    · refine wm_lload_n hC 2 dX12_two_123 rfl ?_
      exact wm_lreturn hC hE dX12_two_124 ⟨⟨rfl, rfl, rfl⟩, hw⟩
    · refine wm_lload_n hC 1 dX12_two_119 rfl ?_
      refine wm_goto (tgt := 124) hC dX12_two_120 (by decide) ?_
      exact wm_lreturn hC hE dX12_two_124 ⟨⟨rfl, rfl, rfl⟩, hw⟩
  rw [if_neg hc6] at hw
  by_cases hc7 : l0 = 37
  · rw [if_pos hc7] at hw
    refine wm_tableIn (v := 37) (tgt := 125) hC dX12_two_1 hc7 (by decide) (by decide) rfl rfl ?_
    refine wm_lload_n hC 1 dX12_two_125 rfl ?_
    refine wm_lload_n hC 2 dX12_two_126 rfl ?_
    refine wm_lcmp_le (tgt := 135) hC dX12_two_127 dX12_two_128 (by decide) hw (fun hw => ?_) (fun hw => ?_)
    · refine wm_lload_n hC 2 dX12_two_135 rfl ?_
      exact wm_lreturn hC hE dX12_two_136 ⟨⟨rfl, rfl, rfl⟩, hw⟩
    · refine wm_lload_n hC 1 dX12_two_131 rfl ?_
      refine wm_goto (tgt := 136) hC dX12_two_132 (by decide) ?_
      exact wm_lreturn hC hE dX12_two_136 ⟨⟨rfl, rfl, rfl⟩, hw⟩
  rw [if_neg hc7] at hw
  by_cases hc8 : l0 = 38
  · rw [if_pos hc8] at hw
    refine wm_tableIn (v := 38) (tgt := 137) hC dX12_two_1 hc8 (by decide) (by decide) rfl rfl ?_
    refine wm_lload_n hC 1 dX12_two_137 rfl ?_
    refine wm_lload_n hC 2 dX12_two_138 rfl ?_
    refine wm_lcmp_ge (tgt := 147) hC dX12_two_139 dX12_two_140 (by decide) hw (fun hw => ?_) (fun hw => ?_)
    · refine wm_lconst hC (x := 0) dX12_two_147 (k := ?_)
      exact wm_lreturn hC hE dX12_two_148 ⟨⟨rfl, rfl, rfl⟩, hw⟩
    · refine wm_lconst hC (x := 1) dX12_two_143 (k := ?_)
      refine wm_goto (tgt := 148) hC dX12_two_144 (by decide) ?_
      exact wm_lreturn hC hE dX12_two_148 ⟨⟨rfl, rfl, rfl⟩, hw⟩
  rw [if_neg hc8] at hw
  by_cases hc9 : l0 = 39
  · rw [if_pos hc9] at hw
    refine wm_tableIn (v := 39) (tgt := 149) hC dX12_two_1 hc9 (by decide) (by decide) rfl rfl ?_
    refine wm_lload_n hC 1 dX12_two_149 rfl ?_
    refine wm_lload_n hC 2 dX12_two_150 rfl ?_
    refine wm_lcmp_le (tgt := 159) hC dX12_two_151 dX12_two_152 (by decide) hw (fun hw => ?_) (fun hw => ?_)
    · refine wm_lconst hC (x := 0) dX12_two_159 (k := ?_)
      exact wm_lreturn hC hE dX12_two_160 ⟨⟨rfl, rfl, rfl⟩, hw⟩
    · refine wm_lconst hC (x := 1) dX12_two_155 (k := ?_)
      refine wm_goto (tgt := 160) hC dX12_two_156 (by decide) ?_
      exact wm_lreturn hC hE dX12_two_160 ⟨⟨rfl, rfl, rfl⟩, hw⟩
  rw [if_neg hc9] at hw
  by_cases hc10 : l0 = 40
  · rw [if_pos hc10] at hw
    refine wm_tableIn (v := 40) (tgt := 161) hC dX12_two_1 hc10 (by decide) (by decide) rfl rfl ?_
    refine wm_lload_n hC 1 dX12_two_161 rfl ?_
    refine wm_lload_n hC 2 dX12_two_162 rfl ?_
    refine wm_lcmp_ne (tgt := 171) hC dX12_two_163 dX12_two_164 (by decide) hw (fun hw => ?_) (fun hw => ?_)
    · refine wm_lconst hC (x := 1) dX12_two_167 (k := ?_)
      refine wm_goto (tgt := 172) hC dX12_two_168 (by decide) ?_
      exact wm_lreturn hC hE dX12_two_172 ⟨⟨rfl, rfl, rfl⟩, hw⟩
    · refine wm_lconst hC (x := 0) dX12_two_171 (k := ?_)
      exact wm_lreturn hC hE dX12_two_172 ⟨⟨rfl, rfl, rfl⟩, hw⟩
  rw [if_neg hc10] at hw
  by_cases hc11 : l0 = 41
  · rw [if_pos hc11] at hw
    refine wm_tableIn (v := 41) (tgt := 173) hC dX12_two_1 hc11 (by decide) (by decide) rfl rfl ?_
    refine wm_lload_n hC 1 dX12_two_173 rfl ?_
    refine wm_lload_n hC 2 dX12_two_174 rfl ?_
    refine wm_land hC dX12_two_175 ?_
    exact wm_lreturn hC hE dX12_two_176 ⟨⟨rfl, rfl, rfl⟩, hw⟩
  rw [if_neg hc11] at hw
  refine wm_tableOut (tgt := 177) hC dX12_two_1 (by omega) rfl ?_
  refine wm_lload_n hC 1 dX12_two_177 rfl ?_
  refine wm_lload_n hC 2 dX12_two_178 rfl ?_
  refine wm_lor hC dX12_two_179 ?_
  exact wm_lreturn hC hE dX12_two_180 ⟨⟨rfl, rfl, rfl⟩, hw⟩
def p12_reckons_b25_body (l1 : Int) (I : mI) (Q : Int → mI → Prop) (k25 : Int → Int → mI → Prop) (l2 : Int) (l3 : Int) (J : mI) : Prop := (rg (1600 * (I 159 13)) ∧ (rg (3 * (I 159 13)) ∧ (rg ((3 * (I 159 13)) + l1) ∧ (((0 : Int) ≤ ((3 * (I 159 13)) + l1) ∧ ((3 * (I 159 13)) + l1) < (6 : Int)) ∧ (rg ((1600 * (I 159 13)) + (I 174 ((3 * (I 159 13)) + l1))) ∧ (if ((1600 * (I 159 13)) + (I 174 ((3 * (I 159 13)) + l1))) ≤ l3 then (Q (J 193 0) J) else (((0 : Int) ≤ l3 ∧ l3 < (3200 : Int)) ∧ (if (30 : Int) < (I 175 l3) then (if (I 175 l3) = 43 then (rg (l2 - 1) ∧ (rg (l2 - 1) ∧ (((0 : Int) ≤ (l2 - 1) ∧ (l2 - 1) < (500 : Int)) ∧ (rl (1 - (J 193 (l2 - 1))) ∧ (((0 : Int) ≤ (l2 - 1) ∧ (l2 - 1) < (500 : Int)) ∧ wLet (up J 193 (l2 - 1) (1 - (J 193 (l2 - 1)))) (fun J4 => (rg (l3 + 1) ∧ (k25 l2 (l3 + 1) J4)))))))) else (if (I 175 l3) = 44 then (rg (l2 + (-2)) ∧ (rg ((l2 + (-2)) - 1) ∧ (rg ((l2 + (-2)) - 1) ∧ (((0 : Int) ≤ ((l2 + (-2)) - 1) ∧ ((l2 + (-2)) - 1) < (500 : Int)) ∧ (if (J 193 ((l2 + (-2)) - 1)) = 1 then (((0 : Int) ≤ (l2 + (-2)) ∧ (l2 + (-2)) < (500 : Int)) ∧ (((0 : Int) ≤ ((l2 + (-2)) - 1) ∧ ((l2 + (-2)) - 1) < (500 : Int)) ∧ wLet (up J 193 ((l2 + (-2)) - 1) (J 193 (l2 + (-2)))) (fun J3 => (rg (l3 + 1) ∧ (k25 (l2 + (-2)) (l3 + 1) J3))))) else (rg ((l2 + (-2)) + 1) ∧ (((0 : Int) ≤ ((l2 + (-2)) + 1) ∧ ((l2 + (-2)) + 1) < (500 : Int)) ∧ (((0 : Int) ≤ ((l2 + (-2)) - 1) ∧ ((l2 + (-2)) - 1) < (500 : Int)) ∧ wLet (up J 193 ((l2 + (-2)) - 1) (J 193 ((l2 + (-2)) + 1))) (fun J2 => (rg (l3 + 1) ∧ (k25 (l2 + (-2)) (l3 + 1) J2))))))))))) else (rg (l2 + (-1)) ∧ (rg ((l2 + (-1)) - 1) ∧ (rg ((l2 + (-1)) - 1) ∧ (((0 : Int) ≤ ((l2 + (-1)) - 1) ∧ ((l2 + (-1)) - 1) < (500 : Int)) ∧ (((0 : Int) ≤ (l2 + (-1)) ∧ (l2 + (-1)) < (500 : Int)) ∧ (p12_two (I 175 l3) (J 193 ((l2 + (-1)) - 1)) (J 193 (l2 + (-1))) (fun r1 => (((0 : Int) ≤ ((l2 + (-1)) - 1) ∧ ((l2 + (-1)) - 1) < (500 : Int)) ∧ wLet (up J 193 ((l2 + (-1)) - 1) r1) (fun J1 => (rg (l3 + 1) ∧ (k25 (l2 + (-1)) (l3 + 1) J1))))))))))))) else (if (I 175 l3) = 0 then (((0 : Int) ≤ l3 ∧ l3 < (3200 : Int)) ∧ (((0 : Int) ≤ l2 ∧ l2 < (500 : Int)) ∧ wLet (up J 193 l2 (I 176 l3)) (fun J7 => (rg (l2 + 1) ∧ (rg (l3 + 1) ∧ (k25 (l2 + 1) (l3 + 1) J7)))))) else (if (I 175 l3) = 30 then (((0 : Int) ≤ l2 ∧ l2 < (500 : Int)) ∧ wLet (up J 193 l2 1) (fun J6 => (rg (l2 + 1) ∧ (rg (l3 + 1) ∧ (k25 (l2 + 1) (l3 + 1) J6))))) else (((0 : Int) ≤ (I 175 l3) ∧ (I 175 l3) < (12 : Int)) ∧ (((0 : Int) ≤ l2 ∧ l2 < (500 : Int)) ∧ wLet (up J 193 l2 (I 194 (I 175 l3))) (fun J5 => (rg (l2 + 1) ∧ (rg (l3 + 1) ∧ (k25 (l2 + 1) (l3 + 1) J5))))))))))))))))
def p12_reckons_b25 (l1 : Int) (I : mI) (Q : Int → mI → Prop) : Nat → Int → Int → mI → Prop
  | 0 => fun _ _ _ => False
  | f + 1 => fun l2 l3 J => p12_reckons_b25_body l1 I Q (p12_reckons_b25 l1 I Q f) l2 l3 J
set_option maxRecDepth 20000 in
theorem w12_reckons_b25_body {C : wX} {ad : Nat → Nat} {n : Nat} {I J : mI} {R : mR} {Q : Int → mI → Prop} (hC : wOK C cX12_reckons 5 RX12) (hRm : wRm C 3 61 0 0) (hE : wEnd C (some .long) ad n (fun r I' J' R' => (I' = I ∧ R' = R) ∧ Q r J')) (hRF : RF R) {l1 : Int} {l2 : Int} {l3 : Int}     {k25 : Int → Int → mI → Prop} (kk25 : ∀ (y2 : Int) (y3 : Int) (J' : mI), k25 y2 y3 J' → WM C ad n I J' R 0 0 25 [(0, vr 159), (1, vi l1), (2, vi y2), (3, vi y3)] []) (hw : p12_reckons_b25_body l1 I Q k25 l2 l3 J) : WM C ad n I J R 0 0 25 [(0, vr 159), (1, vi l1), (2, vi l2), (3, vi l3)] [] := by
  unfold p12_reckons_b25_body at hw
  refine wm_iload_n hC 3 dX12_reckons_25 rfl ?_
  refine wm_sipush hC dX12_reckons_26 (k := ?_)
  refine wm_aload_n hC 0 dX12_reckons_29 rfl (k_ne0 kk_159 (by decide)) ?_
  refine x_getI hC 13 fl_X12_51 rfl kk_159 dX12_reckons_30 ?_
  refine x_imul hC dX12_reckons_33 hw (fun hw => ?_)
  refine wm_aload_n hC 0 dX12_reckons_34 rfl (k_ne0 kk_159 (by decide)) ?_
  refine x_getR3 hC 27 fl_X12_93 rfl kk_159 (rf_159_27 hRF) dX12_reckons_35 ?_
  refine wm_iconst hC dX12_reckons_38 (k := ?_)
  refine wm_aload_n hC 0 dX12_reckons_39 rfl (k_ne0 kk_159 (by decide)) ?_
  refine x_getI hC 13 fl_X12_51 rfl kk_159 dX12_reckons_40 ?_
  refine x_imul hC dX12_reckons_43 hw (fun hw => ?_)
  refine wm_iload_n hC 1 dX12_reckons_44 rfl ?_
  refine x_iadd hC dX12_reckons_45 hw (fun hw => ?_)
  refine x_iald2 hC kk_174 kn_174 dX12_reckons_46 hw (fun hw => ?_)
  refine x_iadd hC dX12_reckons_47 hw (fun hw => ?_)
  refine wm_icmp_ge (tgt := 227) hC dX12_reckons_48 (by decide) hw (fun hw => ?_) (fun hw => ?_)
  · refine wm_aload_n hC 0 dX12_reckons_227 rfl (k_ne0 kk_159 (by decide)) ?_
    refine x_getR3 hC 56 fl_X12_183 rfl kk_159 (rf_159_56 hRF) dX12_reckons_228 ?_
    refine wm_iconst hC dX12_reckons_231 (k := ?_)
    refine x_laldK hC kk_193 kn_193 (by decide) (by decide) dX12_reckons_232 ?_
    exact wm_lreturn hC hE dX12_reckons_233 ⟨⟨rfl, rfl⟩, hw⟩
  · refine wm_aload_n hC 0 dX12_reckons_51 rfl (k_ne0 kk_159 (by decide)) ?_
    refine x_getR3 hC 28 fl_X12_96 rfl kk_159 (rf_159_28 hRF) dX12_reckons_52 ?_
    refine wm_iload_n hC 3 dX12_reckons_55 rfl ?_
    refine x_iald2 hC kk_175 kn_175 dX12_reckons_56 hw (fun hw => ?_)
    refine wm_istore hC dX12_reckons_57 (by decide) (L2 := [(4, vi (I 175 l3)), (0, vr 159), (1, vi l1), (2, vi l2), (3, vi l3)]) rfl ?_
    refine wm_iload hC 0 dX12_reckons_59 rfl ?_
    refine wm_bipush hC dX12_reckons_61 (k := ?_)
    refine wm_icmp_gt (tgt := 112) hC dX12_reckons_63 (by decide) hw (fun hw => ?_) (fun hw => ?_)
    · refine wm_iload hC 0 dX12_reckons_112 rfl ?_
      refine wm_bipush hC dX12_reckons_114 (k := ?_)
      refine wm_icmp_ne (tgt := 140) hC dX12_reckons_116 (by decide) hw (fun hw => ?_) (fun hw => ?_)
      · refine wm_aload_n hC 1 dX12_reckons_119 rfl (k_ne0 kk_159 (by decide)) ?_
        refine x_getR3 hC 56 fl_X12_183 rfl kk_159 (rf_159_56 hRF) dX12_reckons_120 ?_
        refine wm_iload_n hC 3 dX12_reckons_123 rfl ?_
        refine wm_iconst hC dX12_reckons_124 (k := ?_)
        refine x_isub hC dX12_reckons_125 hw (fun hw => ?_)
        refine wm_lconst hC (x := 1) dX12_reckons_126 (k := ?_)
        refine wm_aload_n hC 1 dX12_reckons_127 rfl (k_ne0 kk_159 (by decide)) ?_
        refine x_getR3 hC 56 fl_X12_183 rfl kk_159 (rf_159_56 hRF) dX12_reckons_128 ?_
        refine wm_iload_n hC 3 dX12_reckons_131 rfl ?_
        refine wm_iconst hC dX12_reckons_132 (k := ?_)
        refine x_isub hC dX12_reckons_133 hw (fun hw => ?_)
        refine x_lald2 hC kk_193 kn_193 dX12_reckons_134 hw (fun hw => ?_)
        refine x_lsub hC dX12_reckons_135 hw (fun hw => ?_)
        refine x_last2 hC kk_193 kn_193 dX12_reckons_136 hw (fun J4 hw => ?_)
        refine wm_goto (tgt := 221) hC dX12_reckons_137 (by decide) ?_
        refine x_iinc hC 4 dX12_reckons_221 rfl (by decide) (L2 := [(3, vi (l3 + 1)), (4, vi (I 175 l3)), (0, vr 159), (1, vi l1), (2, vi l2)]) rfl hw (fun hw => ?_)
        refine wm_goto (tgt := 25) hC dX12_reckons_224 (by decide) ?_
        refine wm_sub [2, 3, 4, 0] (L2 := [(0, vr 159), (1, vi l1), (2, vi l2), (3, vi (l3 + 1))]) rfl ?_
        exact kk25 _ _ _ hw
      · refine wm_iload hC 0 dX12_reckons_140 rfl ?_
        refine wm_bipush hC dX12_reckons_142 (k := ?_)
        refine wm_icmp_ne (tgt := 191) hC dX12_reckons_144 (by decide) hw (fun hw => ?_) (fun hw => ?_)
        · refine x_iinc hC 3 dX12_reckons_147 rfl (by decide) (L2 := [(2, vi (l2 + (-2))), (4, vi (I 175 l3)), (0, vr 159), (1, vi l1), (3, vi l3)]) rfl hw (fun hw => ?_)
          refine wm_aload_n hC 2 dX12_reckons_150 rfl (k_ne0 kk_159 (by decide)) ?_
          refine x_getR3 hC 56 fl_X12_183 rfl kk_159 (rf_159_56 hRF) dX12_reckons_151 ?_
          refine wm_iload_n hC 0 dX12_reckons_154 rfl ?_
          refine wm_iconst hC dX12_reckons_155 (k := ?_)
          refine x_isub hC dX12_reckons_156 hw (fun hw => ?_)
          refine wm_aload_n hC 2 dX12_reckons_157 rfl (k_ne0 kk_159 (by decide)) ?_
          refine x_getR3 hC 56 fl_X12_183 rfl kk_159 (rf_159_56 hRF) dX12_reckons_158 ?_
          refine wm_iload_n hC 0 dX12_reckons_161 rfl ?_
          refine wm_iconst hC dX12_reckons_162 (k := ?_)
          refine x_isub hC dX12_reckons_163 hw (fun hw => ?_)
          refine x_lald2 hC kk_193 kn_193 dX12_reckons_164 hw (fun hw => ?_)
          refine wm_lconst hC (x := 1) dX12_reckons_165 (k := ?_)
          refine wm_lcmp_ne (tgt := 179) hC dX12_reckons_166 dX12_reckons_167 (by decide) hw (fun hw => ?_) (fun hw => ?_)
          · refine wm_aload_n hC 2 dX12_reckons_170 rfl (k_ne0 kk_159 (by decide)) ?_
            refine x_getR3 hC 56 fl_X12_183 rfl kk_159 (rf_159_56 hRF) dX12_reckons_171 ?_
            refine wm_iload_n hC 0 dX12_reckons_174 rfl ?_
            refine x_lald2 hC kk_193 kn_193 dX12_reckons_175 hw (fun hw => ?_)
            refine wm_goto (tgt := 187) hC dX12_reckons_176 (by decide) ?_
            refine x_last2 hC kk_193 kn_193 dX12_reckons_187 hw (fun J3 hw => ?_)
            refine wm_goto (tgt := 221) hC dX12_reckons_188 (by decide) ?_
            refine x_iinc hC 4 dX12_reckons_221 rfl (by decide) (L2 := [(3, vi (l3 + 1)), (2, vi (l2 + (-2))), (4, vi (I 175 l3)), (0, vr 159), (1, vi l1)]) rfl hw (fun hw => ?_)
            refine wm_goto (tgt := 25) hC dX12_reckons_224 (by decide) ?_
            refine wm_sub [3, 4, 1, 0] (L2 := [(0, vr 159), (1, vi l1), (2, vi (l2 + (-2))), (3, vi (l3 + 1))]) rfl ?_
            exact kk25 _ _ _ hw
          · refine wm_aload_n hC 2 dX12_reckons_179 rfl (k_ne0 kk_159 (by decide)) ?_
            refine x_getR3 hC 56 fl_X12_183 rfl kk_159 (rf_159_56 hRF) dX12_reckons_180 ?_
            refine wm_iload_n hC 0 dX12_reckons_183 rfl ?_
            refine wm_iconst hC dX12_reckons_184 (k := ?_)
            refine x_iadd hC dX12_reckons_185 hw (fun hw => ?_)
            refine x_lald2 hC kk_193 kn_193 dX12_reckons_186 hw (fun hw => ?_)
            refine x_last2 hC kk_193 kn_193 dX12_reckons_187 hw (fun J2 hw => ?_)
            refine wm_goto (tgt := 221) hC dX12_reckons_188 (by decide) ?_
            refine x_iinc hC 4 dX12_reckons_221 rfl (by decide) (L2 := [(3, vi (l3 + 1)), (2, vi (l2 + (-2))), (4, vi (I 175 l3)), (0, vr 159), (1, vi l1)]) rfl hw (fun hw => ?_)
            refine wm_goto (tgt := 25) hC dX12_reckons_224 (by decide) ?_
            refine wm_sub [3, 4, 1, 0] (L2 := [(0, vr 159), (1, vi l1), (2, vi (l2 + (-2))), (3, vi (l3 + 1))]) rfl ?_
            exact kk25 _ _ _ hw
        · refine x_iinc hC 3 dX12_reckons_191 rfl (by decide) (L2 := [(2, vi (l2 + (-1))), (4, vi (I 175 l3)), (0, vr 159), (1, vi l1), (3, vi l3)]) rfl hw (fun hw => ?_)
          refine wm_aload_n hC 2 dX12_reckons_194 rfl (k_ne0 kk_159 (by decide)) ?_
          refine x_getR3 hC 56 fl_X12_183 rfl kk_159 (rf_159_56 hRF) dX12_reckons_195 ?_
          refine wm_iload_n hC 0 dX12_reckons_198 rfl ?_
          refine wm_iconst hC dX12_reckons_199 (k := ?_)
          refine x_isub hC dX12_reckons_200 hw (fun hw => ?_)
          refine wm_iload hC 1 dX12_reckons_201 rfl ?_
          refine wm_aload_n hC 2 dX12_reckons_203 rfl (k_ne0 kk_159 (by decide)) ?_
          refine x_getR3 hC 56 fl_X12_183 rfl kk_159 (rf_159_56 hRF) dX12_reckons_204 ?_
          refine wm_iload_n hC 0 dX12_reckons_207 rfl ?_
          refine wm_iconst hC dX12_reckons_208 (k := ?_)
          refine x_isub hC dX12_reckons_209 hw (fun hw => ?_)
          refine x_lald2 hC kk_193 kn_193 dX12_reckons_210 hw (fun hw => ?_)
          refine wm_aload_n hC 2 dX12_reckons_211 rfl (k_ne0 kk_159 (by decide)) ?_
          refine x_getR3 hC 56 fl_X12_183 rfl kk_159 (rf_159_56 hRF) dX12_reckons_212 ?_
          refine wm_iload_n hC 0 dX12_reckons_215 rfl ?_
          refine x_lald2 hC kk_193 kn_193 dX12_reckons_216 hw (fun hw => ?_)
          refine y_callS_l_n hC hRm noS ml_X12_439 (c12_two hRF  hw) (Nat.le_of_ble_eq_true rfl) (Nat.le_of_ble_eq_true rfl) ⟨Nat.zero_le _, Nat.zero_le _⟩ rfl (st := [vi ((l2 + (-1)) - 1), vr 193]) rfl (Nat.le_of_ble_eq_true rfl) dX12_reckons_217 (fun r1 hw => ?_)
          refine x_last2 hC kk_193 kn_193 dX12_reckons_220 hw (fun J1 hw => ?_)
          refine x_iinc hC 4 dX12_reckons_221 rfl (by decide) (L2 := [(3, vi (l3 + 1)), (2, vi (l2 + (-1))), (4, vi (I 175 l3)), (0, vr 159), (1, vi l1)]) rfl hw (fun hw => ?_)
          refine wm_goto (tgt := 25) hC dX12_reckons_224 (by decide) ?_
          refine wm_sub [3, 4, 1, 0] (L2 := [(0, vr 159), (1, vi l1), (2, vi (l2 + (-1))), (3, vi (l3 + 1))]) rfl ?_
          exact kk25 _ _ _ hw
    · refine wm_aload_n hC 1 dX12_reckons_66 rfl (k_ne0 kk_159 (by decide)) ?_
      refine x_getR3 hC 56 fl_X12_183 rfl kk_159 (rf_159_56 hRF) dX12_reckons_67 ?_
      refine wm_iload_n hC 3 dX12_reckons_70 rfl ?_
      refine wm_iload hC 0 dX12_reckons_71 rfl ?_
      refine wm_if_ne (tgt := 86) hC dX12_reckons_73 (by decide) hw (fun hw => ?_) (fun hw => ?_)
      · refine wm_aload_n hC 1 dX12_reckons_76 rfl (k_ne0 kk_159 (by decide)) ?_
        refine x_getR3 hC 29 fl_X12_99 rfl kk_159 (rf_159_29 hRF) dX12_reckons_77 ?_
        refine wm_iload_n hC 4 dX12_reckons_80 rfl ?_
        refine x_iald2 hC kk_176 kn_176 dX12_reckons_81 hw (fun hw => ?_)
        refine wm_i2l hC dX12_reckons_82 ?_
        refine wm_goto (tgt := 105) hC dX12_reckons_83 (by decide) ?_
        refine x_last2 hC kk_193 kn_193 dX12_reckons_105 hw (fun J7 hw => ?_)
        refine x_iinc hC 3 dX12_reckons_106 rfl (by decide) (L2 := [(2, vi (l2 + 1)), (4, vi (I 175 l3)), (0, vr 159), (1, vi l1), (3, vi l3)]) rfl hw (fun hw => ?_)
        refine wm_goto (tgt := 221) hC dX12_reckons_109 (by decide) ?_
        refine x_iinc hC 4 dX12_reckons_221 rfl (by decide) (L2 := [(3, vi (l3 + 1)), (2, vi (l2 + 1)), (4, vi (I 175 l3)), (0, vr 159), (1, vi l1)]) rfl hw (fun hw => ?_)
        refine wm_goto (tgt := 25) hC dX12_reckons_224 (by decide) ?_
        refine wm_sub [3, 4, 1, 0] (L2 := [(0, vr 159), (1, vi l1), (2, vi (l2 + 1)), (3, vi (l3 + 1))]) rfl ?_
        exact kk25 _ _ _ hw
      · refine wm_iload hC 0 dX12_reckons_86 rfl ?_
        refine wm_bipush hC dX12_reckons_88 (k := ?_)
        refine wm_icmp_ne (tgt := 97) hC dX12_reckons_90 (by decide) hw (fun hw => ?_) (fun hw => ?_)
        · refine wm_lconst hC (x := 1) dX12_reckons_93 (k := ?_)
          refine wm_goto (tgt := 105) hC dX12_reckons_94 (by decide) ?_
          refine x_last2 hC kk_193 kn_193 dX12_reckons_105 hw (fun J6 hw => ?_)
          refine x_iinc hC 3 dX12_reckons_106 rfl (by decide) (L2 := [(2, vi (l2 + 1)), (4, vi (I 175 l3)), (0, vr 159), (1, vi l1), (3, vi l3)]) rfl hw (fun hw => ?_)
          refine wm_goto (tgt := 221) hC dX12_reckons_109 (by decide) ?_
          refine x_iinc hC 4 dX12_reckons_221 rfl (by decide) (L2 := [(3, vi (l3 + 1)), (2, vi (l2 + 1)), (4, vi (I 175 l3)), (0, vr 159), (1, vi l1)]) rfl hw (fun hw => ?_)
          refine wm_goto (tgt := 25) hC dX12_reckons_224 (by decide) ?_
          refine wm_sub [3, 4, 1, 0] (L2 := [(0, vr 159), (1, vi l1), (2, vi (l2 + 1)), (3, vi (l3 + 1))]) rfl ?_
          exact kk25 _ _ _ hw
        · refine wm_aload_n hC 1 dX12_reckons_97 rfl (k_ne0 kk_159 (by decide)) ?_
          refine x_getR3 hC 57 fl_X12_186 rfl kk_159 (rf_159_57 hRF) dX12_reckons_98 ?_
          refine wm_iload hC 0 dX12_reckons_101 rfl ?_
          refine x_iald2 hC kk_194 kn_194 dX12_reckons_103 hw (fun hw => ?_)
          refine wm_i2l hC dX12_reckons_104 ?_
          refine x_last2 hC kk_193 kn_193 dX12_reckons_105 hw (fun J5 hw => ?_)
          refine x_iinc hC 3 dX12_reckons_106 rfl (by decide) (L2 := [(2, vi (l2 + 1)), (4, vi (I 175 l3)), (0, vr 159), (1, vi l1), (3, vi l3)]) rfl hw (fun hw => ?_)
          refine wm_goto (tgt := 221) hC dX12_reckons_109 (by decide) ?_
          refine x_iinc hC 4 dX12_reckons_221 rfl (by decide) (L2 := [(3, vi (l3 + 1)), (2, vi (l2 + 1)), (4, vi (I 175 l3)), (0, vr 159), (1, vi l1)]) rfl hw (fun hw => ?_)
          refine wm_goto (tgt := 25) hC dX12_reckons_224 (by decide) ?_
          refine wm_sub [3, 4, 1, 0] (L2 := [(0, vr 159), (1, vi l1), (2, vi (l2 + 1)), (3, vi (l3 + 1))]) rfl ?_
          exact kk25 _ _ _ hw
set_option maxRecDepth 20000 in
theorem w12_reckons_b25 {C : wX} {ad : Nat → Nat} {n : Nat} {I : mI} {R : mR} {Q : Int → mI → Prop} (hC : wOK C cX12_reckons 5 RX12) (hRm : wRm C 3 61 0 0) (hE : wEnd C (some .long) ad n (fun r I' J' R' => (I' = I ∧ R' = R) ∧ Q r J')) (hRF : RF R) {l1 : Int}     : ∀ (f : Nat) (l2 : Int) (l3 : Int) (J : mI), p12_reckons_b25 l1 I Q f l2 l3 J → WM C ad n I J R 0 0 25 [(0, vr 159), (1, vi l1), (2, vi l2), (3, vi l3)] [] := by
  intro f
  induction f with
  | zero => intro l2 l3 J hw; exact hw.elim
  | succ f ih => intro l2 l3 J hw; exact w12_reckons_b25_body hC hRm hE hRF  (fun a0 a1 a2 aw => ih a0 a1 a2 aw) hw
def p12_reckons (l1 : Int) (I : mI) (J : mI) (Q : Int → mI → Prop) : Prop := (rg (1600 * (I 159 13)) ∧ (rg (3 * (I 159 13)) ∧ (rg ((3 * (I 159 13)) + l1) ∧ (((0 : Int) ≤ ((3 * (I 159 13)) + l1) ∧ ((3 * (I 159 13)) + l1) < (6 : Int)) ∧ (rg ((1600 * (I 159 13)) + (I 173 ((3 * (I 159 13)) + l1))) ∧ (wLet ((1600 * (I 159 13)) + (I 173 ((3 * (I 159 13)) + l1))) (fun x1 => (∃ f, p12_reckons_b25 l1 I Q f 0 x1 J))))))))
set_option maxRecDepth 20000 in
theorem c12_reckons {ad : Nat → Nat} {n : Nat} {I J : mI} {R : mR} {Q : Int → mI → Prop}  (hRF : RF R) {l1 : Int}   (hw : p12_reckons l1 I J Q) : wMet yX12_reckons cX12_reckons 5 (some .long) 3 61 false ad n I J R [vr 159, vi l1] (fun r I' J' R' => (I' = I ∧ R' = R) ∧ Q r J') := by
  refine wMet_of (by decide) (Nat.le_of_ble_eq_true rfl) (fun C hC hRm hE hS => ?_)
  refine (show WM C ad n I J R 0 0 0 [(0, vr 159), (1, vi l1)] [] from ?_)
  unfold p12_reckons at hw
  refine wm_iconst hC dX12_reckons_0 (k := ?_)
  refine wm_istore_n hC dX12_reckons_1 (by decide) (L2 := [(2, vi 0), (0, vr 159), (1, vi l1)]) rfl ?_
  refine wm_sipush hC dX12_reckons_2 (k := ?_)
  refine wm_aload_n hC 1 dX12_reckons_5 rfl (k_ne0 kk_159 (by decide)) ?_
  refine x_getI hC 13 fl_X12_51 rfl kk_159 dX12_reckons_6 ?_
  refine x_imul hC dX12_reckons_9 hw (fun hw => ?_)
  refine wm_aload_n hC 1 dX12_reckons_10 rfl (k_ne0 kk_159 (by decide)) ?_
  refine x_getR3 hC 26 fl_X12_90 rfl kk_159 (rf_159_26 hRF) dX12_reckons_11 ?_
  refine wm_iconst hC dX12_reckons_14 (k := ?_)
  refine wm_aload_n hC 1 dX12_reckons_15 rfl (k_ne0 kk_159 (by decide)) ?_
  refine x_getI hC 13 fl_X12_51 rfl kk_159 dX12_reckons_16 ?_
  refine x_imul hC dX12_reckons_19 hw (fun hw => ?_)
  refine wm_iload_n hC 2 dX12_reckons_20 rfl ?_
  refine x_iadd hC dX12_reckons_21 hw (fun hw => ?_)
  refine x_iald2 hC kk_173 kn_173 dX12_reckons_22 hw (fun hw => ?_)
  refine x_iadd hC dX12_reckons_23 hw (fun hw => ?_)
  refine x_nameI hw (fun x1 hw => ?_)
  refine wm_istore_n hC dX12_reckons_24 (by decide) (L2 := [(3, vi x1), (2, vi 0), (0, vr 159), (1, vi l1)]) rfl ?_
  obtain ⟨f, hw⟩ := hw
  refine wm_sub [2, 3, 1, 0] (L2 := [(0, vr 159), (1, vi l1), (2, vi 0), (3, vi x1)]) rfl ?_
  exact w12_reckons_b25 hC hRm hE hRF  f _ _ _ hw
def p12_isCounting (l1 : Int) (l2 : Int) (I : mI) (J : mI) (Q : Int → mI → mI → Prop) : Prop := (p12_isTold 1 I (fun r1 => (if r1 = 0 then (Q 1 I J) else (p12_lays l1 l2 I (fun I1 => (p12_reckons 1 I1 J (fun r2 J1 => (if r2 = 1 then (Q 1 I1 J1) else (Q 0 I1 J1)))))))))
set_option maxRecDepth 20000 in
theorem c12_isCounting {ad : Nat → Nat} {n : Nat} {I J : mI} {R : mR} {Q : Int → mI → mI → Prop}  (hRF : RF R) {l1 : Int} {l2 : Int}    (hw : p12_isCounting l1 l2 I J Q) : wMet yX12_isCounting cX12_isCounting 3 (some .boolean) 4 85 false ad n I J R [vr 159, vi l1, vi l2] (fun r I' J' R' => (R' = R) ∧ Q r I' J') := by
  refine wMet_of (by decide) (Nat.le_of_ble_eq_true rfl) (fun C hC hRm hE hS => ?_)
  refine (show WM C ad n I J R 0 0 0 [(0, vr 159), (1, vi l1), (2, vi l2)] [] from ?_)
  unfold p12_isCounting at hw
  refine wm_aload_n hC 0 dX12_isCounting_0 rfl (k_ne0 kk_159 (by decide)) ?_
  refine wm_iconst hC dX12_isCounting_1 (k := ?_)
  refine y_callV_z_n hC hRm noS ml_X12_450 kk_159 (c12_isTold hRF  hw) (Nat.le_of_ble_eq_true rfl) (Nat.le_of_ble_eq_true rfl) ⟨Nat.zero_le _, Nat.zero_le _⟩ rfl (st := []) rfl (Nat.le_of_ble_eq_true rfl) dX12_isCounting_2 (fun r1 hw => ?_)
  refine wm_if_ne (tgt := 10) hC dX12_isCounting_5 (by decide) hw (fun hw => ?_) (fun hw => ?_)
  · refine wm_iconst hC dX12_isCounting_8 (k := ?_)
    exact wm_zreturn hC hE (Or.inr rfl) dX12_isCounting_9 ⟨rfl, hw⟩
  · refine wm_aload_n hC 0 dX12_isCounting_10 rfl (k_ne0 kk_159 (by decide)) ?_
    refine wm_iload_n hC 1 dX12_isCounting_11 rfl ?_
    refine wm_iload_n hC 2 dX12_isCounting_12 rfl ?_
    refine y_callV_v_I hC hRm noS ml_X12_453 kk_159 (c12_lays hRF  hw) (Nat.le_of_ble_eq_true rfl) (Nat.le_of_ble_eq_true rfl) ⟨Nat.zero_le _, Nat.zero_le _⟩ rfl (st := []) rfl (Nat.le_of_ble_eq_true rfl) dX12_isCounting_13 (fun I1 hw => ?_)
    refine wm_aload_n hC 0 dX12_isCounting_16 rfl (k_ne0 kk_159 (by decide)) ?_
    refine wm_iconst hC dX12_isCounting_17 (k := ?_)
    refine y_callV_l_J hC hRm noS ml_X12_459 kk_159 (c12_reckons hRF  hw) (Nat.le_of_ble_eq_true rfl) (Nat.le_of_ble_eq_true rfl) ⟨Nat.zero_le _, Nat.zero_le _⟩ rfl (st := []) rfl (Nat.le_of_ble_eq_true rfl) dX12_isCounting_18 (fun r2 J1 hw => ?_)
    refine wm_lconst hC (x := 1) dX12_isCounting_21 (k := ?_)
    refine wm_lcmp_ne (tgt := 30) hC dX12_isCounting_22 dX12_isCounting_23 (by decide) hw (fun hw => ?_) (fun hw => ?_)
    · refine wm_iconst hC dX12_isCounting_26 (k := ?_)
      refine wm_goto (tgt := 31) hC dX12_isCounting_27 (by decide) ?_
      exact wm_zreturn hC hE (Or.inr rfl) dX12_isCounting_31 ⟨rfl, hw⟩
    · refine wm_iconst hC dX12_isCounting_30 (k := ?_)
      exact wm_zreturn hC hE (Or.inl rfl) dX12_isCounting_31 ⟨rfl, hw⟩
def p12_placeOf_b2_body (l1 : Int) (I : mI) (Q : Int → Prop) (k2 : Int → Prop) (l2 : Int) : Prop := (((0 : Int) ≤ (I 159 13) ∧ (I 159 13) < (2 : Int)) ∧ (if (I 161 (I 159 13)) ≤ l2 then (Q (-1)) else (((0 : Int) ≤ l2 ∧ l2 < (132 : Int)) ∧ (if (I 187 l2) = l1 then (Q l2) else (rg (l2 + 1) ∧ (k2 (l2 + 1)))))))
def p12_placeOf_b2 (l1 : Int) (I : mI) (Q : Int → Prop) : Nat → Int → Prop
  | 0 => fun _ => False
  | f + 1 => fun l2 => p12_placeOf_b2_body l1 I Q (p12_placeOf_b2 l1 I Q f) l2
set_option maxRecDepth 20000 in
theorem w12_placeOf_b2_body {C : wX} {ad : Nat → Nat} {n : Nat} {I J : mI} {R : mR} {Q : Int → Prop} (hC : wOK C cX12_placeOf 3 RX12) (hRm : wRm C 1 12 0 0) (hE : wEnd C (some .int) ad n (fun r I' J' R' => (I' = I ∧ J' = J ∧ R' = R) ∧ Q r)) (hRF : RF R) {l1 : Int} {l2 : Int}     {k2 : Int → Prop} (kk2 : ∀ (y2 : Int), k2 y2 → WM C ad n I J R 0 0 2 [(0, vr 159), (1, vi l1), (2, vi y2)] []) (hw : p12_placeOf_b2_body l1 I Q k2 l2) : WM C ad n I J R 0 0 2 [(0, vr 159), (1, vi l1), (2, vi l2)] [] := by
  unfold p12_placeOf_b2_body at hw
  refine wm_iload_n hC 2 dX12_placeOf_2 rfl ?_
  refine wm_aload_n hC 0 dX12_placeOf_3 rfl (k_ne0 kk_159 (by decide)) ?_
  refine x_getR3 hC 14 fl_X12_54 rfl kk_159 (rf_159_14 hRF) dX12_placeOf_4 ?_
  refine wm_aload_n hC 0 dX12_placeOf_7 rfl (k_ne0 kk_159 (by decide)) ?_
  refine x_getI hC 13 fl_X12_51 rfl kk_159 dX12_placeOf_8 ?_
  refine x_iald2 hC kk_161 kn_161 dX12_placeOf_11 hw (fun hw => ?_)
  refine wm_icmp_ge (tgt := 33) hC dX12_placeOf_12 (by decide) hw (fun hw => ?_) (fun hw => ?_)
  · refine wm_iconst hC dX12_placeOf_33 (k := ?_)
    exact wm_ireturn hC hE dX12_placeOf_34 ⟨⟨rfl, rfl, rfl⟩, hw⟩
  · refine wm_aload_n hC 0 dX12_placeOf_15 rfl (k_ne0 kk_159 (by decide)) ?_
    refine x_getR3 hC 47 fl_X12_156 rfl kk_159 (rf_159_47 hRF) dX12_placeOf_16 ?_
    refine wm_iload_n hC 2 dX12_placeOf_19 rfl ?_
    refine x_iald2 hC kk_187 kn_187 dX12_placeOf_20 hw (fun hw => ?_)
    refine wm_iload_n hC 1 dX12_placeOf_21 rfl ?_
    refine wm_icmp_ne (tgt := 27) hC dX12_placeOf_22 (by decide) hw (fun hw => ?_) (fun hw => ?_)
    · refine wm_iload_n hC 2 dX12_placeOf_25 rfl ?_
      exact wm_ireturn hC hE dX12_placeOf_26 ⟨⟨rfl, rfl, rfl⟩, hw⟩
    · refine x_iinc hC 2 dX12_placeOf_27 rfl (by decide) (L2 := [(2, vi (l2 + 1)), (0, vr 159), (1, vi l1)]) rfl hw (fun hw => ?_)
      refine wm_goto (tgt := 2) hC dX12_placeOf_30 (by decide) ?_
      refine wm_sub [1, 2, 0] (L2 := [(0, vr 159), (1, vi l1), (2, vi (l2 + 1))]) rfl ?_
      exact kk2 _ hw
set_option maxRecDepth 20000 in
theorem w12_placeOf_b2 {C : wX} {ad : Nat → Nat} {n : Nat} {I : mI} {J : mI} {R : mR} {Q : Int → Prop} (hC : wOK C cX12_placeOf 3 RX12) (hRm : wRm C 1 12 0 0) (hE : wEnd C (some .int) ad n (fun r I' J' R' => (I' = I ∧ J' = J ∧ R' = R) ∧ Q r)) (hRF : RF R) {l1 : Int}     : ∀ (f : Nat) (l2 : Int), p12_placeOf_b2 l1 I Q f l2 → WM C ad n I J R 0 0 2 [(0, vr 159), (1, vi l1), (2, vi l2)] [] := by
  intro f
  induction f with
  | zero => intro l2 hw; exact hw.elim
  | succ f ih => intro l2 hw; exact w12_placeOf_b2_body hC hRm hE hRF  (fun a0 aw => ih a0 aw) hw
def p12_placeOf (l1 : Int) (I : mI) (Q : Int → Prop) : Prop := (∃ f, p12_placeOf_b2 l1 I Q f 0)
set_option maxRecDepth 20000 in
theorem c12_placeOf {ad : Nat → Nat} {n : Nat} {I J : mI} {R : mR} {Q : Int → Prop}  (hRF : RF R) {l1 : Int}   (hw : p12_placeOf l1 I Q) : wMet yX12_placeOf cX12_placeOf 3 (some .int) 1 12 false ad n I J R [vr 159, vi l1] (fun r I' J' R' => (I' = I ∧ J' = J ∧ R' = R) ∧ Q r) := by
  refine wMet_of (by decide) (Nat.le_of_ble_eq_true rfl) (fun C hC hRm hE hS => ?_)
  refine (show WM C ad n I J R 0 0 0 [(0, vr 159), (1, vi l1)] [] from ?_)
  unfold p12_placeOf at hw
  refine wm_iconst hC dX12_placeOf_0 (k := ?_)
  refine wm_istore_n hC dX12_placeOf_1 (by decide) (L2 := [(2, vi 0), (0, vr 159), (1, vi l1)]) rfl ?_
  obtain ⟨f, hw⟩ := hw
  refine wm_sub [1, 2, 0] (L2 := [(0, vr 159), (1, vi l1), (2, vi 0)]) rfl ?_
  exact w12_placeOf_b2 hC hRm hE hRF  f _ hw
def p12_blind (l1 : Int) (l2 : Int) (I : mI) (J : mI) (Q : Int → mI → mI → Prop) : Prop := (p12_isBlind l1 I (fun r1 => (if r1 = 0 then (Q (-1) I J) else (if l2 = 0 then (rg (18 * (I 159 13)) ∧ (rg (3 * l1) ∧ (rg ((18 * (I 159 13)) + (3 * l1)) ∧ (rg (((18 * (I 159 13)) + (3 * l1)) + l2) ∧ (((0 : Int) ≤ (((18 * (I 159 13)) + (3 * l1)) + l2) ∧ (((18 * (I 159 13)) + (3 * l1)) + l2) < (36 : Int)) ∧ (Q (I 162 (((18 * (I 159 13)) + (3 * l1)) + l2)) I J)))))) else (if l2 = 1 then (rg (18 * (I 159 13)) ∧ (rg (3 * l1) ∧ (rg ((18 * (I 159 13)) + (3 * l1)) ∧ (rg (((18 * (I 159 13)) + (3 * l1)) + l2) ∧ (((0 : Int) ≤ (((18 * (I 159 13)) + (3 * l1)) + l2) ∧ (((18 * (I 159 13)) + (3 * l1)) + l2) < (36 : Int)) ∧ (Q (I 162 (((18 * (I 159 13)) + (3 * l1)) + l2)) I J)))))) else (if l2 = 2 then (rg (18 * (I 159 13)) ∧ (rg (3 * l1) ∧ (rg ((18 * (I 159 13)) + (3 * l1)) ∧ (rg (((18 * (I 159 13)) + (3 * l1)) + l2) ∧ (((0 : Int) ≤ (((18 * (I 159 13)) + (3 * l1)) + l2) ∧ (((18 * (I 159 13)) + (3 * l1)) + l2) < (36 : Int)) ∧ (Q (I 162 (((18 * (I 159 13)) + (3 * l1)) + l2)) I J)))))) else (if l2 = 3 then (((0 : Int) ≤ (I 159 13) ∧ (I 159 13) < (2 : Int)) ∧ (p12_has2 (I 163 (I 159 13)) l1 (fun r2 => (if r2 = 0 then (Q 0 I J) else (Q 1 I J))))) else (if l2 = 4 then (((0 : Int) ≤ l1 ∧ l1 < (132 : Int)) ∧ (Q (I 188 l1) I J)) else (if l2 = 5 then (p12_placeOf l1 I (fun r3 => (Q r3 I J))) else (if l2 = 6 then (p12_isCounting 0 l1 I J (fun r4 I1 J1 => (if r4 = 0 then (Q 0 I1 J1) else (Q 1 I1 J1)))) else (Q (-1) I J)))))))))))
set_option maxRecDepth 20000 in
theorem c12_blind {ad : Nat → Nat} {n : Nat} {I J : mI} {R : mR} {Q : Int → mI → mI → Prop}  (hRF : RF R) {l1 : Int} {l2 : Int}    (hw : p12_blind l1 l2 I J Q) : wMet yX12_blind cX12_blind 3 (some .int) 5 107 false ad n I J R [vr 159, vi l1, vi l2] (fun r I' J' R' => (R' = R) ∧ Q r I' J') := by
  refine wMet_of (by decide) (Nat.le_of_ble_eq_true rfl) (fun C hC hRm hE hS => ?_)
  refine (show WM C ad n I J R 0 0 0 [(0, vr 159), (1, vi l1), (2, vi l2)] [] from ?_)
  unfold p12_blind at hw
  refine wm_aload_n hC 0 dX12_blind_0 rfl (k_ne0 kk_159 (by decide)) ?_
  refine wm_iload_n hC 1 dX12_blind_1 rfl ?_
  refine y_callV_z_n hC hRm noS ml_X12_507 kk_159 (c12_isBlind hRF  hw) (Nat.le_of_ble_eq_true rfl) (Nat.le_of_ble_eq_true rfl) ⟨Nat.zero_le _, Nat.zero_le _⟩ rfl (st := []) rfl (Nat.le_of_ble_eq_true rfl) dX12_blind_2 (fun r1 hw => ?_)
  refine wm_if_ne (tgt := 10) hC dX12_blind_5 (by decide) hw (fun hw => ?_) (fun hw => ?_)
  · refine wm_iconst hC dX12_blind_8 (k := ?_)
    exact wm_ireturn hC hE dX12_blind_9 ⟨rfl, hw⟩
  · refine wm_iload_n hC 2 dX12_blind_10 rfl ?_
    by_cases hc1 : l2 = 0
    · rw [if_pos hc1] at hw
      refine wm_tableIn (v := 0) (tgt := 52) hC dX12_blind_11 hc1 (by decide) (by decide) rfl rfl ?_
      refine wm_aload_n hC 0 dX12_blind_52 rfl (k_ne0 kk_159 (by decide)) ?_
      refine x_getR3 hC 15 fl_X12_57 rfl kk_159 (rf_159_15 hRF) dX12_blind_53 ?_
      refine wm_bipush hC dX12_blind_56 (k := ?_)
      refine wm_aload_n hC 0 dX12_blind_58 rfl (k_ne0 kk_159 (by decide)) ?_
      refine x_getI hC 13 fl_X12_51 rfl kk_159 dX12_blind_59 ?_
      refine x_imul hC dX12_blind_62 hw (fun hw => ?_)
      refine wm_iconst hC dX12_blind_63 (k := ?_)
      refine wm_iload_n hC 1 dX12_blind_64 rfl ?_
      refine x_imul hC dX12_blind_65 hw (fun hw => ?_)
      refine x_iadd hC dX12_blind_66 hw (fun hw => ?_)
      refine wm_iload_n hC 2 dX12_blind_67 rfl ?_
      refine x_iadd hC dX12_blind_68 hw (fun hw => ?_)
      refine x_iald2 hC kk_162 kn_162 dX12_blind_69 hw (fun hw => ?_)
      exact wm_ireturn hC hE dX12_blind_70 ⟨rfl, hw⟩
    rw [if_neg hc1] at hw
    by_cases hc2 : l2 = 1
    · rw [if_pos hc2] at hw
      refine wm_tableIn (v := 1) (tgt := 52) hC dX12_blind_11 hc2 (by decide) (by decide) rfl rfl ?_
      refine wm_aload_n hC 0 dX12_blind_52 rfl (k_ne0 kk_159 (by decide)) ?_
      refine x_getR3 hC 15 fl_X12_57 rfl kk_159 (rf_159_15 hRF) dX12_blind_53 ?_
      refine wm_bipush hC dX12_blind_56 (k := ?_)
      refine wm_aload_n hC 0 dX12_blind_58 rfl (k_ne0 kk_159 (by decide)) ?_
      refine x_getI hC 13 fl_X12_51 rfl kk_159 dX12_blind_59 ?_
      refine x_imul hC dX12_blind_62 hw (fun hw => ?_)
      refine wm_iconst hC dX12_blind_63 (k := ?_)
      refine wm_iload_n hC 1 dX12_blind_64 rfl ?_
      refine x_imul hC dX12_blind_65 hw (fun hw => ?_)
      refine x_iadd hC dX12_blind_66 hw (fun hw => ?_)
      refine wm_iload_n hC 2 dX12_blind_67 rfl ?_
      refine x_iadd hC dX12_blind_68 hw (fun hw => ?_)
      refine x_iald2 hC kk_162 kn_162 dX12_blind_69 hw (fun hw => ?_)
      exact wm_ireturn hC hE dX12_blind_70 ⟨rfl, hw⟩
    rw [if_neg hc2] at hw
    by_cases hc3 : l2 = 2
    · rw [if_pos hc3] at hw
      refine wm_tableIn (v := 2) (tgt := 52) hC dX12_blind_11 hc3 (by decide) (by decide) rfl rfl ?_
      refine wm_aload_n hC 0 dX12_blind_52 rfl (k_ne0 kk_159 (by decide)) ?_
      refine x_getR3 hC 15 fl_X12_57 rfl kk_159 (rf_159_15 hRF) dX12_blind_53 ?_
      refine wm_bipush hC dX12_blind_56 (k := ?_)
      refine wm_aload_n hC 0 dX12_blind_58 rfl (k_ne0 kk_159 (by decide)) ?_
      refine x_getI hC 13 fl_X12_51 rfl kk_159 dX12_blind_59 ?_
      refine x_imul hC dX12_blind_62 hw (fun hw => ?_)
      refine wm_iconst hC dX12_blind_63 (k := ?_)
      refine wm_iload_n hC 1 dX12_blind_64 rfl ?_
      refine x_imul hC dX12_blind_65 hw (fun hw => ?_)
      refine x_iadd hC dX12_blind_66 hw (fun hw => ?_)
      refine wm_iload_n hC 2 dX12_blind_67 rfl ?_
      refine x_iadd hC dX12_blind_68 hw (fun hw => ?_)
      refine x_iald2 hC kk_162 kn_162 dX12_blind_69 hw (fun hw => ?_)
      exact wm_ireturn hC hE dX12_blind_70 ⟨rfl, hw⟩
    rw [if_neg hc3] at hw
    by_cases hc4 : l2 = 3
    · rw [if_pos hc4] at hw
      refine wm_tableIn (v := 3) (tgt := 71) hC dX12_blind_11 hc4 (by decide) (by decide) rfl rfl ?_
      refine wm_aload_n hC 0 dX12_blind_71 rfl (k_ne0 kk_159 (by decide)) ?_
      refine x_getR3 hC 16 fl_X12_60 rfl kk_159 (rf_159_16 hRF) dX12_blind_72 ?_
      refine wm_aload_n hC 0 dX12_blind_75 rfl (k_ne0 kk_159 (by decide)) ?_
      refine x_getI hC 13 fl_X12_51 rfl kk_159 dX12_blind_76 ?_
      refine x_iald2 hC kk_163 kn_163 dX12_blind_79 hw (fun hw => ?_)
      refine wm_iload_n hC 1 dX12_blind_80 rfl ?_
      refine y_callS_z_n hC hRm noS ml_X12_351 (c12_has2 hRF  hw) (Nat.le_of_ble_eq_true rfl) (Nat.le_of_ble_eq_true rfl) ⟨Nat.zero_le _, Nat.zero_le _⟩ rfl (st := []) rfl (Nat.le_of_ble_eq_true rfl) dX12_blind_81 (fun r2 hw => ?_)
      refine wm_if_eq (tgt := 91) hC dX12_blind_84 (by decide) hw (fun hw => ?_) (fun hw => ?_)
      · refine wm_iconst hC dX12_blind_91 (k := ?_)
        exact wm_ireturn hC hE dX12_blind_92 ⟨rfl, hw⟩
      · refine wm_iconst hC dX12_blind_87 (k := ?_)
        refine wm_goto (tgt := 92) hC dX12_blind_88 (by decide) ?_
        exact wm_ireturn hC hE dX12_blind_92 ⟨rfl, hw⟩
    rw [if_neg hc4] at hw
    by_cases hc5 : l2 = 4
    · rw [if_pos hc5] at hw
      refine wm_tableIn (v := 4) (tgt := 93) hC dX12_blind_11 hc5 (by decide) (by decide) rfl rfl ?_
      refine wm_aload_n hC 0 dX12_blind_93 rfl (k_ne0 kk_159 (by decide)) ?_
      refine x_getR3 hC 48 fl_X12_159 rfl kk_159 (rf_159_48 hRF) dX12_blind_94 ?_
      refine wm_iload_n hC 1 dX12_blind_97 rfl ?_
      refine x_iald2 hC kk_188 kn_188 dX12_blind_98 hw (fun hw => ?_)
      exact wm_ireturn hC hE dX12_blind_99 ⟨rfl, hw⟩
    rw [if_neg hc5] at hw
    by_cases hc6 : l2 = 5
    · rw [if_pos hc6] at hw
      refine wm_tableIn (v := 5) (tgt := 100) hC dX12_blind_11 hc6 (by decide) (by decide) rfl rfl ?_
      refine wm_aload_n hC 0 dX12_blind_100 rfl (k_ne0 kk_159 (by decide)) ?_
      refine wm_iload_n hC 1 dX12_blind_101 rfl ?_
      refine y_callV_i_n hC hRm noS ml_X12_518 kk_159 (c12_placeOf hRF  hw) (Nat.le_of_ble_eq_true rfl) (Nat.le_of_ble_eq_true rfl) ⟨Nat.zero_le _, Nat.zero_le _⟩ rfl (st := []) rfl (Nat.le_of_ble_eq_true rfl) dX12_blind_102 (fun r3 hw => ?_)
      exact wm_ireturn hC hE dX12_blind_105 ⟨rfl, hw⟩
    rw [if_neg hc6] at hw
    by_cases hc7 : l2 = 6
    · rw [if_pos hc7] at hw
      refine wm_tableIn (v := 6) (tgt := 106) hC dX12_blind_11 hc7 (by decide) (by decide) rfl rfl ?_
      refine wm_aload_n hC 0 dX12_blind_106 rfl (k_ne0 kk_159 (by decide)) ?_
      refine wm_iconst hC dX12_blind_107 (k := ?_)
      refine wm_iload_n hC 1 dX12_blind_108 rfl ?_
      refine y_callV_z_IJ hC hRm noS ml_X12_473 kk_159 (c12_isCounting hRF  hw) (Nat.le_of_ble_eq_true rfl) (Nat.le_of_ble_eq_true rfl) ⟨Nat.zero_le _, Nat.zero_le _⟩ rfl (st := []) rfl (Nat.le_of_ble_eq_true rfl) dX12_blind_109 (fun r4 I1 J1 hw => ?_)
      refine wm_if_eq (tgt := 119) hC dX12_blind_112 (by decide) hw (fun hw => ?_) (fun hw => ?_)
      · refine wm_iconst hC dX12_blind_119 (k := ?_)
        exact wm_ireturn hC hE dX12_blind_120 ⟨rfl, hw⟩
      · refine wm_iconst hC dX12_blind_115 (k := ?_)
        refine wm_goto (tgt := 120) hC dX12_blind_116 (by decide) ?_
        exact wm_ireturn hC hE dX12_blind_120 ⟨rfl, hw⟩
    rw [if_neg hc7] at hw
    refine wm_tableOut (tgt := 121) hC dX12_blind_11 (by omega) rfl ?_
    refine wm_iconst hC dX12_blind_121 (k := ?_)
    exact wm_ireturn hC hE dX12_blind_122 ⟨rfl, hw⟩
def p12_isOwn (l1 : Int) (Q : Int → Prop) : Prop := (if l1 = 422725643876 then (Q 1) else (if l1 = 2002874989 then (Q 1) else (if l1 = 1819243876 then (Q 1) else (if l1 = 1684366704 then (Q 1) else (if l1 = 109330211763570 then (Q 1) else (if l1 = 1668248436 then (Q 1) else (if l1 = 499967946343 then (Q 1) else (if l1 = 1818326117 then (Q 1) else (if l1 = 1852137842 then (Q 1) else (if l1 = 512801993331 then (Q 1) else (if l1 = 483006772069 then (Q 1) else (if l1 = 7499639 then (Q 1) else (if l1 = 126870908724595 then (Q 1) else (if l1 = 109330362692723 then (Q 1) else (if l1 = 444150998387 then (Q 1) else (if l1 = 2036687218 then (Q 1) else (if l1 = 1836019556 then (Q 1) else (if l1 = 469786452840 then (Q 1) else (if l1 = 2003792494 then (Q 1) else (if l1 = 448377483876 then (Q 1) else (if l1 = 1650553445 then (Q 1) else (if l1 = 26982 then (Q 1) else (if l1 = 28530 then (Q 1) else (if l1 = 6385252 then (Q 1) else (if l1 = 7237492 then (Q 1) else (if l1 = 6384748 then (Q 1) else (if l1 = 7170414 then (Q 1) else (if l1 = 7168376 then (Q 1) else (Q 0)))))))))))))))))))))))))))))
set_option maxRecDepth 20000 in
theorem c12_isOwn {ad : Nat → Nat} {n : Nat} {I J : mI} {R : mR} {Q : Int → Prop}  (hRF : RF R) {l1 : Int}   (hw : p12_isOwn l1 Q) : wMet yX12_isOwn cX12_isOwn 3 (some .boolean) 1 12 false ad n I J R [vr 159, vl l1] (fun r I' J' R' => (I' = I ∧ J' = J ∧ R' = R) ∧ Q r) := by
  refine wMet_of (by decide) (Nat.le_of_ble_eq_true rfl) (fun C hC hRm hE hS => ?_)
  refine (show WM C ad n I J R 0 0 0 [(0, vr 159), (1, vl l1)] [] from ?_)
  unfold p12_isOwn at hw
  refine wm_lload_n hC 1 dX12_isOwn_0 rfl ?_
  refine wm_ldc2 hC (x := 422725643876) tc_X12_250 rfl dX12_isOwn_1 (k := ?_)
  refine wm_lcmp_eq (tgt := 40) hC dX12_isOwn_4 dX12_isOwn_5 (by decide) hw (fun hw => ?_) (fun hw => ?_)
  · refine wm_iconst hC dX12_isOwn_40 (k := ?_)
    exact wm_zreturn hC hE (Or.inr rfl) dX12_isOwn_41 ⟨⟨rfl, rfl, rfl⟩, hw⟩
  · refine wm_lload_n hC 1 dX12_isOwn_8 rfl ?_
    refine wm_ldc2 hC (x := 2002874989) tc_X12_252 rfl dX12_isOwn_9 (k := ?_)
    refine wm_lcmp_eq (tgt := 40) hC dX12_isOwn_12 dX12_isOwn_13 (by decide) hw (fun hw => ?_) (fun hw => ?_)
    · refine wm_iconst hC dX12_isOwn_40 (k := ?_)
      exact wm_zreturn hC hE (Or.inr rfl) dX12_isOwn_41 ⟨⟨rfl, rfl, rfl⟩, hw⟩
    · refine wm_lload_n hC 1 dX12_isOwn_16 rfl ?_
      refine wm_ldc2 hC (x := 1819243876) tc_X12_254 rfl dX12_isOwn_17 (k := ?_)
      refine wm_lcmp_eq (tgt := 40) hC dX12_isOwn_20 dX12_isOwn_21 (by decide) hw (fun hw => ?_) (fun hw => ?_)
      · refine wm_iconst hC dX12_isOwn_40 (k := ?_)
        exact wm_zreturn hC hE (Or.inr rfl) dX12_isOwn_41 ⟨⟨rfl, rfl, rfl⟩, hw⟩
      · refine wm_lload_n hC 1 dX12_isOwn_24 rfl ?_
        refine wm_ldc2 hC (x := 1684366704) tc_X12_256 rfl dX12_isOwn_25 (k := ?_)
        refine wm_lcmp_eq (tgt := 40) hC dX12_isOwn_28 dX12_isOwn_29 (by decide) hw (fun hw => ?_) (fun hw => ?_)
        · refine wm_iconst hC dX12_isOwn_40 (k := ?_)
          exact wm_zreturn hC hE (Or.inr rfl) dX12_isOwn_41 ⟨⟨rfl, rfl, rfl⟩, hw⟩
        · refine wm_lload_n hC 1 dX12_isOwn_32 rfl ?_
          refine wm_ldc2 hC (x := 109330211763570) tc_X12_258 rfl dX12_isOwn_33 (k := ?_)
          refine wm_lcmp_ne (tgt := 42) hC dX12_isOwn_36 dX12_isOwn_37 (by decide) hw (fun hw => ?_) (fun hw => ?_)
          · refine wm_iconst hC dX12_isOwn_40 (k := ?_)
            exact wm_zreturn hC hE (Or.inr rfl) dX12_isOwn_41 ⟨⟨rfl, rfl, rfl⟩, hw⟩
          · refine wm_lload_n hC 1 dX12_isOwn_42 rfl ?_
            refine wm_ldc2 hC (x := 1668248436) tc_X12_260 rfl dX12_isOwn_43 (k := ?_)
            refine wm_lcmp_eq (tgt := 82) hC dX12_isOwn_46 dX12_isOwn_47 (by decide) hw (fun hw => ?_) (fun hw => ?_)
            · refine wm_iconst hC dX12_isOwn_82 (k := ?_)
              exact wm_zreturn hC hE (Or.inr rfl) dX12_isOwn_83 ⟨⟨rfl, rfl, rfl⟩, hw⟩
            · refine wm_lload_n hC 1 dX12_isOwn_50 rfl ?_
              refine wm_ldc2 hC (x := 499967946343) tc_X12_262 rfl dX12_isOwn_51 (k := ?_)
              refine wm_lcmp_eq (tgt := 82) hC dX12_isOwn_54 dX12_isOwn_55 (by decide) hw (fun hw => ?_) (fun hw => ?_)
              · refine wm_iconst hC dX12_isOwn_82 (k := ?_)
                exact wm_zreturn hC hE (Or.inr rfl) dX12_isOwn_83 ⟨⟨rfl, rfl, rfl⟩, hw⟩
              · refine wm_lload_n hC 1 dX12_isOwn_58 rfl ?_
                refine wm_ldc2 hC (x := 1818326117) tc_X12_264 rfl dX12_isOwn_59 (k := ?_)
                refine wm_lcmp_eq (tgt := 82) hC dX12_isOwn_62 dX12_isOwn_63 (by decide) hw (fun hw => ?_) (fun hw => ?_)
                · refine wm_iconst hC dX12_isOwn_82 (k := ?_)
                  exact wm_zreturn hC hE (Or.inr rfl) dX12_isOwn_83 ⟨⟨rfl, rfl, rfl⟩, hw⟩
                · refine wm_lload_n hC 1 dX12_isOwn_66 rfl ?_
                  refine wm_ldc2 hC (x := 1852137842) tc_X12_266 rfl dX12_isOwn_67 (k := ?_)
                  refine wm_lcmp_eq (tgt := 82) hC dX12_isOwn_70 dX12_isOwn_71 (by decide) hw (fun hw => ?_) (fun hw => ?_)
                  · refine wm_iconst hC dX12_isOwn_82 (k := ?_)
                    exact wm_zreturn hC hE (Or.inr rfl) dX12_isOwn_83 ⟨⟨rfl, rfl, rfl⟩, hw⟩
                  · refine wm_lload_n hC 1 dX12_isOwn_74 rfl ?_
                    refine wm_ldc2 hC (x := 512801993331) tc_X12_268 rfl dX12_isOwn_75 (k := ?_)
                    refine wm_lcmp_ne (tgt := 84) hC dX12_isOwn_78 dX12_isOwn_79 (by decide) hw (fun hw => ?_) (fun hw => ?_)
                    · refine wm_iconst hC dX12_isOwn_82 (k := ?_)
                      exact wm_zreturn hC hE (Or.inr rfl) dX12_isOwn_83 ⟨⟨rfl, rfl, rfl⟩, hw⟩
                    · refine wm_lload_n hC 1 dX12_isOwn_84 rfl ?_
                      refine wm_ldc2 hC (x := 483006772069) tc_X12_270 rfl dX12_isOwn_85 (k := ?_)
                      refine wm_lcmp_eq (tgt := 124) hC dX12_isOwn_88 dX12_isOwn_89 (by decide) hw (fun hw => ?_) (fun hw => ?_)
                      · refine wm_iconst hC dX12_isOwn_124 (k := ?_)
                        exact wm_zreturn hC hE (Or.inr rfl) dX12_isOwn_125 ⟨⟨rfl, rfl, rfl⟩, hw⟩
                      · refine wm_lload_n hC 1 dX12_isOwn_92 rfl ?_
                        refine wm_ldc2 hC (x := 7499639) tc_X12_272 rfl dX12_isOwn_93 (k := ?_)
                        refine wm_lcmp_eq (tgt := 124) hC dX12_isOwn_96 dX12_isOwn_97 (by decide) hw (fun hw => ?_) (fun hw => ?_)
                        · refine wm_iconst hC dX12_isOwn_124 (k := ?_)
                          exact wm_zreturn hC hE (Or.inr rfl) dX12_isOwn_125 ⟨⟨rfl, rfl, rfl⟩, hw⟩
                        · refine wm_lload_n hC 1 dX12_isOwn_100 rfl ?_
                          refine wm_ldc2 hC (x := 126870908724595) tc_X12_274 rfl dX12_isOwn_101 (k := ?_)
                          refine wm_lcmp_eq (tgt := 124) hC dX12_isOwn_104 dX12_isOwn_105 (by decide) hw (fun hw => ?_) (fun hw => ?_)
                          · refine wm_iconst hC dX12_isOwn_124 (k := ?_)
                            exact wm_zreturn hC hE (Or.inr rfl) dX12_isOwn_125 ⟨⟨rfl, rfl, rfl⟩, hw⟩
                          · refine wm_lload_n hC 1 dX12_isOwn_108 rfl ?_
                            refine wm_ldc2 hC (x := 109330362692723) tc_X12_276 rfl dX12_isOwn_109 (k := ?_)
                            refine wm_lcmp_eq (tgt := 124) hC dX12_isOwn_112 dX12_isOwn_113 (by decide) hw (fun hw => ?_) (fun hw => ?_)
                            · refine wm_iconst hC dX12_isOwn_124 (k := ?_)
                              exact wm_zreturn hC hE (Or.inr rfl) dX12_isOwn_125 ⟨⟨rfl, rfl, rfl⟩, hw⟩
                            · refine wm_lload_n hC 1 dX12_isOwn_116 rfl ?_
                              refine wm_ldc2 hC (x := 444150998387) tc_X12_278 rfl dX12_isOwn_117 (k := ?_)
                              refine wm_lcmp_ne (tgt := 126) hC dX12_isOwn_120 dX12_isOwn_121 (by decide) hw (fun hw => ?_) (fun hw => ?_)
                              · refine wm_iconst hC dX12_isOwn_124 (k := ?_)
                                exact wm_zreturn hC hE (Or.inr rfl) dX12_isOwn_125 ⟨⟨rfl, rfl, rfl⟩, hw⟩
                              · refine wm_lload_n hC 1 dX12_isOwn_126 rfl ?_
                                refine wm_ldc2 hC (x := 2036687218) tc_X12_280 rfl dX12_isOwn_127 (k := ?_)
                                refine wm_lcmp_eq (tgt := 166) hC dX12_isOwn_130 dX12_isOwn_131 (by decide) hw (fun hw => ?_) (fun hw => ?_)
                                · refine wm_iconst hC dX12_isOwn_166 (k := ?_)
                                  exact wm_zreturn hC hE (Or.inr rfl) dX12_isOwn_167 ⟨⟨rfl, rfl, rfl⟩, hw⟩
                                · refine wm_lload_n hC 1 dX12_isOwn_134 rfl ?_
                                  refine wm_ldc2 hC (x := 1836019556) tc_X12_282 rfl dX12_isOwn_135 (k := ?_)
                                  refine wm_lcmp_eq (tgt := 166) hC dX12_isOwn_138 dX12_isOwn_139 (by decide) hw (fun hw => ?_) (fun hw => ?_)
                                  · refine wm_iconst hC dX12_isOwn_166 (k := ?_)
                                    exact wm_zreturn hC hE (Or.inr rfl) dX12_isOwn_167 ⟨⟨rfl, rfl, rfl⟩, hw⟩
                                  · refine wm_lload_n hC 1 dX12_isOwn_142 rfl ?_
                                    refine wm_ldc2 hC (x := 469786452840) tc_X12_284 rfl dX12_isOwn_143 (k := ?_)
                                    refine wm_lcmp_eq (tgt := 166) hC dX12_isOwn_146 dX12_isOwn_147 (by decide) hw (fun hw => ?_) (fun hw => ?_)
                                    · refine wm_iconst hC dX12_isOwn_166 (k := ?_)
                                      exact wm_zreturn hC hE (Or.inr rfl) dX12_isOwn_167 ⟨⟨rfl, rfl, rfl⟩, hw⟩
                                    · refine wm_lload_n hC 1 dX12_isOwn_150 rfl ?_
                                      refine wm_ldc2 hC (x := 2003792494) tc_X12_286 rfl dX12_isOwn_151 (k := ?_)
                                      refine wm_lcmp_eq (tgt := 166) hC dX12_isOwn_154 dX12_isOwn_155 (by decide) hw (fun hw => ?_) (fun hw => ?_)
                                      · refine wm_iconst hC dX12_isOwn_166 (k := ?_)
                                        exact wm_zreturn hC hE (Or.inr rfl) dX12_isOwn_167 ⟨⟨rfl, rfl, rfl⟩, hw⟩
                                      · refine wm_lload_n hC 1 dX12_isOwn_158 rfl ?_
                                        refine wm_ldc2 hC (x := 448377483876) tc_X12_288 rfl dX12_isOwn_159 (k := ?_)
                                        refine wm_lcmp_ne (tgt := 168) hC dX12_isOwn_162 dX12_isOwn_163 (by decide) hw (fun hw => ?_) (fun hw => ?_)
                                        · refine wm_iconst hC dX12_isOwn_166 (k := ?_)
                                          exact wm_zreturn hC hE (Or.inr rfl) dX12_isOwn_167 ⟨⟨rfl, rfl, rfl⟩, hw⟩
                                        · refine wm_lload_n hC 1 dX12_isOwn_168 rfl ?_
                                          refine wm_ldc2 hC (x := 1650553445) tc_X12_290 rfl dX12_isOwn_169 (k := ?_)
                                          refine wm_lcmp_eq (tgt := 208) hC dX12_isOwn_172 dX12_isOwn_173 (by decide) hw (fun hw => ?_) (fun hw => ?_)
                                          · refine wm_iconst hC dX12_isOwn_208 (k := ?_)
                                            exact wm_zreturn hC hE (Or.inr rfl) dX12_isOwn_209 ⟨⟨rfl, rfl, rfl⟩, hw⟩
                                          · refine wm_lload_n hC 1 dX12_isOwn_176 rfl ?_
                                            refine wm_ldc2 hC (x := 26982) tc_X12_292 rfl dX12_isOwn_177 (k := ?_)
                                            refine wm_lcmp_eq (tgt := 208) hC dX12_isOwn_180 dX12_isOwn_181 (by decide) hw (fun hw => ?_) (fun hw => ?_)
                                            · refine wm_iconst hC dX12_isOwn_208 (k := ?_)
                                              exact wm_zreturn hC hE (Or.inr rfl) dX12_isOwn_209 ⟨⟨rfl, rfl, rfl⟩, hw⟩
                                            · refine wm_lload_n hC 1 dX12_isOwn_184 rfl ?_
                                              refine wm_ldc2 hC (x := 28530) tc_X12_294 rfl dX12_isOwn_185 (k := ?_)
                                              refine wm_lcmp_eq (tgt := 208) hC dX12_isOwn_188 dX12_isOwn_189 (by decide) hw (fun hw => ?_) (fun hw => ?_)
                                              · refine wm_iconst hC dX12_isOwn_208 (k := ?_)
                                                exact wm_zreturn hC hE (Or.inr rfl) dX12_isOwn_209 ⟨⟨rfl, rfl, rfl⟩, hw⟩
                                              · refine wm_lload_n hC 1 dX12_isOwn_192 rfl ?_
                                                refine wm_ldc2 hC (x := 6385252) tc_X12_296 rfl dX12_isOwn_193 (k := ?_)
                                                refine wm_lcmp_eq (tgt := 208) hC dX12_isOwn_196 dX12_isOwn_197 (by decide) hw (fun hw => ?_) (fun hw => ?_)
                                                · refine wm_iconst hC dX12_isOwn_208 (k := ?_)
                                                  exact wm_zreturn hC hE (Or.inr rfl) dX12_isOwn_209 ⟨⟨rfl, rfl, rfl⟩, hw⟩
                                                · refine wm_lload_n hC 1 dX12_isOwn_200 rfl ?_
                                                  refine wm_ldc2 hC (x := 7237492) tc_X12_298 rfl dX12_isOwn_201 (k := ?_)
                                                  refine wm_lcmp_ne (tgt := 210) hC dX12_isOwn_204 dX12_isOwn_205 (by decide) hw (fun hw => ?_) (fun hw => ?_)
                                                  · refine wm_iconst hC dX12_isOwn_208 (k := ?_)
                                                    exact wm_zreturn hC hE (Or.inr rfl) dX12_isOwn_209 ⟨⟨rfl, rfl, rfl⟩, hw⟩
                                                  · refine wm_lload_n hC 1 dX12_isOwn_210 rfl ?_
                                                    refine wm_ldc2 hC (x := 6384748) tc_X12_300 rfl dX12_isOwn_211 (k := ?_)
                                                    refine wm_lcmp_eq (tgt := 234) hC dX12_isOwn_214 dX12_isOwn_215 (by decide) hw (fun hw => ?_) (fun hw => ?_)
                                                    · refine wm_iconst hC dX12_isOwn_234 (k := ?_)
                                                      exact wm_zreturn hC hE (Or.inr rfl) dX12_isOwn_235 ⟨⟨rfl, rfl, rfl⟩, hw⟩
                                                    · refine wm_lload_n hC 1 dX12_isOwn_218 rfl ?_
                                                      refine wm_ldc2 hC (x := 7170414) tc_X12_302 rfl dX12_isOwn_219 (k := ?_)
                                                      refine wm_lcmp_eq (tgt := 234) hC dX12_isOwn_222 dX12_isOwn_223 (by decide) hw (fun hw => ?_) (fun hw => ?_)
                                                      · refine wm_iconst hC dX12_isOwn_234 (k := ?_)
                                                        exact wm_zreturn hC hE (Or.inr rfl) dX12_isOwn_235 ⟨⟨rfl, rfl, rfl⟩, hw⟩
                                                      · refine wm_lload_n hC 1 dX12_isOwn_226 rfl ?_
                                                        refine wm_ldc2 hC (x := 7168376) tc_X12_304 rfl dX12_isOwn_227 (k := ?_)
                                                        refine wm_lcmp_ne (tgt := 236) hC dX12_isOwn_230 dX12_isOwn_231 (by decide) hw (fun hw => ?_) (fun hw => ?_)
                                                        · refine wm_iconst hC dX12_isOwn_234 (k := ?_)
                                                          exact wm_zreturn hC hE (Or.inr rfl) dX12_isOwn_235 ⟨⟨rfl, rfl, rfl⟩, hw⟩
                                                        · refine wm_iconst hC dX12_isOwn_236 (k := ?_)
                                                          exact wm_zreturn hC hE (Or.inl rfl) dX12_isOwn_237 ⟨⟨rfl, rfl, rfl⟩, hw⟩
def p12_lex (I : mI) (Q : mI → Prop) : Prop := (if (I 159 12) = (-1) then (Q I) else (p12_blame 1 (I 159 12) I (fun I1 => (Q I1))))
set_option maxRecDepth 20000 in
theorem c12_lex {ad : Nat → Nat} {n : Nat} {I J : mI} {R : mR} {Q : mI → Prop}  (hRF : RF R)   (hw : p12_lex I Q) : wMet yX12_lex cX12_lex 1 none 2 34 false ad n I J R [vr 159] (fun _ I' J' R' => (J' = J ∧ R' = R) ∧ Q I') := by
  refine wMet_of (by decide) (Nat.le_of_ble_eq_true rfl) (fun C hC hRm hE hS => ?_)
  refine (show WM C ad n I J R 0 0 0 [(0, vr 159)] [] from ?_)
  unfold p12_lex at hw
  refine wm_aload_n hC 0 dX12_lex_0 rfl (k_ne0 kk_159 (by decide)) ?_
  refine x_getI hC 12 fl_X12_48 rfl kk_159 dX12_lex_1 ?_
  refine wm_iconst hC dX12_lex_4 (k := ?_)
  refine wm_icmp_eq (tgt := 17) hC dX12_lex_5 (by decide) hw (fun hw => ?_) (fun hw => ?_)
  · exact wm_return hC hE dX12_lex_17 ⟨⟨rfl, rfl⟩, hw⟩
  · refine wm_aload_n hC 0 dX12_lex_8 rfl (k_ne0 kk_159 (by decide)) ?_
    refine wm_iconst hC dX12_lex_9 (k := ?_)
    refine wm_aload_n hC 0 dX12_lex_10 rfl (k_ne0 kk_159 (by decide)) ?_
    refine x_getI hC 12 fl_X12_48 rfl kk_159 dX12_lex_11 ?_
    refine y_callV_v_I hC hRm noS ml_X12_230 kk_159 (c12_blame hRF  hw) (Nat.le_of_ble_eq_true rfl) (Nat.le_of_ble_eq_true rfl) ⟨Nat.zero_le _, Nat.zero_le _⟩ rfl (st := []) rfl (Nat.le_of_ble_eq_true rfl) dX12_lex_14 (fun I1 hw => ?_)
    exact wm_return hC hE dX12_lex_17 ⟨⟨rfl, rfl⟩, hw⟩
def p12_manyOf (l1 : Int) (I : mI) (Q : Int → Prop) : Prop := (if l1 = 0 then (((0 : Int) ≤ (I 159 32) ∧ (I 159 32) < (2 : Int)) ∧ (Q (I 161 (I 159 32)))) else (if l1 = 1 then (((0 : Int) ≤ (I 159 32) ∧ (I 159 32) < (2 : Int)) ∧ (Q (I 164 (I 159 32)))) else (((0 : Int) ≤ (I 159 32) ∧ (I 159 32) < (2 : Int)) ∧ (Q (I 167 (I 159 32))))))
set_option maxRecDepth 20000 in
theorem c12_manyOf {ad : Nat → Nat} {n : Nat} {I J : mI} {R : mR} {Q : Int → Prop}  (hRF : RF R) {l1 : Int}   (hw : p12_manyOf l1 I Q) : wMet yX12_manyOf cX12_manyOf 2 (some .int) 1 12 false ad n I J R [vr 159, vi l1] (fun r I' J' R' => (I' = I ∧ J' = J ∧ R' = R) ∧ Q r) := by
  refine wMet_of (by decide) (Nat.le_of_ble_eq_true rfl) (fun C hC hRm hE hS => ?_)
  refine (show WM C ad n I J R 0 0 0 [(0, vr 159), (1, vi l1)] [] from ?_)
  unfold p12_manyOf at hw
  refine wm_iload_n hC 1 dX12_manyOf_0 rfl ?_
  refine wm_if_ne (tgt := 16) hC dX12_manyOf_1 (by decide) hw (fun hw => ?_) (fun hw => ?_)
  · refine wm_aload_n hC 0 dX12_manyOf_4 rfl (k_ne0 kk_159 (by decide)) ?_
    refine x_getR3 hC 14 fl_X12_54 rfl kk_159 (rf_159_14 hRF) dX12_manyOf_5 ?_
    refine wm_aload_n hC 0 dX12_manyOf_8 rfl (k_ne0 kk_159 (by decide)) ?_
    refine x_getI hC 32 fl_X12_109 rfl kk_159 dX12_manyOf_9 ?_
    refine x_iald2 hC kk_161 kn_161 dX12_manyOf_12 hw (fun hw => ?_)
    refine wm_goto (tgt := 42) hC dX12_manyOf_13 (by decide) ?_
    exact wm_ireturn hC hE dX12_manyOf_42 ⟨⟨rfl, rfl, rfl⟩, hw⟩
  · refine wm_iload_n hC 1 dX12_manyOf_16 rfl ?_
    refine wm_iconst hC dX12_manyOf_17 (k := ?_)
    refine wm_icmp_ne (tgt := 33) hC dX12_manyOf_18 (by decide) hw (fun hw => ?_) (fun hw => ?_)
    · refine wm_aload_n hC 0 dX12_manyOf_21 rfl (k_ne0 kk_159 (by decide)) ?_
      refine x_getR3 hC 17 fl_X12_63 rfl kk_159 (rf_159_17 hRF) dX12_manyOf_22 ?_
      refine wm_aload_n hC 0 dX12_manyOf_25 rfl (k_ne0 kk_159 (by decide)) ?_
      refine x_getI hC 32 fl_X12_109 rfl kk_159 dX12_manyOf_26 ?_
      refine x_iald2 hC kk_164 kn_164 dX12_manyOf_29 hw (fun hw => ?_)
      refine wm_goto (tgt := 42) hC dX12_manyOf_30 (by decide) ?_
      exact wm_ireturn hC hE dX12_manyOf_42 ⟨⟨rfl, rfl, rfl⟩, hw⟩
    · refine wm_aload_n hC 0 dX12_manyOf_33 rfl (k_ne0 kk_159 (by decide)) ?_
      refine x_getR3 hC 20 fl_X12_72 rfl kk_159 (rf_159_20 hRF) dX12_manyOf_34 ?_
      refine wm_aload_n hC 0 dX12_manyOf_37 rfl (k_ne0 kk_159 (by decide)) ?_
      refine x_getI hC 32 fl_X12_109 rfl kk_159 dX12_manyOf_38 ?_
      refine x_iald2 hC kk_167 kn_167 dX12_manyOf_41 hw (fun hw => ?_)
      exact wm_ireturn hC hE dX12_manyOf_42 ⟨⟨rfl, rfl, rfl⟩, hw⟩
def p12_named_b3_body (l1 : Int) (l2 : Int) (I : mI) (J : mI) (Q : Int → Prop) (k3 : Int → Prop) (l4 : Int) : Prop := (p12_manyOf l1 I (fun r1 => (if r1 ≤ l4 then (Q (-1)) else (rg (18 * (I 159 32)) ∧ (rg (6 * l1) ∧ (rg ((18 * (I 159 32)) + (6 * l1)) ∧ (rg (((18 * (I 159 32)) + (6 * l1)) + l4) ∧ (((0 : Int) ≤ (((18 * (I 159 32)) + (6 * l1)) + l4) ∧ (((18 * (I 159 32)) + (6 * l1)) + l4) < (36 : Int)) ∧ (if (J 177 (((18 * (I 159 32)) + (6 * l1)) + l4)) = l2 then (Q l4) else (rg (l4 + 1) ∧ (k3 (l4 + 1))))))))))))
def p12_named_b3 (l1 : Int) (l2 : Int) (I : mI) (J : mI) (Q : Int → Prop) : Nat → Int → Prop
  | 0 => fun _ => False
  | f + 1 => fun l4 => p12_named_b3_body l1 l2 I J Q (p12_named_b3 l1 l2 I J Q f) l4
set_option maxRecDepth 20000 in
theorem w12_named_b3_body {C : wX} {ad : Nat → Nat} {n : Nat} {I J : mI} {R : mR} {Q : Int → Prop} (hC : wOK C cX12_named 5 RX12) (hRm : wRm C 2 33 0 0) (hE : wEnd C (some .int) ad n (fun r I' J' R' => (I' = I ∧ J' = J ∧ R' = R) ∧ Q r)) (hRF : RF R) {l1 : Int} {l2 : Int} {l4 : Int}     {k3 : Int → Prop} (kk3 : ∀ (y4 : Int), k3 y4 → WM C ad n I J R 0 0 3 [(0, vr 159), (1, vi l1), (2, vl l2), (4, vi y4)] []) (hw : p12_named_b3_body l1 l2 I J Q k3 l4) : WM C ad n I J R 0 0 3 [(0, vr 159), (1, vi l1), (2, vl l2), (4, vi l4)] [] := by
  unfold p12_named_b3_body at hw
  refine wm_iload hC 3 dX12_named_3 rfl ?_
  refine wm_aload_n hC 0 dX12_named_5 rfl (k_ne0 kk_159 (by decide)) ?_
  refine wm_iload_n hC 1 dX12_named_6 rfl ?_
  refine y_callV_i_n hC hRm noS ml_X12_306 kk_159 (c12_manyOf hRF  hw) (Nat.le_of_ble_eq_true rfl) (Nat.le_of_ble_eq_true rfl) ⟨Nat.zero_le _, Nat.zero_le _⟩ rfl (st := [vi l4]) rfl (Nat.le_of_ble_eq_true rfl) dX12_named_7 (fun r1 hw => ?_)
  refine wm_icmp_ge (tgt := 47) hC dX12_named_10 (by decide) hw (fun hw => ?_) (fun hw => ?_)
  · refine wm_iconst hC dX12_named_47 (k := ?_)
    exact wm_ireturn hC hE dX12_named_48 ⟨⟨rfl, rfl, rfl⟩, hw⟩
  · refine wm_aload_n hC 0 dX12_named_13 rfl (k_ne0 kk_159 (by decide)) ?_
    refine x_getR3 hC 30 fl_X12_102 rfl kk_159 (rf_159_30 hRF) dX12_named_14 ?_
    refine wm_bipush hC dX12_named_17 (k := ?_)
    refine wm_aload_n hC 0 dX12_named_19 rfl (k_ne0 kk_159 (by decide)) ?_
    refine x_getI hC 32 fl_X12_109 rfl kk_159 dX12_named_20 ?_
    refine x_imul hC dX12_named_23 hw (fun hw => ?_)
    refine wm_bipush hC dX12_named_24 (k := ?_)
    refine wm_iload_n hC 1 dX12_named_26 rfl ?_
    refine x_imul hC dX12_named_27 hw (fun hw => ?_)
    refine x_iadd hC dX12_named_28 hw (fun hw => ?_)
    refine wm_iload hC 3 dX12_named_29 rfl ?_
    refine x_iadd hC dX12_named_31 hw (fun hw => ?_)
    refine x_lald2 hC kk_177 kn_177 dX12_named_32 hw (fun hw => ?_)
    refine wm_lload_n hC 2 dX12_named_33 rfl ?_
    refine wm_lcmp_ne (tgt := 41) hC dX12_named_34 dX12_named_35 (by decide) hw (fun hw => ?_) (fun hw => ?_)
    · refine wm_iload hC 3 dX12_named_38 rfl ?_
      exact wm_ireturn hC hE dX12_named_40 ⟨⟨rfl, rfl, rfl⟩, hw⟩
    · refine x_iinc hC 3 dX12_named_41 rfl (by decide) (L2 := [(4, vi (l4 + 1)), (0, vr 159), (1, vi l1), (2, vl l2)]) rfl hw (fun hw => ?_)
      refine wm_goto (tgt := 3) hC dX12_named_44 (by decide) ?_
      refine wm_sub [1, 2, 3, 0] (L2 := [(0, vr 159), (1, vi l1), (2, vl l2), (4, vi (l4 + 1))]) rfl ?_
      exact kk3 _ hw
set_option maxRecDepth 20000 in
theorem w12_named_b3 {C : wX} {ad : Nat → Nat} {n : Nat} {I : mI} {J : mI} {R : mR} {Q : Int → Prop} (hC : wOK C cX12_named 5 RX12) (hRm : wRm C 2 33 0 0) (hE : wEnd C (some .int) ad n (fun r I' J' R' => (I' = I ∧ J' = J ∧ R' = R) ∧ Q r)) (hRF : RF R) {l1 : Int} {l2 : Int}     : ∀ (f : Nat) (l4 : Int), p12_named_b3 l1 l2 I J Q f l4 → WM C ad n I J R 0 0 3 [(0, vr 159), (1, vi l1), (2, vl l2), (4, vi l4)] [] := by
  intro f
  induction f with
  | zero => intro l4 hw; exact hw.elim
  | succ f ih => intro l4 hw; exact w12_named_b3_body hC hRm hE hRF  (fun a0 aw => ih a0 aw) hw
def p12_named (l1 : Int) (l2 : Int) (I : mI) (J : mI) (Q : Int → Prop) : Prop := (∃ f, p12_named_b3 l1 l2 I J Q f 0)
set_option maxRecDepth 20000 in
theorem c12_named {ad : Nat → Nat} {n : Nat} {I J : mI} {R : mR} {Q : Int → Prop}  (hRF : RF R) {l1 : Int} {l2 : Int}    (hw : p12_named l1 l2 I J Q) : wMet yX12_named cX12_named 5 (some .int) 2 33 false ad n I J R [vr 159, vi l1, vl l2] (fun r I' J' R' => (I' = I ∧ J' = J ∧ R' = R) ∧ Q r) := by
  refine wMet_of (by decide) (Nat.le_of_ble_eq_true rfl) (fun C hC hRm hE hS => ?_)
  refine (show WM C ad n I J R 0 0 0 [(0, vr 159), (1, vi l1), (2, vl l2)] [] from ?_)
  unfold p12_named at hw
  refine wm_iconst hC dX12_named_0 (k := ?_)
  refine wm_istore hC dX12_named_1 (by decide) (L2 := [(4, vi 0), (0, vr 159), (1, vi l1), (2, vl l2)]) rfl ?_
  obtain ⟨f, hw⟩ := hw
  refine wm_sub [1, 2, 3, 0] (L2 := [(0, vr 159), (1, vi l1), (2, vl l2), (4, vi 0)]) rfl ?_
  exact w12_named_b3 hC hRm hE hRF  f _ hw
def p12_fresh_b96 (I : mI) (J : mI) (Q : Int → mI → mI → Prop) : Prop := (if (I 159 8) = 0 then (p12_ahead I J (fun I4 J1 => (Q (J 159 7) I4 J1))) else (Q (J 159 7) I J))
set_option maxRecDepth 20000 in
theorem w12_fresh_b96 {C : wX} {ad : Nat → Nat} {n : Nat} {I J : mI} {R : mR} {Q : Int → mI → mI → Prop} (hC : wOK C cX12_fresh 3 RX12) (hRm : wRm C 3 57 0 0) (hE : wEnd C (some .long) ad n (fun r I' J' R' => (R' = R) ∧ Q r I' J')) (hRF : RF R)      (hw : p12_fresh_b96 I J Q) : WM C ad n I J R 0 0 96 [(0, vr 159)] [] := by
  unfold p12_fresh_b96 at hw
  refine wm_aload_n hC 0 dX12_fresh_96 rfl (k_ne0 kk_159 (by decide)) ?_
  refine x_getJ hC 7 fl_X12_32 rfl kk_159 dX12_fresh_97 ?_
  refine wm_lstore_n hC dX12_fresh_100 (by decide) (L2 := [(1, vl (J 159 7)), (0, vr 159)]) rfl ?_
  refine wm_aload_n hC 1 dX12_fresh_101 rfl (k_ne0 kk_159 (by decide)) ?_
  refine x_getI hC 8 fl_X12_36 rfl kk_159 dX12_fresh_102 ?_
  refine wm_if_ne (tgt := 112) hC dX12_fresh_105 (by decide) hw (fun hw => ?_) (fun hw => ?_)
  · refine wm_aload_n hC 1 dX12_fresh_108 rfl (k_ne0 kk_159 (by decide)) ?_
    refine y_callV_v_IJ hC hRm noS ml_X12_247 kk_159 (c12_ahead hRF  hw) (Nat.le_of_ble_eq_true rfl) (Nat.le_of_ble_eq_true rfl) ⟨Nat.zero_le _, Nat.zero_le _⟩ rfl (st := []) rfl (Nat.le_of_ble_eq_true rfl) dX12_fresh_109 (fun I4 J1 hw => ?_)
    refine wm_lload_n hC 0 dX12_fresh_112 rfl ?_
    exact wm_lreturn hC hE dX12_fresh_113 ⟨rfl, hw⟩
  · refine wm_lload_n hC 0 dX12_fresh_112 rfl ?_
    exact wm_lreturn hC hE dX12_fresh_113 ⟨rfl, hw⟩
def p12_fresh_b87 (I : mI) (J : mI) (Q : Int → mI → mI → Prop) : Prop := (p12_blame 2 (I 159 4) I (fun I3 => (p12_fresh_b96 I3 J Q)))
set_option maxRecDepth 20000 in
theorem w12_fresh_b87 {C : wX} {ad : Nat → Nat} {n : Nat} {I J : mI} {R : mR} {Q : Int → mI → mI → Prop} (hC : wOK C cX12_fresh 3 RX12) (hRm : wRm C 3 57 0 0) (hE : wEnd C (some .long) ad n (fun r I' J' R' => (R' = R) ∧ Q r I' J')) (hRF : RF R)      (hw : p12_fresh_b87 I J Q) : WM C ad n I J R 0 0 87 [(0, vr 159)] [] := by
  unfold p12_fresh_b87 at hw
  refine wm_aload_n hC 0 dX12_fresh_87 rfl (k_ne0 kk_159 (by decide)) ?_
  refine wm_iconst hC dX12_fresh_88 (k := ?_)
  refine wm_aload_n hC 0 dX12_fresh_89 rfl (k_ne0 kk_159 (by decide)) ?_
  refine x_getI hC 4 fl_X12_23 rfl kk_159 dX12_fresh_90 ?_
  refine y_callV_v_I hC hRm noS ml_X12_230 kk_159 (c12_blame hRF  hw) (Nat.le_of_ble_eq_true rfl) (Nat.le_of_ble_eq_true rfl) ⟨Nat.zero_le _, Nat.zero_le _⟩ rfl (st := []) rfl (Nat.le_of_ble_eq_true rfl) dX12_fresh_93 (fun I3 hw => ?_)
  exact w12_fresh_b96 hC hRm hE hRF  hw
def p12_fresh_b41 (I : mI) (J : mI) (Q : Int → mI → mI → Prop) : Prop := (if (I 159 8) = 0 then (p12_named 0 (J 159 7) I J (fun r2 => (if r2 = (-1) then (p12_named 1 (J 159 7) I J (fun r3 => (if r3 = (-1) then (p12_named 2 (J 159 7) I J (fun r4 => (if r4 = (-1) then (p12_fresh_b96 I J Q) else (p12_fresh_b87 I J Q)))) else (p12_fresh_b87 I J Q)))) else (p12_fresh_b87 I J Q)))) else (p12_fresh_b96 I J Q))
set_option maxRecDepth 20000 in
theorem w12_fresh_b41 {C : wX} {ad : Nat → Nat} {n : Nat} {I J : mI} {R : mR} {Q : Int → mI → mI → Prop} (hC : wOK C cX12_fresh 3 RX12) (hRm : wRm C 3 57 0 0) (hE : wEnd C (some .long) ad n (fun r I' J' R' => (R' = R) ∧ Q r I' J')) (hRF : RF R)      (hw : p12_fresh_b41 I J Q) : WM C ad n I J R 0 0 41 [(0, vr 159)] [] := by
  unfold p12_fresh_b41 at hw
  refine wm_aload_n hC 0 dX12_fresh_41 rfl (k_ne0 kk_159 (by decide)) ?_
  refine x_getI hC 8 fl_X12_36 rfl kk_159 dX12_fresh_42 ?_
  refine wm_if_ne (tgt := 96) hC dX12_fresh_45 (by decide) hw (fun hw => ?_) (fun hw => ?_)
  · refine wm_aload_n hC 0 dX12_fresh_48 rfl (k_ne0 kk_159 (by decide)) ?_
    refine wm_iconst hC dX12_fresh_49 (k := ?_)
    refine wm_aload_n hC 0 dX12_fresh_50 rfl (k_ne0 kk_159 (by decide)) ?_
    refine x_getJ hC 7 fl_X12_32 rfl kk_159 dX12_fresh_51 ?_
    refine y_callV_i_n hC hRm noS ml_X12_347 kk_159 (c12_named hRF  hw) (Nat.le_of_ble_eq_true rfl) (Nat.le_of_ble_eq_true rfl) ⟨Nat.zero_le _, Nat.zero_le _⟩ rfl (st := []) rfl (Nat.le_of_ble_eq_true rfl) dX12_fresh_54 (fun r2 hw => ?_)
    refine wm_iconst hC dX12_fresh_57 (k := ?_)
    refine wm_icmp_ne (tgt := 87) hC dX12_fresh_58 (by decide) hw (fun hw => ?_) (fun hw => ?_)
    · refine wm_aload_n hC 0 dX12_fresh_61 rfl (k_ne0 kk_159 (by decide)) ?_
      refine wm_iconst hC dX12_fresh_62 (k := ?_)
      refine wm_aload_n hC 0 dX12_fresh_63 rfl (k_ne0 kk_159 (by decide)) ?_
      refine x_getJ hC 7 fl_X12_32 rfl kk_159 dX12_fresh_64 ?_
      refine y_callV_i_n hC hRm noS ml_X12_347 kk_159 (c12_named hRF  hw) (Nat.le_of_ble_eq_true rfl) (Nat.le_of_ble_eq_true rfl) ⟨Nat.zero_le _, Nat.zero_le _⟩ rfl (st := []) rfl (Nat.le_of_ble_eq_true rfl) dX12_fresh_67 (fun r3 hw => ?_)
      refine wm_iconst hC dX12_fresh_70 (k := ?_)
      refine wm_icmp_ne (tgt := 87) hC dX12_fresh_71 (by decide) hw (fun hw => ?_) (fun hw => ?_)
      · refine wm_aload_n hC 0 dX12_fresh_74 rfl (k_ne0 kk_159 (by decide)) ?_
        refine wm_iconst hC dX12_fresh_75 (k := ?_)
        refine wm_aload_n hC 0 dX12_fresh_76 rfl (k_ne0 kk_159 (by decide)) ?_
        refine x_getJ hC 7 fl_X12_32 rfl kk_159 dX12_fresh_77 ?_
        refine y_callV_i_n hC hRm noS ml_X12_347 kk_159 (c12_named hRF  hw) (Nat.le_of_ble_eq_true rfl) (Nat.le_of_ble_eq_true rfl) ⟨Nat.zero_le _, Nat.zero_le _⟩ rfl (st := []) rfl (Nat.le_of_ble_eq_true rfl) dX12_fresh_80 (fun r4 hw => ?_)
        refine wm_iconst hC dX12_fresh_83 (k := ?_)
        refine wm_icmp_eq (tgt := 96) hC dX12_fresh_84 (by decide) hw (fun hw => ?_) (fun hw => ?_)
        · exact w12_fresh_b96 hC hRm hE hRF  hw
        · exact w12_fresh_b87 hC hRm hE hRF  hw
      · exact w12_fresh_b87 hC hRm hE hRF  hw
    · exact w12_fresh_b87 hC hRm hE hRF  hw
  · exact w12_fresh_b96 hC hRm hE hRF  hw
def p12_fresh_b32 (I : mI) (J : mI) (Q : Int → mI → mI → Prop) : Prop := (p12_blame 1 (I 159 4) I (fun I2 => (p12_fresh_b41 I2 J Q)))
set_option maxRecDepth 20000 in
theorem w12_fresh_b32 {C : wX} {ad : Nat → Nat} {n : Nat} {I J : mI} {R : mR} {Q : Int → mI → mI → Prop} (hC : wOK C cX12_fresh 3 RX12) (hRm : wRm C 3 57 0 0) (hE : wEnd C (some .long) ad n (fun r I' J' R' => (R' = R) ∧ Q r I' J')) (hRF : RF R)      (hw : p12_fresh_b32 I J Q) : WM C ad n I J R 0 0 32 [(0, vr 159)] [] := by
  unfold p12_fresh_b32 at hw
  refine wm_aload_n hC 0 dX12_fresh_32 rfl (k_ne0 kk_159 (by decide)) ?_
  refine wm_iconst hC dX12_fresh_33 (k := ?_)
  refine wm_aload_n hC 0 dX12_fresh_34 rfl (k_ne0 kk_159 (by decide)) ?_
  refine x_getI hC 4 fl_X12_23 rfl kk_159 dX12_fresh_35 ?_
  refine y_callV_v_I hC hRm noS ml_X12_230 kk_159 (c12_blame hRF  hw) (Nat.le_of_ble_eq_true rfl) (Nat.le_of_ble_eq_true rfl) ⟨Nat.zero_le _, Nat.zero_le _⟩ rfl (st := []) rfl (Nat.le_of_ble_eq_true rfl) dX12_fresh_38 (fun I2 hw => ?_)
  exact w12_fresh_b41 hC hRm hE hRF  hw
def p12_fresh (I : mI) (J : mI) (Q : Int → mI → mI → Prop) : Prop := (p12_lex I (fun I1 => (if (I1 159 8) ≤ 0 then (if (I1 159 3) = 1 then (p12_isOwn (J 159 7) (fun r1 => (if r1 = 0 then (p12_fresh_b41 I1 J Q) else (p12_fresh_b32 I1 J Q)))) else (p12_fresh_b32 I1 J Q)) else (Q 0 I1 J))))
set_option maxRecDepth 20000 in
theorem c12_fresh {ad : Nat → Nat} {n : Nat} {I J : mI} {R : mR} {Q : Int → mI → mI → Prop}  (hRF : RF R)   (hw : p12_fresh I J Q) : wMet yX12_fresh cX12_fresh 3 (some .long) 3 57 false ad n I J R [vr 159] (fun r I' J' R' => (R' = R) ∧ Q r I' J') := by
  refine wMet_of (by decide) (Nat.le_of_ble_eq_true rfl) (fun C hC hRm hE hS => ?_)
  refine (show WM C ad n I J R 0 0 0 [(0, vr 159)] [] from ?_)
  unfold p12_fresh at hw
  refine wm_aload_n hC 0 dX12_fresh_0 rfl (k_ne0 kk_159 (by decide)) ?_
  refine y_callV_v_I hC hRm noS ml_X12_241 kk_159 (c12_lex hRF  hw) (Nat.le_of_ble_eq_true rfl) (Nat.le_of_ble_eq_true rfl) ⟨Nat.zero_le _, Nat.zero_le _⟩ rfl (st := []) rfl (Nat.le_of_ble_eq_true rfl) dX12_fresh_1 (fun I1 hw => ?_)
  refine wm_aload_n hC 0 dX12_fresh_4 rfl (k_ne0 kk_159 (by decide)) ?_
  refine x_getI hC 8 fl_X12_36 rfl kk_159 dX12_fresh_5 ?_
  refine wm_if_le (tgt := 13) hC dX12_fresh_8 (by decide) hw (fun hw => ?_) (fun hw => ?_)
  · refine wm_aload_n hC 0 dX12_fresh_13 rfl (k_ne0 kk_159 (by decide)) ?_
    refine x_getI hC 3 fl_X12_20 rfl kk_159 dX12_fresh_14 ?_
    refine wm_iconst hC dX12_fresh_17 (k := ?_)
    refine wm_icmp_ne (tgt := 32) hC dX12_fresh_18 (by decide) hw (fun hw => ?_) (fun hw => ?_)
    · refine wm_aload_n hC 0 dX12_fresh_21 rfl (k_ne0 kk_159 (by decide)) ?_
      refine wm_aload_n hC 0 dX12_fresh_22 rfl (k_ne0 kk_159 (by decide)) ?_
      refine x_getJ hC 7 fl_X12_32 rfl kk_159 dX12_fresh_23 ?_
      refine y_callV_z_n hC hRm noS ml_X12_344 kk_159 (c12_isOwn hRF  hw) (Nat.le_of_ble_eq_true rfl) (Nat.le_of_ble_eq_true rfl) ⟨Nat.zero_le _, Nat.zero_le _⟩ rfl (st := []) rfl (Nat.le_of_ble_eq_true rfl) dX12_fresh_26 (fun r1 hw => ?_)
      refine wm_if_eq (tgt := 41) hC dX12_fresh_29 (by decide) hw (fun hw => ?_) (fun hw => ?_)
      · exact w12_fresh_b41 hC hRm hE hRF  hw
      · exact w12_fresh_b32 hC hRm hE hRF  hw
    · exact w12_fresh_b32 hC hRm hE hRF  hw
  · refine wm_lconst hC (x := 0) dX12_fresh_11 (k := ?_)
    exact wm_lreturn hC hE dX12_fresh_12 ⟨rfl, hw⟩
def p12_isCounted_b32 (I : mI) (J : mI) (Q : Int → mI → mI → Prop) : Prop := (if (I 159 8) = 0 then (Q 1 I J) else (Q 0 I J))
set_option maxRecDepth 20000 in
theorem w12_isCounted_b32 {C : wX} {ad : Nat → Nat} {n : Nat} {I J : mI} {R : mR} {Q : Int → mI → mI → Prop} (hC : wOK C cX12_isCounted 2 RX12) (hRm : wRm C 3 57 0 0) (hE : wEnd C (some .boolean) ad n (fun r I' J' R' => (R' = R) ∧ Q r I' J')) (hRF : RF R)      (hw : p12_isCounted_b32 I J Q) : WM C ad n I J R 0 0 32 [(0, vr 159)] [] := by
  unfold p12_isCounted_b32 at hw
  refine wm_aload_n hC 0 dX12_isCounted_32 rfl (k_ne0 kk_159 (by decide)) ?_
  refine x_getI hC 8 fl_X12_36 rfl kk_159 dX12_isCounted_33 ?_
  refine wm_if_ne (tgt := 43) hC dX12_isCounted_36 (by decide) hw (fun hw => ?_) (fun hw => ?_)
  · refine wm_iconst hC dX12_isCounted_39 (k := ?_)
    refine wm_goto (tgt := 44) hC dX12_isCounted_40 (by decide) ?_
    exact wm_zreturn hC hE (Or.inr rfl) dX12_isCounted_44 ⟨rfl, hw⟩
  · refine wm_iconst hC dX12_isCounted_43 (k := ?_)
    exact wm_zreturn hC hE (Or.inl rfl) dX12_isCounted_44 ⟨rfl, hw⟩
def p12_isCounted_b21 (I : mI) (J : mI) (Q : Int → mI → mI → Prop) : Prop := (if (I 159 8) = 0 then (p12_ahead I J (fun I2 J1 => (p12_isCounted_b32 I2 J1 Q))) else (p12_isCounted_b32 I J Q))
set_option maxRecDepth 20000 in
theorem w12_isCounted_b21 {C : wX} {ad : Nat → Nat} {n : Nat} {I J : mI} {R : mR} {Q : Int → mI → mI → Prop} (hC : wOK C cX12_isCounted 2 RX12) (hRm : wRm C 3 57 0 0) (hE : wEnd C (some .boolean) ad n (fun r I' J' R' => (R' = R) ∧ Q r I' J')) (hRF : RF R)      (hw : p12_isCounted_b21 I J Q) : WM C ad n I J R 0 0 21 [(0, vr 159)] [] := by
  unfold p12_isCounted_b21 at hw
  refine wm_aload_n hC 0 dX12_isCounted_21 rfl (k_ne0 kk_159 (by decide)) ?_
  refine x_getI hC 8 fl_X12_36 rfl kk_159 dX12_isCounted_22 ?_
  refine wm_if_ne (tgt := 32) hC dX12_isCounted_25 (by decide) hw (fun hw => ?_) (fun hw => ?_)
  · refine wm_aload_n hC 0 dX12_isCounted_28 rfl (k_ne0 kk_159 (by decide)) ?_
    refine y_callV_v_IJ hC hRm noS ml_X12_247 kk_159 (c12_ahead hRF  hw) (Nat.le_of_ble_eq_true rfl) (Nat.le_of_ble_eq_true rfl) ⟨Nat.zero_le _, Nat.zero_le _⟩ rfl (st := []) rfl (Nat.le_of_ble_eq_true rfl) dX12_isCounted_29 (fun I2 J1 hw => ?_)
    exact w12_isCounted_b32 hC hRm hE hRF  hw
  · exact w12_isCounted_b32 hC hRm hE hRF  hw
def p12_isCounted (l1 : Int) (I : mI) (J : mI) (Q : Int → mI → mI → Prop) : Prop := (if (I 159 8) = 0 then (if l1 = 0 then (p12_isCounted_b21 I J Q) else (p12_blame 6 (I 159 4) I (fun I1 => (p12_isCounted_b21 I1 J Q)))) else (p12_isCounted_b21 I J Q))
set_option maxRecDepth 20000 in
theorem c12_isCounted {ad : Nat → Nat} {n : Nat} {I J : mI} {R : mR} {Q : Int → mI → mI → Prop}  (hRF : RF R) {l1 : Int}   (hw : p12_isCounted l1 I J Q) : wMet yX12_isCounted cX12_isCounted 2 (some .boolean) 3 57 false ad n I J R [vr 159, vi l1] (fun r I' J' R' => (R' = R) ∧ Q r I' J') := by
  refine wMet_of (by decide) (Nat.le_of_ble_eq_true rfl) (fun C hC hRm hE hS => ?_)
  refine (show WM C ad n I J R 0 0 0 [(0, vr 159), (1, vi l1)] [] from ?_)
  unfold p12_isCounted at hw
  refine wm_aload_n hC 0 dX12_isCounted_0 rfl (k_ne0 kk_159 (by decide)) ?_
  refine x_getI hC 8 fl_X12_36 rfl kk_159 dX12_isCounted_1 ?_
  refine wm_if_ne (tgt := 21) hC dX12_isCounted_4 (by decide) hw (fun hw => ?_) (fun hw => ?_)
  · refine wm_iload_n hC 1 dX12_isCounted_7 rfl ?_
    refine wm_if_eq (tgt := 21) hC dX12_isCounted_8 (by decide) hw (fun hw => ?_) (fun hw => ?_)
    · refine wm_sub [0] (L2 := [(0, vr 159)]) rfl ?_
      exact w12_isCounted_b21 hC hRm hE hRF  hw
    · refine wm_aload_n hC 0 dX12_isCounted_11 rfl (k_ne0 kk_159 (by decide)) ?_
      refine wm_bipush hC dX12_isCounted_12 (k := ?_)
      refine wm_aload_n hC 0 dX12_isCounted_14 rfl (k_ne0 kk_159 (by decide)) ?_
      refine x_getI hC 4 fl_X12_23 rfl kk_159 dX12_isCounted_15 ?_
      refine y_callV_v_I hC hRm noS ml_X12_230 kk_159 (c12_blame hRF  hw) (Nat.le_of_ble_eq_true rfl) (Nat.le_of_ble_eq_true rfl) ⟨Nat.zero_le _, Nat.zero_le _⟩ rfl (st := []) rfl (Nat.le_of_ble_eq_true rfl) dX12_isCounted_18 (fun I1 hw => ?_)
      refine wm_sub [0] (L2 := [(0, vr 159)]) rfl ?_
      exact w12_isCounted_b21 hC hRm hE hRF  hw
  · refine wm_sub [0] (L2 := [(0, vr 159)]) rfl ?_
    exact w12_isCounted_b21 hC hRm hE hRF  hw
def p12_isWord (l1 : Int) (I : mI) (J : mI) (Q : Int → Prop) : Prop := (if (I 159 3) = 1 then (if (J 159 7) = l1 then (Q 1) else (Q 0)) else (Q 0))
set_option maxRecDepth 20000 in
theorem c12_isWord {ad : Nat → Nat} {n : Nat} {I J : mI} {R : mR} {Q : Int → Prop}  (hRF : RF R) {l1 : Int}   (hw : p12_isWord l1 I J Q) : wMet yX12_isWord cX12_isWord 3 (some .boolean) 1 12 false ad n I J R [vr 159, vl l1] (fun r I' J' R' => (I' = I ∧ J' = J ∧ R' = R) ∧ Q r) := by
  refine wMet_of (by decide) (Nat.le_of_ble_eq_true rfl) (fun C hC hRm hE hS => ?_)
  refine (show WM C ad n I J R 0 0 0 [(0, vr 159), (1, vl l1)] [] from ?_)
  unfold p12_isWord at hw
  refine wm_aload_n hC 0 dX12_isWord_0 rfl (k_ne0 kk_159 (by decide)) ?_
  refine x_getI hC 3 fl_X12_20 rfl kk_159 dX12_isWord_1 ?_
  refine wm_iconst hC dX12_isWord_4 (k := ?_)
  refine wm_icmp_ne (tgt := 21) hC dX12_isWord_5 (by decide) hw (fun hw => ?_) (fun hw => ?_)
  · refine wm_aload_n hC 0 dX12_isWord_8 rfl (k_ne0 kk_159 (by decide)) ?_
    refine x_getJ hC 7 fl_X12_32 rfl kk_159 dX12_isWord_9 ?_
    refine wm_lload_n hC 1 dX12_isWord_12 rfl ?_
    refine wm_lcmp_ne (tgt := 21) hC dX12_isWord_13 dX12_isWord_14 (by decide) hw (fun hw => ?_) (fun hw => ?_)
    · refine wm_iconst hC dX12_isWord_17 (k := ?_)
      refine wm_goto (tgt := 22) hC dX12_isWord_18 (by decide) ?_
      exact wm_zreturn hC hE (Or.inr rfl) dX12_isWord_22 ⟨⟨rfl, rfl, rfl⟩, hw⟩
    · refine wm_iconst hC dX12_isWord_21 (k := ?_)
      exact wm_zreturn hC hE (Or.inl rfl) dX12_isWord_22 ⟨⟨rfl, rfl, rfl⟩, hw⟩
  · refine wm_iconst hC dX12_isWord_21 (k := ?_)
    exact wm_zreturn hC hE (Or.inl rfl) dX12_isWord_22 ⟨⟨rfl, rfl, rfl⟩, hw⟩
def p12_mustWord_b29 (I : mI) (J : mI) (Q : mI → mI → Prop) : Prop := (if (I 159 8) = 0 then (p12_ahead I J (fun I3 J1 => (Q I3 J1))) else (Q I J))
set_option maxRecDepth 20000 in
theorem w12_mustWord_b29 {C : wX} {ad : Nat → Nat} {n : Nat} {I J : mI} {R : mR} {Q : mI → mI → Prop} (hC : wOK C cX12_mustWord 3 RX12) (hRm : wRm C 3 57 0 0) (hE : wEnd C none ad n (fun _ I' J' R' => (R' = R) ∧ Q I' J')) (hRF : RF R)      (hw : p12_mustWord_b29 I J Q) : WM C ad n I J R 0 0 29 [(0, vr 159)] [] := by
  unfold p12_mustWord_b29 at hw
  refine wm_aload_n hC 0 dX12_mustWord_29 rfl (k_ne0 kk_159 (by decide)) ?_
  refine x_getI hC 8 fl_X12_36 rfl kk_159 dX12_mustWord_30 ?_
  refine wm_if_ne (tgt := 40) hC dX12_mustWord_33 (by decide) hw (fun hw => ?_) (fun hw => ?_)
  · refine wm_aload_n hC 0 dX12_mustWord_36 rfl (k_ne0 kk_159 (by decide)) ?_
    refine y_callV_v_IJ hC hRm noS ml_X12_247 kk_159 (c12_ahead hRF  hw) (Nat.le_of_ble_eq_true rfl) (Nat.le_of_ble_eq_true rfl) ⟨Nat.zero_le _, Nat.zero_le _⟩ rfl (st := []) rfl (Nat.le_of_ble_eq_true rfl) dX12_mustWord_37 (fun I3 J1 hw => ?_)
    exact wm_return hC hE dX12_mustWord_40 ⟨rfl, hw⟩
  · exact wm_return hC hE dX12_mustWord_40 ⟨rfl, hw⟩
def p12_mustWord (l1 : Int) (I : mI) (J : mI) (Q : mI → mI → Prop) : Prop := (p12_lex I (fun I1 => (if (I1 159 8) ≤ 0 then (p12_isWord l1 I1 J (fun r1 => (if r1 = 0 then (p12_blame 1 (I1 159 4) I1 (fun I2 => (p12_mustWord_b29 I2 J Q))) else (p12_mustWord_b29 I1 J Q)))) else (Q I1 J))))
set_option maxRecDepth 20000 in
theorem c12_mustWord {ad : Nat → Nat} {n : Nat} {I J : mI} {R : mR} {Q : mI → mI → Prop}  (hRF : RF R) {l1 : Int}   (hw : p12_mustWord l1 I J Q) : wMet yX12_mustWord cX12_mustWord 3 none 3 57 false ad n I J R [vr 159, vl l1] (fun _ I' J' R' => (R' = R) ∧ Q I' J') := by
  refine wMet_of (by decide) (Nat.le_of_ble_eq_true rfl) (fun C hC hRm hE hS => ?_)
  refine (show WM C ad n I J R 0 0 0 [(0, vr 159), (1, vl l1)] [] from ?_)
  unfold p12_mustWord at hw
  refine wm_aload_n hC 0 dX12_mustWord_0 rfl (k_ne0 kk_159 (by decide)) ?_
  refine y_callV_v_I hC hRm noS ml_X12_241 kk_159 (c12_lex hRF  hw) (Nat.le_of_ble_eq_true rfl) (Nat.le_of_ble_eq_true rfl) ⟨Nat.zero_le _, Nat.zero_le _⟩ rfl (st := []) rfl (Nat.le_of_ble_eq_true rfl) dX12_mustWord_1 (fun I1 hw => ?_)
  refine wm_aload_n hC 0 dX12_mustWord_4 rfl (k_ne0 kk_159 (by decide)) ?_
  refine x_getI hC 8 fl_X12_36 rfl kk_159 dX12_mustWord_5 ?_
  refine wm_if_le (tgt := 12) hC dX12_mustWord_8 (by decide) hw (fun hw => ?_) (fun hw => ?_)
  · refine wm_aload_n hC 0 dX12_mustWord_12 rfl (k_ne0 kk_159 (by decide)) ?_
    refine wm_lload_n hC 1 dX12_mustWord_13 rfl ?_
    refine y_callV_z_n hC hRm noS ml_X12_325 kk_159 (c12_isWord hRF  hw) (Nat.le_of_ble_eq_true rfl) (Nat.le_of_ble_eq_true rfl) ⟨Nat.zero_le _, Nat.zero_le _⟩ rfl (st := []) rfl (Nat.le_of_ble_eq_true rfl) dX12_mustWord_14 (fun r1 hw => ?_)
    refine wm_if_ne (tgt := 29) hC dX12_mustWord_17 (by decide) hw (fun hw => ?_) (fun hw => ?_)
    · refine wm_aload_n hC 0 dX12_mustWord_20 rfl (k_ne0 kk_159 (by decide)) ?_
      refine wm_iconst hC dX12_mustWord_21 (k := ?_)
      refine wm_aload_n hC 0 dX12_mustWord_22 rfl (k_ne0 kk_159 (by decide)) ?_
      refine x_getI hC 4 fl_X12_23 rfl kk_159 dX12_mustWord_23 ?_
      refine y_callV_v_I hC hRm noS ml_X12_230 kk_159 (c12_blame hRF  hw) (Nat.le_of_ble_eq_true rfl) (Nat.le_of_ble_eq_true rfl) ⟨Nat.zero_le _, Nat.zero_le _⟩ rfl (st := []) rfl (Nat.le_of_ble_eq_true rfl) dX12_mustWord_26 (fun I2 hw => ?_)
      refine wm_sub [0] (L2 := [(0, vr 159)]) rfl ?_
      exact w12_mustWord_b29 hC hRm hE hRF  hw
    · refine wm_sub [0] (L2 := [(0, vr 159)]) rfl ?_
      exact w12_mustWord_b29 hC hRm hE hRF  hw
  · exact wm_return hC hE dX12_mustWord_11 ⟨rfl, hw⟩
def p12_is (l0 : Int) (l1 : Int) (l2 : Int) (Q : Int → Prop) : Prop := (if l0 < l1 then (Q 0) else (if l2 < l0 then (Q 0) else (Q 1)))
set_option maxRecDepth 20000 in
theorem c12_is {ad : Nat → Nat} {n : Nat} {I J : mI} {R : mR} {Q : Int → Prop}  (hRF : RF R) {l0 : Int} {l1 : Int} {l2 : Int}    (hw : p12_is l0 l1 l2 Q) : wMet yX12_is cX12_is 3 (some .boolean) 1 12 false ad n I J R [vi l0, vi l1, vi l2] (fun r I' J' R' => (I' = I ∧ J' = J ∧ R' = R) ∧ Q r) := by
  refine wMet_of (by decide) (Nat.le_of_ble_eq_true rfl) (fun C hC hRm hE hS => ?_)
  refine (show WM C ad n I J R 0 0 0 [(0, vi l0), (1, vi l1), (2, vi l2)] [] from ?_)
  unfold p12_is at hw
  refine wm_iload_n hC 0 dX12_is_0 rfl ?_
  refine wm_iload_n hC 1 dX12_is_1 rfl ?_
  refine wm_icmp_lt (tgt := 14) hC dX12_is_2 (by decide) hw (fun hw => ?_) (fun hw => ?_)
  · refine wm_iconst hC dX12_is_14 (k := ?_)
    exact wm_zreturn hC hE (Or.inl rfl) dX12_is_15 ⟨⟨rfl, rfl, rfl⟩, hw⟩
  · refine wm_iload_n hC 0 dX12_is_5 rfl ?_
    refine wm_iload_n hC 2 dX12_is_6 rfl ?_
    refine wm_icmp_gt (tgt := 14) hC dX12_is_7 (by decide) hw (fun hw => ?_) (fun hw => ?_)
    · refine wm_iconst hC dX12_is_14 (k := ?_)
      exact wm_zreturn hC hE (Or.inl rfl) dX12_is_15 ⟨⟨rfl, rfl, rfl⟩, hw⟩
    · refine wm_iconst hC dX12_is_10 (k := ?_)
      refine wm_goto (tgt := 15) hC dX12_is_11 (by decide) ?_
      exact wm_zreturn hC hE (Or.inr rfl) dX12_is_15 ⟨⟨rfl, rfl, rfl⟩, hw⟩
