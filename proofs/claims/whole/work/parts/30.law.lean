/-! THE LAW'S WALK -/
def scrX (xs : Nat → Int32) (x : Int) : Int := (xs x.toNat).toInt
def wScr (C : wX) (ad : Nat → Nat) (L : Nat) (xs : Nat → Int32) : Prop := match C with
  | (_, _, _, _, s, _, _, _, _, _, _, _, _, A, _, _) => va_X (ad 999) L xs s s.heap ∧ ad 999 < s.heap.size ∧ ¬ A (ad 999) ∧ L ≤ 3072
section R13
variable {C : wX} {cc : ByteArray} {nL : Nat} {own : String} {ad : Nat → Nat} {n : Nat} {I J : mI} {R : mR} {ks ss pc : Nat} {lv : List (Nat × wV)} {st : List wV} {WA : Prop} {L : Nat} {xs : Nat → Int32}
theorem x_slen' (hC : wOK C cc nL own) (hX : wScr C ad L xs) (hd : decode cc pc = .ok (.arraylength, 1)) (k : WM C ad n I J R ks ss (pc + 1) lv (vi L :: st)) : WM C ad n I J R ks ss pc lv (vr 999 :: st) := by
  obtain ⟨p, l, e, Rm, s, m, args, below, meth, c, Q, D, cY, A, nL', own'⟩ := C
  obtain ⟨hx, hb, hml, hown, hts, hK, hA, hlk, rfl, rfl⟩ := hC
  obtain ⟨x1, x2, x3, x4⟩ := hX
  intro hM hlv hst H locs ls hP hD hS hl
  have hL : rg (L : Int) := by omega
  have h2 := k hM hlv (fc_i hL (fc_c hst).2) H locs ls hP hD hS hl
  rw [List.map_cons, w_ref (by decide)]
  refine va_slen hx hb x1 x2 x3 hS hd ?_
  rw [List.map_cons, show wv ad (vi (L : Int)) = Value.int (Int32.ofInt L) from rfl, Int32.ofInt_eq_ofNat] at h2
  exact h2
theorem x_sld (hC : wOK C cc nL own) (hX : wScr C ad L xs) {x : Int} (hd : decode cc pc = .ok (.iaload, 1)) (hw : (0 ≤ x ∧ x < (L : Int)) ∧ WA) (k : WA → WM C ad n I J R ks ss (pc + 1) lv (vi (scrX xs x) :: st)) : WM C ad n I J R ks ss pc lv (vi x :: vr 999 :: st) := by
  obtain ⟨p, l, e, Rm, s, m, args, below, meth, c, Q, D, cY, A, nL', own'⟩ := C
  obtain ⟨hx, hb, hml, hown, hts, hK, hA, hlk, rfl, rfl⟩ := hC
  obtain ⟨x1, x2, x3, x4⟩ := hX
  intro hM hlv hst H locs ls hP hD hS hl
  have h2 := k hw.2 hM hlv (fc_i (rg_i32 _) (fc_c (fc_c hst).2).2) H locs ls hP hD hS hl
  rw [List.map_cons, List.map_cons, w_ref (by decide)]
  refine va_sld hx hb x1 x2 x3 hS (i32_in (fc_c hst).1 hw.1.1 hw.1.2) hd ?_
  have e2 : (Int32.ofInt x).toNatClampNeg = x.toNat := by rw [← Int32.toNat_toInt, i32_toInt (fc_c hst).1]
  rw [e2]
  rw [List.map_cons, show wv ad (vi (scrX xs x)) = Value.int (Int32.ofInt (scrX xs x)) from rfl] at h2
  unfold scrX at h2
  rw [Int32.ofInt_toInt] at h2
  exact h2
end R13
def plaw_0 (L : Nat) (X : Int → Int) (i : Int) (I J : mI) (R : mR) (K : mI → mI → mR → Prop) : Prop := (rg (i + 1) ∧ (((0 : Int) ≤ (i + 1) ∧ (i + 1) < (L : Int)) ∧ (rg (i + 2) ∧ (((0 : Int) ≤ (i + 2) ∧ (i + 2) < (L : Int)) ∧ (rg (i + 3) ∧ (((0 : Int) ≤ (i + 3) ∧ (i + 3) < (L : Int)) ∧ (rg (i + 4) ∧ (((0 : Int) ≤ (i + 4) ∧ (i + 4) < (L : Int)) ∧ (rg (i + 5) ∧ (((0 : Int) ≤ (i + 5) ∧ (i + 5) < (L : Int)) ∧ (p11_feed (X (i + 1)) (X (i + 2)) (X (i + 3)) (X (i + 4)) (X (i + 5)) I (fun r1 I1 => (rg (i + 1) ∧ (((0 : Int) ≤ (i + 1) ∧ (i + 1) < (L : Int)) ∧ (rg (i + 2) ∧ (((0 : Int) ≤ (i + 2) ∧ (i + 2) < (L : Int)) ∧ (rg (i + 3) ∧ (((0 : Int) ≤ (i + 3) ∧ (i + 3) < (L : Int)) ∧ (rg (i + 4) ∧ (((0 : Int) ≤ (i + 4) ∧ (i + 4) < (L : Int)) ∧ (rg (i + 5) ∧ (((0 : Int) ≤ (i + 5) ∧ (i + 5) < (L : Int)) ∧ (p12_feed (X (i + 1)) (X (i + 2)) (X (i + 3)) (X (i + 4)) (X (i + 5)) I1 (fun r2 I2 => (if r1 = r2 then (K I2 J R) else False)))))))))))))))))))))))))
set_option maxRecDepth 20000 in
theorem wlaw_0 {C : wX} {ad : Nat → Nat} {n L : Nat} {xs : Nat → Int32} {I J : mI} {R : mR} {i : Int} {K : mI → mI → mR → Prop} (hC : wOK C cL_law 4 RL) (hRm : wRm C 2048 84000 600000 7302250) (hStr : wStrC C ad) (hScr : wScr C ad L xs) (hRF : RF R) (kk : ∀ (I' J' : mI) (R' : mR), RF R' → K I' J' R' → WM C ad n I' J' R' 203 29614 1164 [(0, vr 999), (1, vr 1), (2, vr 159), (3, vi i)] []) (hw : plaw_0 L (scrX xs) i I J R K) : WM C ad n I J R 203 29614 188 [(0, vr 999), (1, vr 1), (2, vr 159), (3, vi i)] [] := by
  unfold plaw_0 at hw
  refine wm_aload_n hC 1 dL_law_188 rfl (by decide) ?_
  refine wm_aload_n hC 0 dL_law_189 rfl (by decide) ?_
  refine wm_iload_n hC 3 dL_law_190 rfl ?_
  refine wm_iconst hC dL_law_191 (k := ?_)
  refine x_iadd hC dL_law_192 hw (fun hw => ?_)
  refine x_sld hC hScr dL_law_193 hw (fun hw => ?_)
  refine wm_aload_n hC 0 dL_law_194 rfl (by decide) ?_
  refine wm_iload_n hC 3 dL_law_195 rfl ?_
  refine wm_iconst hC dL_law_196 (k := ?_)
  refine x_iadd hC dL_law_197 hw (fun hw => ?_)
  refine x_sld hC hScr dL_law_198 hw (fun hw => ?_)
  refine wm_aload_n hC 0 dL_law_199 rfl (by decide) ?_
  refine wm_iload_n hC 3 dL_law_200 rfl ?_
  refine wm_iconst hC dL_law_201 (k := ?_)
  refine x_iadd hC dL_law_202 hw (fun hw => ?_)
  refine x_sld hC hScr dL_law_203 hw (fun hw => ?_)
  refine wm_aload_n hC 0 dL_law_204 rfl (by decide) ?_
  refine wm_iload_n hC 3 dL_law_205 rfl ?_
  refine wm_iconst hC dL_law_206 (k := ?_)
  refine x_iadd hC dL_law_207 hw (fun hw => ?_)
  refine x_sld hC hScr dL_law_208 hw (fun hw => ?_)
  refine wm_aload_n hC 0 dL_law_209 rfl (by decide) ?_
  refine wm_iload_n hC 3 dL_law_210 rfl ?_
  refine wm_iconst hC dL_law_211 (k := ?_)
  refine x_iadd hC dL_law_212 hw (fun hw => ?_)
  refine x_sld hC hScr dL_law_213 hw (fun hw => ?_)
  refine y_callV_i_I hC hRm noS ml_L_13 kk_1 (c11_feed hRF hw) (Nat.le_of_ble_eq_true rfl) (Nat.le_of_ble_eq_true rfl) ⟨(Nat.le_of_ble_eq_true rfl), (Nat.le_of_ble_eq_true rfl)⟩ rfl (st := []) rfl (Nat.le_of_ble_eq_true rfl) dL_law_214 (fun r1 I1 hw => ?_)
  refine wm_aload_n hC 2 dL_law_217 rfl (by decide) ?_
  refine wm_aload_n hC 0 dL_law_218 rfl (by decide) ?_
  refine wm_iload_n hC 3 dL_law_219 rfl ?_
  refine wm_iconst hC dL_law_220 (k := ?_)
  refine x_iadd hC dL_law_221 hw (fun hw => ?_)
  refine x_sld hC hScr dL_law_222 hw (fun hw => ?_)
  refine wm_aload_n hC 0 dL_law_223 rfl (by decide) ?_
  refine wm_iload_n hC 3 dL_law_224 rfl ?_
  refine wm_iconst hC dL_law_225 (k := ?_)
  refine x_iadd hC dL_law_226 hw (fun hw => ?_)
  refine x_sld hC hScr dL_law_227 hw (fun hw => ?_)
  refine wm_aload_n hC 0 dL_law_228 rfl (by decide) ?_
  refine wm_iload_n hC 3 dL_law_229 rfl ?_
  refine wm_iconst hC dL_law_230 (k := ?_)
  refine x_iadd hC dL_law_231 hw (fun hw => ?_)
  refine x_sld hC hScr dL_law_232 hw (fun hw => ?_)
  refine wm_aload_n hC 0 dL_law_233 rfl (by decide) ?_
  refine wm_iload_n hC 3 dL_law_234 rfl ?_
  refine wm_iconst hC dL_law_235 (k := ?_)
  refine x_iadd hC dL_law_236 hw (fun hw => ?_)
  refine x_sld hC hScr dL_law_237 hw (fun hw => ?_)
  refine wm_aload_n hC 0 dL_law_238 rfl (by decide) ?_
  refine wm_iload_n hC 3 dL_law_239 rfl ?_
  refine wm_iconst hC dL_law_240 (k := ?_)
  refine x_iadd hC dL_law_241 hw (fun hw => ?_)
  refine x_sld hC hScr dL_law_242 hw (fun hw => ?_)
  refine y_callV_i_I hC hRm noS ml_L_17 kk_159 (c12_feed hRF hw) (Nat.le_of_ble_eq_true rfl) (Nat.le_of_ble_eq_true rfl) ⟨(Nat.le_of_ble_eq_true rfl), (Nat.le_of_ble_eq_true rfl)⟩ rfl (st := [vi r1]) rfl (Nat.le_of_ble_eq_true rfl) dL_law_243 (fun r2 I2 hw => ?_)
  refine wm_icmp_eq (tgt := 1164) hC dL_law_246 (by decide) hw (fun hw => ?_) (fun hw => hw.elim)
  exact kk _ _ _ hRF hw
def plaw_1 (L : Nat) (X : Int → Int) (i : Int) (I J : mI) (R : mR) (K : mI → mI → mR → Prop) : Prop := (rg (i + 1) ∧ (((0 : Int) ≤ (i + 1) ∧ (i + 1) < (L : Int)) ∧ (p11_end (X (i + 1)) I (fun r1 I1 => (rg (i + 1) ∧ (((0 : Int) ≤ (i + 1) ∧ (i + 1) < (L : Int)) ∧ (p12_end (X (i + 1)) I1 (fun r2 I2 => (if r1 = r2 then (K I2 J R) else False)))))))))
set_option maxRecDepth 20000 in
theorem wlaw_1 {C : wX} {ad : Nat → Nat} {n L : Nat} {xs : Nat → Int32} {I J : mI} {R : mR} {i : Int} {K : mI → mI → mR → Prop} (hC : wOK C cL_law 4 RL) (hRm : wRm C 2048 84000 600000 7302250) (hStr : wStrC C ad) (hScr : wScr C ad L xs) (hRF : RF R) (kk : ∀ (I' J' : mI) (R' : mR), RF R' → K I' J' R' → WM C ad n I' J' R' 203 29614 1164 [(0, vr 999), (1, vr 1), (2, vr 159), (3, vi i)] []) (hw : plaw_1 L (scrX xs) i I J R K) : WM C ad n I J R 203 29614 251 [(0, vr 999), (1, vr 1), (2, vr 159), (3, vi i)] [] := by
  unfold plaw_1 at hw
  refine wm_aload_n hC 1 dL_law_251 rfl (by decide) ?_
  refine wm_aload_n hC 0 dL_law_252 rfl (by decide) ?_
  refine wm_iload_n hC 3 dL_law_253 rfl ?_
  refine wm_iconst hC dL_law_254 (k := ?_)
  refine x_iadd hC dL_law_255 hw (fun hw => ?_)
  refine x_sld hC hScr dL_law_256 hw (fun hw => ?_)
  refine y_callV_z_I hC hRm noS ml_L_18 kk_1 (c11_end hRF hw) (Nat.le_of_ble_eq_true rfl) (Nat.le_of_ble_eq_true rfl) ⟨(Nat.le_of_ble_eq_true rfl), (Nat.le_of_ble_eq_true rfl)⟩ rfl (st := []) rfl (Nat.le_of_ble_eq_true rfl) dL_law_257 (fun r1 I1 hw => ?_)
  refine wm_aload_n hC 2 dL_law_260 rfl (by decide) ?_
  refine wm_aload_n hC 0 dL_law_261 rfl (by decide) ?_
  refine wm_iload_n hC 3 dL_law_262 rfl ?_
  refine wm_iconst hC dL_law_263 (k := ?_)
  refine x_iadd hC dL_law_264 hw (fun hw => ?_)
  refine x_sld hC hScr dL_law_265 hw (fun hw => ?_)
  refine y_callV_z_I hC hRm noS ml_L_22 kk_159 (c12_end hRF hw) (Nat.le_of_ble_eq_true rfl) (Nat.le_of_ble_eq_true rfl) ⟨(Nat.le_of_ble_eq_true rfl), (Nat.le_of_ble_eq_true rfl)⟩ rfl (st := [vi r1]) rfl (Nat.le_of_ble_eq_true rfl) dL_law_266 (fun r2 I2 hw => ?_)
  refine wm_icmp_eq (tgt := 1164) hC dL_law_269 (by decide) hw (fun hw => ?_) (fun hw => hw.elim)
  exact kk _ _ _ hRF hw
def plaw_2 (L : Nat) (X : Int → Int) (i : Int) (I J : mI) (R : mR) (K : mI → mI → mR → Prop) : Prop := (p11_land I R (fun r1 I1 R1 => (p12_land I1 J (fun r2 I2 J1 => (if r1 = r2 then (K I2 J1 R1) else False)))))
set_option maxRecDepth 20000 in
theorem wlaw_2 {C : wX} {ad : Nat → Nat} {n L : Nat} {xs : Nat → Int32} {I J : mI} {R : mR} {i : Int} {K : mI → mI → mR → Prop} (hC : wOK C cL_law 4 RL) (hRm : wRm C 2048 84000 600000 7302250) (hStr : wStrC C ad) (hScr : wScr C ad L xs) (hRF : RF R) (kk : ∀ (I' J' : mI) (R' : mR), RF R' → K I' J' R' → WM C ad n I' J' R' 203 29614 1164 [(0, vr 999), (1, vr 1), (2, vr 159), (3, vi i)] []) (hw : plaw_2 L (scrX xs) i I J R K) : WM C ad n I J R 203 29614 274 [(0, vr 999), (1, vr 1), (2, vr 159), (3, vi i)] [] := by
  unfold plaw_2 at hw
  refine wm_aload_n hC 1 dL_law_274 rfl (by decide) ?_
  refine y_callV_i_IR hC hRm (fun _ => hStr) ml_L_23 kk_1 (c11_land hRF hw) (Nat.le_of_ble_eq_true rfl) (Nat.le_of_ble_eq_true rfl) ⟨(Nat.le_of_ble_eq_true rfl), (Nat.le_of_ble_eq_true rfl)⟩ rfl (st := []) rfl (Nat.le_of_ble_eq_true rfl) dL_law_275 (fun r1 I1 R1 hw => ?_)
  obtain ⟨rf1, hw⟩ := hw
  refine wm_aload_n hC 2 dL_law_278 rfl (by decide) ?_
  refine y_callV_i_IJ hC hRm noS ml_L_27 kk_159 (c12_land rf1 hw) (Nat.le_of_ble_eq_true rfl) (Nat.le_of_ble_eq_true rfl) ⟨(Nat.le_of_ble_eq_true rfl), (Nat.le_of_ble_eq_true rfl)⟩ rfl (st := [vi r1]) rfl (Nat.le_of_ble_eq_true rfl) dL_law_279 (fun r2 I2 J1 hw => ?_)
  refine wm_icmp_eq (tgt := 1164) hC dL_law_282 (by decide) hw (fun hw => ?_) (fun hw => hw.elim)
  exact kk _ _ _ rf1 hw
def plaw_3 (L : Nat) (X : Int → Int) (i : Int) (I J : mI) (R : mR) (K : mI → mI → mR → Prop) : Prop := (rg (i + 1) ∧ (((0 : Int) ≤ (i + 1) ∧ (i + 1) < (L : Int)) ∧ (p11_fault (X (i + 1)) I (fun r1 => (rg (i + 1) ∧ (((0 : Int) ≤ (i + 1) ∧ (i + 1) < (L : Int)) ∧ (p12_fault (X (i + 1)) I (fun r2 => (if r1 = r2 then (K I J R) else False)))))))))
set_option maxRecDepth 20000 in
theorem wlaw_3 {C : wX} {ad : Nat → Nat} {n L : Nat} {xs : Nat → Int32} {I J : mI} {R : mR} {i : Int} {K : mI → mI → mR → Prop} (hC : wOK C cL_law 4 RL) (hRm : wRm C 2048 84000 600000 7302250) (hStr : wStrC C ad) (hScr : wScr C ad L xs) (hRF : RF R) (kk : ∀ (I' J' : mI) (R' : mR), RF R' → K I' J' R' → WM C ad n I' J' R' 203 29614 1164 [(0, vr 999), (1, vr 1), (2, vr 159), (3, vi i)] []) (hw : plaw_3 L (scrX xs) i I J R K) : WM C ad n I J R 203 29614 287 [(0, vr 999), (1, vr 1), (2, vr 159), (3, vi i)] [] := by
  unfold plaw_3 at hw
  refine wm_aload_n hC 1 dL_law_287 rfl (by decide) ?_
  refine wm_aload_n hC 0 dL_law_288 rfl (by decide) ?_
  refine wm_iload_n hC 3 dL_law_289 rfl ?_
  refine wm_iconst hC dL_law_290 (k := ?_)
  refine x_iadd hC dL_law_291 hw (fun hw => ?_)
  refine x_sld hC hScr dL_law_292 hw (fun hw => ?_)
  refine y_callV_i_n hC hRm noS ml_L_28 kk_1 (c11_fault hRF hw) (Nat.le_of_ble_eq_true rfl) (Nat.le_of_ble_eq_true rfl) ⟨(Nat.le_of_ble_eq_true rfl), (Nat.le_of_ble_eq_true rfl)⟩ rfl (st := []) rfl (Nat.le_of_ble_eq_true rfl) dL_law_293 (fun r1 hw => ?_)
  refine wm_aload_n hC 2 dL_law_296 rfl (by decide) ?_
  refine wm_aload_n hC 0 dL_law_297 rfl (by decide) ?_
  refine wm_iload_n hC 3 dL_law_298 rfl ?_
  refine wm_iconst hC dL_law_299 (k := ?_)
  refine x_iadd hC dL_law_300 hw (fun hw => ?_)
  refine x_sld hC hScr dL_law_301 hw (fun hw => ?_)
  refine y_callV_i_n hC hRm noS ml_L_32 kk_159 (c12_fault hRF hw) (Nat.le_of_ble_eq_true rfl) (Nat.le_of_ble_eq_true rfl) ⟨(Nat.le_of_ble_eq_true rfl), (Nat.le_of_ble_eq_true rfl)⟩ rfl (st := [vi r1]) rfl (Nat.le_of_ble_eq_true rfl) dL_law_302 (fun r2 hw => ?_)
  refine wm_icmp_eq (tgt := 1164) hC dL_law_305 (by decide) hw (fun hw => ?_) (fun hw => hw.elim)
  exact kk _ _ _ hRF hw
def plaw_4 (L : Nat) (X : Int → Int) (i : Int) (I J : mI) (R : mR) (K : mI → mI → mR → Prop) : Prop := (rg (i + 1) ∧ (((0 : Int) ≤ (i + 1) ∧ (i + 1) < (L : Int)) ∧ (p11_has (X (i + 1)) I R (fun r1 => (rg (i + 1) ∧ (((0 : Int) ≤ (i + 1) ∧ (i + 1) < (L : Int)) ∧ (p12_has (X (i + 1)) I J (fun r2 => (if r1 = r2 then (K I J R) else False)))))))))
set_option maxRecDepth 20000 in
theorem wlaw_4 {C : wX} {ad : Nat → Nat} {n L : Nat} {xs : Nat → Int32} {I J : mI} {R : mR} {i : Int} {K : mI → mI → mR → Prop} (hC : wOK C cL_law 4 RL) (hRm : wRm C 2048 84000 600000 7302250) (hStr : wStrC C ad) (hScr : wScr C ad L xs) (hRF : RF R) (kk : ∀ (I' J' : mI) (R' : mR), RF R' → K I' J' R' → WM C ad n I' J' R' 203 29614 1164 [(0, vr 999), (1, vr 1), (2, vr 159), (3, vi i)] []) (hw : plaw_4 L (scrX xs) i I J R K) : WM C ad n I J R 203 29614 310 [(0, vr 999), (1, vr 1), (2, vr 159), (3, vi i)] [] := by
  unfold plaw_4 at hw
  refine wm_aload_n hC 1 dL_law_310 rfl (by decide) ?_
  refine wm_aload_n hC 0 dL_law_311 rfl (by decide) ?_
  refine wm_iload_n hC 3 dL_law_312 rfl ?_
  refine wm_iconst hC dL_law_313 (k := ?_)
  refine x_iadd hC dL_law_314 hw (fun hw => ?_)
  refine x_sld hC hScr dL_law_315 hw (fun hw => ?_)
  refine y_callV_i_n hC hRm noS ml_L_33 kk_1 (c11_has hRF hw) (Nat.le_of_ble_eq_true rfl) (Nat.le_of_ble_eq_true rfl) ⟨(Nat.le_of_ble_eq_true rfl), (Nat.le_of_ble_eq_true rfl)⟩ rfl (st := []) rfl (Nat.le_of_ble_eq_true rfl) dL_law_316 (fun r1 hw => ?_)
  refine wm_aload_n hC 2 dL_law_319 rfl (by decide) ?_
  refine wm_aload_n hC 0 dL_law_320 rfl (by decide) ?_
  refine wm_iload_n hC 3 dL_law_321 rfl ?_
  refine wm_iconst hC dL_law_322 (k := ?_)
  refine x_iadd hC dL_law_323 hw (fun hw => ?_)
  refine x_sld hC hScr dL_law_324 hw (fun hw => ?_)
  refine y_callV_i_n hC hRm noS ml_L_36 kk_159 (c12_has hRF hw) (Nat.le_of_ble_eq_true rfl) (Nat.le_of_ble_eq_true rfl) ⟨(Nat.le_of_ble_eq_true rfl), (Nat.le_of_ble_eq_true rfl)⟩ rfl (st := [vi r1]) rfl (Nat.le_of_ble_eq_true rfl) dL_law_325 (fun r2 hw => ?_)
  refine wm_icmp_eq (tgt := 1164) hC dL_law_328 (by decide) hw (fun hw => ?_) (fun hw => hw.elim)
  exact kk _ _ _ hRF hw
def plaw_5 (L : Nat) (X : Int → Int) (i : Int) (I J : mI) (R : mR) (K : mI → mI → mR → Prop) : Prop := (rg (i + 1) ∧ (((0 : Int) ≤ (i + 1) ∧ (i + 1) < (L : Int)) ∧ (rg (i + 2) ∧ (((0 : Int) ≤ (i + 2) ∧ (i + 2) < (L : Int)) ∧ (rg (i + 3) ∧ (((0 : Int) ≤ (i + 3) ∧ (i + 3) < (L : Int)) ∧ (p11_letter (X (i + 1)) (X (i + 2)) (X (i + 3)) I R (fun r1 => (rg (i + 1) ∧ (((0 : Int) ≤ (i + 1) ∧ (i + 1) < (L : Int)) ∧ (rg (i + 2) ∧ (((0 : Int) ≤ (i + 2) ∧ (i + 2) < (L : Int)) ∧ (rg (i + 3) ∧ (((0 : Int) ≤ (i + 3) ∧ (i + 3) < (L : Int)) ∧ (p12_letter (X (i + 1)) (X (i + 2)) (X (i + 3)) I J (fun r2 => (if r1 = r2 then (K I J R) else False)))))))))))))))))
set_option maxRecDepth 20000 in
theorem wlaw_5 {C : wX} {ad : Nat → Nat} {n L : Nat} {xs : Nat → Int32} {I J : mI} {R : mR} {i : Int} {K : mI → mI → mR → Prop} (hC : wOK C cL_law 4 RL) (hRm : wRm C 2048 84000 600000 7302250) (hStr : wStrC C ad) (hScr : wScr C ad L xs) (hRF : RF R) (kk : ∀ (I' J' : mI) (R' : mR), RF R' → K I' J' R' → WM C ad n I' J' R' 203 29614 1164 [(0, vr 999), (1, vr 1), (2, vr 159), (3, vi i)] []) (hw : plaw_5 L (scrX xs) i I J R K) : WM C ad n I J R 203 29614 333 [(0, vr 999), (1, vr 1), (2, vr 159), (3, vi i)] [] := by
  unfold plaw_5 at hw
  refine wm_aload_n hC 1 dL_law_333 rfl (by decide) ?_
  refine wm_aload_n hC 0 dL_law_334 rfl (by decide) ?_
  refine wm_iload_n hC 3 dL_law_335 rfl ?_
  refine wm_iconst hC dL_law_336 (k := ?_)
  refine x_iadd hC dL_law_337 hw (fun hw => ?_)
  refine x_sld hC hScr dL_law_338 hw (fun hw => ?_)
  refine wm_aload_n hC 0 dL_law_339 rfl (by decide) ?_
  refine wm_iload_n hC 3 dL_law_340 rfl ?_
  refine wm_iconst hC dL_law_341 (k := ?_)
  refine x_iadd hC dL_law_342 hw (fun hw => ?_)
  refine x_sld hC hScr dL_law_343 hw (fun hw => ?_)
  refine wm_aload_n hC 0 dL_law_344 rfl (by decide) ?_
  refine wm_iload_n hC 3 dL_law_345 rfl ?_
  refine wm_iconst hC dL_law_346 (k := ?_)
  refine x_iadd hC dL_law_347 hw (fun hw => ?_)
  refine x_sld hC hScr dL_law_348 hw (fun hw => ?_)
  refine y_callV_i_n hC hRm noS ml_L_37 kk_1 (c11_letter hRF hw) (Nat.le_of_ble_eq_true rfl) (Nat.le_of_ble_eq_true rfl) ⟨(Nat.le_of_ble_eq_true rfl), (Nat.le_of_ble_eq_true rfl)⟩ rfl (st := []) rfl (Nat.le_of_ble_eq_true rfl) dL_law_349 (fun r1 hw => ?_)
  refine wm_aload_n hC 2 dL_law_352 rfl (by decide) ?_
  refine wm_aload_n hC 0 dL_law_353 rfl (by decide) ?_
  refine wm_iload_n hC 3 dL_law_354 rfl ?_
  refine wm_iconst hC dL_law_355 (k := ?_)
  refine x_iadd hC dL_law_356 hw (fun hw => ?_)
  refine x_sld hC hScr dL_law_357 hw (fun hw => ?_)
  refine wm_aload_n hC 0 dL_law_358 rfl (by decide) ?_
  refine wm_iload_n hC 3 dL_law_359 rfl ?_
  refine wm_iconst hC dL_law_360 (k := ?_)
  refine x_iadd hC dL_law_361 hw (fun hw => ?_)
  refine x_sld hC hScr dL_law_362 hw (fun hw => ?_)
  refine wm_aload_n hC 0 dL_law_363 rfl (by decide) ?_
  refine wm_iload_n hC 3 dL_law_364 rfl ?_
  refine wm_iconst hC dL_law_365 (k := ?_)
  refine x_iadd hC dL_law_366 hw (fun hw => ?_)
  refine x_sld hC hScr dL_law_367 hw (fun hw => ?_)
  refine y_callV_i_n hC hRm noS ml_L_41 kk_159 (c12_letter hRF hw) (Nat.le_of_ble_eq_true rfl) (Nat.le_of_ble_eq_true rfl) ⟨(Nat.le_of_ble_eq_true rfl), (Nat.le_of_ble_eq_true rfl)⟩ rfl (st := [vi r1]) rfl (Nat.le_of_ble_eq_true rfl) dL_law_368 (fun r2 hw => ?_)
  refine wm_icmp_eq (tgt := 1164) hC dL_law_371 (by decide) hw (fun hw => ?_) (fun hw => hw.elim)
  exact kk _ _ _ hRF hw
def plaw_6 (L : Nat) (X : Int → Int) (i : Int) (I J : mI) (R : mR) (K : mI → mI → mR → Prop) : Prop := (rg (i + 1) ∧ (((0 : Int) ≤ (i + 1) ∧ (i + 1) < (L : Int)) ∧ (rg (i + 2) ∧ (((0 : Int) ≤ (i + 2) ∧ (i + 2) < (L : Int)) ∧ (p11_blind (X (i + 1)) (X (i + 2)) I J R (fun r1 I1 J1 R1 => (rg (i + 1) ∧ (((0 : Int) ≤ (i + 1) ∧ (i + 1) < (L : Int)) ∧ (rg (i + 2) ∧ (((0 : Int) ≤ (i + 2) ∧ (i + 2) < (L : Int)) ∧ (p12_blind (X (i + 1)) (X (i + 2)) I1 J1 (fun r2 I2 J2 => (if r1 = r2 then (K I2 J2 R1) else False)))))))))))))
set_option maxRecDepth 20000 in
theorem wlaw_6 {C : wX} {ad : Nat → Nat} {n L : Nat} {xs : Nat → Int32} {I J : mI} {R : mR} {i : Int} {K : mI → mI → mR → Prop} (hC : wOK C cL_law 4 RL) (hRm : wRm C 2048 84000 600000 7302250) (hStr : wStrC C ad) (hScr : wScr C ad L xs) (hRF : RF R) (kk : ∀ (I' J' : mI) (R' : mR), RF R' → K I' J' R' → WM C ad n I' J' R' 203 29614 1164 [(0, vr 999), (1, vr 1), (2, vr 159), (3, vi i)] []) (hw : plaw_6 L (scrX xs) i I J R K) : WM C ad n I J R 203 29614 376 [(0, vr 999), (1, vr 1), (2, vr 159), (3, vi i)] [] := by
  unfold plaw_6 at hw
  refine wm_aload_n hC 1 dL_law_376 rfl (by decide) ?_
  refine wm_aload_n hC 0 dL_law_377 rfl (by decide) ?_
  refine wm_iload_n hC 3 dL_law_378 rfl ?_
  refine wm_iconst hC dL_law_379 (k := ?_)
  refine x_iadd hC dL_law_380 hw (fun hw => ?_)
  refine x_sld hC hScr dL_law_381 hw (fun hw => ?_)
  refine wm_aload_n hC 0 dL_law_382 rfl (by decide) ?_
  refine wm_iload_n hC 3 dL_law_383 rfl ?_
  refine wm_iconst hC dL_law_384 (k := ?_)
  refine x_iadd hC dL_law_385 hw (fun hw => ?_)
  refine x_sld hC hScr dL_law_386 hw (fun hw => ?_)
  refine y_callV_i_IJR hC hRm noS ml_L_42 kk_1 (c11_blind hRF hw) (Nat.le_of_ble_eq_true rfl) (Nat.le_of_ble_eq_true rfl) ⟨(Nat.le_of_ble_eq_true rfl), (Nat.le_of_ble_eq_true rfl)⟩ rfl (st := []) rfl (Nat.le_of_ble_eq_true rfl) dL_law_387 (fun r1 I1 J1 R1 hw => ?_)
  obtain ⟨rf1, hw⟩ := hw
  refine wm_aload_n hC 2 dL_law_390 rfl (by decide) ?_
  refine wm_aload_n hC 0 dL_law_391 rfl (by decide) ?_
  refine wm_iload_n hC 3 dL_law_392 rfl ?_
  refine wm_iconst hC dL_law_393 (k := ?_)
  refine x_iadd hC dL_law_394 hw (fun hw => ?_)
  refine x_sld hC hScr dL_law_395 hw (fun hw => ?_)
  refine wm_aload_n hC 0 dL_law_396 rfl (by decide) ?_
  refine wm_iload_n hC 3 dL_law_397 rfl ?_
  refine wm_iconst hC dL_law_398 (k := ?_)
  refine x_iadd hC dL_law_399 hw (fun hw => ?_)
  refine x_sld hC hScr dL_law_400 hw (fun hw => ?_)
  refine y_callV_i_IJ hC hRm noS ml_L_46 kk_159 (c12_blind rf1 hw) (Nat.le_of_ble_eq_true rfl) (Nat.le_of_ble_eq_true rfl) ⟨(Nat.le_of_ble_eq_true rfl), (Nat.le_of_ble_eq_true rfl)⟩ rfl (st := [vi r1]) rfl (Nat.le_of_ble_eq_true rfl) dL_law_401 (fun r2 I2 J2 hw => ?_)
  refine wm_icmp_eq (tgt := 1164) hC dL_law_404 (by decide) hw (fun hw => ?_) (fun hw => hw.elim)
  exact kk _ _ _ rf1 hw
def plaw_7 (L : Nat) (X : Int → Int) (i : Int) (I J : mI) (R : mR) (K : mI → mI → mR → Prop) : Prop := (rg (i + 1) ∧ (((0 : Int) ≤ (i + 1) ∧ (i + 1) < (L : Int)) ∧ (rg (i + 2) ∧ (((0 : Int) ≤ (i + 2) ∧ (i + 2) < (L : Int)) ∧ (p11_colour (X (i + 1)) (X (i + 2)) I R (fun r1 => (rg (i + 1) ∧ (((0 : Int) ≤ (i + 1) ∧ (i + 1) < (L : Int)) ∧ (rg (i + 2) ∧ (((0 : Int) ≤ (i + 2) ∧ (i + 2) < (L : Int)) ∧ (p12_colour (X (i + 1)) (X (i + 2)) I (fun r2 => (if r1 = r2 then (K I J R) else False)))))))))))))
set_option maxRecDepth 20000 in
theorem wlaw_7 {C : wX} {ad : Nat → Nat} {n L : Nat} {xs : Nat → Int32} {I J : mI} {R : mR} {i : Int} {K : mI → mI → mR → Prop} (hC : wOK C cL_law 4 RL) (hRm : wRm C 2048 84000 600000 7302250) (hStr : wStrC C ad) (hScr : wScr C ad L xs) (hRF : RF R) (kk : ∀ (I' J' : mI) (R' : mR), RF R' → K I' J' R' → WM C ad n I' J' R' 203 29614 1164 [(0, vr 999), (1, vr 1), (2, vr 159), (3, vi i)] []) (hw : plaw_7 L (scrX xs) i I J R K) : WM C ad n I J R 203 29614 409 [(0, vr 999), (1, vr 1), (2, vr 159), (3, vi i)] [] := by
  unfold plaw_7 at hw
  refine wm_aload_n hC 1 dL_law_409 rfl (by decide) ?_
  refine wm_aload_n hC 0 dL_law_410 rfl (by decide) ?_
  refine wm_iload_n hC 3 dL_law_411 rfl ?_
  refine wm_iconst hC dL_law_412 (k := ?_)
  refine x_iadd hC dL_law_413 hw (fun hw => ?_)
  refine x_sld hC hScr dL_law_414 hw (fun hw => ?_)
  refine wm_aload_n hC 0 dL_law_415 rfl (by decide) ?_
  refine wm_iload_n hC 3 dL_law_416 rfl ?_
  refine wm_iconst hC dL_law_417 (k := ?_)
  refine x_iadd hC dL_law_418 hw (fun hw => ?_)
  refine x_sld hC hScr dL_law_419 hw (fun hw => ?_)
  refine y_callV_i_n hC hRm noS ml_L_47 kk_1 (c11_colour hRF hw) (Nat.le_of_ble_eq_true rfl) (Nat.le_of_ble_eq_true rfl) ⟨(Nat.le_of_ble_eq_true rfl), (Nat.le_of_ble_eq_true rfl)⟩ rfl (st := []) rfl (Nat.le_of_ble_eq_true rfl) dL_law_420 (fun r1 hw => ?_)
  refine wm_aload_n hC 2 dL_law_423 rfl (by decide) ?_
  refine wm_aload_n hC 0 dL_law_424 rfl (by decide) ?_
  refine wm_iload_n hC 3 dL_law_425 rfl ?_
  refine wm_iconst hC dL_law_426 (k := ?_)
  refine x_iadd hC dL_law_427 hw (fun hw => ?_)
  refine x_sld hC hScr dL_law_428 hw (fun hw => ?_)
  refine wm_aload_n hC 0 dL_law_429 rfl (by decide) ?_
  refine wm_iload_n hC 3 dL_law_430 rfl ?_
  refine wm_iconst hC dL_law_431 (k := ?_)
  refine x_iadd hC dL_law_432 hw (fun hw => ?_)
  refine x_sld hC hScr dL_law_433 hw (fun hw => ?_)
  refine y_callV_i_n hC hRm noS ml_L_50 kk_159 (c12_colour hRF hw) (Nat.le_of_ble_eq_true rfl) (Nat.le_of_ble_eq_true rfl) ⟨(Nat.le_of_ble_eq_true rfl), (Nat.le_of_ble_eq_true rfl)⟩ rfl (st := [vi r1]) rfl (Nat.le_of_ble_eq_true rfl) dL_law_434 (fun r2 hw => ?_)
  refine wm_icmp_eq (tgt := 1164) hC dL_law_437 (by decide) hw (fun hw => ?_) (fun hw => hw.elim)
  exact kk _ _ _ hRF hw
def plaw_8 (L : Nat) (X : Int → Int) (i : Int) (I J : mI) (R : mR) (K : mI → mI → mR → Prop) : Prop := (rg (i + 1) ∧ (((0 : Int) ≤ (i + 1) ∧ (i + 1) < (L : Int)) ∧ (rg (i + 2) ∧ (((0 : Int) ≤ (i + 2) ∧ (i + 2) < (L : Int)) ∧ (p11_thing (X (i + 1)) (X (i + 2)) I R (fun r1 => (rg (i + 1) ∧ (((0 : Int) ≤ (i + 1) ∧ (i + 1) < (L : Int)) ∧ (rg (i + 2) ∧ (((0 : Int) ≤ (i + 2) ∧ (i + 2) < (L : Int)) ∧ (p12_thing (X (i + 1)) (X (i + 2)) I (fun r2 => (if r1 = r2 then (K I J R) else False)))))))))))))
set_option maxRecDepth 20000 in
theorem wlaw_8 {C : wX} {ad : Nat → Nat} {n L : Nat} {xs : Nat → Int32} {I J : mI} {R : mR} {i : Int} {K : mI → mI → mR → Prop} (hC : wOK C cL_law 4 RL) (hRm : wRm C 2048 84000 600000 7302250) (hStr : wStrC C ad) (hScr : wScr C ad L xs) (hRF : RF R) (kk : ∀ (I' J' : mI) (R' : mR), RF R' → K I' J' R' → WM C ad n I' J' R' 203 29614 1164 [(0, vr 999), (1, vr 1), (2, vr 159), (3, vi i)] []) (hw : plaw_8 L (scrX xs) i I J R K) : WM C ad n I J R 203 29614 442 [(0, vr 999), (1, vr 1), (2, vr 159), (3, vi i)] [] := by
  unfold plaw_8 at hw
  refine wm_aload_n hC 1 dL_law_442 rfl (by decide) ?_
  refine wm_aload_n hC 0 dL_law_443 rfl (by decide) ?_
  refine wm_iload_n hC 3 dL_law_444 rfl ?_
  refine wm_iconst hC dL_law_445 (k := ?_)
  refine x_iadd hC dL_law_446 hw (fun hw => ?_)
  refine x_sld hC hScr dL_law_447 hw (fun hw => ?_)
  refine wm_aload_n hC 0 dL_law_448 rfl (by decide) ?_
  refine wm_iload_n hC 3 dL_law_449 rfl ?_
  refine wm_iconst hC dL_law_450 (k := ?_)
  refine x_iadd hC dL_law_451 hw (fun hw => ?_)
  refine x_sld hC hScr dL_law_452 hw (fun hw => ?_)
  refine y_callV_i_n hC hRm noS ml_L_51 kk_1 (c11_thing hRF hw) (Nat.le_of_ble_eq_true rfl) (Nat.le_of_ble_eq_true rfl) ⟨(Nat.le_of_ble_eq_true rfl), (Nat.le_of_ble_eq_true rfl)⟩ rfl (st := []) rfl (Nat.le_of_ble_eq_true rfl) dL_law_453 (fun r1 hw => ?_)
  refine wm_aload_n hC 2 dL_law_456 rfl (by decide) ?_
  refine wm_aload_n hC 0 dL_law_457 rfl (by decide) ?_
  refine wm_iload_n hC 3 dL_law_458 rfl ?_
  refine wm_iconst hC dL_law_459 (k := ?_)
  refine x_iadd hC dL_law_460 hw (fun hw => ?_)
  refine x_sld hC hScr dL_law_461 hw (fun hw => ?_)
  refine wm_aload_n hC 0 dL_law_462 rfl (by decide) ?_
  refine wm_iload_n hC 3 dL_law_463 rfl ?_
  refine wm_iconst hC dL_law_464 (k := ?_)
  refine x_iadd hC dL_law_465 hw (fun hw => ?_)
  refine x_sld hC hScr dL_law_466 hw (fun hw => ?_)
  refine y_callV_i_n hC hRm noS ml_L_54 kk_159 (c12_thing hRF hw) (Nat.le_of_ble_eq_true rfl) (Nat.le_of_ble_eq_true rfl) ⟨(Nat.le_of_ble_eq_true rfl), (Nat.le_of_ble_eq_true rfl)⟩ rfl (st := [vi r1]) rfl (Nat.le_of_ble_eq_true rfl) dL_law_467 (fun r2 hw => ?_)
  refine wm_icmp_eq (tgt := 1164) hC dL_law_470 (by decide) hw (fun hw => ?_) (fun hw => hw.elim)
  exact kk _ _ _ hRF hw
def plaw_9 (L : Nat) (X : Int → Int) (i : Int) (I J : mI) (R : mR) (K : mI → mI → mR → Prop) : Prop := (rg (i + 1) ∧ (((0 : Int) ≤ (i + 1) ∧ (i + 1) < (L : Int)) ∧ (rg (i + 2) ∧ (((0 : Int) ≤ (i + 2) ∧ (i + 2) < (L : Int)) ∧ (rg (i + 3) ∧ (((0 : Int) ≤ (i + 3) ∧ (i + 3) < (L : Int)) ∧ (p11_score (X (i + 1)) (X (i + 2)) (X (i + 3)) I J R (fun r1 I1 J1 R1 => (rg (i + 1) ∧ (((0 : Int) ≤ (i + 1) ∧ (i + 1) < (L : Int)) ∧ (rg (i + 2) ∧ (((0 : Int) ≤ (i + 2) ∧ (i + 2) < (L : Int)) ∧ (rg (i + 3) ∧ (((0 : Int) ≤ (i + 3) ∧ (i + 3) < (L : Int)) ∧ (p12_score (X (i + 1)) (X (i + 2)) (X (i + 3)) I1 J1 (fun r2 I2 J2 => (if r1 = r2 then (K I2 J2 R1) else False)))))))))))))))))
set_option maxRecDepth 20000 in
theorem wlaw_9 {C : wX} {ad : Nat → Nat} {n L : Nat} {xs : Nat → Int32} {I J : mI} {R : mR} {i : Int} {K : mI → mI → mR → Prop} (hC : wOK C cL_law 4 RL) (hRm : wRm C 2048 84000 600000 7302250) (hStr : wStrC C ad) (hScr : wScr C ad L xs) (hRF : RF R) (kk : ∀ (I' J' : mI) (R' : mR), RF R' → K I' J' R' → WM C ad n I' J' R' 203 29614 1164 [(0, vr 999), (1, vr 1), (2, vr 159), (3, vi i)] []) (hw : plaw_9 L (scrX xs) i I J R K) : WM C ad n I J R 203 29614 475 [(0, vr 999), (1, vr 1), (2, vr 159), (3, vi i)] [] := by
  unfold plaw_9 at hw
  refine wm_aload_n hC 1 dL_law_475 rfl (by decide) ?_
  refine wm_aload_n hC 0 dL_law_476 rfl (by decide) ?_
  refine wm_iload_n hC 3 dL_law_477 rfl ?_
  refine wm_iconst hC dL_law_478 (k := ?_)
  refine x_iadd hC dL_law_479 hw (fun hw => ?_)
  refine x_sld hC hScr dL_law_480 hw (fun hw => ?_)
  refine wm_aload_n hC 0 dL_law_481 rfl (by decide) ?_
  refine wm_iload_n hC 3 dL_law_482 rfl ?_
  refine wm_iconst hC dL_law_483 (k := ?_)
  refine x_iadd hC dL_law_484 hw (fun hw => ?_)
  refine x_sld hC hScr dL_law_485 hw (fun hw => ?_)
  refine wm_aload_n hC 0 dL_law_486 rfl (by decide) ?_
  refine wm_iload_n hC 3 dL_law_487 rfl ?_
  refine wm_iconst hC dL_law_488 (k := ?_)
  refine x_iadd hC dL_law_489 hw (fun hw => ?_)
  refine x_sld hC hScr dL_law_490 hw (fun hw => ?_)
  refine y_callV_l_IJR hC hRm noS ml_L_55 kk_1 (c11_score hRF hw) (Nat.le_of_ble_eq_true rfl) (Nat.le_of_ble_eq_true rfl) ⟨(Nat.le_of_ble_eq_true rfl), (Nat.le_of_ble_eq_true rfl)⟩ rfl (st := []) rfl (Nat.le_of_ble_eq_true rfl) dL_law_491 (fun r1 I1 J1 R1 hw => ?_)
  obtain ⟨rf1, hw⟩ := hw
  refine wm_aload_n hC 2 dL_law_494 rfl (by decide) ?_
  refine wm_aload_n hC 0 dL_law_495 rfl (by decide) ?_
  refine wm_iload_n hC 3 dL_law_496 rfl ?_
  refine wm_iconst hC dL_law_497 (k := ?_)
  refine x_iadd hC dL_law_498 hw (fun hw => ?_)
  refine x_sld hC hScr dL_law_499 hw (fun hw => ?_)
  refine wm_aload_n hC 0 dL_law_500 rfl (by decide) ?_
  refine wm_iload_n hC 3 dL_law_501 rfl ?_
  refine wm_iconst hC dL_law_502 (k := ?_)
  refine x_iadd hC dL_law_503 hw (fun hw => ?_)
  refine x_sld hC hScr dL_law_504 hw (fun hw => ?_)
  refine wm_aload_n hC 0 dL_law_505 rfl (by decide) ?_
  refine wm_iload_n hC 3 dL_law_506 rfl ?_
  refine wm_iconst hC dL_law_507 (k := ?_)
  refine x_iadd hC dL_law_508 hw (fun hw => ?_)
  refine x_sld hC hScr dL_law_509 hw (fun hw => ?_)
  refine y_callV_l_IJ hC hRm noS ml_L_59 kk_159 (c12_score rf1 hw) (Nat.le_of_ble_eq_true rfl) (Nat.le_of_ble_eq_true rfl) ⟨(Nat.le_of_ble_eq_true rfl), (Nat.le_of_ble_eq_true rfl)⟩ rfl (st := [vl r1]) rfl (Nat.le_of_ble_eq_true rfl) dL_law_510 (fun r2 I2 J2 hw => ?_)
  refine wm_lcmp_eq (tgt := 1164) hC dL_law_513 dL_law_514 (by decide) hw (fun hw => ?_) (fun hw => hw.elim)
  exact kk _ _ _ rf1 hw
def plaw_10 (L : Nat) (X : Int → Int) (i : Int) (I J : mI) (R : mR) (K : mI → mI → mR → Prop) : Prop := (rg (i + 1) ∧ (((0 : Int) ≤ (i + 1) ∧ (i + 1) < (L : Int)) ∧ (rg (i + 2) ∧ (((0 : Int) ≤ (i + 2) ∧ (i + 2) < (L : Int)) ∧ (p11_word (X (i + 1)) (X (i + 2)) I J R (fun r1 I1 J1 R1 => (rg (i + 1) ∧ (((0 : Int) ≤ (i + 1) ∧ (i + 1) < (L : Int)) ∧ (rg (i + 2) ∧ (((0 : Int) ≤ (i + 2) ∧ (i + 2) < (L : Int)) ∧ (p12_word (X (i + 1)) (X (i + 2)) I1 J1 (fun r2 I2 J2 => (if r1 = r2 then (K I2 J2 R1) else False)))))))))))))
set_option maxRecDepth 20000 in
theorem wlaw_10 {C : wX} {ad : Nat → Nat} {n L : Nat} {xs : Nat → Int32} {I J : mI} {R : mR} {i : Int} {K : mI → mI → mR → Prop} (hC : wOK C cL_law 4 RL) (hRm : wRm C 2048 84000 600000 7302250) (hStr : wStrC C ad) (hScr : wScr C ad L xs) (hRF : RF R) (kk : ∀ (I' J' : mI) (R' : mR), RF R' → K I' J' R' → WM C ad n I' J' R' 203 29614 1164 [(0, vr 999), (1, vr 1), (2, vr 159), (3, vi i)] []) (hw : plaw_10 L (scrX xs) i I J R K) : WM C ad n I J R 203 29614 519 [(0, vr 999), (1, vr 1), (2, vr 159), (3, vi i)] [] := by
  unfold plaw_10 at hw
  refine wm_aload_n hC 1 dL_law_519 rfl (by decide) ?_
  refine wm_aload_n hC 0 dL_law_520 rfl (by decide) ?_
  refine wm_iload_n hC 3 dL_law_521 rfl ?_
  refine wm_iconst hC dL_law_522 (k := ?_)
  refine x_iadd hC dL_law_523 hw (fun hw => ?_)
  refine x_sld hC hScr dL_law_524 hw (fun hw => ?_)
  refine wm_aload_n hC 0 dL_law_525 rfl (by decide) ?_
  refine wm_iload_n hC 3 dL_law_526 rfl ?_
  refine wm_iconst hC dL_law_527 (k := ?_)
  refine x_iadd hC dL_law_528 hw (fun hw => ?_)
  refine x_sld hC hScr dL_law_529 hw (fun hw => ?_)
  refine y_callV_i_IJR hC hRm noS ml_L_60 kk_1 (c11_word hRF hw) (Nat.le_of_ble_eq_true rfl) (Nat.le_of_ble_eq_true rfl) ⟨(Nat.le_of_ble_eq_true rfl), (Nat.le_of_ble_eq_true rfl)⟩ rfl (st := []) rfl (Nat.le_of_ble_eq_true rfl) dL_law_530 (fun r1 I1 J1 R1 hw => ?_)
  obtain ⟨rf1, hw⟩ := hw
  refine wm_aload_n hC 2 dL_law_533 rfl (by decide) ?_
  refine wm_aload_n hC 0 dL_law_534 rfl (by decide) ?_
  refine wm_iload_n hC 3 dL_law_535 rfl ?_
  refine wm_iconst hC dL_law_536 (k := ?_)
  refine x_iadd hC dL_law_537 hw (fun hw => ?_)
  refine x_sld hC hScr dL_law_538 hw (fun hw => ?_)
  refine wm_aload_n hC 0 dL_law_539 rfl (by decide) ?_
  refine wm_iload_n hC 3 dL_law_540 rfl ?_
  refine wm_iconst hC dL_law_541 (k := ?_)
  refine x_iadd hC dL_law_542 hw (fun hw => ?_)
  refine x_sld hC hScr dL_law_543 hw (fun hw => ?_)
  refine y_callV_i_IJ hC hRm noS ml_L_63 kk_159 (c12_word rf1 hw) (Nat.le_of_ble_eq_true rfl) (Nat.le_of_ble_eq_true rfl) ⟨(Nat.le_of_ble_eq_true rfl), (Nat.le_of_ble_eq_true rfl)⟩ rfl (st := [vi r1]) rfl (Nat.le_of_ble_eq_true rfl) dL_law_544 (fun r2 I2 J2 hw => ?_)
  refine wm_icmp_eq (tgt := 1164) hC dL_law_547 (by decide) hw (fun hw => ?_) (fun hw => hw.elim)
  exact kk _ _ _ rf1 hw
def plaw_11 (L : Nat) (X : Int → Int) (i : Int) (I J : mI) (R : mR) (K : mI → mI → mR → Prop) : Prop := (rg (i + 1) ∧ (((0 : Int) ≤ (i + 1) ∧ (i + 1) < (L : Int)) ∧ (rg (i + 2) ∧ (((0 : Int) ≤ (i + 2) ∧ (i + 2) < (L : Int)) ∧ (p11_choice (X (i + 1)) (X (i + 2)) I J R (fun r1 I1 J1 R1 => (rg (i + 1) ∧ (((0 : Int) ≤ (i + 1) ∧ (i + 1) < (L : Int)) ∧ (rg (i + 2) ∧ (((0 : Int) ≤ (i + 2) ∧ (i + 2) < (L : Int)) ∧ (p12_choice (X (i + 1)) (X (i + 2)) I1 J1 (fun r2 I2 J2 => (if r1 = r2 then (K I2 J2 R1) else False)))))))))))))
set_option maxRecDepth 20000 in
theorem wlaw_11 {C : wX} {ad : Nat → Nat} {n L : Nat} {xs : Nat → Int32} {I J : mI} {R : mR} {i : Int} {K : mI → mI → mR → Prop} (hC : wOK C cL_law 4 RL) (hRm : wRm C 2048 84000 600000 7302250) (hStr : wStrC C ad) (hScr : wScr C ad L xs) (hRF : RF R) (kk : ∀ (I' J' : mI) (R' : mR), RF R' → K I' J' R' → WM C ad n I' J' R' 203 29614 1164 [(0, vr 999), (1, vr 1), (2, vr 159), (3, vi i)] []) (hw : plaw_11 L (scrX xs) i I J R K) : WM C ad n I J R 203 29614 552 [(0, vr 999), (1, vr 1), (2, vr 159), (3, vi i)] [] := by
  unfold plaw_11 at hw
  refine wm_aload_n hC 1 dL_law_552 rfl (by decide) ?_
  refine wm_aload_n hC 0 dL_law_553 rfl (by decide) ?_
  refine wm_iload_n hC 3 dL_law_554 rfl ?_
  refine wm_iconst hC dL_law_555 (k := ?_)
  refine x_iadd hC dL_law_556 hw (fun hw => ?_)
  refine x_sld hC hScr dL_law_557 hw (fun hw => ?_)
  refine wm_aload_n hC 0 dL_law_558 rfl (by decide) ?_
  refine wm_iload_n hC 3 dL_law_559 rfl ?_
  refine wm_iconst hC dL_law_560 (k := ?_)
  refine x_iadd hC dL_law_561 hw (fun hw => ?_)
  refine x_sld hC hScr dL_law_562 hw (fun hw => ?_)
  refine y_callV_i_IJR hC hRm noS ml_L_64 kk_1 (c11_choice hRF hw) (Nat.le_of_ble_eq_true rfl) (Nat.le_of_ble_eq_true rfl) ⟨(Nat.le_of_ble_eq_true rfl), (Nat.le_of_ble_eq_true rfl)⟩ rfl (st := []) rfl (Nat.le_of_ble_eq_true rfl) dL_law_563 (fun r1 I1 J1 R1 hw => ?_)
  obtain ⟨rf1, hw⟩ := hw
  refine wm_aload_n hC 2 dL_law_566 rfl (by decide) ?_
  refine wm_aload_n hC 0 dL_law_567 rfl (by decide) ?_
  refine wm_iload_n hC 3 dL_law_568 rfl ?_
  refine wm_iconst hC dL_law_569 (k := ?_)
  refine x_iadd hC dL_law_570 hw (fun hw => ?_)
  refine x_sld hC hScr dL_law_571 hw (fun hw => ?_)
  refine wm_aload_n hC 0 dL_law_572 rfl (by decide) ?_
  refine wm_iload_n hC 3 dL_law_573 rfl ?_
  refine wm_iconst hC dL_law_574 (k := ?_)
  refine x_iadd hC dL_law_575 hw (fun hw => ?_)
  refine x_sld hC hScr dL_law_576 hw (fun hw => ?_)
  refine y_callV_i_IJ hC hRm noS ml_L_67 kk_159 (c12_choice rf1 hw) (Nat.le_of_ble_eq_true rfl) (Nat.le_of_ble_eq_true rfl) ⟨(Nat.le_of_ble_eq_true rfl), (Nat.le_of_ble_eq_true rfl)⟩ rfl (st := [vi r1]) rfl (Nat.le_of_ble_eq_true rfl) dL_law_577 (fun r2 I2 J2 hw => ?_)
  refine wm_icmp_eq (tgt := 1164) hC dL_law_580 (by decide) hw (fun hw => ?_) (fun hw => hw.elim)
  exact kk _ _ _ rf1 hw
def plaw_12 (L : Nat) (X : Int → Int) (i : Int) (I J : mI) (R : mR) (K : mI → mI → mR → Prop) : Prop := (rg (i + 1) ∧ (((0 : Int) ≤ (i + 1) ∧ (i + 1) < (L : Int)) ∧ (rg (i + 2) ∧ (((0 : Int) ≤ (i + 2) ∧ (i + 2) < (L : Int)) ∧ (p11_later (X (i + 1)) (X (i + 2)) I J R (fun r1 I1 J1 R1 => (rg (i + 1) ∧ (((0 : Int) ≤ (i + 1) ∧ (i + 1) < (L : Int)) ∧ (rg (i + 2) ∧ (((0 : Int) ≤ (i + 2) ∧ (i + 2) < (L : Int)) ∧ (p12_later (X (i + 1)) (X (i + 2)) I1 J1 (fun r2 I2 J2 => (if r1 = r2 then (K I2 J2 R1) else False)))))))))))))
set_option maxRecDepth 20000 in
theorem wlaw_12 {C : wX} {ad : Nat → Nat} {n L : Nat} {xs : Nat → Int32} {I J : mI} {R : mR} {i : Int} {K : mI → mI → mR → Prop} (hC : wOK C cL_law 4 RL) (hRm : wRm C 2048 84000 600000 7302250) (hStr : wStrC C ad) (hScr : wScr C ad L xs) (hRF : RF R) (kk : ∀ (I' J' : mI) (R' : mR), RF R' → K I' J' R' → WM C ad n I' J' R' 203 29614 1164 [(0, vr 999), (1, vr 1), (2, vr 159), (3, vi i)] []) (hw : plaw_12 L (scrX xs) i I J R K) : WM C ad n I J R 203 29614 585 [(0, vr 999), (1, vr 1), (2, vr 159), (3, vi i)] [] := by
  unfold plaw_12 at hw
  refine wm_aload_n hC 1 dL_law_585 rfl (by decide) ?_
  refine wm_aload_n hC 0 dL_law_586 rfl (by decide) ?_
  refine wm_iload_n hC 3 dL_law_587 rfl ?_
  refine wm_iconst hC dL_law_588 (k := ?_)
  refine x_iadd hC dL_law_589 hw (fun hw => ?_)
  refine x_sld hC hScr dL_law_590 hw (fun hw => ?_)
  refine wm_aload_n hC 0 dL_law_591 rfl (by decide) ?_
  refine wm_iload_n hC 3 dL_law_592 rfl ?_
  refine wm_iconst hC dL_law_593 (k := ?_)
  refine x_iadd hC dL_law_594 hw (fun hw => ?_)
  refine x_sld hC hScr dL_law_595 hw (fun hw => ?_)
  refine y_callV_i_IJR hC hRm noS ml_L_68 kk_1 (c11_later hRF hw) (Nat.le_of_ble_eq_true rfl) (Nat.le_of_ble_eq_true rfl) ⟨(Nat.le_of_ble_eq_true rfl), (Nat.le_of_ble_eq_true rfl)⟩ rfl (st := []) rfl (Nat.le_of_ble_eq_true rfl) dL_law_596 (fun r1 I1 J1 R1 hw => ?_)
  obtain ⟨rf1, hw⟩ := hw
  refine wm_aload_n hC 2 dL_law_599 rfl (by decide) ?_
  refine wm_aload_n hC 0 dL_law_600 rfl (by decide) ?_
  refine wm_iload_n hC 3 dL_law_601 rfl ?_
  refine wm_iconst hC dL_law_602 (k := ?_)
  refine x_iadd hC dL_law_603 hw (fun hw => ?_)
  refine x_sld hC hScr dL_law_604 hw (fun hw => ?_)
  refine wm_aload_n hC 0 dL_law_605 rfl (by decide) ?_
  refine wm_iload_n hC 3 dL_law_606 rfl ?_
  refine wm_iconst hC dL_law_607 (k := ?_)
  refine x_iadd hC dL_law_608 hw (fun hw => ?_)
  refine x_sld hC hScr dL_law_609 hw (fun hw => ?_)
  refine y_callV_i_IJ hC hRm noS ml_L_71 kk_159 (c12_later rf1 hw) (Nat.le_of_ble_eq_true rfl) (Nat.le_of_ble_eq_true rfl) ⟨(Nat.le_of_ble_eq_true rfl), (Nat.le_of_ble_eq_true rfl)⟩ rfl (st := [vi r1]) rfl (Nat.le_of_ble_eq_true rfl) dL_law_610 (fun r2 I2 J2 hw => ?_)
  refine wm_icmp_eq (tgt := 1164) hC dL_law_613 (by decide) hw (fun hw => ?_) (fun hw => hw.elim)
  exact kk _ _ _ rf1 hw
def plaw_13 (L : Nat) (X : Int → Int) (i : Int) (I J : mI) (R : mR) (K : mI → mI → mR → Prop) : Prop := (rg (i + 1) ∧ (((0 : Int) ≤ (i + 1) ∧ (i + 1) < (L : Int)) ∧ (rg (i + 2) ∧ (((0 : Int) ≤ (i + 2) ∧ (i + 2) < (L : Int)) ∧ (p11_mood (X (i + 1)) (X (i + 2)) I J R (fun r1 I1 J1 R1 => (rg (i + 1) ∧ (((0 : Int) ≤ (i + 1) ∧ (i + 1) < (L : Int)) ∧ (rg (i + 2) ∧ (((0 : Int) ≤ (i + 2) ∧ (i + 2) < (L : Int)) ∧ (p12_mood (X (i + 1)) (X (i + 2)) I1 J1 (fun r2 I2 J2 => (if r1 = r2 then (K I2 J2 R1) else False)))))))))))))
set_option maxRecDepth 20000 in
theorem wlaw_13 {C : wX} {ad : Nat → Nat} {n L : Nat} {xs : Nat → Int32} {I J : mI} {R : mR} {i : Int} {K : mI → mI → mR → Prop} (hC : wOK C cL_law 4 RL) (hRm : wRm C 2048 84000 600000 7302250) (hStr : wStrC C ad) (hScr : wScr C ad L xs) (hRF : RF R) (kk : ∀ (I' J' : mI) (R' : mR), RF R' → K I' J' R' → WM C ad n I' J' R' 203 29614 1164 [(0, vr 999), (1, vr 1), (2, vr 159), (3, vi i)] []) (hw : plaw_13 L (scrX xs) i I J R K) : WM C ad n I J R 203 29614 618 [(0, vr 999), (1, vr 1), (2, vr 159), (3, vi i)] [] := by
  unfold plaw_13 at hw
  refine wm_aload_n hC 1 dL_law_618 rfl (by decide) ?_
  refine wm_aload_n hC 0 dL_law_619 rfl (by decide) ?_
  refine wm_iload_n hC 3 dL_law_620 rfl ?_
  refine wm_iconst hC dL_law_621 (k := ?_)
  refine x_iadd hC dL_law_622 hw (fun hw => ?_)
  refine x_sld hC hScr dL_law_623 hw (fun hw => ?_)
  refine wm_aload_n hC 0 dL_law_624 rfl (by decide) ?_
  refine wm_iload_n hC 3 dL_law_625 rfl ?_
  refine wm_iconst hC dL_law_626 (k := ?_)
  refine x_iadd hC dL_law_627 hw (fun hw => ?_)
  refine x_sld hC hScr dL_law_628 hw (fun hw => ?_)
  refine y_callV_i_IJR hC hRm noS ml_L_72 kk_1 (c11_mood hRF hw) (Nat.le_of_ble_eq_true rfl) (Nat.le_of_ble_eq_true rfl) ⟨(Nat.le_of_ble_eq_true rfl), (Nat.le_of_ble_eq_true rfl)⟩ rfl (st := []) rfl (Nat.le_of_ble_eq_true rfl) dL_law_629 (fun r1 I1 J1 R1 hw => ?_)
  obtain ⟨rf1, hw⟩ := hw
  refine wm_aload_n hC 2 dL_law_632 rfl (by decide) ?_
  refine wm_aload_n hC 0 dL_law_633 rfl (by decide) ?_
  refine wm_iload_n hC 3 dL_law_634 rfl ?_
  refine wm_iconst hC dL_law_635 (k := ?_)
  refine x_iadd hC dL_law_636 hw (fun hw => ?_)
  refine x_sld hC hScr dL_law_637 hw (fun hw => ?_)
  refine wm_aload_n hC 0 dL_law_638 rfl (by decide) ?_
  refine wm_iload_n hC 3 dL_law_639 rfl ?_
  refine wm_iconst hC dL_law_640 (k := ?_)
  refine x_iadd hC dL_law_641 hw (fun hw => ?_)
  refine x_sld hC hScr dL_law_642 hw (fun hw => ?_)
  refine y_callV_i_IJ hC hRm noS ml_L_75 kk_159 (c12_mood rf1 hw) (Nat.le_of_ble_eq_true rfl) (Nat.le_of_ble_eq_true rfl) ⟨(Nat.le_of_ble_eq_true rfl), (Nat.le_of_ble_eq_true rfl)⟩ rfl (st := [vi r1]) rfl (Nat.le_of_ble_eq_true rfl) dL_law_643 (fun r2 I2 J2 hw => ?_)
  refine wm_icmp_eq (tgt := 1164) hC dL_law_646 (by decide) hw (fun hw => ?_) (fun hw => hw.elim)
  exact kk _ _ _ rf1 hw
def plaw_14 (L : Nat) (X : Int → Int) (i : Int) (I J : mI) (R : mR) (K : mI → mI → mR → Prop) : Prop := (rg (i + 1) ∧ (((0 : Int) ≤ (i + 1) ∧ (i + 1) < (L : Int)) ∧ (p11_purse (X (i + 1)) I J R (fun r1 I1 J1 R1 => (rg (i + 1) ∧ (((0 : Int) ≤ (i + 1) ∧ (i + 1) < (L : Int)) ∧ (p12_purse (X (i + 1)) I1 J1 (fun r2 I2 J2 => (if r1 = r2 then (K I2 J2 R1) else False)))))))))
set_option maxRecDepth 20000 in
theorem wlaw_14 {C : wX} {ad : Nat → Nat} {n L : Nat} {xs : Nat → Int32} {I J : mI} {R : mR} {i : Int} {K : mI → mI → mR → Prop} (hC : wOK C cL_law 4 RL) (hRm : wRm C 2048 84000 600000 7302250) (hStr : wStrC C ad) (hScr : wScr C ad L xs) (hRF : RF R) (kk : ∀ (I' J' : mI) (R' : mR), RF R' → K I' J' R' → WM C ad n I' J' R' 203 29614 1164 [(0, vr 999), (1, vr 1), (2, vr 159), (3, vi i)] []) (hw : plaw_14 L (scrX xs) i I J R K) : WM C ad n I J R 203 29614 651 [(0, vr 999), (1, vr 1), (2, vr 159), (3, vi i)] [] := by
  unfold plaw_14 at hw
  refine wm_aload_n hC 1 dL_law_651 rfl (by decide) ?_
  refine wm_aload_n hC 0 dL_law_652 rfl (by decide) ?_
  refine wm_iload_n hC 3 dL_law_653 rfl ?_
  refine wm_iconst hC dL_law_654 (k := ?_)
  refine x_iadd hC dL_law_655 hw (fun hw => ?_)
  refine x_sld hC hScr dL_law_656 hw (fun hw => ?_)
  refine y_callV_i_IJR hC hRm noS ml_L_76 kk_1 (c11_purse hRF hw) (Nat.le_of_ble_eq_true rfl) (Nat.le_of_ble_eq_true rfl) ⟨(Nat.le_of_ble_eq_true rfl), (Nat.le_of_ble_eq_true rfl)⟩ rfl (st := []) rfl (Nat.le_of_ble_eq_true rfl) dL_law_657 (fun r1 I1 J1 R1 hw => ?_)
  obtain ⟨rf1, hw⟩ := hw
  refine wm_aload_n hC 2 dL_law_660 rfl (by decide) ?_
  refine wm_aload_n hC 0 dL_law_661 rfl (by decide) ?_
  refine wm_iload_n hC 3 dL_law_662 rfl ?_
  refine wm_iconst hC dL_law_663 (k := ?_)
  refine x_iadd hC dL_law_664 hw (fun hw => ?_)
  refine x_sld hC hScr dL_law_665 hw (fun hw => ?_)
  refine y_callV_i_IJ hC hRm noS ml_L_79 kk_159 (c12_purse rf1 hw) (Nat.le_of_ble_eq_true rfl) (Nat.le_of_ble_eq_true rfl) ⟨(Nat.le_of_ble_eq_true rfl), (Nat.le_of_ble_eq_true rfl)⟩ rfl (st := [vi r1]) rfl (Nat.le_of_ble_eq_true rfl) dL_law_666 (fun r2 I2 J2 hw => ?_)
  refine wm_icmp_eq (tgt := 1164) hC dL_law_669 (by decide) hw (fun hw => ?_) (fun hw => hw.elim)
  exact kk _ _ _ rf1 hw
def plaw_15 (L : Nat) (X : Int → Int) (i : Int) (I J : mI) (R : mR) (K : mI → mI → mR → Prop) : Prop := (rg (i + 1) ∧ (((0 : Int) ≤ (i + 1) ∧ (i + 1) < (L : Int)) ∧ (rg (i + 2) ∧ (((0 : Int) ≤ (i + 2) ∧ (i + 2) < (L : Int)) ∧ (rg (i + 3) ∧ (((0 : Int) ≤ (i + 3) ∧ (i + 3) < (L : Int)) ∧ (p11_order (X (i + 1)) (X (i + 2)) (X (i + 3)) I J R (fun r1 I1 J1 R1 => (rg (i + 1) ∧ (((0 : Int) ≤ (i + 1) ∧ (i + 1) < (L : Int)) ∧ (rg (i + 2) ∧ (((0 : Int) ≤ (i + 2) ∧ (i + 2) < (L : Int)) ∧ (rg (i + 3) ∧ (((0 : Int) ≤ (i + 3) ∧ (i + 3) < (L : Int)) ∧ (p12_order (X (i + 1)) (X (i + 2)) (X (i + 3)) I1 J1 (fun r2 I2 J2 => (if r1 = r2 then (K I2 J2 R1) else False)))))))))))))))))
set_option maxRecDepth 20000 in
theorem wlaw_15 {C : wX} {ad : Nat → Nat} {n L : Nat} {xs : Nat → Int32} {I J : mI} {R : mR} {i : Int} {K : mI → mI → mR → Prop} (hC : wOK C cL_law 4 RL) (hRm : wRm C 2048 84000 600000 7302250) (hStr : wStrC C ad) (hScr : wScr C ad L xs) (hRF : RF R) (kk : ∀ (I' J' : mI) (R' : mR), RF R' → K I' J' R' → WM C ad n I' J' R' 203 29614 1164 [(0, vr 999), (1, vr 1), (2, vr 159), (3, vi i)] []) (hw : plaw_15 L (scrX xs) i I J R K) : WM C ad n I J R 203 29614 674 [(0, vr 999), (1, vr 1), (2, vr 159), (3, vi i)] [] := by
  unfold plaw_15 at hw
  refine wm_aload_n hC 1 dL_law_674 rfl (by decide) ?_
  refine wm_aload_n hC 0 dL_law_675 rfl (by decide) ?_
  refine wm_iload_n hC 3 dL_law_676 rfl ?_
  refine wm_iconst hC dL_law_677 (k := ?_)
  refine x_iadd hC dL_law_678 hw (fun hw => ?_)
  refine x_sld hC hScr dL_law_679 hw (fun hw => ?_)
  refine wm_aload_n hC 0 dL_law_680 rfl (by decide) ?_
  refine wm_iload_n hC 3 dL_law_681 rfl ?_
  refine wm_iconst hC dL_law_682 (k := ?_)
  refine x_iadd hC dL_law_683 hw (fun hw => ?_)
  refine x_sld hC hScr dL_law_684 hw (fun hw => ?_)
  refine wm_aload_n hC 0 dL_law_685 rfl (by decide) ?_
  refine wm_iload_n hC 3 dL_law_686 rfl ?_
  refine wm_iconst hC dL_law_687 (k := ?_)
  refine x_iadd hC dL_law_688 hw (fun hw => ?_)
  refine x_sld hC hScr dL_law_689 hw (fun hw => ?_)
  refine y_callV_i_IJR hC hRm noS ml_L_80 kk_1 (c11_order hRF hw) (Nat.le_of_ble_eq_true rfl) (Nat.le_of_ble_eq_true rfl) ⟨(Nat.le_of_ble_eq_true rfl), (Nat.le_of_ble_eq_true rfl)⟩ rfl (st := []) rfl (Nat.le_of_ble_eq_true rfl) dL_law_690 (fun r1 I1 J1 R1 hw => ?_)
  obtain ⟨rf1, hw⟩ := hw
  refine wm_aload_n hC 2 dL_law_693 rfl (by decide) ?_
  refine wm_aload_n hC 0 dL_law_694 rfl (by decide) ?_
  refine wm_iload_n hC 3 dL_law_695 rfl ?_
  refine wm_iconst hC dL_law_696 (k := ?_)
  refine x_iadd hC dL_law_697 hw (fun hw => ?_)
  refine x_sld hC hScr dL_law_698 hw (fun hw => ?_)
  refine wm_aload_n hC 0 dL_law_699 rfl (by decide) ?_
  refine wm_iload_n hC 3 dL_law_700 rfl ?_
  refine wm_iconst hC dL_law_701 (k := ?_)
  refine x_iadd hC dL_law_702 hw (fun hw => ?_)
  refine x_sld hC hScr dL_law_703 hw (fun hw => ?_)
  refine wm_aload_n hC 0 dL_law_704 rfl (by decide) ?_
  refine wm_iload_n hC 3 dL_law_705 rfl ?_
  refine wm_iconst hC dL_law_706 (k := ?_)
  refine x_iadd hC dL_law_707 hw (fun hw => ?_)
  refine x_sld hC hScr dL_law_708 hw (fun hw => ?_)
  refine y_callV_i_IJ hC hRm noS ml_L_83 kk_159 (c12_order rf1 hw) (Nat.le_of_ble_eq_true rfl) (Nat.le_of_ble_eq_true rfl) ⟨(Nat.le_of_ble_eq_true rfl), (Nat.le_of_ble_eq_true rfl)⟩ rfl (st := [vi r1]) rfl (Nat.le_of_ble_eq_true rfl) dL_law_709 (fun r2 I2 J2 hw => ?_)
  refine wm_icmp_eq (tgt := 1164) hC dL_law_712 (by decide) hw (fun hw => ?_) (fun hw => hw.elim)
  exact kk _ _ _ rf1 hw
def plaw_16 (L : Nat) (X : Int → Int) (i : Int) (I J : mI) (R : mR) (K : mI → mI → mR → Prop) : Prop := (rg (i + 1) ∧ (((0 : Int) ≤ (i + 1) ∧ (i + 1) < (L : Int)) ∧ (rg (i + 2) ∧ (((0 : Int) ≤ (i + 2) ∧ (i + 2) < (L : Int)) ∧ (p11_orders (X (i + 1)) (X (i + 2)) I J R (fun r1 I1 J1 R1 => (rg (i + 1) ∧ (((0 : Int) ≤ (i + 1) ∧ (i + 1) < (L : Int)) ∧ (rg (i + 2) ∧ (((0 : Int) ≤ (i + 2) ∧ (i + 2) < (L : Int)) ∧ (p12_orders (X (i + 1)) (X (i + 2)) I1 J1 (fun r2 I2 J2 => (if r1 = r2 then (K I2 J2 R1) else False)))))))))))))
set_option maxRecDepth 20000 in
theorem wlaw_16 {C : wX} {ad : Nat → Nat} {n L : Nat} {xs : Nat → Int32} {I J : mI} {R : mR} {i : Int} {K : mI → mI → mR → Prop} (hC : wOK C cL_law 4 RL) (hRm : wRm C 2048 84000 600000 7302250) (hStr : wStrC C ad) (hScr : wScr C ad L xs) (hRF : RF R) (kk : ∀ (I' J' : mI) (R' : mR), RF R' → K I' J' R' → WM C ad n I' J' R' 203 29614 1164 [(0, vr 999), (1, vr 1), (2, vr 159), (3, vi i)] []) (hw : plaw_16 L (scrX xs) i I J R K) : WM C ad n I J R 203 29614 717 [(0, vr 999), (1, vr 1), (2, vr 159), (3, vi i)] [] := by
  unfold plaw_16 at hw
  refine wm_aload_n hC 1 dL_law_717 rfl (by decide) ?_
  refine wm_aload_n hC 0 dL_law_718 rfl (by decide) ?_
  refine wm_iload_n hC 3 dL_law_719 rfl ?_
  refine wm_iconst hC dL_law_720 (k := ?_)
  refine x_iadd hC dL_law_721 hw (fun hw => ?_)
  refine x_sld hC hScr dL_law_722 hw (fun hw => ?_)
  refine wm_aload_n hC 0 dL_law_723 rfl (by decide) ?_
  refine wm_iload_n hC 3 dL_law_724 rfl ?_
  refine wm_iconst hC dL_law_725 (k := ?_)
  refine x_iadd hC dL_law_726 hw (fun hw => ?_)
  refine x_sld hC hScr dL_law_727 hw (fun hw => ?_)
  refine y_callV_i_IJR hC hRm noS ml_L_84 kk_1 (c11_orders hRF hw) (Nat.le_of_ble_eq_true rfl) (Nat.le_of_ble_eq_true rfl) ⟨(Nat.le_of_ble_eq_true rfl), (Nat.le_of_ble_eq_true rfl)⟩ rfl (st := []) rfl (Nat.le_of_ble_eq_true rfl) dL_law_728 (fun r1 I1 J1 R1 hw => ?_)
  obtain ⟨rf1, hw⟩ := hw
  refine wm_aload_n hC 2 dL_law_731 rfl (by decide) ?_
  refine wm_aload_n hC 0 dL_law_732 rfl (by decide) ?_
  refine wm_iload_n hC 3 dL_law_733 rfl ?_
  refine wm_iconst hC dL_law_734 (k := ?_)
  refine x_iadd hC dL_law_735 hw (fun hw => ?_)
  refine x_sld hC hScr dL_law_736 hw (fun hw => ?_)
  refine wm_aload_n hC 0 dL_law_737 rfl (by decide) ?_
  refine wm_iload_n hC 3 dL_law_738 rfl ?_
  refine wm_iconst hC dL_law_739 (k := ?_)
  refine x_iadd hC dL_law_740 hw (fun hw => ?_)
  refine x_sld hC hScr dL_law_741 hw (fun hw => ?_)
  refine y_callV_i_IJ hC hRm noS ml_L_87 kk_159 (c12_orders rf1 hw) (Nat.le_of_ble_eq_true rfl) (Nat.le_of_ble_eq_true rfl) ⟨(Nat.le_of_ble_eq_true rfl), (Nat.le_of_ble_eq_true rfl)⟩ rfl (st := [vi r1]) rfl (Nat.le_of_ble_eq_true rfl) dL_law_742 (fun r2 I2 J2 hw => ?_)
  refine wm_icmp_eq (tgt := 1164) hC dL_law_745 (by decide) hw (fun hw => ?_) (fun hw => hw.elim)
  exact kk _ _ _ rf1 hw
def plaw_17 (L : Nat) (X : Int → Int) (i : Int) (I J : mI) (R : mR) (K : mI → mI → mR → Prop) : Prop := (rg (i + 1) ∧ (((0 : Int) ≤ (i + 1) ∧ (i + 1) < (L : Int)) ∧ (rg (i + 2) ∧ (((0 : Int) ≤ (i + 2) ∧ (i + 2) < (L : Int)) ∧ (p11_power (X (i + 1)) (X (i + 2)) I J R (fun r1 I1 J1 R1 => (rg (i + 1) ∧ (((0 : Int) ≤ (i + 1) ∧ (i + 1) < (L : Int)) ∧ (rg (i + 2) ∧ (((0 : Int) ≤ (i + 2) ∧ (i + 2) < (L : Int)) ∧ (p12_power (X (i + 1)) (X (i + 2)) I1 J1 (fun r2 I2 J2 => (if r1 = r2 then (K I2 J2 R1) else False)))))))))))))
set_option maxRecDepth 20000 in
theorem wlaw_17 {C : wX} {ad : Nat → Nat} {n L : Nat} {xs : Nat → Int32} {I J : mI} {R : mR} {i : Int} {K : mI → mI → mR → Prop} (hC : wOK C cL_law 4 RL) (hRm : wRm C 2048 84000 600000 7302250) (hStr : wStrC C ad) (hScr : wScr C ad L xs) (hRF : RF R) (kk : ∀ (I' J' : mI) (R' : mR), RF R' → K I' J' R' → WM C ad n I' J' R' 203 29614 1164 [(0, vr 999), (1, vr 1), (2, vr 159), (3, vi i)] []) (hw : plaw_17 L (scrX xs) i I J R K) : WM C ad n I J R 203 29614 750 [(0, vr 999), (1, vr 1), (2, vr 159), (3, vi i)] [] := by
  unfold plaw_17 at hw
  refine wm_aload_n hC 1 dL_law_750 rfl (by decide) ?_
  refine wm_aload_n hC 0 dL_law_751 rfl (by decide) ?_
  refine wm_iload_n hC 3 dL_law_752 rfl ?_
  refine wm_iconst hC dL_law_753 (k := ?_)
  refine x_iadd hC dL_law_754 hw (fun hw => ?_)
  refine x_sld hC hScr dL_law_755 hw (fun hw => ?_)
  refine wm_aload_n hC 0 dL_law_756 rfl (by decide) ?_
  refine wm_iload_n hC 3 dL_law_757 rfl ?_
  refine wm_iconst hC dL_law_758 (k := ?_)
  refine x_iadd hC dL_law_759 hw (fun hw => ?_)
  refine x_sld hC hScr dL_law_760 hw (fun hw => ?_)
  refine y_callV_i_IJR hC hRm noS ml_L_88 kk_1 (c11_power hRF hw) (Nat.le_of_ble_eq_true rfl) (Nat.le_of_ble_eq_true rfl) ⟨(Nat.le_of_ble_eq_true rfl), (Nat.le_of_ble_eq_true rfl)⟩ rfl (st := []) rfl (Nat.le_of_ble_eq_true rfl) dL_law_761 (fun r1 I1 J1 R1 hw => ?_)
  obtain ⟨rf1, hw⟩ := hw
  refine wm_aload_n hC 2 dL_law_764 rfl (by decide) ?_
  refine wm_aload_n hC 0 dL_law_765 rfl (by decide) ?_
  refine wm_iload_n hC 3 dL_law_766 rfl ?_
  refine wm_iconst hC dL_law_767 (k := ?_)
  refine x_iadd hC dL_law_768 hw (fun hw => ?_)
  refine x_sld hC hScr dL_law_769 hw (fun hw => ?_)
  refine wm_aload_n hC 0 dL_law_770 rfl (by decide) ?_
  refine wm_iload_n hC 3 dL_law_771 rfl ?_
  refine wm_iconst hC dL_law_772 (k := ?_)
  refine x_iadd hC dL_law_773 hw (fun hw => ?_)
  refine x_sld hC hScr dL_law_774 hw (fun hw => ?_)
  refine y_callV_i_IJ hC hRm noS ml_L_91 kk_159 (c12_power rf1 hw) (Nat.le_of_ble_eq_true rfl) (Nat.le_of_ble_eq_true rfl) ⟨(Nat.le_of_ble_eq_true rfl), (Nat.le_of_ble_eq_true rfl)⟩ rfl (st := [vi r1]) rfl (Nat.le_of_ble_eq_true rfl) dL_law_775 (fun r2 I2 J2 hw => ?_)
  refine wm_icmp_eq (tgt := 1164) hC dL_law_778 (by decide) hw (fun hw => ?_) (fun hw => hw.elim)
  exact kk _ _ _ rf1 hw
def plaw_18 (L : Nat) (X : Int → Int) (i : Int) (I J : mI) (R : mR) (K : mI → mI → mR → Prop) : Prop := (p11_clear I R (fun r1 I1 => (p12_clear I1 (fun r2 I2 => (if r1 = r2 then (K I2 J R) else False)))))
set_option maxRecDepth 20000 in
theorem wlaw_18 {C : wX} {ad : Nat → Nat} {n L : Nat} {xs : Nat → Int32} {I J : mI} {R : mR} {i : Int} {K : mI → mI → mR → Prop} (hC : wOK C cL_law 4 RL) (hRm : wRm C 2048 84000 600000 7302250) (hStr : wStrC C ad) (hScr : wScr C ad L xs) (hRF : RF R) (kk : ∀ (I' J' : mI) (R' : mR), RF R' → K I' J' R' → WM C ad n I' J' R' 203 29614 1164 [(0, vr 999), (1, vr 1), (2, vr 159), (3, vi i)] []) (hw : plaw_18 L (scrX xs) i I J R K) : WM C ad n I J R 203 29614 783 [(0, vr 999), (1, vr 1), (2, vr 159), (3, vi i)] [] := by
  unfold plaw_18 at hw
  refine wm_aload_n hC 1 dL_law_783 rfl (by decide) ?_
  refine y_callV_i_I hC hRm noS ml_L_92 kk_1 (c11_clear hRF hw) (Nat.le_of_ble_eq_true rfl) (Nat.le_of_ble_eq_true rfl) ⟨(Nat.le_of_ble_eq_true rfl), (Nat.le_of_ble_eq_true rfl)⟩ rfl (st := []) rfl (Nat.le_of_ble_eq_true rfl) dL_law_784 (fun r1 I1 hw => ?_)
  refine wm_aload_n hC 2 dL_law_787 rfl (by decide) ?_
  refine y_callV_i_I hC hRm noS ml_L_95 kk_159 (c12_clear hRF hw) (Nat.le_of_ble_eq_true rfl) (Nat.le_of_ble_eq_true rfl) ⟨(Nat.le_of_ble_eq_true rfl), (Nat.le_of_ble_eq_true rfl)⟩ rfl (st := [vi r1]) rfl (Nat.le_of_ble_eq_true rfl) dL_law_788 (fun r2 I2 hw => ?_)
  refine wm_icmp_eq (tgt := 1164) hC dL_law_791 (by decide) hw (fun hw => ?_) (fun hw => hw.elim)
  exact kk _ _ _ hRF hw
def plaw_19 (L : Nat) (X : Int → Int) (i : Int) (I J : mI) (R : mR) (K : mI → mI → mR → Prop) : Prop := (rg (i + 1) ∧ (((0 : Int) ≤ (i + 1) ∧ (i + 1) < (L : Int)) ∧ (p11_odds (X (i + 1)) I J R (fun r1 I1 J1 R1 => (rg (i + 1) ∧ (((0 : Int) ≤ (i + 1) ∧ (i + 1) < (L : Int)) ∧ (p12_odds (X (i + 1)) I1 J1 (fun r2 I2 J2 => (if r1 = r2 then (K I2 J2 R1) else False)))))))))
set_option maxRecDepth 20000 in
theorem wlaw_19 {C : wX} {ad : Nat → Nat} {n L : Nat} {xs : Nat → Int32} {I J : mI} {R : mR} {i : Int} {K : mI → mI → mR → Prop} (hC : wOK C cL_law 4 RL) (hRm : wRm C 2048 84000 600000 7302250) (hStr : wStrC C ad) (hScr : wScr C ad L xs) (hRF : RF R) (kk : ∀ (I' J' : mI) (R' : mR), RF R' → K I' J' R' → WM C ad n I' J' R' 203 29614 1164 [(0, vr 999), (1, vr 1), (2, vr 159), (3, vi i)] []) (hw : plaw_19 L (scrX xs) i I J R K) : WM C ad n I J R 203 29614 796 [(0, vr 999), (1, vr 1), (2, vr 159), (3, vi i)] [] := by
  unfold plaw_19 at hw
  refine wm_aload_n hC 1 dL_law_796 rfl (by decide) ?_
  refine wm_aload_n hC 0 dL_law_797 rfl (by decide) ?_
  refine wm_iload_n hC 3 dL_law_798 rfl ?_
  refine wm_iconst hC dL_law_799 (k := ?_)
  refine x_iadd hC dL_law_800 hw (fun hw => ?_)
  refine x_sld hC hScr dL_law_801 hw (fun hw => ?_)
  refine y_callV_i_IJR hC hRm noS ml_L_96 kk_1 (c11_odds hRF hw) (Nat.le_of_ble_eq_true rfl) (Nat.le_of_ble_eq_true rfl) ⟨(Nat.le_of_ble_eq_true rfl), (Nat.le_of_ble_eq_true rfl)⟩ rfl (st := []) rfl (Nat.le_of_ble_eq_true rfl) dL_law_802 (fun r1 I1 J1 R1 hw => ?_)
  obtain ⟨rf1, hw⟩ := hw
  refine wm_aload_n hC 2 dL_law_805 rfl (by decide) ?_
  refine wm_aload_n hC 0 dL_law_806 rfl (by decide) ?_
  refine wm_iload_n hC 3 dL_law_807 rfl ?_
  refine wm_iconst hC dL_law_808 (k := ?_)
  refine x_iadd hC dL_law_809 hw (fun hw => ?_)
  refine x_sld hC hScr dL_law_810 hw (fun hw => ?_)
  refine y_callV_i_IJ hC hRm noS ml_L_99 kk_159 (c12_odds rf1 hw) (Nat.le_of_ble_eq_true rfl) (Nat.le_of_ble_eq_true rfl) ⟨(Nat.le_of_ble_eq_true rfl), (Nat.le_of_ble_eq_true rfl)⟩ rfl (st := [vi r1]) rfl (Nat.le_of_ble_eq_true rfl) dL_law_811 (fun r2 I2 J2 hw => ?_)
  refine wm_icmp_eq (tgt := 1164) hC dL_law_814 (by decide) hw (fun hw => ?_) (fun hw => hw.elim)
  exact kk _ _ _ rf1 hw
def plaw_20 (L : Nat) (X : Int → Int) (i : Int) (I J : mI) (R : mR) (K : mI → mI → mR → Prop) : Prop := (p11_meet I R (fun r1 I1 => (p12_meet I1 (fun r2 I2 => (if r1 = r2 then (K I2 J R) else False)))))
set_option maxRecDepth 20000 in
theorem wlaw_20 {C : wX} {ad : Nat → Nat} {n L : Nat} {xs : Nat → Int32} {I J : mI} {R : mR} {i : Int} {K : mI → mI → mR → Prop} (hC : wOK C cL_law 4 RL) (hRm : wRm C 2048 84000 600000 7302250) (hStr : wStrC C ad) (hScr : wScr C ad L xs) (hRF : RF R) (kk : ∀ (I' J' : mI) (R' : mR), RF R' → K I' J' R' → WM C ad n I' J' R' 203 29614 1164 [(0, vr 999), (1, vr 1), (2, vr 159), (3, vi i)] []) (hw : plaw_20 L (scrX xs) i I J R K) : WM C ad n I J R 203 29614 819 [(0, vr 999), (1, vr 1), (2, vr 159), (3, vi i)] [] := by
  unfold plaw_20 at hw
  refine wm_aload_n hC 1 dL_law_819 rfl (by decide) ?_
  refine y_callV_i_I hC hRm noS ml_L_100 kk_1 (c11_meet hRF hw) (Nat.le_of_ble_eq_true rfl) (Nat.le_of_ble_eq_true rfl) ⟨(Nat.le_of_ble_eq_true rfl), (Nat.le_of_ble_eq_true rfl)⟩ rfl (st := []) rfl (Nat.le_of_ble_eq_true rfl) dL_law_820 (fun r1 I1 hw => ?_)
  refine wm_aload_n hC 2 dL_law_823 rfl (by decide) ?_
  refine y_callV_i_I hC hRm noS ml_L_103 kk_159 (c12_meet hRF hw) (Nat.le_of_ble_eq_true rfl) (Nat.le_of_ble_eq_true rfl) ⟨(Nat.le_of_ble_eq_true rfl), (Nat.le_of_ble_eq_true rfl)⟩ rfl (st := [vi r1]) rfl (Nat.le_of_ble_eq_true rfl) dL_law_824 (fun r2 I2 hw => ?_)
  refine wm_icmp_eq (tgt := 1164) hC dL_law_827 (by decide) hw (fun hw => ?_) (fun hw => hw.elim)
  exact kk _ _ _ hRF hw
def plaw_21 (L : Nat) (X : Int → Int) (i : Int) (I J : mI) (R : mR) (K : mI → mI → mR → Prop) : Prop := (rg (i + 1) ∧ (((0 : Int) ≤ (i + 1) ∧ (i + 1) < (L : Int)) ∧ (p11_tastes (X (i + 1)) I J R (fun r1 I1 J1 R1 => (rg (i + 1) ∧ (((0 : Int) ≤ (i + 1) ∧ (i + 1) < (L : Int)) ∧ (p12_tastes (X (i + 1)) I1 J1 (fun r2 I2 J2 => (if r1 = r2 then (K I2 J2 R1) else False)))))))))
set_option maxRecDepth 20000 in
theorem wlaw_21 {C : wX} {ad : Nat → Nat} {n L : Nat} {xs : Nat → Int32} {I J : mI} {R : mR} {i : Int} {K : mI → mI → mR → Prop} (hC : wOK C cL_law 4 RL) (hRm : wRm C 2048 84000 600000 7302250) (hStr : wStrC C ad) (hScr : wScr C ad L xs) (hRF : RF R) (kk : ∀ (I' J' : mI) (R' : mR), RF R' → K I' J' R' → WM C ad n I' J' R' 203 29614 1164 [(0, vr 999), (1, vr 1), (2, vr 159), (3, vi i)] []) (hw : plaw_21 L (scrX xs) i I J R K) : WM C ad n I J R 203 29614 832 [(0, vr 999), (1, vr 1), (2, vr 159), (3, vi i)] [] := by
  unfold plaw_21 at hw
  refine wm_aload_n hC 1 dL_law_832 rfl (by decide) ?_
  refine wm_aload_n hC 0 dL_law_833 rfl (by decide) ?_
  refine wm_iload_n hC 3 dL_law_834 rfl ?_
  refine wm_iconst hC dL_law_835 (k := ?_)
  refine x_iadd hC dL_law_836 hw (fun hw => ?_)
  refine x_sld hC hScr dL_law_837 hw (fun hw => ?_)
  refine y_callV_i_IJR hC hRm noS ml_L_104 kk_1 (c11_tastes hRF hw) (Nat.le_of_ble_eq_true rfl) (Nat.le_of_ble_eq_true rfl) ⟨(Nat.le_of_ble_eq_true rfl), (Nat.le_of_ble_eq_true rfl)⟩ rfl (st := []) rfl (Nat.le_of_ble_eq_true rfl) dL_law_838 (fun r1 I1 J1 R1 hw => ?_)
  obtain ⟨rf1, hw⟩ := hw
  refine wm_aload_n hC 2 dL_law_841 rfl (by decide) ?_
  refine wm_aload_n hC 0 dL_law_842 rfl (by decide) ?_
  refine wm_iload_n hC 3 dL_law_843 rfl ?_
  refine wm_iconst hC dL_law_844 (k := ?_)
  refine x_iadd hC dL_law_845 hw (fun hw => ?_)
  refine x_sld hC hScr dL_law_846 hw (fun hw => ?_)
  refine y_callV_i_IJ hC hRm noS ml_L_107 kk_159 (c12_tastes rf1 hw) (Nat.le_of_ble_eq_true rfl) (Nat.le_of_ble_eq_true rfl) ⟨(Nat.le_of_ble_eq_true rfl), (Nat.le_of_ble_eq_true rfl)⟩ rfl (st := [vi r1]) rfl (Nat.le_of_ble_eq_true rfl) dL_law_847 (fun r2 I2 J2 hw => ?_)
  refine wm_icmp_eq (tgt := 1164) hC dL_law_850 (by decide) hw (fun hw => ?_) (fun hw => hw.elim)
  exact kk _ _ _ rf1 hw
def plaw_22 (L : Nat) (X : Int → Int) (i : Int) (I J : mI) (R : mR) (K : mI → mI → mR → Prop) : Prop := (rg (i + 1) ∧ (((0 : Int) ≤ (i + 1) ∧ (i + 1) < (L : Int)) ∧ (rg (i + 2) ∧ (((0 : Int) ≤ (i + 2) ∧ (i + 2) < (L : Int)) ∧ (p11_tells (X (i + 1)) (X (i + 2)) I J R (fun r1 I1 J1 R1 => (rg (i + 1) ∧ (((0 : Int) ≤ (i + 1) ∧ (i + 1) < (L : Int)) ∧ (rg (i + 2) ∧ (((0 : Int) ≤ (i + 2) ∧ (i + 2) < (L : Int)) ∧ (p12_tells (X (i + 1)) (X (i + 2)) I1 J1 (fun r2 I2 J2 => (if r1 = r2 then (K I2 J2 R1) else False)))))))))))))
set_option maxRecDepth 20000 in
theorem wlaw_22 {C : wX} {ad : Nat → Nat} {n L : Nat} {xs : Nat → Int32} {I J : mI} {R : mR} {i : Int} {K : mI → mI → mR → Prop} (hC : wOK C cL_law 4 RL) (hRm : wRm C 2048 84000 600000 7302250) (hStr : wStrC C ad) (hScr : wScr C ad L xs) (hRF : RF R) (kk : ∀ (I' J' : mI) (R' : mR), RF R' → K I' J' R' → WM C ad n I' J' R' 203 29614 1164 [(0, vr 999), (1, vr 1), (2, vr 159), (3, vi i)] []) (hw : plaw_22 L (scrX xs) i I J R K) : WM C ad n I J R 203 29614 855 [(0, vr 999), (1, vr 1), (2, vr 159), (3, vi i)] [] := by
  unfold plaw_22 at hw
  refine wm_aload_n hC 1 dL_law_855 rfl (by decide) ?_
  refine wm_aload_n hC 0 dL_law_856 rfl (by decide) ?_
  refine wm_iload_n hC 3 dL_law_857 rfl ?_
  refine wm_iconst hC dL_law_858 (k := ?_)
  refine x_iadd hC dL_law_859 hw (fun hw => ?_)
  refine x_sld hC hScr dL_law_860 hw (fun hw => ?_)
  refine wm_aload_n hC 0 dL_law_861 rfl (by decide) ?_
  refine wm_iload_n hC 3 dL_law_862 rfl ?_
  refine wm_iconst hC dL_law_863 (k := ?_)
  refine x_iadd hC dL_law_864 hw (fun hw => ?_)
  refine x_sld hC hScr dL_law_865 hw (fun hw => ?_)
  refine y_callV_i_IJR hC hRm noS ml_L_108 kk_1 (c11_tells hRF hw) (Nat.le_of_ble_eq_true rfl) (Nat.le_of_ble_eq_true rfl) ⟨(Nat.le_of_ble_eq_true rfl), (Nat.le_of_ble_eq_true rfl)⟩ rfl (st := []) rfl (Nat.le_of_ble_eq_true rfl) dL_law_866 (fun r1 I1 J1 R1 hw => ?_)
  obtain ⟨rf1, hw⟩ := hw
  refine wm_aload_n hC 2 dL_law_869 rfl (by decide) ?_
  refine wm_aload_n hC 0 dL_law_870 rfl (by decide) ?_
  refine wm_iload_n hC 3 dL_law_871 rfl ?_
  refine wm_iconst hC dL_law_872 (k := ?_)
  refine x_iadd hC dL_law_873 hw (fun hw => ?_)
  refine x_sld hC hScr dL_law_874 hw (fun hw => ?_)
  refine wm_aload_n hC 0 dL_law_875 rfl (by decide) ?_
  refine wm_iload_n hC 3 dL_law_876 rfl ?_
  refine wm_iconst hC dL_law_877 (k := ?_)
  refine x_iadd hC dL_law_878 hw (fun hw => ?_)
  refine x_sld hC hScr dL_law_879 hw (fun hw => ?_)
  refine y_callV_i_IJ hC hRm noS ml_L_111 kk_159 (c12_tells rf1 hw) (Nat.le_of_ble_eq_true rfl) (Nat.le_of_ble_eq_true rfl) ⟨(Nat.le_of_ble_eq_true rfl), (Nat.le_of_ble_eq_true rfl)⟩ rfl (st := [vi r1]) rfl (Nat.le_of_ble_eq_true rfl) dL_law_880 (fun r2 I2 J2 hw => ?_)
  refine wm_icmp_eq (tgt := 1164) hC dL_law_883 (by decide) hw (fun hw => ?_) (fun hw => hw.elim)
  exact kk _ _ _ rf1 hw
def plaw_23 (L : Nat) (X : Int → Int) (i : Int) (I J : mI) (R : mR) (K : mI → mI → mR → Prop) : Prop := (rg (i + 1) ∧ (((0 : Int) ≤ (i + 1) ∧ (i + 1) < (L : Int)) ∧ (p11_years (X (i + 1)) I J R (fun r1 I1 J1 R1 => (rg (i + 1) ∧ (((0 : Int) ≤ (i + 1) ∧ (i + 1) < (L : Int)) ∧ (p12_years (X (i + 1)) I1 J1 (fun r2 I2 J2 => (if r1 = r2 then (K I2 J2 R1) else False)))))))))
set_option maxRecDepth 20000 in
theorem wlaw_23 {C : wX} {ad : Nat → Nat} {n L : Nat} {xs : Nat → Int32} {I J : mI} {R : mR} {i : Int} {K : mI → mI → mR → Prop} (hC : wOK C cL_law 4 RL) (hRm : wRm C 2048 84000 600000 7302250) (hStr : wStrC C ad) (hScr : wScr C ad L xs) (hRF : RF R) (kk : ∀ (I' J' : mI) (R' : mR), RF R' → K I' J' R' → WM C ad n I' J' R' 203 29614 1164 [(0, vr 999), (1, vr 1), (2, vr 159), (3, vi i)] []) (hw : plaw_23 L (scrX xs) i I J R K) : WM C ad n I J R 203 29614 888 [(0, vr 999), (1, vr 1), (2, vr 159), (3, vi i)] [] := by
  unfold plaw_23 at hw
  refine wm_aload_n hC 1 dL_law_888 rfl (by decide) ?_
  refine wm_aload_n hC 0 dL_law_889 rfl (by decide) ?_
  refine wm_iload_n hC 3 dL_law_890 rfl ?_
  refine wm_iconst hC dL_law_891 (k := ?_)
  refine x_iadd hC dL_law_892 hw (fun hw => ?_)
  refine x_sld hC hScr dL_law_893 hw (fun hw => ?_)
  refine y_callV_i_IJR hC hRm noS ml_L_112 kk_1 (c11_years hRF hw) (Nat.le_of_ble_eq_true rfl) (Nat.le_of_ble_eq_true rfl) ⟨(Nat.le_of_ble_eq_true rfl), (Nat.le_of_ble_eq_true rfl)⟩ rfl (st := []) rfl (Nat.le_of_ble_eq_true rfl) dL_law_894 (fun r1 I1 J1 R1 hw => ?_)
  obtain ⟨rf1, hw⟩ := hw
  refine wm_aload_n hC 2 dL_law_897 rfl (by decide) ?_
  refine wm_aload_n hC 0 dL_law_898 rfl (by decide) ?_
  refine wm_iload_n hC 3 dL_law_899 rfl ?_
  refine wm_iconst hC dL_law_900 (k := ?_)
  refine x_iadd hC dL_law_901 hw (fun hw => ?_)
  refine x_sld hC hScr dL_law_902 hw (fun hw => ?_)
  refine y_callV_i_IJ hC hRm noS ml_L_115 kk_159 (c12_years rf1 hw) (Nat.le_of_ble_eq_true rfl) (Nat.le_of_ble_eq_true rfl) ⟨(Nat.le_of_ble_eq_true rfl), (Nat.le_of_ble_eq_true rfl)⟩ rfl (st := [vi r1]) rfl (Nat.le_of_ble_eq_true rfl) dL_law_903 (fun r2 I2 J2 hw => ?_)
  refine wm_icmp_eq (tgt := 1164) hC dL_law_906 (by decide) hw (fun hw => ?_) (fun hw => hw.elim)
  exact kk _ _ _ rf1 hw
def plaw_24 (L : Nat) (X : Int → Int) (i : Int) (I J : mI) (R : mR) (K : mI → mI → mR → Prop) : Prop := (rg (i + 1) ∧ (((0 : Int) ≤ (i + 1) ∧ (i + 1) < (L : Int)) ∧ (p11_chance (X (i + 1)) I J R (fun r1 I1 J1 R1 => (rg (i + 1) ∧ (((0 : Int) ≤ (i + 1) ∧ (i + 1) < (L : Int)) ∧ (p12_chance (X (i + 1)) I1 J1 (fun r2 I2 J2 => (if r1 = r2 then (K I2 J2 R1) else False)))))))))
set_option maxRecDepth 20000 in
theorem wlaw_24 {C : wX} {ad : Nat → Nat} {n L : Nat} {xs : Nat → Int32} {I J : mI} {R : mR} {i : Int} {K : mI → mI → mR → Prop} (hC : wOK C cL_law 4 RL) (hRm : wRm C 2048 84000 600000 7302250) (hStr : wStrC C ad) (hScr : wScr C ad L xs) (hRF : RF R) (kk : ∀ (I' J' : mI) (R' : mR), RF R' → K I' J' R' → WM C ad n I' J' R' 203 29614 1164 [(0, vr 999), (1, vr 1), (2, vr 159), (3, vi i)] []) (hw : plaw_24 L (scrX xs) i I J R K) : WM C ad n I J R 203 29614 911 [(0, vr 999), (1, vr 1), (2, vr 159), (3, vi i)] [] := by
  unfold plaw_24 at hw
  refine wm_aload_n hC 1 dL_law_911 rfl (by decide) ?_
  refine wm_aload_n hC 0 dL_law_912 rfl (by decide) ?_
  refine wm_iload_n hC 3 dL_law_913 rfl ?_
  refine wm_iconst hC dL_law_914 (k := ?_)
  refine x_iadd hC dL_law_915 hw (fun hw => ?_)
  refine x_sld hC hScr dL_law_916 hw (fun hw => ?_)
  refine y_callV_i_IJR hC hRm noS ml_L_116 kk_1 (c11_chance hRF hw) (Nat.le_of_ble_eq_true rfl) (Nat.le_of_ble_eq_true rfl) ⟨(Nat.le_of_ble_eq_true rfl), (Nat.le_of_ble_eq_true rfl)⟩ rfl (st := []) rfl (Nat.le_of_ble_eq_true rfl) dL_law_917 (fun r1 I1 J1 R1 hw => ?_)
  obtain ⟨rf1, hw⟩ := hw
  refine wm_aload_n hC 2 dL_law_920 rfl (by decide) ?_
  refine wm_aload_n hC 0 dL_law_921 rfl (by decide) ?_
  refine wm_iload_n hC 3 dL_law_922 rfl ?_
  refine wm_iconst hC dL_law_923 (k := ?_)
  refine x_iadd hC dL_law_924 hw (fun hw => ?_)
  refine x_sld hC hScr dL_law_925 hw (fun hw => ?_)
  refine y_callV_i_IJ hC hRm noS ml_L_119 kk_159 (c12_chance rf1 hw) (Nat.le_of_ble_eq_true rfl) (Nat.le_of_ble_eq_true rfl) ⟨(Nat.le_of_ble_eq_true rfl), (Nat.le_of_ble_eq_true rfl)⟩ rfl (st := [vi r1]) rfl (Nat.le_of_ble_eq_true rfl) dL_law_926 (fun r2 I2 J2 hw => ?_)
  refine wm_icmp_eq (tgt := 1164) hC dL_law_929 (by decide) hw (fun hw => ?_) (fun hw => hw.elim)
  exact kk _ _ _ rf1 hw
def plaw_25 (L : Nat) (X : Int → Int) (i : Int) (I J : mI) (R : mR) (K : mI → mI → mR → Prop) : Prop := (rg (i + 1) ∧ (((0 : Int) ≤ (i + 1) ∧ (i + 1) < (L : Int)) ∧ (rg (i + 2) ∧ (((0 : Int) ≤ (i + 2) ∧ (i + 2) < (L : Int)) ∧ (p11_paint (X (i + 1)) (X (i + 2)) I R (fun r1 I1 => (rg (i + 1) ∧ (((0 : Int) ≤ (i + 1) ∧ (i + 1) < (L : Int)) ∧ (rg (i + 2) ∧ (((0 : Int) ≤ (i + 2) ∧ (i + 2) < (L : Int)) ∧ (p12_paint (X (i + 1)) (X (i + 2)) I1 (fun r2 I2 => (if r1 = r2 then (K I2 J R) else False)))))))))))))
set_option maxRecDepth 20000 in
theorem wlaw_25 {C : wX} {ad : Nat → Nat} {n L : Nat} {xs : Nat → Int32} {I J : mI} {R : mR} {i : Int} {K : mI → mI → mR → Prop} (hC : wOK C cL_law 4 RL) (hRm : wRm C 2048 84000 600000 7302250) (hStr : wStrC C ad) (hScr : wScr C ad L xs) (hRF : RF R) (kk : ∀ (I' J' : mI) (R' : mR), RF R' → K I' J' R' → WM C ad n I' J' R' 203 29614 1164 [(0, vr 999), (1, vr 1), (2, vr 159), (3, vi i)] []) (hw : plaw_25 L (scrX xs) i I J R K) : WM C ad n I J R 203 29614 934 [(0, vr 999), (1, vr 1), (2, vr 159), (3, vi i)] [] := by
  unfold plaw_25 at hw
  refine wm_aload_n hC 1 dL_law_934 rfl (by decide) ?_
  refine wm_aload_n hC 0 dL_law_935 rfl (by decide) ?_
  refine wm_iload_n hC 3 dL_law_936 rfl ?_
  refine wm_iconst hC dL_law_937 (k := ?_)
  refine x_iadd hC dL_law_938 hw (fun hw => ?_)
  refine x_sld hC hScr dL_law_939 hw (fun hw => ?_)
  refine wm_aload_n hC 0 dL_law_940 rfl (by decide) ?_
  refine wm_iload_n hC 3 dL_law_941 rfl ?_
  refine wm_iconst hC dL_law_942 (k := ?_)
  refine x_iadd hC dL_law_943 hw (fun hw => ?_)
  refine x_sld hC hScr dL_law_944 hw (fun hw => ?_)
  refine y_callV_z_I hC hRm noS ml_L_120 kk_1 (c11_paint hRF hw) (Nat.le_of_ble_eq_true rfl) (Nat.le_of_ble_eq_true rfl) ⟨(Nat.le_of_ble_eq_true rfl), (Nat.le_of_ble_eq_true rfl)⟩ rfl (st := []) rfl (Nat.le_of_ble_eq_true rfl) dL_law_945 (fun r1 I1 hw => ?_)
  refine wm_aload_n hC 2 dL_law_948 rfl (by decide) ?_
  refine wm_aload_n hC 0 dL_law_949 rfl (by decide) ?_
  refine wm_iload_n hC 3 dL_law_950 rfl ?_
  refine wm_iconst hC dL_law_951 (k := ?_)
  refine x_iadd hC dL_law_952 hw (fun hw => ?_)
  refine x_sld hC hScr dL_law_953 hw (fun hw => ?_)
  refine wm_aload_n hC 0 dL_law_954 rfl (by decide) ?_
  refine wm_iload_n hC 3 dL_law_955 rfl ?_
  refine wm_iconst hC dL_law_956 (k := ?_)
  refine x_iadd hC dL_law_957 hw (fun hw => ?_)
  refine x_sld hC hScr dL_law_958 hw (fun hw => ?_)
  refine y_callV_z_I hC hRm noS ml_L_124 kk_159 (c12_paint hRF hw) (Nat.le_of_ble_eq_true rfl) (Nat.le_of_ble_eq_true rfl) ⟨(Nat.le_of_ble_eq_true rfl), (Nat.le_of_ble_eq_true rfl)⟩ rfl (st := [vi r1]) rfl (Nat.le_of_ble_eq_true rfl) dL_law_959 (fun r2 I2 hw => ?_)
  refine wm_icmp_eq (tgt := 1164) hC dL_law_962 (by decide) hw (fun hw => ?_) (fun hw => hw.elim)
  exact kk _ _ _ hRF hw
def plaw_26 (L : Nat) (X : Int → Int) (i : Int) (I J : mI) (R : mR) (K : mI → mI → mR → Prop) : Prop := (rg (i + 1) ∧ (((0 : Int) ≤ (i + 1) ∧ (i + 1) < (L : Int)) ∧ (rg (i + 2) ∧ (((0 : Int) ≤ (i + 2) ∧ (i + 2) < (L : Int)) ∧ (p11_swap (X (i + 1)) (X (i + 2)) I R (fun r1 I1 => (rg (i + 1) ∧ (((0 : Int) ≤ (i + 1) ∧ (i + 1) < (L : Int)) ∧ (rg (i + 2) ∧ (((0 : Int) ≤ (i + 2) ∧ (i + 2) < (L : Int)) ∧ (p12_swap (X (i + 1)) (X (i + 2)) I1 (fun r2 I2 => (if r1 = r2 then (K I2 J R) else False)))))))))))))
set_option maxRecDepth 20000 in
theorem wlaw_26 {C : wX} {ad : Nat → Nat} {n L : Nat} {xs : Nat → Int32} {I J : mI} {R : mR} {i : Int} {K : mI → mI → mR → Prop} (hC : wOK C cL_law 4 RL) (hRm : wRm C 2048 84000 600000 7302250) (hStr : wStrC C ad) (hScr : wScr C ad L xs) (hRF : RF R) (kk : ∀ (I' J' : mI) (R' : mR), RF R' → K I' J' R' → WM C ad n I' J' R' 203 29614 1164 [(0, vr 999), (1, vr 1), (2, vr 159), (3, vi i)] []) (hw : plaw_26 L (scrX xs) i I J R K) : WM C ad n I J R 203 29614 967 [(0, vr 999), (1, vr 1), (2, vr 159), (3, vi i)] [] := by
  unfold plaw_26 at hw
  refine wm_aload_n hC 1 dL_law_967 rfl (by decide) ?_
  refine wm_aload_n hC 0 dL_law_968 rfl (by decide) ?_
  refine wm_iload_n hC 3 dL_law_969 rfl ?_
  refine wm_iconst hC dL_law_970 (k := ?_)
  refine x_iadd hC dL_law_971 hw (fun hw => ?_)
  refine x_sld hC hScr dL_law_972 hw (fun hw => ?_)
  refine wm_aload_n hC 0 dL_law_973 rfl (by decide) ?_
  refine wm_iload_n hC 3 dL_law_974 rfl ?_
  refine wm_iconst hC dL_law_975 (k := ?_)
  refine x_iadd hC dL_law_976 hw (fun hw => ?_)
  refine x_sld hC hScr dL_law_977 hw (fun hw => ?_)
  refine y_callV_z_I hC hRm noS ml_L_125 kk_1 (c11_swap hRF hw) (Nat.le_of_ble_eq_true rfl) (Nat.le_of_ble_eq_true rfl) ⟨(Nat.le_of_ble_eq_true rfl), (Nat.le_of_ble_eq_true rfl)⟩ rfl (st := []) rfl (Nat.le_of_ble_eq_true rfl) dL_law_978 (fun r1 I1 hw => ?_)
  refine wm_aload_n hC 2 dL_law_981 rfl (by decide) ?_
  refine wm_aload_n hC 0 dL_law_982 rfl (by decide) ?_
  refine wm_iload_n hC 3 dL_law_983 rfl ?_
  refine wm_iconst hC dL_law_984 (k := ?_)
  refine x_iadd hC dL_law_985 hw (fun hw => ?_)
  refine x_sld hC hScr dL_law_986 hw (fun hw => ?_)
  refine wm_aload_n hC 0 dL_law_987 rfl (by decide) ?_
  refine wm_iload_n hC 3 dL_law_988 rfl ?_
  refine wm_iconst hC dL_law_989 (k := ?_)
  refine x_iadd hC dL_law_990 hw (fun hw => ?_)
  refine x_sld hC hScr dL_law_991 hw (fun hw => ?_)
  refine y_callV_z_I hC hRm noS ml_L_128 kk_159 (c12_swap hRF hw) (Nat.le_of_ble_eq_true rfl) (Nat.le_of_ble_eq_true rfl) ⟨(Nat.le_of_ble_eq_true rfl), (Nat.le_of_ble_eq_true rfl)⟩ rfl (st := [vi r1]) rfl (Nat.le_of_ble_eq_true rfl) dL_law_992 (fun r2 I2 hw => ?_)
  refine wm_icmp_eq (tgt := 1164) hC dL_law_995 (by decide) hw (fun hw => ?_) (fun hw => hw.elim)
  exact kk _ _ _ hRF hw
def plaw_27 (L : Nat) (X : Int → Int) (i : Int) (I J : mI) (R : mR) (K : mI → mI → mR → Prop) : Prop := (rg (i + 1) ∧ (((0 : Int) ≤ (i + 1) ∧ (i + 1) < (L : Int)) ∧ (p11_fill (X (i + 1)) I (fun r1 I1 => (rg (i + 1) ∧ (((0 : Int) ≤ (i + 1) ∧ (i + 1) < (L : Int)) ∧ (p12_fill (X (i + 1)) I1 (fun r2 I2 => (if r1 = r2 then (K I2 J R) else False)))))))))
set_option maxRecDepth 20000 in
theorem wlaw_27 {C : wX} {ad : Nat → Nat} {n L : Nat} {xs : Nat → Int32} {I J : mI} {R : mR} {i : Int} {K : mI → mI → mR → Prop} (hC : wOK C cL_law 4 RL) (hRm : wRm C 2048 84000 600000 7302250) (hStr : wStrC C ad) (hScr : wScr C ad L xs) (hRF : RF R) (kk : ∀ (I' J' : mI) (R' : mR), RF R' → K I' J' R' → WM C ad n I' J' R' 203 29614 1164 [(0, vr 999), (1, vr 1), (2, vr 159), (3, vi i)] []) (hw : plaw_27 L (scrX xs) i I J R K) : WM C ad n I J R 203 29614 1000 [(0, vr 999), (1, vr 1), (2, vr 159), (3, vi i)] [] := by
  unfold plaw_27 at hw
  refine wm_aload_n hC 1 dL_law_1000 rfl (by decide) ?_
  refine wm_aload_n hC 0 dL_law_1001 rfl (by decide) ?_
  refine wm_iload_n hC 3 dL_law_1002 rfl ?_
  refine wm_iconst hC dL_law_1003 (k := ?_)
  refine x_iadd hC dL_law_1004 hw (fun hw => ?_)
  refine x_sld hC hScr dL_law_1005 hw (fun hw => ?_)
  refine y_callV_z_I hC hRm noS ml_L_129 kk_1 (c11_fill hRF hw) (Nat.le_of_ble_eq_true rfl) (Nat.le_of_ble_eq_true rfl) ⟨(Nat.le_of_ble_eq_true rfl), (Nat.le_of_ble_eq_true rfl)⟩ rfl (st := []) rfl (Nat.le_of_ble_eq_true rfl) dL_law_1006 (fun r1 I1 hw => ?_)
  refine wm_aload_n hC 2 dL_law_1009 rfl (by decide) ?_
  refine wm_aload_n hC 0 dL_law_1010 rfl (by decide) ?_
  refine wm_iload_n hC 3 dL_law_1011 rfl ?_
  refine wm_iconst hC dL_law_1012 (k := ?_)
  refine x_iadd hC dL_law_1013 hw (fun hw => ?_)
  refine x_sld hC hScr dL_law_1014 hw (fun hw => ?_)
  refine y_callV_z_I hC hRm noS ml_L_132 kk_159 (c12_fill hRF hw) (Nat.le_of_ble_eq_true rfl) (Nat.le_of_ble_eq_true rfl) ⟨(Nat.le_of_ble_eq_true rfl), (Nat.le_of_ble_eq_true rfl)⟩ rfl (st := [vi r1]) rfl (Nat.le_of_ble_eq_true rfl) dL_law_1015 (fun r2 I2 hw => ?_)
  refine wm_icmp_eq (tgt := 1164) hC dL_law_1018 (by decide) hw (fun hw => ?_) (fun hw => hw.elim)
  exact kk _ _ _ hRF hw
def plaw_28 (L : Nat) (X : Int → Int) (i : Int) (I J : mI) (R : mR) (K : mI → mI → mR → Prop) : Prop := (p11_undo I (fun r1 I1 => (p12_undo I1 (fun r2 I2 => (if r1 = r2 then (K I2 J R) else False)))))
set_option maxRecDepth 20000 in
theorem wlaw_28 {C : wX} {ad : Nat → Nat} {n L : Nat} {xs : Nat → Int32} {I J : mI} {R : mR} {i : Int} {K : mI → mI → mR → Prop} (hC : wOK C cL_law 4 RL) (hRm : wRm C 2048 84000 600000 7302250) (hStr : wStrC C ad) (hScr : wScr C ad L xs) (hRF : RF R) (kk : ∀ (I' J' : mI) (R' : mR), RF R' → K I' J' R' → WM C ad n I' J' R' 203 29614 1164 [(0, vr 999), (1, vr 1), (2, vr 159), (3, vi i)] []) (hw : plaw_28 L (scrX xs) i I J R K) : WM C ad n I J R 203 29614 1023 [(0, vr 999), (1, vr 1), (2, vr 159), (3, vi i)] [] := by
  unfold plaw_28 at hw
  refine wm_aload_n hC 1 dL_law_1023 rfl (by decide) ?_
  refine y_callV_z_I hC hRm noS ml_L_133 kk_1 (c11_undo hRF hw) (Nat.le_of_ble_eq_true rfl) (Nat.le_of_ble_eq_true rfl) ⟨(Nat.le_of_ble_eq_true rfl), (Nat.le_of_ble_eq_true rfl)⟩ rfl (st := []) rfl (Nat.le_of_ble_eq_true rfl) dL_law_1024 (fun r1 I1 hw => ?_)
  refine wm_aload_n hC 2 dL_law_1027 rfl (by decide) ?_
  refine y_callV_z_I hC hRm noS ml_L_137 kk_159 (c12_undo hRF hw) (Nat.le_of_ble_eq_true rfl) (Nat.le_of_ble_eq_true rfl) ⟨(Nat.le_of_ble_eq_true rfl), (Nat.le_of_ble_eq_true rfl)⟩ rfl (st := [vi r1]) rfl (Nat.le_of_ble_eq_true rfl) dL_law_1028 (fun r2 I2 hw => ?_)
  refine wm_icmp_eq (tgt := 1164) hC dL_law_1031 (by decide) hw (fun hw => ?_) (fun hw => hw.elim)
  exact kk _ _ _ hRF hw
def plaw_29 (L : Nat) (X : Int → Int) (i : Int) (I J : mI) (R : mR) (K : mI → mI → mR → Prop) : Prop := (rg (i + 1) ∧ (((0 : Int) ≤ (i + 1) ∧ (i + 1) < (L : Int)) ∧ (p11_seed (X (i + 1)) I (fun r1 I1 => (rg (i + 1) ∧ (((0 : Int) ≤ (i + 1) ∧ (i + 1) < (L : Int)) ∧ (p12_seed (X (i + 1)) I1 J (fun r2 I2 J1 => (if r1 = r2 then (K I2 J1 R) else False)))))))))
set_option maxRecDepth 20000 in
theorem wlaw_29 {C : wX} {ad : Nat → Nat} {n L : Nat} {xs : Nat → Int32} {I J : mI} {R : mR} {i : Int} {K : mI → mI → mR → Prop} (hC : wOK C cL_law 4 RL) (hRm : wRm C 2048 84000 600000 7302250) (hStr : wStrC C ad) (hScr : wScr C ad L xs) (hRF : RF R) (kk : ∀ (I' J' : mI) (R' : mR), RF R' → K I' J' R' → WM C ad n I' J' R' 203 29614 1164 [(0, vr 999), (1, vr 1), (2, vr 159), (3, vi i)] []) (hw : plaw_29 L (scrX xs) i I J R K) : WM C ad n I J R 203 29614 1036 [(0, vr 999), (1, vr 1), (2, vr 159), (3, vi i)] [] := by
  unfold plaw_29 at hw
  refine wm_aload_n hC 1 dL_law_1036 rfl (by decide) ?_
  refine wm_aload_n hC 0 dL_law_1037 rfl (by decide) ?_
  refine wm_iload_n hC 3 dL_law_1038 rfl ?_
  refine wm_iconst hC dL_law_1039 (k := ?_)
  refine x_iadd hC dL_law_1040 hw (fun hw => ?_)
  refine x_sld hC hScr dL_law_1041 hw (fun hw => ?_)
  refine y_callV_z_I hC hRm noS ml_L_138 kk_1 (c11_seed hRF hw) (Nat.le_of_ble_eq_true rfl) (Nat.le_of_ble_eq_true rfl) ⟨(Nat.le_of_ble_eq_true rfl), (Nat.le_of_ble_eq_true rfl)⟩ rfl (st := []) rfl (Nat.le_of_ble_eq_true rfl) dL_law_1042 (fun r1 I1 hw => ?_)
  refine wm_aload_n hC 2 dL_law_1045 rfl (by decide) ?_
  refine wm_aload_n hC 0 dL_law_1046 rfl (by decide) ?_
  refine wm_iload_n hC 3 dL_law_1047 rfl ?_
  refine wm_iconst hC dL_law_1048 (k := ?_)
  refine x_iadd hC dL_law_1049 hw (fun hw => ?_)
  refine x_sld hC hScr dL_law_1050 hw (fun hw => ?_)
  refine y_callV_z_IJ hC hRm noS ml_L_141 kk_159 (c12_seed hRF hw) (Nat.le_of_ble_eq_true rfl) (Nat.le_of_ble_eq_true rfl) ⟨(Nat.le_of_ble_eq_true rfl), (Nat.le_of_ble_eq_true rfl)⟩ rfl (st := [vi r1]) rfl (Nat.le_of_ble_eq_true rfl) dL_law_1051 (fun r2 I2 J1 hw => ?_)
  refine wm_icmp_eq (tgt := 1164) hC dL_law_1054 (by decide) hw (fun hw => ?_) (fun hw => hw.elim)
  exact kk _ _ _ hRF hw
def plaw_30 (L : Nat) (X : Int → Int) (i : Int) (I J : mI) (R : mR) (K : mI → mI → mR → Prop) : Prop := (rg (i + 1) ∧ (((0 : Int) ≤ (i + 1) ∧ (i + 1) < (L : Int)) ∧ (rg (i + 2) ∧ (((0 : Int) ≤ (i + 2) ∧ (i + 2) < (L : Int)) ∧ (p11_kept (X (i + 1)) (X (i + 2)) I (fun r1 => (rg (i + 1) ∧ (((0 : Int) ≤ (i + 1) ∧ (i + 1) < (L : Int)) ∧ (rg (i + 2) ∧ (((0 : Int) ≤ (i + 2) ∧ (i + 2) < (L : Int)) ∧ (p12_kept (X (i + 1)) (X (i + 2)) I (fun r2 => (if r1 = r2 then (K I J R) else False)))))))))))))
set_option maxRecDepth 20000 in
theorem wlaw_30 {C : wX} {ad : Nat → Nat} {n L : Nat} {xs : Nat → Int32} {I J : mI} {R : mR} {i : Int} {K : mI → mI → mR → Prop} (hC : wOK C cL_law 4 RL) (hRm : wRm C 2048 84000 600000 7302250) (hStr : wStrC C ad) (hScr : wScr C ad L xs) (hRF : RF R) (kk : ∀ (I' J' : mI) (R' : mR), RF R' → K I' J' R' → WM C ad n I' J' R' 203 29614 1164 [(0, vr 999), (1, vr 1), (2, vr 159), (3, vi i)] []) (hw : plaw_30 L (scrX xs) i I J R K) : WM C ad n I J R 203 29614 1059 [(0, vr 999), (1, vr 1), (2, vr 159), (3, vi i)] [] := by
  unfold plaw_30 at hw
  refine wm_aload_n hC 1 dL_law_1059 rfl (by decide) ?_
  refine wm_aload_n hC 0 dL_law_1060 rfl (by decide) ?_
  refine wm_iload_n hC 3 dL_law_1061 rfl ?_
  refine wm_iconst hC dL_law_1062 (k := ?_)
  refine x_iadd hC dL_law_1063 hw (fun hw => ?_)
  refine x_sld hC hScr dL_law_1064 hw (fun hw => ?_)
  refine wm_aload_n hC 0 dL_law_1065 rfl (by decide) ?_
  refine wm_iload_n hC 3 dL_law_1066 rfl ?_
  refine wm_iconst hC dL_law_1067 (k := ?_)
  refine x_iadd hC dL_law_1068 hw (fun hw => ?_)
  refine x_sld hC hScr dL_law_1069 hw (fun hw => ?_)
  refine y_callV_i_n hC hRm noS ml_L_142 kk_1 (c11_kept hRF hw) (Nat.le_of_ble_eq_true rfl) (Nat.le_of_ble_eq_true rfl) ⟨(Nat.le_of_ble_eq_true rfl), (Nat.le_of_ble_eq_true rfl)⟩ rfl (st := []) rfl (Nat.le_of_ble_eq_true rfl) dL_law_1070 (fun r1 hw => ?_)
  refine wm_aload_n hC 2 dL_law_1073 rfl (by decide) ?_
  refine wm_aload_n hC 0 dL_law_1074 rfl (by decide) ?_
  refine wm_iload_n hC 3 dL_law_1075 rfl ?_
  refine wm_iconst hC dL_law_1076 (k := ?_)
  refine x_iadd hC dL_law_1077 hw (fun hw => ?_)
  refine x_sld hC hScr dL_law_1078 hw (fun hw => ?_)
  refine wm_aload_n hC 0 dL_law_1079 rfl (by decide) ?_
  refine wm_iload_n hC 3 dL_law_1080 rfl ?_
  refine wm_iconst hC dL_law_1081 (k := ?_)
  refine x_iadd hC dL_law_1082 hw (fun hw => ?_)
  refine x_sld hC hScr dL_law_1083 hw (fun hw => ?_)
  refine y_callV_i_n hC hRm noS ml_L_145 kk_159 (c12_kept hRF hw) (Nat.le_of_ble_eq_true rfl) (Nat.le_of_ble_eq_true rfl) ⟨(Nat.le_of_ble_eq_true rfl), (Nat.le_of_ble_eq_true rfl)⟩ rfl (st := [vi r1]) rfl (Nat.le_of_ble_eq_true rfl) dL_law_1084 (fun r2 hw => ?_)
  refine wm_icmp_eq (tgt := 1164) hC dL_law_1087 (by decide) hw (fun hw => ?_) (fun hw => hw.elim)
  exact kk _ _ _ hRF hw
def plaw_31 (L : Nat) (X : Int → Int) (i : Int) (I J : mI) (R : mR) (K : mI → mI → mR → Prop) : Prop := (p11_image I R (fun r1 I1 => (p12_image I1 (fun r2 I2 => (if r1 = r2 then (K I2 J R) else False)))))
set_option maxRecDepth 20000 in
theorem wlaw_31 {C : wX} {ad : Nat → Nat} {n L : Nat} {xs : Nat → Int32} {I J : mI} {R : mR} {i : Int} {K : mI → mI → mR → Prop} (hC : wOK C cL_law 4 RL) (hRm : wRm C 2048 84000 600000 7302250) (hStr : wStrC C ad) (hScr : wScr C ad L xs) (hRF : RF R) (kk : ∀ (I' J' : mI) (R' : mR), RF R' → K I' J' R' → WM C ad n I' J' R' 203 29614 1164 [(0, vr 999), (1, vr 1), (2, vr 159), (3, vi i)] []) (hw : plaw_31 L (scrX xs) i I J R K) : WM C ad n I J R 203 29614 1092 [(0, vr 999), (1, vr 1), (2, vr 159), (3, vi i)] [] := by
  unfold plaw_31 at hw
  refine wm_aload_n hC 1 dL_law_1092 rfl (by decide) ?_
  refine y_callV_i_I hC hRm noS ml_L_146 kk_1 (c11_image hRF hw) (Nat.le_of_ble_eq_true rfl) (Nat.le_of_ble_eq_true rfl) ⟨(Nat.le_of_ble_eq_true rfl), (Nat.le_of_ble_eq_true rfl)⟩ rfl (st := []) rfl (Nat.le_of_ble_eq_true rfl) dL_law_1093 (fun r1 I1 hw => ?_)
  refine wm_aload_n hC 2 dL_law_1096 rfl (by decide) ?_
  refine y_callV_i_I hC hRm noS ml_L_149 kk_159 (c12_image hRF hw) (Nat.le_of_ble_eq_true rfl) (Nat.le_of_ble_eq_true rfl) ⟨(Nat.le_of_ble_eq_true rfl), (Nat.le_of_ble_eq_true rfl)⟩ rfl (st := [vi r1]) rfl (Nat.le_of_ble_eq_true rfl) dL_law_1097 (fun r2 I2 hw => ?_)
  refine wm_icmp_eq (tgt := 1164) hC dL_law_1100 (by decide) hw (fun hw => ?_) (fun hw => hw.elim)
  exact kk _ _ _ hRF hw
def plaw_32 (L : Nat) (X : Int → Int) (i : Int) (I J : mI) (R : mR) (K : mI → mI → mR → Prop) : Prop := (rg (i + 1) ∧ (((0 : Int) ≤ (i + 1) ∧ (i + 1) < (L : Int)) ∧ (p11_octet (X (i + 1)) I (fun r1 => (rg (i + 1) ∧ (((0 : Int) ≤ (i + 1) ∧ (i + 1) < (L : Int)) ∧ (p12_octet (X (i + 1)) I (fun r2 => (if r1 = r2 then (K I J R) else False)))))))))
set_option maxRecDepth 20000 in
theorem wlaw_32 {C : wX} {ad : Nat → Nat} {n L : Nat} {xs : Nat → Int32} {I J : mI} {R : mR} {i : Int} {K : mI → mI → mR → Prop} (hC : wOK C cL_law 4 RL) (hRm : wRm C 2048 84000 600000 7302250) (hStr : wStrC C ad) (hScr : wScr C ad L xs) (hRF : RF R) (kk : ∀ (I' J' : mI) (R' : mR), RF R' → K I' J' R' → WM C ad n I' J' R' 203 29614 1164 [(0, vr 999), (1, vr 1), (2, vr 159), (3, vi i)] []) (hw : plaw_32 L (scrX xs) i I J R K) : WM C ad n I J R 203 29614 1105 [(0, vr 999), (1, vr 1), (2, vr 159), (3, vi i)] [] := by
  unfold plaw_32 at hw
  refine wm_aload_n hC 1 dL_law_1105 rfl (by decide) ?_
  refine wm_aload_n hC 0 dL_law_1106 rfl (by decide) ?_
  refine wm_iload_n hC 3 dL_law_1107 rfl ?_
  refine wm_iconst hC dL_law_1108 (k := ?_)
  refine x_iadd hC dL_law_1109 hw (fun hw => ?_)
  refine x_sld hC hScr dL_law_1110 hw (fun hw => ?_)
  refine y_callV_i_n hC hRm noS ml_L_150 kk_1 (c11_octet hRF hw) (Nat.le_of_ble_eq_true rfl) (Nat.le_of_ble_eq_true rfl) ⟨(Nat.le_of_ble_eq_true rfl), (Nat.le_of_ble_eq_true rfl)⟩ rfl (st := []) rfl (Nat.le_of_ble_eq_true rfl) dL_law_1111 (fun r1 hw => ?_)
  refine wm_aload_n hC 2 dL_law_1114 rfl (by decide) ?_
  refine wm_aload_n hC 0 dL_law_1115 rfl (by decide) ?_
  refine wm_iload_n hC 3 dL_law_1116 rfl ?_
  refine wm_iconst hC dL_law_1117 (k := ?_)
  refine x_iadd hC dL_law_1118 hw (fun hw => ?_)
  refine x_sld hC hScr dL_law_1119 hw (fun hw => ?_)
  refine y_callV_i_n hC hRm noS ml_L_153 kk_159 (c12_octet hRF hw) (Nat.le_of_ble_eq_true rfl) (Nat.le_of_ble_eq_true rfl) ⟨(Nat.le_of_ble_eq_true rfl), (Nat.le_of_ble_eq_true rfl)⟩ rfl (st := [vi r1]) rfl (Nat.le_of_ble_eq_true rfl) dL_law_1120 (fun r2 hw => ?_)
  refine wm_icmp_eq (tgt := 1164) hC dL_law_1123 (by decide) hw (fun hw => ?_) (fun hw => hw.elim)
  exact kk _ _ _ hRF hw
def plaw_33 (L : Nat) (X : Int → Int) (i : Int) (I J : mI) (R : mR) (K : mI → mI → mR → Prop) : Prop := (p11_on I R (fun r1 I1 => (p12_on I1 (fun r2 I2 => (if r1 = r2 then (K I2 J R) else False)))))
set_option maxRecDepth 20000 in
theorem wlaw_33 {C : wX} {ad : Nat → Nat} {n L : Nat} {xs : Nat → Int32} {I J : mI} {R : mR} {i : Int} {K : mI → mI → mR → Prop} (hC : wOK C cL_law 4 RL) (hRm : wRm C 2048 84000 600000 7302250) (hStr : wStrC C ad) (hScr : wScr C ad L xs) (hRF : RF R) (kk : ∀ (I' J' : mI) (R' : mR), RF R' → K I' J' R' → WM C ad n I' J' R' 203 29614 1164 [(0, vr 999), (1, vr 1), (2, vr 159), (3, vi i)] []) (hw : plaw_33 L (scrX xs) i I J R K) : WM C ad n I J R 203 29614 1128 [(0, vr 999), (1, vr 1), (2, vr 159), (3, vi i)] [] := by
  unfold plaw_33 at hw
  refine wm_aload_n hC 1 dL_law_1128 rfl (by decide) ?_
  refine y_callV_z_I hC hRm noS ml_L_154 kk_1 (c11_on hRF hw) (Nat.le_of_ble_eq_true rfl) (Nat.le_of_ble_eq_true rfl) ⟨(Nat.le_of_ble_eq_true rfl), (Nat.le_of_ble_eq_true rfl)⟩ rfl (st := []) rfl (Nat.le_of_ble_eq_true rfl) dL_law_1129 (fun r1 I1 hw => ?_)
  refine wm_aload_n hC 2 dL_law_1132 rfl (by decide) ?_
  refine y_callV_z_I hC hRm noS ml_L_157 kk_159 (c12_on hRF hw) (Nat.le_of_ble_eq_true rfl) (Nat.le_of_ble_eq_true rfl) ⟨(Nat.le_of_ble_eq_true rfl), (Nat.le_of_ble_eq_true rfl)⟩ rfl (st := [vi r1]) rfl (Nat.le_of_ble_eq_true rfl) dL_law_1133 (fun r2 I2 hw => ?_)
  refine wm_icmp_eq (tgt := 1164) hC dL_law_1136 (by decide) hw (fun hw => ?_) (fun hw => hw.elim)
  exact kk _ _ _ hRF hw
def plaw_34 (L : Nat) (X : Int → Int) (i : Int) (I J : mI) (R : mR) (K : mI → mI → mR → Prop) : Prop := (rg (i + 1) ∧ (((0 : Int) ≤ (i + 1) ∧ (i + 1) < (L : Int)) ∧ (p11_status (X (i + 1)) I (fun r1 => (rg (i + 1) ∧ (((0 : Int) ≤ (i + 1) ∧ (i + 1) < (L : Int)) ∧ (p12_status (X (i + 1)) I (fun r2 => (if r1 = r2 then (K I J R) else False)))))))))
set_option maxRecDepth 20000 in
theorem wlaw_34 {C : wX} {ad : Nat → Nat} {n L : Nat} {xs : Nat → Int32} {I J : mI} {R : mR} {i : Int} {K : mI → mI → mR → Prop} (hC : wOK C cL_law 4 RL) (hRm : wRm C 2048 84000 600000 7302250) (hStr : wStrC C ad) (hScr : wScr C ad L xs) (hRF : RF R) (kk : ∀ (I' J' : mI) (R' : mR), RF R' → K I' J' R' → WM C ad n I' J' R' 203 29614 1164 [(0, vr 999), (1, vr 1), (2, vr 159), (3, vi i)] []) (hw : plaw_34 L (scrX xs) i I J R K) : WM C ad n I J R 203 29614 1141 [(0, vr 999), (1, vr 1), (2, vr 159), (3, vi i)] [] := by
  unfold plaw_34 at hw
  refine wm_aload_n hC 1 dL_law_1141 rfl (by decide) ?_
  refine wm_aload_n hC 0 dL_law_1142 rfl (by decide) ?_
  refine wm_iload_n hC 3 dL_law_1143 rfl ?_
  refine wm_iconst hC dL_law_1144 (k := ?_)
  refine x_iadd hC dL_law_1145 hw (fun hw => ?_)
  refine x_sld hC hScr dL_law_1146 hw (fun hw => ?_)
  refine y_callV_i_n hC hRm noS ml_L_158 kk_1 (c11_status hRF hw) (Nat.le_of_ble_eq_true rfl) (Nat.le_of_ble_eq_true rfl) ⟨(Nat.le_of_ble_eq_true rfl), (Nat.le_of_ble_eq_true rfl)⟩ rfl (st := []) rfl (Nat.le_of_ble_eq_true rfl) dL_law_1147 (fun r1 hw => ?_)
  refine wm_aload_n hC 2 dL_law_1150 rfl (by decide) ?_
  refine wm_aload_n hC 0 dL_law_1151 rfl (by decide) ?_
  refine wm_iload_n hC 3 dL_law_1152 rfl ?_
  refine wm_iconst hC dL_law_1153 (k := ?_)
  refine x_iadd hC dL_law_1154 hw (fun hw => ?_)
  refine x_sld hC hScr dL_law_1155 hw (fun hw => ?_)
  refine y_callV_i_n hC hRm noS ml_L_161 kk_159 (c12_status hRF hw) (Nat.le_of_ble_eq_true rfl) (Nat.le_of_ble_eq_true rfl) ⟨(Nat.le_of_ble_eq_true rfl), (Nat.le_of_ble_eq_true rfl)⟩ rfl (st := [vi r1]) rfl (Nat.le_of_ble_eq_true rfl) dL_law_1156 (fun r2 hw => ?_)
  refine wm_icmp_eq (tgt := 1164) hC dL_law_1159 (by decide) hw (fun hw => ?_) (fun hw => hw.elim)
  exact kk _ _ _ hRF hw
def plaw_body (L : Nat) (X : Int → Int) (k : Int → mI → mI → mR → Prop) (i : Int) (I J : mI) (R : mR) : Prop := rg ((L : Int) - 6) ∧ (if (L : Int) - 6 < i then True else ((0 ≤ i ∧ i < (L : Int)) ∧ (if bAnd (X i) 63 = 0 then plaw_0 L X i I J R (fun I' J' R' => rg (i + 6) ∧ k (i + 6) I' J' R') else (if bAnd (X i) 63 = 1 then plaw_1 L X i I J R (fun I' J' R' => rg (i + 6) ∧ k (i + 6) I' J' R') else (if bAnd (X i) 63 = 2 then plaw_2 L X i I J R (fun I' J' R' => rg (i + 6) ∧ k (i + 6) I' J' R') else (if bAnd (X i) 63 = 3 then plaw_3 L X i I J R (fun I' J' R' => rg (i + 6) ∧ k (i + 6) I' J' R') else (if bAnd (X i) 63 = 4 then plaw_4 L X i I J R (fun I' J' R' => rg (i + 6) ∧ k (i + 6) I' J' R') else (if bAnd (X i) 63 = 5 then plaw_5 L X i I J R (fun I' J' R' => rg (i + 6) ∧ k (i + 6) I' J' R') else (if bAnd (X i) 63 = 6 then plaw_6 L X i I J R (fun I' J' R' => rg (i + 6) ∧ k (i + 6) I' J' R') else (if bAnd (X i) 63 = 7 then plaw_7 L X i I J R (fun I' J' R' => rg (i + 6) ∧ k (i + 6) I' J' R') else (if bAnd (X i) 63 = 8 then plaw_8 L X i I J R (fun I' J' R' => rg (i + 6) ∧ k (i + 6) I' J' R') else (if bAnd (X i) 63 = 9 then plaw_9 L X i I J R (fun I' J' R' => rg (i + 6) ∧ k (i + 6) I' J' R') else (if bAnd (X i) 63 = 10 then plaw_10 L X i I J R (fun I' J' R' => rg (i + 6) ∧ k (i + 6) I' J' R') else (if bAnd (X i) 63 = 11 then plaw_11 L X i I J R (fun I' J' R' => rg (i + 6) ∧ k (i + 6) I' J' R') else (if bAnd (X i) 63 = 12 then plaw_12 L X i I J R (fun I' J' R' => rg (i + 6) ∧ k (i + 6) I' J' R') else (if bAnd (X i) 63 = 13 then plaw_13 L X i I J R (fun I' J' R' => rg (i + 6) ∧ k (i + 6) I' J' R') else (if bAnd (X i) 63 = 14 then plaw_14 L X i I J R (fun I' J' R' => rg (i + 6) ∧ k (i + 6) I' J' R') else (if bAnd (X i) 63 = 15 then plaw_15 L X i I J R (fun I' J' R' => rg (i + 6) ∧ k (i + 6) I' J' R') else (if bAnd (X i) 63 = 16 then plaw_16 L X i I J R (fun I' J' R' => rg (i + 6) ∧ k (i + 6) I' J' R') else (if bAnd (X i) 63 = 17 then plaw_17 L X i I J R (fun I' J' R' => rg (i + 6) ∧ k (i + 6) I' J' R') else (if bAnd (X i) 63 = 18 then plaw_18 L X i I J R (fun I' J' R' => rg (i + 6) ∧ k (i + 6) I' J' R') else (if bAnd (X i) 63 = 19 then plaw_19 L X i I J R (fun I' J' R' => rg (i + 6) ∧ k (i + 6) I' J' R') else (if bAnd (X i) 63 = 20 then plaw_20 L X i I J R (fun I' J' R' => rg (i + 6) ∧ k (i + 6) I' J' R') else (if bAnd (X i) 63 = 21 then plaw_21 L X i I J R (fun I' J' R' => rg (i + 6) ∧ k (i + 6) I' J' R') else (if bAnd (X i) 63 = 22 then plaw_22 L X i I J R (fun I' J' R' => rg (i + 6) ∧ k (i + 6) I' J' R') else (if bAnd (X i) 63 = 23 then plaw_23 L X i I J R (fun I' J' R' => rg (i + 6) ∧ k (i + 6) I' J' R') else (if bAnd (X i) 63 = 24 then plaw_24 L X i I J R (fun I' J' R' => rg (i + 6) ∧ k (i + 6) I' J' R') else (if bAnd (X i) 63 = 25 then plaw_25 L X i I J R (fun I' J' R' => rg (i + 6) ∧ k (i + 6) I' J' R') else (if bAnd (X i) 63 = 26 then plaw_26 L X i I J R (fun I' J' R' => rg (i + 6) ∧ k (i + 6) I' J' R') else (if bAnd (X i) 63 = 27 then plaw_27 L X i I J R (fun I' J' R' => rg (i + 6) ∧ k (i + 6) I' J' R') else (if bAnd (X i) 63 = 28 then plaw_28 L X i I J R (fun I' J' R' => rg (i + 6) ∧ k (i + 6) I' J' R') else (if bAnd (X i) 63 = 29 then plaw_29 L X i I J R (fun I' J' R' => rg (i + 6) ∧ k (i + 6) I' J' R') else (if bAnd (X i) 63 = 30 then plaw_30 L X i I J R (fun I' J' R' => rg (i + 6) ∧ k (i + 6) I' J' R') else (if bAnd (X i) 63 = 31 then plaw_31 L X i I J R (fun I' J' R' => rg (i + 6) ∧ k (i + 6) I' J' R') else (if bAnd (X i) 63 = 32 then plaw_32 L X i I J R (fun I' J' R' => rg (i + 6) ∧ k (i + 6) I' J' R') else (if bAnd (X i) 63 = 33 then plaw_33 L X i I J R (fun I' J' R' => rg (i + 6) ∧ k (i + 6) I' J' R') else (if bAnd (X i) 63 = 34 then plaw_34 L X i I J R (fun I' J' R' => rg (i + 6) ∧ k (i + 6) I' J' R') else (rg (i + 6) ∧ k (i + 6) I J R))))))))))))))))))))))))))))))))))))))
def plaw (L : Nat) (X : Int → Int) : Nat → Int → mI → mI → mR → Prop
  | 0 => fun _ _ _ _ => False
  | f + 1 => fun i I J R => plaw_body L X (plaw L X f) i I J R
set_option maxRecDepth 20000 in
theorem wlaw_body {C : wX} {ad : Nat → Nat} {n L : Nat} {xs : Nat → Int32} {I J : mI} {R : mR} {k : Int → mI → mI → mR → Prop} {i : Int} (hC : wOK C cL_law 4 RL) (hRm : wRm C 2048 84000 600000 7302250) (hStr : wStrC C ad) (hScr : wScr C ad L xs) (hRF : RF R) (hfin : ∀ {I J : mI} {R : mR} {lv : List (Nat × wV)}, WM C ad n I J R 203 29614 1171 lv [vi 1]) (kk : ∀ (i' : Int) (I' J' : mI) (R' : mR), RF R' → k i' I' J' R' → WM C ad n I' J' R' 203 29614 18 [(0, vr 999), (1, vr 1), (2, vr 159), (3, vi i')] []) (hw : plaw_body L (scrX xs) k i I J R) : WM C ad n I J R 203 29614 18 [(0, vr 999), (1, vr 1), (2, vr 159), (3, vi i)] [] := by
  have hk : ∀ (I' J' : mI) (R' : mR), RF R' → (rg (i + 6) ∧ k (i + 6) I' J' R') → WM C ad n I' J' R' 203 29614 1164 [(0, vr 999), (1, vr 1), (2, vr 159), (3, vi i)] [] := by
    intro I' J' R' hR hw
    refine x_iinc hC 3 dL_law_1164 rfl (by decide) (L2 := [(3, vi (i + 6)), (0, vr 999), (1, vr 1), (2, vr 159)]) rfl hw (fun hw => ?_)
    refine wm_goto (tgt := 18) hC dL_law_1167 (by decide) ?_
    refine wm_sub [1, 2, 3, 0] (L2 := [(0, vr 999), (1, vr 1), (2, vr 159), (3, vi (i + 6))]) rfl ?_
    exact kk _ _ _ _ hR hw
  unfold plaw_body at hw
  obtain ⟨hw1, hw2⟩ := hw
  refine wm_iload_n hC 3 dL_law_18 rfl ?_
  refine wm_aload_n hC 0 dL_law_19 rfl (by decide) ?_
  refine x_slen' hC hScr dL_law_20 ?_
  refine wm_bipush hC dL_law_21 (k := ?_)
  refine x_isub hC dL_law_23 (WA := True) ⟨hw1, trivial⟩ (fun _ => ?_)
  refine wm_icmp_gt (tgt := 1170) hC dL_law_24 (by decide) hw2 (fun _ => ?_) (fun hw => ?_)
  · refine wm_iconst hC dL_law_1170 (k := ?_)
    exact hfin
  · refine wm_aload_n hC 0 dL_law_27 rfl (by decide) ?_
    refine wm_iload_n hC 3 dL_law_28 rfl ?_
    refine x_sld hC hScr dL_law_29 hw (fun hw => ?_)
    refine wm_bipush hC dL_law_30 (k := ?_)
    refine wm_iand hC dL_law_32 ?_
    by_cases hc0 : bAnd (scrX xs i) 63 = 0
    · rw [if_pos hc0] at hw
      refine wm_tableIn (v := 0) (tgt := 188) hC dL_law_33 hc0 (by decide) (by decide) rfl rfl ?_
      exact wlaw_0 hC hRm hStr hScr hRF hk hw
    rw [if_neg hc0] at hw
    by_cases hc1 : bAnd (scrX xs i) 63 = 1
    · rw [if_pos hc1] at hw
      refine wm_tableIn (v := 1) (tgt := 251) hC dL_law_33 hc1 (by decide) (by decide) rfl rfl ?_
      exact wlaw_1 hC hRm hStr hScr hRF hk hw
    rw [if_neg hc1] at hw
    by_cases hc2 : bAnd (scrX xs i) 63 = 2
    · rw [if_pos hc2] at hw
      refine wm_tableIn (v := 2) (tgt := 274) hC dL_law_33 hc2 (by decide) (by decide) rfl rfl ?_
      exact wlaw_2 hC hRm hStr hScr hRF hk hw
    rw [if_neg hc2] at hw
    by_cases hc3 : bAnd (scrX xs i) 63 = 3
    · rw [if_pos hc3] at hw
      refine wm_tableIn (v := 3) (tgt := 287) hC dL_law_33 hc3 (by decide) (by decide) rfl rfl ?_
      exact wlaw_3 hC hRm hStr hScr hRF hk hw
    rw [if_neg hc3] at hw
    by_cases hc4 : bAnd (scrX xs i) 63 = 4
    · rw [if_pos hc4] at hw
      refine wm_tableIn (v := 4) (tgt := 310) hC dL_law_33 hc4 (by decide) (by decide) rfl rfl ?_
      exact wlaw_4 hC hRm hStr hScr hRF hk hw
    rw [if_neg hc4] at hw
    by_cases hc5 : bAnd (scrX xs i) 63 = 5
    · rw [if_pos hc5] at hw
      refine wm_tableIn (v := 5) (tgt := 333) hC dL_law_33 hc5 (by decide) (by decide) rfl rfl ?_
      exact wlaw_5 hC hRm hStr hScr hRF hk hw
    rw [if_neg hc5] at hw
    by_cases hc6 : bAnd (scrX xs i) 63 = 6
    · rw [if_pos hc6] at hw
      refine wm_tableIn (v := 6) (tgt := 376) hC dL_law_33 hc6 (by decide) (by decide) rfl rfl ?_
      exact wlaw_6 hC hRm hStr hScr hRF hk hw
    rw [if_neg hc6] at hw
    by_cases hc7 : bAnd (scrX xs i) 63 = 7
    · rw [if_pos hc7] at hw
      refine wm_tableIn (v := 7) (tgt := 409) hC dL_law_33 hc7 (by decide) (by decide) rfl rfl ?_
      exact wlaw_7 hC hRm hStr hScr hRF hk hw
    rw [if_neg hc7] at hw
    by_cases hc8 : bAnd (scrX xs i) 63 = 8
    · rw [if_pos hc8] at hw
      refine wm_tableIn (v := 8) (tgt := 442) hC dL_law_33 hc8 (by decide) (by decide) rfl rfl ?_
      exact wlaw_8 hC hRm hStr hScr hRF hk hw
    rw [if_neg hc8] at hw
    by_cases hc9 : bAnd (scrX xs i) 63 = 9
    · rw [if_pos hc9] at hw
      refine wm_tableIn (v := 9) (tgt := 475) hC dL_law_33 hc9 (by decide) (by decide) rfl rfl ?_
      exact wlaw_9 hC hRm hStr hScr hRF hk hw
    rw [if_neg hc9] at hw
    by_cases hc10 : bAnd (scrX xs i) 63 = 10
    · rw [if_pos hc10] at hw
      refine wm_tableIn (v := 10) (tgt := 519) hC dL_law_33 hc10 (by decide) (by decide) rfl rfl ?_
      exact wlaw_10 hC hRm hStr hScr hRF hk hw
    rw [if_neg hc10] at hw
    by_cases hc11 : bAnd (scrX xs i) 63 = 11
    · rw [if_pos hc11] at hw
      refine wm_tableIn (v := 11) (tgt := 552) hC dL_law_33 hc11 (by decide) (by decide) rfl rfl ?_
      exact wlaw_11 hC hRm hStr hScr hRF hk hw
    rw [if_neg hc11] at hw
    by_cases hc12 : bAnd (scrX xs i) 63 = 12
    · rw [if_pos hc12] at hw
      refine wm_tableIn (v := 12) (tgt := 585) hC dL_law_33 hc12 (by decide) (by decide) rfl rfl ?_
      exact wlaw_12 hC hRm hStr hScr hRF hk hw
    rw [if_neg hc12] at hw
    by_cases hc13 : bAnd (scrX xs i) 63 = 13
    · rw [if_pos hc13] at hw
      refine wm_tableIn (v := 13) (tgt := 618) hC dL_law_33 hc13 (by decide) (by decide) rfl rfl ?_
      exact wlaw_13 hC hRm hStr hScr hRF hk hw
    rw [if_neg hc13] at hw
    by_cases hc14 : bAnd (scrX xs i) 63 = 14
    · rw [if_pos hc14] at hw
      refine wm_tableIn (v := 14) (tgt := 651) hC dL_law_33 hc14 (by decide) (by decide) rfl rfl ?_
      exact wlaw_14 hC hRm hStr hScr hRF hk hw
    rw [if_neg hc14] at hw
    by_cases hc15 : bAnd (scrX xs i) 63 = 15
    · rw [if_pos hc15] at hw
      refine wm_tableIn (v := 15) (tgt := 674) hC dL_law_33 hc15 (by decide) (by decide) rfl rfl ?_
      exact wlaw_15 hC hRm hStr hScr hRF hk hw
    rw [if_neg hc15] at hw
    by_cases hc16 : bAnd (scrX xs i) 63 = 16
    · rw [if_pos hc16] at hw
      refine wm_tableIn (v := 16) (tgt := 717) hC dL_law_33 hc16 (by decide) (by decide) rfl rfl ?_
      exact wlaw_16 hC hRm hStr hScr hRF hk hw
    rw [if_neg hc16] at hw
    by_cases hc17 : bAnd (scrX xs i) 63 = 17
    · rw [if_pos hc17] at hw
      refine wm_tableIn (v := 17) (tgt := 750) hC dL_law_33 hc17 (by decide) (by decide) rfl rfl ?_
      exact wlaw_17 hC hRm hStr hScr hRF hk hw
    rw [if_neg hc17] at hw
    by_cases hc18 : bAnd (scrX xs i) 63 = 18
    · rw [if_pos hc18] at hw
      refine wm_tableIn (v := 18) (tgt := 783) hC dL_law_33 hc18 (by decide) (by decide) rfl rfl ?_
      exact wlaw_18 hC hRm hStr hScr hRF hk hw
    rw [if_neg hc18] at hw
    by_cases hc19 : bAnd (scrX xs i) 63 = 19
    · rw [if_pos hc19] at hw
      refine wm_tableIn (v := 19) (tgt := 796) hC dL_law_33 hc19 (by decide) (by decide) rfl rfl ?_
      exact wlaw_19 hC hRm hStr hScr hRF hk hw
    rw [if_neg hc19] at hw
    by_cases hc20 : bAnd (scrX xs i) 63 = 20
    · rw [if_pos hc20] at hw
      refine wm_tableIn (v := 20) (tgt := 819) hC dL_law_33 hc20 (by decide) (by decide) rfl rfl ?_
      exact wlaw_20 hC hRm hStr hScr hRF hk hw
    rw [if_neg hc20] at hw
    by_cases hc21 : bAnd (scrX xs i) 63 = 21
    · rw [if_pos hc21] at hw
      refine wm_tableIn (v := 21) (tgt := 832) hC dL_law_33 hc21 (by decide) (by decide) rfl rfl ?_
      exact wlaw_21 hC hRm hStr hScr hRF hk hw
    rw [if_neg hc21] at hw
    by_cases hc22 : bAnd (scrX xs i) 63 = 22
    · rw [if_pos hc22] at hw
      refine wm_tableIn (v := 22) (tgt := 855) hC dL_law_33 hc22 (by decide) (by decide) rfl rfl ?_
      exact wlaw_22 hC hRm hStr hScr hRF hk hw
    rw [if_neg hc22] at hw
    by_cases hc23 : bAnd (scrX xs i) 63 = 23
    · rw [if_pos hc23] at hw
      refine wm_tableIn (v := 23) (tgt := 888) hC dL_law_33 hc23 (by decide) (by decide) rfl rfl ?_
      exact wlaw_23 hC hRm hStr hScr hRF hk hw
    rw [if_neg hc23] at hw
    by_cases hc24 : bAnd (scrX xs i) 63 = 24
    · rw [if_pos hc24] at hw
      refine wm_tableIn (v := 24) (tgt := 911) hC dL_law_33 hc24 (by decide) (by decide) rfl rfl ?_
      exact wlaw_24 hC hRm hStr hScr hRF hk hw
    rw [if_neg hc24] at hw
    by_cases hc25 : bAnd (scrX xs i) 63 = 25
    · rw [if_pos hc25] at hw
      refine wm_tableIn (v := 25) (tgt := 934) hC dL_law_33 hc25 (by decide) (by decide) rfl rfl ?_
      exact wlaw_25 hC hRm hStr hScr hRF hk hw
    rw [if_neg hc25] at hw
    by_cases hc26 : bAnd (scrX xs i) 63 = 26
    · rw [if_pos hc26] at hw
      refine wm_tableIn (v := 26) (tgt := 967) hC dL_law_33 hc26 (by decide) (by decide) rfl rfl ?_
      exact wlaw_26 hC hRm hStr hScr hRF hk hw
    rw [if_neg hc26] at hw
    by_cases hc27 : bAnd (scrX xs i) 63 = 27
    · rw [if_pos hc27] at hw
      refine wm_tableIn (v := 27) (tgt := 1000) hC dL_law_33 hc27 (by decide) (by decide) rfl rfl ?_
      exact wlaw_27 hC hRm hStr hScr hRF hk hw
    rw [if_neg hc27] at hw
    by_cases hc28 : bAnd (scrX xs i) 63 = 28
    · rw [if_pos hc28] at hw
      refine wm_tableIn (v := 28) (tgt := 1023) hC dL_law_33 hc28 (by decide) (by decide) rfl rfl ?_
      exact wlaw_28 hC hRm hStr hScr hRF hk hw
    rw [if_neg hc28] at hw
    by_cases hc29 : bAnd (scrX xs i) 63 = 29
    · rw [if_pos hc29] at hw
      refine wm_tableIn (v := 29) (tgt := 1036) hC dL_law_33 hc29 (by decide) (by decide) rfl rfl ?_
      exact wlaw_29 hC hRm hStr hScr hRF hk hw
    rw [if_neg hc29] at hw
    by_cases hc30 : bAnd (scrX xs i) 63 = 30
    · rw [if_pos hc30] at hw
      refine wm_tableIn (v := 30) (tgt := 1059) hC dL_law_33 hc30 (by decide) (by decide) rfl rfl ?_
      exact wlaw_30 hC hRm hStr hScr hRF hk hw
    rw [if_neg hc30] at hw
    by_cases hc31 : bAnd (scrX xs i) 63 = 31
    · rw [if_pos hc31] at hw
      refine wm_tableIn (v := 31) (tgt := 1092) hC dL_law_33 hc31 (by decide) (by decide) rfl rfl ?_
      exact wlaw_31 hC hRm hStr hScr hRF hk hw
    rw [if_neg hc31] at hw
    by_cases hc32 : bAnd (scrX xs i) 63 = 32
    · rw [if_pos hc32] at hw
      refine wm_tableIn (v := 32) (tgt := 1105) hC dL_law_33 hc32 (by decide) (by decide) rfl rfl ?_
      exact wlaw_32 hC hRm hStr hScr hRF hk hw
    rw [if_neg hc32] at hw
    by_cases hc33 : bAnd (scrX xs i) 63 = 33
    · rw [if_pos hc33] at hw
      refine wm_tableIn (v := 33) (tgt := 1128) hC dL_law_33 hc33 (by decide) (by decide) rfl rfl ?_
      exact wlaw_33 hC hRm hStr hScr hRF hk hw
    rw [if_neg hc33] at hw
    by_cases hc34 : bAnd (scrX xs i) 63 = 34
    · rw [if_pos hc34] at hw
      refine wm_tableIn (v := 34) (tgt := 1141) hC dL_law_33 hc34 (by decide) (by decide) rfl rfl ?_
      exact wlaw_34 hC hRm hStr hScr hRF hk hw
    rw [if_neg hc34] at hw
    refine wm_tableOut (tgt := 1164) hC dL_law_33 (by omega) rfl ?_
    exact hk _ _ _ hRF hw
theorem wlaw {C : wX} {ad : Nat → Nat} {n L : Nat} {xs : Nat → Int32} (hC : wOK C cL_law 4 RL) (hRm : wRm C 2048 84000 600000 7302250) (hStr : wStrC C ad) (hScr : wScr C ad L xs) (hfin : ∀ {I J : mI} {R : mR} {lv : List (Nat × wV)}, WM C ad n I J R 203 29614 1171 lv [vi 1]) : ∀ (f : Nat) (i : Int) (I J : mI) (R : mR), RF R → plaw L (scrX xs) f i I J R → WM C ad n I J R 203 29614 18 [(0, vr 999), (1, vr 1), (2, vr 159), (3, vi i)] [] := by
  intro f
  induction f with
  | zero => intro i I J R _ hw; exact hw.elim
  | succ f ih => intro i I J R hRF hw; exact wlaw_body hC hRm hStr hScr hRF hfin ih hw
