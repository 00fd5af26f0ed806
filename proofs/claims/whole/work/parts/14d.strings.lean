/-! Strings: 901, 902 the two constants, 911, 912 their bytes -/
def sK (a : Nat) : Prop := a = 901 ∨ a = 902
def sA (a : Nat) : Prop := a = 911 ∨ a = 912
def sN (a : Nat) : Nat := wLens.getD (a - 911) 0
def sB (a : Nat) (x : Int) : Int := ((wByts.getD (a - 911) []).getD x.toNat 0).toInt
theorem s_ne0 {a : Nat} (h : sK a) : a ≠ 0 := by rcases h with rfl | rfl <;> decide
theorem a_ne0 {a : Nat} (h : sA a) : a ≠ 0 := by rcases h with rfl | rfl <;> decide
theorem s_arr {a : Nat} (h : sK a) : sA (a + 10) := by rcases h with rfl | rfl; exact Or.inl rfl; exact Or.inr rfl
theorem sN_rg (a : Nat) : rg (sN a) := by
  have h : sN a ≤ 143 := by
    unfold sN wLens
    rcases a - 911 with _ | _ | k
    · decide
    · decide
    · exact Nat.zero_le _
  omega
section R8
variable {C : wX} {cc : ByteArray} {nL : Nat} {own : String} {ad : Nat → Nat} {n : Nat} {I J : mI} {R : mR} {ks ss pc : Nat} {lv : List (Nat × wV)} {st : List wV} {WA : Prop}
theorem wm_ldcW (hC : wOK C cc nL "BlindColours$Reader") (hs : wStrC C ad) (hd : decode cc pc = .ok (.ldc 67, 2)) (k : WM C ad n I J R ks ss (pc + 2) lv (vr 901 :: st)) : WM C ad n I J R ks ss pc lv st := by
  obtain ⟨p, l, e, Rm, s, m, args, below, meth, c, Q, D, cY, A, nL', own'⟩ := C
  obtain ⟨hx, hb, hml, hown, hts, hK, hA, hlk, rfl, rfl⟩ := hC
  intro hM hlv hst H locs ls hP hD hS hl
  exact va_ldcS hx hb hown hs.2.1 hd (k hM hlv (fc_i (Or.inr (by decide)) hst) H locs ls hP hD hS hl)
theorem wm_ldcG (hC : wOK C cc nL "BlindColours$Tokens") (hs : wStrC C ad) (hd : decode cc pc = .ok (.ldc 65, 2)) (k : WM C ad n I J R ks ss (pc + 2) lv (vr 902 :: st)) : WM C ad n I J R ks ss pc lv st := by
  obtain ⟨p, l, e, Rm, s, m, args, below, meth, c, Q, D, cY, A, nL', own'⟩ := C
  obtain ⟨hx, hb, hml, hown, hts, hK, hA, hlk, rfl, rfl⟩ := hC
  intro hM hlv hst H locs ls hP hD hS hl
  exact va_ldcS hx hb hown hs.2.2.1 hd (k hM hlv (fc_i (Or.inr (by decide)) hst) H locs ls hP hD hS hl)
theorem sK_i {a : Nat} (h : sK a) : ∃ i, i < 2 ∧ a = 901 + i := by rcases h with rfl | rfl; exact ⟨0, by decide, rfl⟩; exact ⟨1, by decide, rfl⟩
theorem sA_i {a : Nat} (h : sA a) : ∃ i, i < 2 ∧ a = 911 + i := by rcases h with rfl | rfl; exact ⟨0, by decide, rfl⟩; exact ⟨1, by decide, rfl⟩
theorem wm_sgetV (hC : wOK C cc nL own) (hs : wStrC C ad) {a index : Nat} (ha : sK a) (hw : Cond.fieldLink own index "java/lang/String" "value" "[B" ∈ wT) (hd : decode cc pc = .ok (.getfield index, 3)) (k : WM C ad n I J R ks ss (pc + 3) lv (vr (a + 10) :: st)) : WM C ad n I J R ks ss pc lv (vr a :: st) := by
  obtain ⟨p, l, e, Rm, s, m, args, below, meth, c, Q, D, cY, A, nL', own'⟩ := C
  obtain ⟨hx, hb, hml, hown, hts, hK, hA, hlk, rfl, rfl⟩ := hC
  intro hM hlv hst H locs ls hP hD hS hl
  obtain ⟨i, hi, rfl⟩ := sK_i ha
  have h2 := k hM hlv (fc_i (Or.inr (by omega)) (fc_c hst).2) H locs ls hP hD hS hl
  rw [List.map_cons, w_ref (by omega), show 901 + i + 10 = 911 + i by omega] at h2
  rw [List.map_cons, w_ref (by omega)]
  exact vk_getf hx hb (hs.1.1 i hi).2.2.1 hS hown (hts _ hw) (fun _ h => h) hd h2
theorem wm_sgetC (hC : wOK C cc nL own) (hs : wStrC C ad) {a index : Nat} (ha : sK a) (hw : Cond.fieldLink own index "java/lang/String" "coder" "B" ∈ wT) (hd : decode cc pc = .ok (.getfield index, 3)) (k : WM C ad n I J R ks ss (pc + 3) lv (vi 0 :: st)) : WM C ad n I J R ks ss pc lv (vr a :: st) := by
  obtain ⟨p, l, e, Rm, s, m, args, below, meth, c, Q, D, cY, A, nL', own'⟩ := C
  obtain ⟨hx, hb, hml, hown, hts, hK, hA, hlk, rfl, rfl⟩ := hC
  intro hM hlv hst H locs ls hP hD hS hl
  obtain ⟨i, hi, rfl⟩ := sK_i ha
  rw [List.map_cons, w_ref (by omega)]
  exact vk_getf hx hb (hs.1.1 i hi).2.1 hS hown (hts _ hw) (fun _ h => h) hd (k hM hlv (fc_i rg0 (fc_c hst).2) H locs ls hP hD hS hl)
theorem wm_salen (hC : wOK C cc nL own) (hs : wStrC C ad) {a : Nat} (ha : sA a) (hd : decode cc pc = .ok (.arraylength, 1)) (k : WM C ad n I J R ks ss (pc + 1) lv (vi (sN a) :: st)) : WM C ad n I J R ks ss pc lv (vr a :: st) := by
  obtain ⟨p, l, e, Rm, s, m, args, below, meth, c, Q, D, cY, A, nL', own'⟩ := C
  obtain ⟨hx, hb, hml, hown, hts, hK, hA, hlk, rfl, rfl⟩ := hC
  intro hM hlv hst H locs ls hP hD hS hl
  have h2 := k hM hlv (fc_i (sN_rg a) (fc_c hst).2) H locs ls hP hD hS hl
  obtain ⟨i, hi, rfl⟩ := sA_i ha
  rw [List.map_cons, w_ref (by omega)]
  exact va_tlen (v := Int32.ofInt (sN (911 + i))) hx hb (hs.1.1 i hi).2.2.2 hS (by unfold sN; rw [show 911 + i - 911 = i by omega]; first | rfl | simp) hd h2
theorem sB_rg (a : Nat) (x : Int) : rg (sB a x) := rg_i32 _
theorem wm_sbald (hC : wOK C cc nL own) (hs : wStrC C ad) {a : Nat} {x : Int} (ha : sA a) (hd : decode cc pc = .ok (.baload, 1)) (hw : (0 ≤ x ∧ x < (sN a : Int)) ∧ WA) (k : WA → WM C ad n I J R ks ss (pc + 1) lv (vi (sB a x) :: st)) : WM C ad n I J R ks ss pc lv (vi x :: vr a :: st) := by
  obtain ⟨p, l, e, Rm, s, m, args, below, meth, c, Q, D, cY, A, nL', own'⟩ := C
  obtain ⟨hx, hb, hml, hown, hts, hK, hA, hlk, rfl, rfl⟩ := hC
  intro hM hlv hst H locs ls hP hD hS hl
  have h2 := k hw.2 hM hlv (fc_i (sB_rg a x) (fc_c (fc_c hst).2).2) H locs ls hP hD hS hl
  obtain ⟨i, hi, rfl⟩ := sA_i ha
  rw [List.map_cons, List.map_cons, w_ref (by omega)]
  have hlen : sN (911 + i) = wLens.getD i 0 := by unfold sN; rw [show 911 + i - 911 = i by omega]
  refine va_tb (v := Value.int (Int32.ofInt (sB (911 + i) x))) hx hb (hs.1.1 i hi).2.2.2 hS (i32_in (fc_c hst).1 hw.1.1 (by rw [← hlen]; exact hw.1.2)) ?_ hd h2
  have e1 : sB (911 + i) x = ((wByts.getD i []).getD x.toNat 0).toInt := by unfold sB; rw [show 911 + i - 911 = i by omega]
  have e2 : (Int32.ofInt x).toNatClampNeg = x.toNat := by rw [← Int32.toNat_toInt, i32_toInt (fc_c hst).1]
  show Value.int ((wByts.getD i []).getD (Int32.ofInt x).toNatClampNeg 0) = Value.int (Int32.ofInt (sB (911 + i) x))
  rw [e1, e2, Int32.ofInt_toInt]
theorem wm_compact (hC : wOK C cc nL own) (hs : wStrC C ad) {index : Nat} (hw : Cond.fieldLink own index "java/lang/String" "COMPACT_STRINGS" "Z" ∈ wT) (hd : decode cc pc = .ok (.getstatic index, 3)) (k : WM C ad n I J R ks ss (pc + 3) lv (vi 1 :: st)) : WM C ad n I J R ks ss pc lv st := by
  obtain ⟨p, l, e, Rm, s, m, args, below, meth, c, Q, D, cY, A, nL', own'⟩ := C
  obtain ⟨hx, hb, hml, hown, hts, hK, hA, hlk, rfl, rfl⟩ := hC
  intro hM hlv hst H locs ls hP hD hS hl
  exact va_gets hx hb hs.2.2.2.1 hS hown (hts _ hw) (fun _ h => h) hd (k hM hlv (fc_i (by show rg 1; omega) hst) H locs ls hP hD hS hl)
theorem wm_formatter (hC : wOK C cc nL own) (hs : wStrC C ad) {index : Nat} (hw : Cond.fieldLink own index "jdk/internal/util/Preconditions" "SIOOBE_FORMATTER" "Ljava/util/function/BiFunction;" ∈ wT) (hd : decode cc pc = .ok (.getstatic index, 3)) (k : ∀ a, WM C ad n I J R ks ss (pc + 3) lv (vr a :: st)) : WM C ad n I J R ks ss pc lv st := by
  obtain ⟨p, l, e, Rm, s, m, args, below, meth, c, Q, D, cY, A, nL', own'⟩ := C
  obtain ⟨hx, hb, hml, hown, hts, hK, hA, hlk, rfl, rfl⟩ := hC
  intro hM hlv hst H locs ls hP hD hS hl
  rcases hs.2.2.2.2 with h5 | h5
  · exact va_gets hx hb h5 hS hown (hts _ hw) (fun _ h => h) hd (k 0 hM hlv (fc_i (Or.inl (Nat.zero_le _)) hst) H locs ls hP hD hS hl)
  · exact va_gets hx hb h5 hS hown (hts _ hw) (fun _ h => h) hd (k 920 hM hlv (fc_i (Or.inr (by decide)) hst) H locs ls hP hD hS hl)
/-- a call on a String -/
def wCT (own : String) (index : Nat) (y : MethodName) (cc : ByteArray) (nL : Nat) (ret : Option FieldType) (na : Nat) : Prop := wCB own index y cc nL ret na ∧ Cond.instanceMethod y ∈ wT ∧ Cond.selects y.cls y y ∈ wT ∧ y.cls = "java/lang/String"
theorem wm_callT (hC : wOK C cc nL own) {rfr rlo cs sl : Nat} (hRm : wRm C rfr rlo cs sl) {sb : Bool} (hs : wStrC C ad) {index : Nat} {y : MethodName} {bytes : ByteArray} {mL fr lo na b : Nat} {ret : Option FieldType} {av : List wV} {P : wPo} (hM0 : wMet y bytes mL ret fr lo sb ad n I J R (vr b :: av) P) (hV : wCT own index y bytes mL ret na) (hkb : sK b) (hret : ret = none ∨ ret = some .long ∨ ret = some .int ∨ ret = some .boolean ∨ ret = some .char ∨ ret = some .byte) (hfr : fr + 1 ≤ rfr) (hlo : 8 + (mL + 11) + lo ≤ rlo) (hcs : ks ≤ cs ∧ ss ≤ sl) (hna : av.length = na) {st0 : List wV} (hst0 : st0 = av.reverse ++ vr b :: st) (hsum : wsum st ≤ 8) (hd : decode cc pc = .ok (.invokevirtual index, 3)) (kk : wGo C ad n ks ss (pc + 3) lv st ret P) : WM C ad n I J R ks ss pc lv st0 := by
  obtain ⟨p, l, e, Rm, s, m, args, below, meth, c, Q, D, cY, A, nL', own'⟩ := C
  obtain ⟨hx, hb, hml, hown, hts, hK, hA, hlk, rfl, rfl⟩ := hC
  obtain ⟨hB, hV2, hV3, hV5⟩ := hV
  subst hst0
  intro hM hlv hst H locs ls hP hD hS hl
  have h0 : b ≠ 0 := s_ne0 hkb
  have hF : ∀ q, wA ad n H.size q → A q := wA_in hD (fun q hq => hA q (Nat.le_trans hS.1 hq))
  have hokb : wok n (vr b) := hst _ (List.mem_append_right _ List.mem_cons_self)
  have hokst : ∀ v ∈ st, wok n v := fun v hv => hst v (List.mem_append_right _ (List.mem_cons_of_mem _ hv))
  have hokav : ∀ v ∈ av, wok n v := fun v hv => hst v (List.mem_append_left _ (List.mem_reverse.mpr hv))
  have hcw : CallW Rm s args own' y.cls index y bytes mL ret (Cond.code y bytes mL ret :: wT) (wRoom fr lo) 0 0 na := ⟨callB_w hts hB hRm hfr hlo, hts _ hV2, hts _ hV3⟩
  obtain ⟨i, hi, rfl⟩ := sK_i hkb
  have hrecv := vk_recv hs.1 hi hS
  have hPre : PreV s H y.cls (ad (901 + i)) (wPre sb D cY ad n H.size I J R (vr (901 + i) :: av)) (av.map (wv ad)) := ⟨wPre_blind, by rw [hV5]; exact hrecv, fun U hU hW => ⟨by rw [List.map_cons, w_ref h0], by rw [hU], hM, fc_i hokb hokav, by rw [hU]; exact hP, va_K.moved hW.alike hK, hD.weaken (fun _ _ _ _ => trivial), fun _ => by rw [hU]; exact wStr_to hs hS.2.1 hW hF⟩⟩
  refine wm_goes (own := own') (va_runV (As := av.map (wv ad)) (rest := st.map (wv ad)) ⟨hx, hb, hml, hown, hts⟩ (hM0 l D cY H.size) hcw hPre rfl (by rw [List.length_map]; exact hna) hl.1 ?_ (lv_room (by rw [wsum_ok]; exact hsum)) hd (by rw [show Rm = _ from hRm]; exact hcs)) hret hlv hokst hS hF hl kk
  show List.map (wv ad) (av.reverse ++ vr (901 + i) :: st) = _
  rw [List.map_append, List.map_cons, List.map_reverse, w_ref h0]
/-- a String's method answers an int, a char, a byte or a truth value, and changes nothing -/
theorem y_callT (hC : wOK C cc nL own) {rfr rlo cs sl : Nat} (hRm : wRm C rfr rlo cs sl) {sb : Bool} (hs : wStrC C ad) {index : Nat} {y : MethodName} {bytes : ByteArray} {mL fr lo na b : Nat} {ret : Option FieldType} {av : List wV} {Q : Int → Prop} (hV : wCT own index y bytes mL ret na) (hkb : sK b) (hM0 : wMet y bytes mL ret fr lo sb ad n I J R (vr b :: av) (fun r I' J' R' => (I' = I ∧ J' = J ∧ R' = R) ∧ Q r)) (hret : ret = some .int ∨ ret = some .boolean ∨ ret = some .char ∨ ret = some .byte) (hfr : fr + 1 ≤ rfr) (hlo : 8 + (mL + 11) + lo ≤ rlo) (hcs : ks ≤ cs ∧ ss ≤ sl) (hna : av.length = na) {st0 : List wV} (hst0 : st0 = av.reverse ++ vr b :: st) (hsum : wsum st ≤ 8) (hd : decode cc pc = .ok (.invokevirtual index, 3)) (kk : ∀ (r : Int), Q r → WM C ad n I J R ks ss (pc + 3) lv (vi r :: st)) : WM C ad n I J R ks ss pc lv st0 := by
  refine wm_callT hC hRm hs hM0 hV hkb (by rcases hret with rfl | rfl | rfl | rfl <;> decide) hfr hlo hcs hna hst0 hsum hd (fun r I1 J1 R1 _ hp => ?_)
  obtain ⟨⟨rfl, rfl, rfl⟩, hq⟩ := hp
  rcases hret with rfl | rfl | rfl | rfl <;> exact kk r hq
end R8
