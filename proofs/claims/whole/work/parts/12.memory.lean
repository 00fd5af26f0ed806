section R3
variable {C : wX} {cc : ByteArray} {nL : Nat} {own : String} {ad : Nat → Nat} {n : Nat} {I J : mI} {R : mR} {ks ss pc : Nat} {lv : List (Nat × wV)} {st : List wV}
theorem up_s {α : Type} (I : Nat → Int → α) (a : Nat) (k : Int) (v : α) : up I a k v a k = v := by simp [up]
theorem up_o {α : Type} (I : Nat → Int → α) {a b : Nat} (k j : Int) (v : α) (h : b ≠ a) : up I a k v b j = I b j := by simp [up, h]
theorem up_k {α : Type} (I : Nat → Int → α) (a : Nat) {b : Nat} {k j : Int} (v : α) (h : j ≠ k) : up I a k v b j = I b j := by simp [up, h]
theorem k_ne0 {a c : Nat} (h : kK a = c) (hc : c < 99) : a ≠ 0 := by
  intro q
  subst q
  rw [← h] at hc
  exact absurd hc (by decide)
theorem kK_big {a : Nat} (h : kK a < 99) : a < 900 := by
  rcases Nat.lt_or_ge a 900 with q | q
  · exact q
  · exfalso
    unfold kK at h
    have hl : kKs.length ≤ 900 := by decide +kernel
    rw [List.getD_eq_getElem?_getD, List.getElem?_eq_none (by omega)] at h
    exact absurd h (by decide)
theorem wok_le {a c : Nat} (h : wok n (vr a)) (hk : kK a = c) (hc : c < 99) : a ≤ n := by
  have h2 := kK_big (a := a) (by omega)
  rcases h with h | h
  · exact h
  · omega
theorem k_lt {a c : Nat} (h : kK a = c) (hc : c < 99) : kK a < 99 := by omega
theorem k_lt0 {a : Nat} (h : kK a < 99) : a ≠ 0 := by
  intro q
  subst q
  exact absurd h (by decide)
theorem wW_get {cY : Nat → ClassId} {a : Nat} (h1 : a ≠ 0) (h2 : a ≤ n) : (wW cY ad n I J R)[a - 1]? = some (ad a, wE cY ad I J R a) := by
  unfold wW
  rw [List.getElem?_map, List.getElem?_range (by omega), Option.map_some, show a - 1 + 1 = a by omega]
theorem wW_set {cY : Nat → ClassId} {a : Nat} {I2 J2 : mI} {R2 : mR} {e : va_E} (h1 : a ≠ 0) (h2 : a ≤ n) (h : ∀ b, b ≠ a → wE cY ad I2 J2 R2 b = wE cY ad I J R b) (he : wE cY ad I2 J2 R2 a = e) : (wW cY ad n I J R).set (a - 1) (ad a, e) = wW cY ad n I2 J2 R2 := by
  subst he
  apply List.ext_getElem?
  intro i
  by_cases hi : i < n
  · by_cases hia : i = a - 1
    · subst hia
      rw [List.getElem?_set_self (by unfold wW; rw [List.length_map, List.length_range]; omega), wW_get h1 h2]
    · rw [List.getElem?_set_ne (Ne.symm hia)]
      unfold wW
      rw [List.getElem?_map, List.getElem?_map, List.getElem?_range hi, Option.map_some, Option.map_some, h (i + 1) (by omega)]
  · rw [List.getElem?_eq_none, List.getElem?_eq_none]
    · unfold wW; rw [List.length_map, List.length_range]; omega
    · unfold wW; rw [List.length_set, List.length_map, List.length_range]; omega
theorem wE_obj {cY : Nat → ClassId} {a ci : Nat} (h : kK a = ci) (hc : ci < 20) : wE cY ad I J R a = .inr (ci, wFs ad ci I J R a) := by
  unfold wE
  rw [h, if_pos hc]
theorem wE_int {cY : Nat → ClassId} {a ci : Nat} (h : kK a = ci) (hc : ci = 20 ∨ ci = 21 ∨ ci = 23) : wE cY ad I J R a = .inl (cY ci, kN a, .inl (fun j => Int32.ofInt (I a j))) := by
  unfold wE
  rw [h, if_neg (by omega), if_neg (by omega), if_neg (by omega)]
theorem wE_long {cY : Nat → ClassId} {a : Nat} (h : kK a = 22) : wE cY ad I J R a = .inl (cY 22, kN a, .inr (.inl (fun j => Int64.ofInt (J a j)))) := by
  unfold wE
  rw [h, if_neg (by omega), if_pos rfl]
theorem wE_refs {cY : Nat → ClassId} {a : Nat} (h : kK a = 24) : wE cY ad I J R a = .inl (cY 24, kN a, .inr (.inr (.inr (.inr (fun j => wrn ad (R a j)))))) := by
  unfold wE
  rw [h, if_neg (by omega), if_neg (by omega), if_pos rfl]
theorem wE_ne {cY : Nat → ClassId} {b : Nat} {I2 J2 : mI} {R2 : mR} (hI : ∀ j, I2 b j = I b j) (hJ : ∀ j, J2 b j = J b j) (hR : ∀ j, R2 b j = R b j) : wE cY ad I2 J2 R2 b = wE cY ad I J R b := by
  unfold wE wFs wF
  simp only [hI, hJ, hR]
theorem wFs_get {ci k : Nat} {a : Nat} (hk : k < kF ci) : (wFs ad ci I J R a)[k]? = some (wF ad (kT ci k) I J R a k) := by
  unfold wFs
  rw [List.getElem?_map, List.getElem?_range hk, Option.map_some]
theorem wFs_len {ci : Nat} {a : Nat} : (wFs ad ci I J R a).length = kF ci := by
  unfold wFs
  rw [List.length_map, List.length_range]
theorem wFs_set {ci k a : Nat} {I2 J2 : mI} {R2 : mR} {v : Value} (hk : k < kF ci) (h : ∀ j : Nat, j ≠ k → wF ad (kT ci j) I2 J2 R2 a j = wF ad (kT ci j) I J R a j) (hv : wF ad (kT ci k) I2 J2 R2 a k = v) : (wFs ad ci I J R a).set k v = wFs ad ci I2 J2 R2 a := by
  apply List.ext_getElem?
  intro i
  by_cases hi : i < kF ci
  · by_cases hik : i = k
    · subst hik
      rw [List.getElem?_set_self (by rw [wFs_len]; exact hk), wFs_get hk, hv]
    · rw [List.getElem?_set_ne (Ne.symm hik), wFs_get hi, wFs_get hi, h i hik]
  · rw [List.getElem?_eq_none, List.getElem?_eq_none]
    · rw [wFs_len]; omega
    · rw [List.length_set, wFs_len]; omega
theorem wM_I {a : Nat} {k v : Int} (h : wM n I J R) (hv : rg v) : wM n (up I a k v) J R := ⟨fun b j => by unfold up; split; exact hv; exact h.1 b j, h.2⟩
theorem wM_J {a : Nat} {k v : Int} (h : wM n I J R) (hv : rl v) : wM n I (up J a k v) R := ⟨h.1, fun b j => by unfold up; split; exact hv; exact h.2.1 b j, h.2.2⟩
theorem wM_R {a : Nat} {k : Int} {v : Nat} (h : wM n I J R) (hv : v ≤ n) : wM n I J (up R a k v) := ⟨h.1, h.2.1, fun b j => by unfold up; split; exact hv; exact h.2.2 b j⟩
/-- what the tables say of a field that an instruction links: class ci's field k, of type t -/
def wPL (own : String) (index ci k t : Nat) (ty : FieldType) (fin : Bool) : Prop := ∃ (CN : String) (T : u_T) (N : Nat) (ty0 : Nat → FieldType), (∀ w ∈ u_ws CN T N, w ∈ wT) ∧ vwCl[ci]? = some (CN, T, N) ∧ k < N ∧ Cond.fieldLink own index CN (T k).2.1 (T k).2.2.1 ∈ wT ∧ (T k).1 = CN ∧ kT ci k = t ∧ k < kF ci ∧ ci < 20 ∧ (∀ j, j < N → parseFieldDescriptor (T j).2.2.1 = some (ty0 j)) ∧ (∀ a, a < N → ∀ b, b < N → a ≠ b → (T a).2.1 ≠ (T b).2.1) ∧ (T k).2.2.2 = fin ∧ ty0 k = ty
theorem wm_getI (hC : wOK C cc nL own) {index ci k a : Nat} {ty : FieldType} {fin : Bool} (hF : wPL own index ci k 0 ty fin) (hka : kK a = ci) (hd : decode cc pc = .ok (.getfield index, 3)) (kk : WM C ad n I J R ks ss (pc + 3) lv (vi (I a k) :: st)) : WM C ad n I J R ks ss pc lv (vr a :: st) := by
  obtain ⟨p, l, e, Rm, s, m, args, below, meth, c, Q, D, cY, A, nL', own'⟩ := C
  obtain ⟨hx, hb, hml, hown, hts, hK, hA, hlk, rfl, rfl⟩ := hC
  obtain ⟨CN, T, N, ty0, f1, f2, f3, f4, f5, f6, f7, f8, -⟩ := hF
  intro hM hlv hst H locs ls hP hD hS hl
  have h0 : a ≠ 0 := k_ne0 hka (by omega)
  rw [List.map_cons, w_ref h0]
  refine va_get (v := Value.int (Int32.ofInt (I a k))) hx hb hts f1 hown hK hP (a - 1) ((wW_get h0 (wok_le (fc_c hst).1 hka (by omega))).trans (by rw [wE_obj hka f8])) f2 k f3 (hts _ f4) (fun x h => by rw [← f5]; exact h) ?_ hd (kk hM hlv (fc_i (hM.1 a k) (fc_c hst).2) H locs ls hP hD hS hl)
  rw [wFs_get f7, f6]
  rfl
theorem wm_getJ (hC : wOK C cc nL own) {index ci k a : Nat} {ty : FieldType} {fin : Bool} (hF : wPL own index ci k 1 ty fin) (hka : kK a = ci) (hd : decode cc pc = .ok (.getfield index, 3)) (kk : WM C ad n I J R ks ss (pc + 3) lv (vl (J a k) :: st)) : WM C ad n I J R ks ss pc lv (vr a :: st) := by
  obtain ⟨p, l, e, Rm, s, m, args, below, meth, c, Q, D, cY, A, nL', own'⟩ := C
  obtain ⟨hx, hb, hml, hown, hts, hK, hA, hlk, rfl, rfl⟩ := hC
  obtain ⟨CN, T, N, ty0, f1, f2, f3, f4, f5, f6, f7, f8, -⟩ := hF
  intro hM hlv hst H locs ls hP hD hS hl
  have h0 : a ≠ 0 := k_ne0 hka (by omega)
  rw [List.map_cons, w_ref h0]
  refine va_get (v := Value.long (Int64.ofInt (J a k))) hx hb hts f1 hown hK hP (a - 1) ((wW_get h0 (wok_le (fc_c hst).1 hka (by omega))).trans (by rw [wE_obj hka f8])) f2 k f3 (hts _ f4) (fun x h => by rw [← f5]; exact h) ?_ hd (kk hM hlv (fc_i (hM.2.1 a k) (fc_c hst).2) H locs ls hP hD hS hl)
  rw [wFs_get f7, f6]
  rfl
theorem wm_getR (hC : wOK C cc nL own) {index ci k a : Nat} {ty : FieldType} {fin : Bool} (hF : wPL own index ci k 2 ty fin) (hka : kK a = ci) (hd : decode cc pc = .ok (.getfield index, 3)) (kk : WM C ad n I J R ks ss (pc + 3) lv (vr (R a k) :: st)) : WM C ad n I J R ks ss pc lv (vr a :: st) := by
  obtain ⟨p, l, e, Rm, s, m, args, below, meth, c, Q, D, cY, A, nL', own'⟩ := C
  obtain ⟨hx, hb, hml, hown, hts, hK, hA, hlk, rfl, rfl⟩ := hC
  obtain ⟨CN, T, N, ty0, f1, f2, f3, f4, f5, f6, f7, f8, -⟩ := hF
  intro hM hlv hst H locs ls hP hD hS hl
  have h0 : a ≠ 0 := k_ne0 hka (by omega)
  rw [List.map_cons, w_ref h0]
  refine va_get (v := wrf ad (R a k)) hx hb hts f1 hown hK hP (a - 1) ((wW_get h0 (wok_le (fc_c hst).1 hka (by omega))).trans (by rw [wE_obj hka f8])) f2 k f3 (hts _ f4) (fun x h => by rw [← f5]; exact h) ?_ hd (kk hM hlv (fc_i (Or.inl (hM.2.2 a k)) (fc_c hst).2) H locs ls hP hD hS hl)
  rw [wFs_get f7, f6]
  rfl
theorem nar_bool {v : Int} (h : v = 0 ∨ v = 1) : narrow .boolean (.int (Int32.ofInt v)) = .int (Int32.ofInt v) ∧ fits .boolean (.int (Int32.ofInt v)) = true := by
  rcases h with rfl | rfl <;> exact ⟨rfl, rfl⟩
theorem wm_putI (hC : wOK C cc nL own) {index ci k a : Nat} {ty : FieldType} {v : Int} (hF : wPL own index ci k 0 ty false) (hka : kK a = ci) (hty : ty = .int ∨ ty = .boolean ∧ (v = 0 ∨ v = 1)) (hd : decode cc pc = .ok (.putfield index, 3)) (kk : WM C ad n (up I a k v) J R ks ss (pc + 3) lv st) : WM C ad n I J R ks ss pc lv (vi v :: vr a :: st) := by
  obtain ⟨p, l, e, Rm, s, m, args, below, meth, c, Q, D, cY, A, nL', own'⟩ := C
  obtain ⟨hx, hb, hml, hown, hts, hK, hA, hlk, rfl, rfl⟩ := hC
  obtain ⟨CN, T, N, ty0, f1, f2, f3, f4, f5, f6, f7, f8, f9, f10, f11, f12⟩ := hF
  intro hM hlv hst H locs ls hP hD hS hl
  have h0 : a ≠ 0 := k_ne0 hka (by omega)
  have hn : narrow ty (.int (Int32.ofInt v)) = .int (Int32.ofInt v) ∧ fits ty (.int (Int32.ofInt v)) = true := by
    rcases hty with q | ⟨q, q2⟩
    · rw [q]; exact ⟨rfl, rfl⟩
    · rw [q]; exact nar_bool q2
  rw [List.map_cons, List.map_cons, w_ref h0]
  have hset : (wW cY ad n I J R).set (a - 1) (ad a, .inr (ci, (wFs ad ci I J R a).set k (.int (Int32.ofInt v)))) = wW cY ad n (up I a k v) J R := by
    refine wW_set h0 (wok_le (fc_c (fc_c hst).2).1 hka (by omega)) (fun b hb2 => wE_ne (fun j => up_o I k j v hb2) (fun _ => rfl) (fun _ => rfl)) ?_
    rw [wE_obj hka f8, wFs_set (I2 := up I a k v) (J2 := J) (R2 := R) f7 (fun j hj => by unfold wF; rw [up_k I a v (by omega)]) (by rw [f6]; show Value.int (Int32.ofInt (up I a k v a k)) = _; rw [up_s])]
  refine va_put (v := Value.int (Int32.ofInt v)) (ty := ty) hx hb hts f1 ty0 f9 f10 hown hK hP hD hS (a - 1) ((wW_get h0 (wok_le (fc_c (fc_c hst).2).1 hka (by omega))).trans (by rw [wE_obj hka f8])) f2 k f3 (hts _ f4) (fun x h => by rw [← f5]; exact h) f11 (by rw [f9 k f3, f12]) hn.1 hn.2 (by rw [wFs_len]; exact f7) hd (fun H1 locs1 hP hD hS => ?_)
  rw [hset] at hP hD
  exact kk (wM_I hM (fc_c hst).1) hlv (fc_c (fc_c hst).2).2 H1 locs1 ls hP hD hS hl
theorem wm_putJ (hC : wOK C cc nL own) {index ci k a : Nat} {v : Int} (hF : wPL own index ci k 1 .long false) (hka : kK a = ci) (hd : decode cc pc = .ok (.putfield index, 3)) (kk : WM C ad n I (up J a k v) R ks ss (pc + 3) lv st) : WM C ad n I J R ks ss pc lv (vl v :: vr a :: st) := by
  obtain ⟨p, l, e, Rm, s, m, args, below, meth, c, Q, D, cY, A, nL', own'⟩ := C
  obtain ⟨hx, hb, hml, hown, hts, hK, hA, hlk, rfl, rfl⟩ := hC
  obtain ⟨CN, T, N, ty0, f1, f2, f3, f4, f5, f6, f7, f8, f9, f10, f11, f12⟩ := hF
  intro hM hlv hst H locs ls hP hD hS hl
  have h0 : a ≠ 0 := k_ne0 hka (by omega)
  rw [List.map_cons, List.map_cons, w_ref h0]
  have hset : (wW cY ad n I J R).set (a - 1) (ad a, .inr (ci, (wFs ad ci I J R a).set k (.long (Int64.ofInt v)))) = wW cY ad n I (up J a k v) R := by
    refine wW_set h0 (wok_le (fc_c (fc_c hst).2).1 hka (by omega)) (fun b hb2 => wE_ne (fun _ => rfl) (fun j => up_o J k j v hb2) (fun _ => rfl)) ?_
    rw [wE_obj hka f8, wFs_set (I2 := I) (J2 := up J a k v) (R2 := R) f7 (fun j hj => by unfold wF; rw [up_k J a v (by omega)]) (by rw [f6]; show Value.long (Int64.ofInt (up J a k v a k)) = _; rw [up_s])]
  refine va_put (v := Value.long (Int64.ofInt v)) (ty := .long) hx hb hts f1 ty0 f9 f10 hown hK hP hD hS (a - 1) ((wW_get h0 (wok_le (fc_c (fc_c hst).2).1 hka (by omega))).trans (by rw [wE_obj hka f8])) f2 k f3 (hts _ f4) (fun x h => by rw [← f5]; exact h) f11 (by rw [f9 k f3, f12]) rfl rfl (by rw [wFs_len]; exact f7) hd (fun H1 locs1 hP hD hS => ?_)
  rw [hset] at hP hD
  exact kk (wM_J hM (fc_c hst).1) hlv (fc_c (fc_c hst).2).2 H1 locs1 ls hP hD hS hl
theorem wm_putR (hC : wOK C cc nL own) {index ci k a v : Nat} {ty : FieldType} (hF : wPL own index ci k 2 ty false) (hka : kK a = ci) (hty : (∃ q, ty = .object q) ∨ ∃ q, ty = .array q) (hkv : kK v < 99) (hd : decode cc pc = .ok (.putfield index, 3)) (kk : WM C ad n I J (up R a k v) ks ss (pc + 3) lv st) : WM C ad n I J R ks ss pc lv (vr v :: vr a :: st) := by
  obtain ⟨p, l, e, Rm, s, m, args, below, meth, c, Q, D, cY, A, nL', own'⟩ := C
  obtain ⟨hx, hb, hml, hown, hts, hK, hA, hlk, rfl, rfl⟩ := hC
  obtain ⟨CN, T, N, ty0, f1, f2, f3, f4, f5, f6, f7, f8, f9, f10, f11, f12⟩ := hF
  intro hM hlv hst H locs ls hP hD hS hl
  have h0 : a ≠ 0 := k_ne0 hka (by omega)
  have hv0 : v ≠ 0 := k_lt0 hkv
  have hn : narrow ty (.ref (ad v)) = .ref (ad v) ∧ fits ty (.ref (ad v)) = true := by
    rcases hty with ⟨q, rfl⟩ | ⟨q, rfl⟩ <;> exact ⟨rfl, rfl⟩
  rw [List.map_cons, List.map_cons, w_ref h0, w_ref hv0]
  have hset : (wW cY ad n I J R).set (a - 1) (ad a, .inr (ci, (wFs ad ci I J R a).set k (.ref (ad v)))) = wW cY ad n I J (up R a k v) := by
    refine wW_set h0 (wok_le (fc_c (fc_c hst).2).1 hka (by omega)) (fun b hb2 => wE_ne (fun _ => rfl) (fun _ => rfl) (fun j => up_o R k j v hb2)) ?_
    rw [wE_obj hka f8, wFs_set (I2 := I) (J2 := J) (R2 := up R a k v) f7 (fun j hj => by unfold wF; rw [up_k R a v (by omega)]) (by rw [f6]; show wrf ad (up R a k v a k) = _; rw [up_s, wrf_ref hv0])]
  refine va_put (v := Value.ref (ad v)) (ty := ty) hx hb hts f1 ty0 f9 f10 hown hK hP hD hS (a - 1) ((wW_get h0 (wok_le (fc_c (fc_c hst).2).1 hka (by omega))).trans (by rw [wE_obj hka f8])) f2 k f3 (hts _ f4) (fun x h => by rw [← f5]; exact h) f11 (by rw [f9 k f3, f12]) hn.1 hn.2 (by rw [wFs_len]; exact f7) hd (fun H1 locs1 hP hD hS => ?_)
  rw [hset] at hP hD
  exact kk (wM_R hM (wok_le (fc_c hst).1 rfl hkv)) hlv (fc_c (fc_c hst).2).2 H1 locs1 ls hP hD hS hl
-- arrays
theorem i32_clamp {x : Int} (hr : rg x) (h : 0 ≤ x) : ((Int32.ofInt x).toNatClampNeg : Int) = x := by
  rw [← Int32.toNat_toInt, i32_toInt hr]
  omega
theorem i32_in {x : Int} {N : Nat} (hr : rg x) (h : 0 ≤ x) (h2 : x < N) : vp_in (Int32.ofInt x) N := by
  rw [vp_in_iff, i32_toInt hr]
  exact ⟨h, h2⟩
theorem wm_iald (hC : wOK C cc nL own) {a : Nat} {x : Int} (hka : kK a = 21) (h1 : 0 ≤ x) (h2 : x < kN a) (hd : decode cc pc = .ok (.iaload, 1)) (kk : WM C ad n I J R ks ss (pc + 1) lv (vi (I a x) :: st)) : WM C ad n I J R ks ss pc lv (vi x :: vr a :: st) := by
  obtain ⟨p, l, e, Rm, s, m, args, below, meth, c, Q, D, cY, A, nL', own'⟩ := C
  obtain ⟨hx, hb, hml, hown, hts, hK, hA, hlk, rfl, rfl⟩ := hC
  intro hM hlv hst H locs ls hP hD hS hl
  have h0 : a ≠ 0 := k_ne0 hka (by omega)
  rw [List.map_cons, List.map_cons, w_ref h0]
  refine va_iald hx hb hK hP (a - 1) 1 ((wW_get h0 (wok_le (fc_c (fc_c hst).2).1 hka (by omega))).trans (by rw [wE_int hka (by omega)])) rfl (i32_in (fc_c hst).1 h1 h2) hd ?_
  have h3 := kk hM hlv (fc_i (hM.1 a x) (fc_c (fc_c hst).2).2) H locs ls hP hD hS hl
  rw [i32_clamp (fc_c hst).1 h1]
  exact h3
theorem wm_bald (hC : wOK C cc nL own) {a : Nat} {x : Int} (hka : kK a = 20) (h1 : 0 ≤ x) (h2 : x < kN a) (hd : decode cc pc = .ok (.baload, 1)) (kk : WM C ad n I J R ks ss (pc + 1) lv (vi (I a x) :: st)) : WM C ad n I J R ks ss pc lv (vi x :: vr a :: st) := by
  obtain ⟨p, l, e, Rm, s, m, args, below, meth, c, Q, D, cY, A, nL', own'⟩ := C
  obtain ⟨hx, hb, hml, hown, hts, hK, hA, hlk, rfl, rfl⟩ := hC
  intro hM hlv hst H locs ls hP hD hS hl
  have h0 : a ≠ 0 := k_ne0 hka (by omega)
  rw [List.map_cons, List.map_cons, w_ref h0]
  refine va_bald hx hb hK hP (a - 1) 0 ((wW_get h0 (wok_le (fc_c (fc_c hst).2).1 hka (by omega))).trans (by rw [wE_int hka (by omega)])) rfl (i32_in (fc_c hst).1 h1 h2) hd ?_
  have h3 := kk hM hlv (fc_i (hM.1 a x) (fc_c (fc_c hst).2).2) H locs ls hP hD hS hl
  rw [i32_clamp (fc_c hst).1 h1]
  exact h3
theorem wm_zald (hC : wOK C cc nL own) {a : Nat} {x : Int} (hka : kK a = 23) (h1 : 0 ≤ x) (h2 : x < kN a) (hd : decode cc pc = .ok (.baload, 1)) (kk : WM C ad n I J R ks ss (pc + 1) lv (vi (I a x) :: st)) : WM C ad n I J R ks ss pc lv (vi x :: vr a :: st) := by
  obtain ⟨p, l, e, Rm, s, m, args, below, meth, c, Q, D, cY, A, nL', own'⟩ := C
  obtain ⟨hx, hb, hml, hown, hts, hK, hA, hlk, rfl, rfl⟩ := hC
  intro hM hlv hst H locs ls hP hD hS hl
  have h0 : a ≠ 0 := k_ne0 hka (by omega)
  rw [List.map_cons, List.map_cons, w_ref h0]
  refine va_zald hx hb hK hP (a - 1) 3 ((wW_get h0 (wok_le (fc_c (fc_c hst).2).1 hka (by omega))).trans (by rw [wE_int hka (by omega)])) rfl (i32_in (fc_c hst).1 h1 h2) hd ?_
  have h3 := kk hM hlv (fc_i (hM.1 a x) (fc_c (fc_c hst).2).2) H locs ls hP hD hS hl
  rw [i32_clamp (fc_c hst).1 h1]
  exact h3
theorem wm_lald (hC : wOK C cc nL own) {a : Nat} {x : Int} (hka : kK a = 22) (h1 : 0 ≤ x) (h2 : x < kN a) (hd : decode cc pc = .ok (.laload, 1)) (kk : WM C ad n I J R ks ss (pc + 1) lv (vl (J a x) :: st)) : WM C ad n I J R ks ss pc lv (vi x :: vr a :: st) := by
  obtain ⟨p, l, e, Rm, s, m, args, below, meth, c, Q, D, cY, A, nL', own'⟩ := C
  obtain ⟨hx, hb, hml, hown, hts, hK, hA, hlk, rfl, rfl⟩ := hC
  intro hM hlv hst H locs ls hP hD hS hl
  have h0 : a ≠ 0 := k_ne0 hka (by omega)
  rw [List.map_cons, List.map_cons, w_ref h0]
  refine va_lald hx hb hK hP (a - 1) 2 ((wW_get h0 (wok_le (fc_c (fc_c hst).2).1 hka (by omega))).trans (by rw [wE_long hka])) rfl (i32_in (fc_c hst).1 h1 h2) hd ?_
  have h3 := kk hM hlv (fc_i (hM.2.1 a x) (fc_c (fc_c hst).2).2) H locs ls hP hD hS hl
  rw [i32_clamp (fc_c hst).1 h1]
  exact h3
theorem wrn_rf (x : Nat) : va_rf (wrn ad x) = wrf ad x := by
  unfold wrn wrf
  split <;> rfl
theorem wm_aald (hC : wOK C cc nL own) {a : Nat} {x : Int} (hka : kK a = 24) (h1 : 0 ≤ x) (h2 : x < kN a) (hd : decode cc pc = .ok (.aaload, 1)) (kk : WM C ad n I J R ks ss (pc + 1) lv (vr (R a x) :: st)) : WM C ad n I J R ks ss pc lv (vi x :: vr a :: st) := by
  obtain ⟨p, l, e, Rm, s, m, args, below, meth, c, Q, D, cY, A, nL', own'⟩ := C
  obtain ⟨hx, hb, hml, hown, hts, hK, hA, hlk, rfl, rfl⟩ := hC
  intro hM hlv hst H locs ls hP hD hS hl
  have h0 : a ≠ 0 := k_ne0 hka (by omega)
  rw [List.map_cons, List.map_cons, w_ref h0]
  refine va_aldq hx hb hK hP (a - 1) 4 ((wW_get h0 (wok_le (fc_c (fc_c hst).2).1 hka (by omega))).trans (by rw [wE_refs hka])) rfl (i32_in (fc_c hst).1 h1 h2) hd ?_
  have h3 := kk hM hlv (fc_i (Or.inl (hM.2.2 a x)) (fc_c (fc_c hst).2).2) H locs ls hP hD hS hl
  rw [i32_clamp (fc_c hst).1 h1, wrn_rf]
  exact h3
theorem wm_alen (hC : wOK C cc nL own) {a ci : Nat} (hka : kK a = ci) (hci : ci = 20 ∨ ci = 21 ∨ ci = 22 ∨ ci = 23 ∨ ci = 24) (hr : rg (kN a)) (hd : decode cc pc = .ok (.arraylength, 1)) (kk : WM C ad n I J R ks ss (pc + 1) lv (vi (kN a) :: st)) : WM C ad n I J R ks ss pc lv (vr a :: st) := by
  obtain ⟨p, l, e, Rm, s, m, args, below, meth, c, Q, D, cY, A, nL', own'⟩ := C
  obtain ⟨hx, hb, hml, hown, hts, hK, hA, hlk, rfl, rfl⟩ := hC
  intro hM hlv hst H locs ls hP hD hS hl
  have h0 : a ≠ 0 := k_ne0 hka (by omega)
  rw [List.map_cons, w_ref h0]
  have h3 := kk hM hlv (fc_i hr (fc_c hst).2) H locs ls hP hD hS hl
  have hw := wW_get (cY := cY) (ad := ad) (I := I) (J := J) (R := R) h0 (wok_le (fc_c hst).1 hka (by omega))
  rcases hci with rfl | rfl | rfl | rfl | rfl
  · exact va_alen (x := (kN a, .inl (fun j => Int32.ofInt (I a j)))) (v := Int32.ofInt (kN a)) hx hb hK hP (a - 1) 0 (hw.trans (by rw [wE_int hka (by omega)])) rfl (by first | rfl | simp) hd h3
  · exact va_alen (x := (kN a, .inl (fun j => Int32.ofInt (I a j)))) (v := Int32.ofInt (kN a)) hx hb hK hP (a - 1) 1 (hw.trans (by rw [wE_int hka (by omega)])) rfl (by first | rfl | simp) hd h3
  · exact va_alen (x := (kN a, .inr (.inl (fun j => Int64.ofInt (J a j))))) (v := Int32.ofInt (kN a)) hx hb hK hP (a - 1) 2 (hw.trans (by rw [wE_long hka])) rfl (by first | rfl | simp) hd h3
  · exact va_alen (x := (kN a, .inl (fun j => Int32.ofInt (I a j)))) (v := Int32.ofInt (kN a)) hx hb hK hP (a - 1) 3 (hw.trans (by rw [wE_int hka (by omega)])) rfl (by first | rfl | simp) hd h3
  · exact va_alen (x := (kN a, .inr (.inr (.inr (.inr (fun j => wrn ad (R a j))))))) (v := Int32.ofInt (kN a)) hx hb hK hP (a - 1) 4 (hw.trans (by rw [wE_refs hka])) rfl (by first | rfl | simp) hd h3
theorem upd_i32 {a : Nat} {x v : Int} (hr : rg x) (h1 : 0 ≤ x) : (fun j : Nat => Int32.ofInt (up I a x v a j)) = upd (fun j : Nat => Int32.ofInt (I a j)) (Int32.ofInt x).toNatClampNeg (Int32.ofInt v) := by
  have e := i32_clamp hr h1
  funext j
  by_cases hj : j = (Int32.ofInt x).toNatClampNeg
  · subst hj
    rw [e, up_s]
    simp [upd]
  · rw [up_k I a v (by omega)]
    simp [upd, hj]
theorem wm_iast (hC : wOK C cc nL own) {a : Nat} {x v : Int} (hka : kK a = 21) (h1 : 0 ≤ x) (h2 : x < kN a) (hd : decode cc pc = .ok (.iastore, 1)) (kk : WM C ad n (up I a x v) J R ks ss (pc + 1) lv st) : WM C ad n I J R ks ss pc lv (vi v :: vi x :: vr a :: st) := by
  obtain ⟨p, l, e, Rm, s, m, args, below, meth, c, Q, D, cY, A, nL', own'⟩ := C
  obtain ⟨hx, hb, hml, hown, hts, hK, hA, hlk, rfl, rfl⟩ := hC
  intro hM hlv hst H locs ls hP hD hS hl
  have h0 : a ≠ 0 := k_ne0 hka (by omega)
  have hrx : rg x := (fc_c (fc_c hst).2).1
  have hst2 := (fc_c (fc_c (fc_c hst).2).2)
  rw [List.map_cons, List.map_cons, List.map_cons, w_ref h0]
  refine va_iast hx hb hK hP hD hS (a - 1) 1 ((wW_get h0 (wok_le hst2.1 hka (by omega))).trans (by rw [wE_int hka (by omega)])) rfl (i32_in hrx h1 h2) hd (fun H1 locs1 hP hD hS => ?_)
  rw [wW_set (I2 := up I a x v) (J2 := J) (R2 := R) h0 (wok_le hst2.1 hka (by omega)) (fun b hb2 => wE_ne (fun j => up_o I x j v hb2) (fun _ => rfl) (fun _ => rfl)) (by rw [wE_int hka (by omega), upd_i32 hrx h1])] at hP hD
  exact kk (wM_I hM (fc_c hst).1) hlv hst2.2 H1 locs1 ls hP hD hS hl
theorem wm_bast (hC : wOK C cc nL own) {a : Nat} {x v : Int} (hka : kK a = 20) (h1 : 0 ≤ x) (h2 : x < kN a) (hb1 : -128 ≤ v) (hb2 : v < 128) (hd : decode cc pc = .ok (.bastore, 1)) (kk : WM C ad n (up I a x v) J R ks ss (pc + 1) lv st) : WM C ad n I J R ks ss pc lv (vi v :: vi x :: vr a :: st) := by
  obtain ⟨p, l, e, Rm, s, m, args, below, meth, c, Q, D, cY, A, nL', own'⟩ := C
  obtain ⟨hx, hb, hml, hown, hts, hK, hA, hlk, rfl, rfl⟩ := hC
  intro hM hlv hst H locs ls hP hD hS hl
  have h0 : a ≠ 0 := k_ne0 hka (by omega)
  have hrx : rg x := (fc_c (fc_c hst).2).1
  have hst2 := (fc_c (fc_c (fc_c hst).2).2)
  have hnar : vp_nar .byte (Int32.ofInt v) = Int32.ofInt v := by
    rw [vp_nar_byte, ← Int32.toInt_inj, Int8.toInt_toInt32, Int32.toInt_toInt8, i32_toInt (fc_c hst).1]
    exact Int.bmod_eq_of_le (by omega) (by omega)
  rw [List.map_cons, List.map_cons, List.map_cons, w_ref h0]
  refine va_bast hx hb hK hP hD hS (a - 1) 0 ((wW_get h0 (wok_le hst2.1 hka (by omega))).trans (by rw [wE_int hka (by omega)])) rfl (i32_in hrx h1 h2) hd (fun H1 locs1 hP hD hS => ?_)
  rw [hnar, wW_set (I2 := up I a x v) (J2 := J) (R2 := R) h0 (wok_le hst2.1 hka (by omega)) (fun b hb2 => wE_ne (fun j => up_o I x j v hb2) (fun _ => rfl) (fun _ => rfl)) (by rw [wE_int hka (by omega), upd_i32 hrx h1])] at hP hD
  exact kk (wM_I hM (fc_c hst).1) hlv hst2.2 H1 locs1 ls hP hD hS hl
theorem wm_zast (hC : wOK C cc nL own) {a : Nat} {x v : Int} (hka : kK a = 23) (h1 : 0 ≤ x) (h2 : x < kN a) (hb1 : v = 0 ∨ v = 1) (hd : decode cc pc = .ok (.bastore, 1)) (kk : WM C ad n (up I a x v) J R ks ss (pc + 1) lv st) : WM C ad n I J R ks ss pc lv (vi v :: vi x :: vr a :: st) := by
  obtain ⟨p, l, e, Rm, s, m, args, below, meth, c, Q, D, cY, A, nL', own'⟩ := C
  obtain ⟨hx, hb, hml, hown, hts, hK, hA, hlk, rfl, rfl⟩ := hC
  intro hM hlv hst H locs ls hP hD hS hl
  have h0 : a ≠ 0 := k_ne0 hka (by omega)
  have hrx : rg x := (fc_c (fc_c hst).2).1
  have hst2 := (fc_c (fc_c (fc_c hst).2).2)
  have hnar : vp_nar .boolean (Int32.ofInt v) = Int32.ofInt v := by
    rcases hb1 with rfl | rfl <;> rfl
  rw [List.map_cons, List.map_cons, List.map_cons, w_ref h0]
  refine va_zast hx hb hK hP hD hS (a - 1) 3 ((wW_get h0 (wok_le hst2.1 hka (by omega))).trans (by rw [wE_int hka (by omega)])) rfl (i32_in hrx h1 h2) hd (fun H1 locs1 hP hD hS => ?_)
  rw [hnar, wW_set (I2 := up I a x v) (J2 := J) (R2 := R) h0 (wok_le hst2.1 hka (by omega)) (fun b hb2 => wE_ne (fun j => up_o I x j v hb2) (fun _ => rfl) (fun _ => rfl)) (by rw [wE_int hka (by omega), upd_i32 hrx h1])] at hP hD
  exact kk (wM_I hM (fc_c hst).1) hlv hst2.2 H1 locs1 ls hP hD hS hl
theorem upd_i64 {a : Nat} {x v : Int} (hr : rg x) (h1 : 0 ≤ x) : (fun j : Nat => Int64.ofInt (up J a x v a j)) = vp_updL (fun j : Nat => Int64.ofInt (J a j)) (Int32.ofInt x).toNatClampNeg (Int64.ofInt v) := by
  have e := i32_clamp hr h1
  funext j
  by_cases hj : j = (Int32.ofInt x).toNatClampNeg
  · subst hj
    rw [e, up_s]
    simp [vp_updL]
  · rw [up_k J a v (by omega)]
    simp [vp_updL, hj]
theorem wm_last (hC : wOK C cc nL own) {a : Nat} {x v : Int} (hka : kK a = 22) (h1 : 0 ≤ x) (h2 : x < kN a) (hd : decode cc pc = .ok (.lastore, 1)) (kk : WM C ad n I (up J a x v) R ks ss (pc + 1) lv st) : WM C ad n I J R ks ss pc lv (vl v :: vi x :: vr a :: st) := by
  obtain ⟨p, l, e, Rm, s, m, args, below, meth, c, Q, D, cY, A, nL', own'⟩ := C
  obtain ⟨hx, hb, hml, hown, hts, hK, hA, hlk, rfl, rfl⟩ := hC
  intro hM hlv hst H locs ls hP hD hS hl
  have h0 : a ≠ 0 := k_ne0 hka (by omega)
  have hrx : rg x := (fc_c (fc_c hst).2).1
  have hst2 := (fc_c (fc_c (fc_c hst).2).2)
  rw [List.map_cons, List.map_cons, List.map_cons, w_ref h0]
  refine va_last hx hb hK hP hD hS (a - 1) 2 ((wW_get h0 (wok_le hst2.1 hka (by omega))).trans (by rw [wE_long hka])) rfl (i32_in hrx h1 h2) hd (fun H1 locs1 hP hD hS => ?_)
  rw [wW_set (I2 := I) (J2 := up J a x v) (R2 := R) h0 (wok_le hst2.1 hka (by omega)) (fun b hb2 => wE_ne (fun _ => rfl) (fun j => up_o J x j v hb2) (fun _ => rfl)) (by rw [wE_long hka, upd_i64 hrx h1])] at hP hD
  exact kk (wM_J hM (fc_c hst).1) hlv hst2.2 H1 locs1 ls hP hD hS hl
end R3
