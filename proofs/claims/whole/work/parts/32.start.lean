/-! THE START -/
theorem K_arr {ty : FieldType} {args : Array Value} {s : State} (h : (Cond.arrayClass ty).before args s = true) (hty : ∀ C, ty ≠ .object C) : ∃ cA : ClassId, ArrOfT s cA ty ∧ va_RA s cA ty := by
  obtain ⟨cA, kA, comp, h1, h2, h3⟩ := Cond.arrayClass_spec h
  refine ⟨cA, fun n z => ⟨fun k h => (by cases h), kA, h2, comp, h3⟩, ?_⟩
  cases ty with
  | object C => exact absurd rfl (hty C)
  | _ => exact h1
theorem K_arrS {C : String} {args : Array Value} {s : State} (h : (Cond.arrayOver (.object C)).before args s = true) : ∃ cA : ClassId, ArrOfT s cA (.object C) ∧ va_RA s cA (.object C) := by
  obtain ⟨comp, c, k, h1, h2, h3, h4, h5⟩ := Cond.arrayOver_spec h
  exact ⟨c, fun n z => ⟨fun k h => (by cases h), k, h3, comp, h4⟩, k, comp, h3, h4, h1, h5⟩
theorem K_start {args : Array Value} {s : State} (hts : ∀ w ∈ wT, w.before args s = true) : ∃ (D : va_G) (cY : Nat → ClassId), va_K D vwCl (wtys cY) s := by
  obtain ⟨c0, i0, h0⟩ := u_known hts iwX0 (hts _ tw_438)
  obtain ⟨c1, i1, h1⟩ := u_known hts iwX1 (hts _ tw_401)
  obtain ⟨c2, i2, h2⟩ := u_known hts iwX2 (hts _ tw_451)
  obtain ⟨c3, i3, h3⟩ := u_known hts iwX3 (hts _ tw_268)
  obtain ⟨c4, i4, h4⟩ := u_known hts iwX4 (hts _ tw_234)
  obtain ⟨c5, i5, h5⟩ := u_known hts iwX5 (hts _ tw_254)
  obtain ⟨c6, i6, h6⟩ := u_known hts iwX6 (hts _ tw_343)
  obtain ⟨c7, i7, h7⟩ := u_known hts iwX7 (hts _ tw_184)
  obtain ⟨c8, i8, h8⟩ := u_known hts iwX8 (hts _ tw_169)
  obtain ⟨c9, i9, h9⟩ := u_known hts iwX9 (hts _ tw_151)
  obtain ⟨c10, i10, h10⟩ := u_known hts iwX10 (hts _ tw_349)
  obtain ⟨c11, i11, h11⟩ := u_known hts iwX11 (hts _ tw_143)
  obtain ⟨c12, i12, h12⟩ := u_known hts iwX12 (hts _ tw_1268)
  obtain ⟨t20, g20⟩ := K_arr (hts _ ac_byte) (fun C h => by cases h)
  obtain ⟨t21, g21⟩ := K_arr (hts _ ac_int) (fun C h => by cases h)
  obtain ⟨t22, g22⟩ := K_arr (hts _ ac_long) (fun C h => by cases h)
  obtain ⟨t23, g23⟩ := K_arr (hts _ ac_boolean) (fun C h => by cases h)
  obtain ⟨t24, g24⟩ := K_arrS (hts _ ao_State)
  refine ⟨(fun c => [c0, c1, c2, c3, c4, c5, c6, c7, c8, c9, c10, c11, c12].getD c 0, fun c => [i0, i1, i2, i3, i4, i5, i6, i7, i8, i9, i10, i11, i12].getD c (fun _ => 0)), fun c => if c = 20 then t20 else if c = 21 then t21 else if c = 22 then t22 else if c = 23 then t23 else t24, fun c q hq => ?_, fun k q hq => ?_⟩
  · rcases c with _ | c
    · cases hq; exact h0
    rcases c with _ | c
    · cases hq; exact h1
    rcases c with _ | c
    · cases hq; exact h2
    rcases c with _ | c
    · cases hq; exact h3
    rcases c with _ | c
    · cases hq; exact h4
    rcases c with _ | c
    · cases hq; exact h5
    rcases c with _ | c
    · cases hq; exact h6
    rcases c with _ | c
    · cases hq; exact h7
    rcases c with _ | c
    · cases hq; exact h8
    rcases c with _ | c
    · cases hq; exact h9
    rcases c with _ | c
    · cases hq; exact h10
    rcases c with _ | c
    · cases hq; exact h11
    rcases c with _ | c
    · cases hq; exact h12
    cases hq
  · rcases k with _ | k
    · cases hq; exact g20
    rcases k with _ | k
    · cases hq; exact g21
    rcases k with _ | k
    · cases hq; exact g22
    rcases k with _ | k
    · cases hq; exact g23
    rcases k with _ | k
    · cases hq; exact g24
    cases hq
def strT (i : Nat) : Term := if i = 0 then .string "BlindColours$Reader" 67 else .string "BlindColours$Tokens" 65
theorem str_len : ∀ i : Nat, i < 2 → wLens.getD i 0 < 2 ^ 31 := by
  intro i hi
  rcases i with _ | _ | i
  · decide
  · decide
  · omega
theorem str_w1 : ∀ i ∈ List.range 2, (Cond.exactly (strT i) "java/lang/String") ∈ flatC (Jvm.Cond.and given_1 narrow_1) ∧ (Cond.eq (.field (strT i) "java/lang/String" "coder" "B") (.int 0)) ∈ flatC (Jvm.Cond.and given_1 narrow_1) ∧ (Cond.arrayOf (.field (strT i) "java/lang/String" "value" "[B") .byte) ∈ flatC (Jvm.Cond.and given_1 narrow_1) ∧ (Cond.eq (.length (.field (strT i) "java/lang/String" "value" "[B")) (.int (Int32.ofNat (wLens.getD i 0)))) ∈ flatC (Jvm.Cond.and given_1 narrow_1) := by decide +kernel
def elC (i j : Nat) : Cond := .eq (.elem (.field (strT i) "java/lang/String" "value" "[B") (.int (Int32.ofNat j))) (.int ((wByts.getD i []).getD j 0))
theorem str_e0 : (List.range 143).map (elC 0) = ((flatC (Jvm.Cond.and given_1 narrow_1)).drop 13).take 143 := by decide +kernel
theorem str_e1 : (List.range 14).map (elC 1) = ((flatC (Jvm.Cond.and given_1 narrow_1)).drop 160).take 14 := by decide +kernel
theorem str_w2 : ∀ i ∈ List.range 2, ∀ j ∈ List.range (wLens.getD i 0), elC i j ∈ flatC (Jvm.Cond.and given_1 narrow_1) := by
  intro i hi j hj
  have hi2 : i = 0 ∨ i = 1 := by have := List.mem_range.mp hi; omega
  rcases hi2 with rfl | rfl
  · exact List.mem_of_mem_drop (List.mem_of_mem_take (by rw [← str_e0]; exact List.mem_map.mpr ⟨j, hj, rfl⟩))
  · exact List.mem_of_mem_drop (List.mem_of_mem_take (by rw [← str_e1]; exact List.mem_map.mpr ⟨j, hj, rfl⟩))
theorem str_w3 : (Cond.not (Cond.eq (strT 0) (strT 1))) ∈ flatC (Jvm.Cond.and given_1 narrow_1) ∧ (Cond.eq (.static "java/lang/String" "COMPACT_STRINGS" "Z") (.int 1)) ∈ flatC (Jvm.Cond.and given_1 narrow_1) ∧ (Cond.isRef (.static "jdk/internal/util/Preconditions" "SIOOBE_FORMATTER" "Ljava/util/function/BiFunction;")) ∈ flatC (Jvm.Cond.and given_1 narrow_1) := by decide +kernel
theorem str_w4 : (Cond.stringRef "BlindColours$Reader" 67 (wTx 0)) ∈ lw_tbl ∧ (Cond.stringRef "BlindColours$Tokens" 65 (wTx 1)) ∈ lw_tbl ∧ (Cond.laysStatic "java/lang/String" "COMPACT_STRINGS" "Z") ∈ lw_tbl ∧ (Cond.laysStatic "jdk/internal/util/Preconditions" "SIOOBE_FORMATTER" "Ljava/util/function/BiFunction;") ∈ lw_tbl ∧ (Cond.initialized "java/lang/String") ∈ lw_tbl ∧ (Cond.initialized "jdk/internal/util/Preconditions") ∈ lw_tbl := by decide +kernel
theorem S_start {s : State} {b : Nat} (hts : ∀ w ∈ lw_tbl, w.before #[Value.ref b] s = true) (hg : (Jvm.Cond.and given_1 narrow_1).before #[Value.ref b] s = true) {A : Nat → Prop} (hA : ∀ a : Nat, a < s.heap.size → ¬ A a) : ∃ ad : Nat → Nat, wStr ad A s s.heap ∧ ad 999 = b := by
  have hs := flat_of_before _ hg
  obtain ⟨adK, adV, hS, hev⟩ := vk_Sof (args := #[Value.ref b]) (s := s) (N := 2) (tm := strT) (len := wLens) (byt := wByts) (A := A) str_len
    (fun i hi => hs _ (str_w1 i (List.mem_range.mpr hi)).1) (fun i hi => hs _ (str_w1 i (List.mem_range.mpr hi)).2.1) (fun i hi => hs _ (str_w1 i (List.mem_range.mpr hi)).2.2.1) (fun i hi => hs _ (str_w1 i (List.mem_range.mpr hi)).2.2.2)
    (fun i hi j hj => hs _ (str_w2 i (List.mem_range.mpr hi) j (List.mem_range.mpr hj)))
    (fun i j hi hj hij => by
      have h1 : i = 0 ∨ i = 1 := by omega
      have h2 : j = 0 ∨ j = 1 := by omega
      rcases h1 with rfl | rfl <;> rcases h2 with rfl | rfl
      · exact absurd rfl hij
      · exact Or.inl (hs _ str_w3.1)
      · exact Or.inr (hs _ str_w3.1)
      · exact absurd rfl hij) hA
  have hZ := va_Zof (hts _ str_w4.2.2.1) (hts _ str_w4.2.2.2.2.1) (va_eqt (hs _ str_w3.2.1)) hA
  have hZq := va_Zqof (hts _ str_w4.2.2.2.1) (hts _ str_w4.2.2.2.2.2) (hs _ str_w3.2.2) hA
  obtain ⟨t, ht⟩ : ∃ t : Nat, va_Z "jdk/internal/util/Preconditions" "SIOOBE_FORMATTER" "Ljava/util/function/BiFunction;" .null A s s.heap ∨ va_Z "jdk/internal/util/Preconditions" "SIOOBE_FORMATTER" "Ljava/util/function/BiFunction;" (.ref t) A s s.heap := by
    rcases hZq with h | ⟨t, h⟩
    · exact ⟨0, Or.inl h⟩
    · exact ⟨t, Or.inr h⟩
  refine ⟨fun a => if a = 999 then b else if a = 920 then t else if a < 911 then adK (a - 901) else adV (a - 911), ⟨⟨fun i hi => ?_, fun i j hi hj => ?_⟩, ?_, ?_, hZ, ?_⟩, if_pos rfl⟩
  · have e1 : (fun a => if a = 999 then b else if a = 920 then t else if a < 911 then adK (a - 901) else adV (a - 911)) (901 + i) = adK i := by
      show (if 901 + i = 999 then b else if 901 + i = 920 then t else if 901 + i < 911 then adK (901 + i - 901) else adV (901 + i - 911)) = adK i
      rw [if_neg (by omega), if_neg (by omega), if_pos (by omega), show 901 + i - 901 = i by omega]
    have e2 : (fun a => if a = 999 then b else if a = 920 then t else if a < 911 then adK (a - 901) else adV (a - 911)) (911 + i) = adV i := by
      show (if 911 + i = 999 then b else if 911 + i = 920 then t else if 911 + i < 911 then adK (911 + i - 901) else adV (911 + i - 911)) = adV i
      rw [if_neg (by omega), if_neg (by omega), if_neg (by omega), show 911 + i - 911 = i by omega]
    have h := hS.1 i hi
    rw [← e1, ← e2] at h
    exact h
  · have h1 : i = 0 ∨ i = 1 := by omega
    have h2 : j = 0 ∨ j = 1 := by omega
    have h := hS.2 i j hi hj
    rcases h1 with rfl | rfl <;> rcases h2 with rfl | rfl <;> exact h
  · exact vk_R.of (hts _ str_w4.1) (hev 0 (by decide))
  · exact vk_R.of (hts _ str_w4.2.1) (hev 1 (by decide))
  · exact ht
theorem wStr_ag {ad ad2 : Nat → Nat} {n : Nat} {A : Nat → Prop} {U : State} {H : Heap} (hag : wAg ad ad2 n) (h : wStr ad A U H) : wStr ad2 A U H := by
  have e : ∀ a, 900 ≤ a → ad2 a = ad a := fun a ha => hag a (Or.inr ha)
  unfold wStr at h ⊢
  rw [show (fun i => ad2 (901 + i)) = fun i => ad (901 + i) from funext fun i => e _ (by omega), show (fun i => ad2 (911 + i)) = fun i => ad (911 + i) from funext fun i => e _ (by omega), e 901 (by decide), e 902 (by decide), e 920 (by decide)]
  exact h
theorem wStrC_ag {ad ad2 : Nat → Nat} {n : Nat} {C : wX} (hag : wAg ad ad2 n) (h : wStrC C ad) : wStrC C ad2 := by
  obtain ⟨p, l, e, Rm, s, m, args, below, meth, c, Q, D, cY, A, nL', own'⟩ := C
  exact wStr_ag hag h
theorem wScr_ag {ad ad2 : Nat → Nat} {n L : Nat} {xs : Nat → Int32} {C : wX} (hag : wAg ad ad2 n) (h : wScr C ad L xs) : wScr C ad2 L xs := by
  obtain ⟨p, l, e, Rm, s, m, args, below, meth, c, Q, D, cY, A, nL', own'⟩ := C
  have e : ad2 999 = ad 999 := hag 999 (Or.inr (by decide))
  unfold wScr at h ⊢
  rw [e]; exact h
def PStart (L : Nat) (X : Int → Int) : Prop := (kK (0 + 1) = 11 ∧ wz (fun _ _ => 0) (fun _ _ => 0) (fun _ _ => 0) (0 + 1)) ∧ PC11_init (0 + 1) (0 + 1) (fun _ _ => 0) (fun _ _ => 0) (fun _ _ => 0) (fun n1 I1 J1 R1 => n1 = 158 ∧ (kK (n1 + 1) = 12 ∧ wz I1 J1 R1 (n1 + 1)) ∧ PC12_init (n1 + 1) (n1 + 1) I1 J1 R1 (fun n2 I2 J2 R2 => RF R2 ∧ ∃ f, plaw L X f 0 I2 J2 R2))
set_option maxRecDepth 20000 in
theorem w_start {C : wX} {ad : Nat → Nat} {L : Nat} {xs : Nat → Int32} (hC : wOK C cL_law 4 RL) (hRm : wRm C 2048 84000 600000 7302250) (hStr : wStrC C ad) (hScr : wScr C ad L xs) (hfin : ∀ {ad : Nat → Nat} {n : Nat} {I J : mI} {R : mR} {lv : List (Nat × wV)}, WM C ad n I J R 203 29614 1171 lv [vi 1]) (hp : PStart L (scrX xs)) : WM C ad 0 (fun _ _ => 0) (fun _ _ => 0) (fun _ _ => 0) 0 0 0 [(0, vr 999)] [] := by
  unfold PStart at hp
  refine x_new hC hRm nl_L_7 1 17 rfl rfl (Nat.le_of_ble_eq_true rfl) (Nat.le_of_ble_eq_true rfl) dL_law_0 hp (fun ad1 h1 g1 hw => ?_)
  refine wm_dup hC dL_law_3 (k := ?_)
  refine x_callI hC hRm (CC11_init g1 hw) ci_L_9 (k_ne0 g1 (by decide)) (Nat.le_of_ble_eq_true rfl) (Nat.le_of_ble_eq_true rfl) 158 14941 rfl rfl ⟨(Nat.le_of_ble_eq_true rfl), (Nat.le_of_ble_eq_true rfl)⟩ rfl (st := [vr (0 + 1)]) rfl (Nat.le_of_ble_eq_true rfl) dL_law_4 (fun ad2 n1 I1 J1 R1 h2 l2 hw => ?_)
  obtain ⟨e1, hw⟩ := hw
  subst e1
  refine wm_astore_n hC dL_law_7 (by decide) (by decide) (L2 := [(1, vr (0 + 1)), (0, vr 999)]) rfl ?_
  refine x_new hC hRm nl_L_10 159 15010 rfl rfl (Nat.le_of_ble_eq_true rfl) (Nat.le_of_ble_eq_true rfl) dL_law_8 hw (fun ad3 h3 g3 hw => ?_)
  refine wm_dup hC dL_law_11 (k := ?_)
  refine x_callI hC hRm (CC12_init g3 hw) ci_L_12 (k_ne0 g3 (by decide)) (Nat.le_of_ble_eq_true rfl) (Nat.le_of_ble_eq_true rfl) 203 29614 rfl rfl ⟨(Nat.le_of_ble_eq_true rfl), (Nat.le_of_ble_eq_true rfl)⟩ rfl (st := [vr (158 + 1)]) rfl (Nat.le_of_ble_eq_true rfl) dL_law_12 (fun ad4 n2 I2 J2 R2 h4 l4 hw => ?_)
  obtain ⟨hRF, f, hw⟩ := hw
  have a12 := wAg_tr h1 h2 (Nat.zero_le _)
  have a13 := wAg_tr a12 h3 (Nat.zero_le _)
  have a14 := wAg_tr a13 h4 (Nat.zero_le _)
  refine wm_astore_n hC dL_law_15 (by decide) (by decide) (L2 := [(2, vr (158 + 1)), (1, vr (0 + 1)), (0, vr 999)]) rfl ?_
  refine wm_iconst hC dL_law_16 (k := ?_)
  refine wm_istore_n hC dL_law_17 (by decide) (L2 := [(3, vi 0), (2, vr (158 + 1)), (1, vr (0 + 1)), (0, vr 999)]) rfl ?_
  refine wm_sub [3, 2, 1, 0] (L2 := [(0, vr 999), (1, vr 1), (2, vr 159), (3, vi 0)]) rfl ?_
  exact wlaw hC hRm (wStrC_ag a14 hStr) (wScr_ag a14 hScr) hfin f 0 _ _ _ hRF hw
theorem whole_walk {p : Program} {e : Env} {s : State} {m : MethodId} {below : List Frame} {meth : Method} {c : Code} (l : Launch) {b L : Nat} {xs : Nat → Int32} (hL : L ≤ 3072) (C0 : lw_At p s m meth c b L xs) (hp : PStart L (scrX xs)) : W p l e room_1 s m #[Value.ref b] below meth c s.heap [] 0 0 (lw_Z below #[Value.ref b] s) (entryFrame m ([Value.ref b] : List Value).toArray 4) := by
  obtain ⟨hx, hb, hr, hml, hown, hts, hX, hbl, hlk, hgv⟩ := C0
  have hsub : ∀ w ∈ wT, w.before #[Value.ref b] s = true := fun w hw => hts w (wT_in hw)
  obtain ⟨D, cY, hK⟩ := K_start hsub
  obtain ⟨ad, hS, h999⟩ := S_start (A := fun q => s.heap.size ≤ q) hts hgv (fun a ha => by show ¬ s.heap.size ≤ a; omega)
  have hC : wOK (p, l, e, room_1, s, m, #[Value.ref b], below, meth, c, lw_Z below #[Value.ref b] s, D, cY, (fun q => s.heap.size ≤ q), 4, RL) cL_law 4 RL := ⟨hx, hb, hml, hown, hsub, hK, fun q h => h, hlk, rfl, rfl⟩
  have hScr : wScr (p, l, e, room_1, s, m, #[Value.ref b], below, meth, c, lw_Z below #[Value.ref b] s, D, cY, (fun q => s.heap.size ≤ q), 4, RL) ad L xs := by
    show va_X (ad 999) L xs s s.heap ∧ ad 999 < s.heap.size ∧ ¬ s.heap.size ≤ ad 999 ∧ L ≤ 3072
    rw [h999]
    exact ⟨hX, hbl, by omega, hL⟩
  have h := w_start hC rfl hS hScr (fun {ad n I J R lv} => by
    intro hM hlv hst H locs ls hP hD hS2 hl
    refine va_forget hS2.2.2 ?_
    refine W.widen (k := 600000) (n := 7302250) (Nat.le_of_ble_eq_true rfl) (Nat.le_of_ble_eq_true rfl) ?_
    exact lw_ret hx hb hr hlk dL_law_1171) hp
  have hl := lv_entry [Value.ref b] (n := 4) (by show 1 ≤ 4; decide)
  rw [lg_entry_eq]
  refine h ⟨fun _ _ => by show rg 0; omega, fun _ _ => by show rl 0; omega, fun _ _ => Nat.zero_le _⟩ (fun q hq => ?_) (fun v hv => by cases hv) s.heap [] _ (fun k q hq => by cases hq) ⟨fun i j p q hq => (by cases hq), fun k q hq => (by cases hq)⟩ va_S.rf ?_
  · rw [List.mem_singleton.mp hq]; exact Or.inr (by decide)
  · show lv_has _ 4 [(0, wv ad (vr 999))]
    rw [show wv ad (vr 999) = Value.ref b from (w_ref (by decide)).trans (by rw [h999])]
    exact hl
