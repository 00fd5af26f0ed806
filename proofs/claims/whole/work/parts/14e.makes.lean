/-! METHODS THAT MAKE OBJECTS (constructors): the next object's number is n + 1 -/
def wAg (ad ad2 : Nat → Nat) (n : Nat) : Prop := ∀ a, (a ≤ n ∨ 900 ≤ a) → ad2 a = ad a
theorem wAg_rf {ad : Nat → Nat} {n : Nat} : wAg ad ad n := fun _ _ => rfl
theorem wAg_tr {ad ad1 ad2 : Nat → Nat} {n n1 : Nat} (h : wAg ad ad1 n) (h2 : wAg ad1 ad2 n1) (hn : n ≤ n1) : wAg ad ad2 n := fun a ha => (h2 a (ha.imp (fun q => Nat.le_trans q hn) id)).trans (h a ha)
def wz (I J : mI) (R : mR) (a : Nat) : Prop := (∀ k, I a k = 0) ∧ (∀ k, J a k = 0) ∧ ∀ k, R a k = 0
section R9a
variable {ad ad2 : Nat → Nat} {n : Nat} {I J : mI} {R : mR} {cY : Nat → ClassId}
theorem wrf_ag {a : Nat} (h : wAg ad ad2 n) (ha : a ≤ n ∨ 900 ≤ a) : wrf ad2 a = wrf ad a := by unfold wrf; rw [h a ha]
theorem wrn_ag {a : Nat} (h : wAg ad ad2 n) (ha : a ≤ n ∨ 900 ≤ a) : wrn ad2 a = wrn ad a := by unfold wrn; rw [h a ha]
theorem wv_ag {v : wV} (h : wAg ad ad2 n) (hv : wok n v) : wv ad2 v = wv ad v := by
  rcases v with x | x | a
  · rfl
  · rfl
  · exact wrf_ag h hv
theorem st_ag {st : List wV} (h : wAg ad ad2 n) (hv : ∀ v ∈ st, wok n v) : st.map (wv ad2) = st.map (wv ad) := List.map_congr_left (fun v hm => wv_ag h (hv v hm))
theorem lvm_ag {lv : List (Nat × wV)} (h : wAg ad ad2 n) (hv : ∀ q ∈ lv, wok n q.2) : lvm ad2 lv = lvm ad lv := List.map_congr_left (fun q hm => by show (q.1, wv ad2 q.2) = (q.1, wv ad q.2); rw [wv_ag h (hv q hm)])
theorem wF_ag {t a k : Nat} (h : wAg ad ad2 n) (hM : wM n I J R) : wF ad2 t I J R a k = wF ad t I J R a k := by unfold wF; rw [wrf_ag h (Or.inl (hM.2.2 a k))]
theorem wE_ag {a : Nat} (h : wAg ad ad2 n) (hM : wM n I J R) : wE cY ad2 I J R a = wE cY ad I J R a := by
  have h1 : (fun j : Nat => wrn ad2 (R a j)) = fun j : Nat => wrn ad (R a j) := funext fun j => wrn_ag h (Or.inl (hM.2.2 a j))
  have h2 : ∀ c, wFs ad2 c I J R a = wFs ad c I J R a := fun c => List.map_congr_left (fun k _ => wF_ag h hM)
  unfold wE
  rw [h2, h1]
theorem wW_ag (h : wAg ad ad2 n) (hM : wM n I J R) : wW cY ad2 n I J R = wW cY ad n I J R := by
  refine List.map_congr_left (fun i hi => ?_)
  have hi := List.mem_range.mp hi
  show (ad2 (i + 1), wE cY ad2 I J R (i + 1)) = (ad (i + 1), wE cY ad I J R (i + 1))
  rw [wE_ag h hM, h (i + 1) (Or.inl (by omega))]
theorem wW_succ : wW cY ad (n + 1) I J R = wW cY ad n I J R ++ [(ad (n + 1), wE cY ad I J R (n + 1))] := by
  unfold wW
  rw [List.range_succ, List.map_append]
  rfl
theorem wok_mono {v : wV} {n2 : Nat} (hn : n ≤ n2) (h : wok n v) : wok n2 v := by
  rcases v with x | x | a
  · exact h
  · exact h
  · exact h.imp (fun q => Nat.le_trans q hn) id
theorem wM_mono {n2 : Nat} (hn : n ≤ n2) (h : wM n I J R) : wM n2 I J R := ⟨h.1, h.2.1, fun a k => Nat.le_trans (h.2.2 a k) hn⟩
theorem wAg_up {q : Nat} (hn : n + 1 < 900) : wAg ad (va_up ad (n + 1) q) n := fun a ha => va_up_ne ad q (by rintro rfl; rcases ha with h | h <;> omega)
end R9a
abbrev wSC : Type := (Nat → Nat) × Nat × mI × mI × mR
abbrev wPc : Type := Nat → mI → mI → mR → Prop
def wBC (D : va_G) (cY : Nat → ClassId) (A : Nat → Prop) (u : wSC) (t : State) : Prop := wM u.2.1 u.2.2.1 u.2.2.2.1 u.2.2.2.2 ∧ va_P D vwCl (wW cY u.1 u.2.1 u.2.2.1 u.2.2.2.1 u.2.2.2.2) t.heap ∧ va_D A (wW cY u.1 u.2.1 u.2.2.1 u.2.2.2.1 u.2.2.2.2)
def wQC (D : va_G) (cY : Nat → ClassId) (ad : Nat → Nat) (n sz : Nat) (P : wPc) : Array Value → State → Outcome → State → Prop := va_Qv (fun (u : wSC) => wAg ad u.1 n ∧ n ≤ u.2.1 ∧ P u.2.1 u.2.2.1 u.2.2.2.1 u.2.2.2.2) (wBC D cY (wA ad n sz)) (wA ad n sz)
abbrev wRoomC (fr lo mc ms : Nat) : Room := { frames := fr, cells := mc, slots := ms, locals := lo }
def wMetC (y : MethodName) (cc : ByteArray) (nL : Nat) (fr lo mc ms : Nat) (ad : Nat → Nat) (n : Nat) (I J : mI) (R : mR) (av : List wV) (P : wPc) : Prop := ∀ (l : Launch) (D : va_G) (cY : Nat → ClassId) (sz : Nat), Met l y (Cond.code y cc nL none :: wT) (wRoomC fr lo mc ms) (wPre false D cY ad n sz I J R av) (wQC D cY ad n sz P) mc ms (wA ad n sz)
def wEndC (C : wX) (ad : Nat → Nat) (n mc ms : Nat) (P : wPc) : Prop := match C with
  | (_, _, _, _, s, _, args, below, meth, _, Q, D, cY, A, _, _) => Q = MQ below (wQC D cY ad n s.heap.size P) args s mc ms (wA ad n s.heap.size) ∧ A = wA ad n s.heap.size ∧ meth.sig.returnType = none ∧ meth.name = "<init>"
theorem wMetC_of {y : MethodName} {cc : ByteArray} {nL : Nat} {fr lo mc ms : Nat} {ad : Nat → Nat} {n : Nat} {I J : mI} {R : mR} {av : List wV} {P : wPc} (hy : plainName y.cls = true) (hini : y.name = "<init>") (hsl : wslots av ≤ nL)
    (h : ∀ C : wX, wOK C cc nL y.cls → wRm C fr lo mc ms → wEndC C ad n mc ms P → WM C ad n I J R 0 0 0 (wargs 0 av) []) : wMetC y cc nL fr lo mc ms ad n I J R av P := by
  intro l D cY sz
  refine Met.ofW (cc := cc) (maxL := nL) (ret := none) hy rfl ?_
  intro p e s m args below meth c s₁ B hml hv
  obtain ⟨rfl, hsz, hM, hav, hP, hK, hD0, -⟩ := hv
  have hx := B.exec
  have hb := B.bytes
  have hr := B.returns
  have hts := atoms_spec (ws := Cond.code y cc nL none :: wT) B.pre
  have hown : s.vm.findClass y.cls = some m.cls := findClass_of_methodNamed B.named
  have hlocks := B.notSynchronized
  have hin : meth.name = "<init>" := (name_of_methodNamed B.named B.method).1.trans hini
  subst hsz
  have hD : va_D (wA ad n s.heap.size) (wW cY ad n I J R) := hD0.weaken (fun k q hk _ => by
    unfold wW at hk
    rw [List.getElem?_map] at hk
    rcases Nat.lt_or_ge k n with hkn | hkn
    · rw [List.getElem?_range hkn] at hk
      cases hk
      exact Or.inl ⟨k, hkn, rfl⟩
    · rw [List.getElem?_eq_none (by rw [List.length_range]; exact hkn)] at hk
      cases hk)
  have hl := lv_entry (av.map (wv ad)) (n := nL) (by rw [wslots_sl]; exact hsl)
  rw [lg_entry_eq]
  rw [wargs_lvm] at hl
  exact h (p, l, e, (headSpec (Cond.code y cc nL none :: wT) (wRoomC fr lo mc ms)).room, s, m, (av.map (wv ad)).toArray, below, meth, c, MQ below (wQC D cY ad n s.heap.size P) (av.map (wv ad)).toArray s mc ms (wA ad n s.heap.size), D, cY, wA ad n s.heap.size, nL, y.cls)
    ⟨hx, hb, hml, hown, fun w hw => hts w (List.mem_cons_of_mem _ hw), hK, fun q hq => Or.inr hq, hlocks, rfl, rfl⟩ rfl ⟨rfl, rfl, hr, hin⟩ hM (wargs_ok 0 av hav) (fun v hv => by cases hv) s.heap [] _ hP hD va_S.rf hl
/-- what the tables say of 'new' of class ci -/
def wNL (own : String) (index ci : Nat) : Prop := ∃ (CN : String) (T : u_T) (N : Nat) (ty : Nat → FieldType), (∀ w ∈ u_ws CN T N, w ∈ wT) ∧ vwCl[ci]? = some (CN, T, N) ∧ (∀ k, k < N → parseFieldDescriptor (T k).2.2.1 = some (ty k)) ∧ Cond.classLink own index CN ∈ wT ∧ Cond.instantiable CN N ∈ wT ∧ Cond.initialized CN ∈ wT ∧ N = kF ci ∧ ci < 20 ∧ ∀ j, j < N → defaultValue (ty j) = if kT ci j = 0 then .int 0 else if kT ci j = 1 then .long 0 else .null
section R9
variable {C : wX} {cc : ByteArray} {nL : Nat} {own : String} {ad : Nat → Nat} {n : Nat} {I J : mI} {R : mR} {ks ss pc : Nat} {lv : List (Nat × wV)} {st : List wV} {WA : Prop}
theorem wF_z {t a k : Nat} (h : wz I J R a) : wF ad t I J R a k = if t = 0 then .int 0 else if t = 1 then .long 0 else .null := by
  unfold wF
  rw [h.1, h.2.1, h.2.2]
  rfl
theorem x_new (hC : wOK C cc nL own) {fr lo cs sl : Nat} (hRm : wRm C fr lo cs sl) {index ci : Nat} (hN : wNL own index ci) (ks2 ss2 : Nat) (e1 : ks + 1 = ks2) (e2 : ss + kF ci = ss2) (hks : ks2 ≤ cs) (hss : ss2 ≤ sl) (hd : decode cc pc = .ok (.new index, 3)) (hw : (kK (n + 1) = ci ∧ wz I J R (n + 1)) ∧ WA) (k : ∀ ad2, wAg ad ad2 n → kK (n + 1) = ci → WA → WM C ad2 (n + 1) I J R ks2 ss2 (pc + 3) lv (vr (n + 1) :: st)) : WM C ad n I J R ks ss pc lv st := by
  obtain ⟨p, l, e, Rm, s, m, args, below, meth, c, Q, D, cY, A, nL', own'⟩ := C
  obtain ⟨hx, hb, hml, hown, hts, hK, hA, hlk, rfl, rfl⟩ := hC
  obtain ⟨CN, T, N, ty, f1, f2, f3, f4, f5, f6, f7, f8, f9⟩ := hN
  obtain ⟨⟨hk, hz⟩, hwa⟩ := hw
  have hn : n + 1 < 900 := kK_big (by rw [hk]; omega)
  subst e1; subst e2; subst f7
  intro hM hlv hst H locs ls hP hD hS hl
  have hR : Rm = { frames := fr, cells := cs, slots := sl, locals := lo } := hRm
  refine va_new (ci := ci) (fs := wFs ad ci I J R (n + 1)) hx hb hts f1 ty f3 hown (hts _ f4) (hts _ f5) (hts _ f6) hK hP hD hS hA f2 (fun j hj => ?_) (by rw [hR]; exact hks) (by rw [hR]; exact hss) hd (fun q H1 hP hD hS => ?_)
  · rw [f9 j hj, vp_V, List.getD_eq_getElem?_getD, wFs_get hj, Option.getD_some, wF_z hz]
  · have hag : wAg ad (va_up ad (n + 1) q) n := wAg_up hn
    have hw2 : wW cY ad n I J R ++ [(q, .inr (ci, wFs ad ci I J R (n + 1)))] = wW cY (va_up ad (n + 1) q) (n + 1) I J R := by
      rw [wW_succ, wW_ag hag hM, va_up_self, wE_ag hag hM, wE_obj hk f8]
    rw [hw2] at hP hD
    have h3 := k _ hag hk hwa (wM_mono (Nat.le_succ n) hM) (fun v hv => wok_mono (Nat.le_succ n) (hlv v hv)) (fc_i (Or.inl (Nat.le_refl _)) (fun v hv => wok_mono (Nat.le_succ n) (hst v hv))) H1 locs ls hP hD hS (by rw [lvm_ag hag hlv]; exact hl)
    rw [List.map_cons, st_ag hag hst, w_ref (Nat.succ_ne_zero n), va_up_self] at h3
    exact h3
theorem x_newarr (hC : wOK C cc nL own) {fr lo cs sl : Nat} (hRm : wRm C fr lo cs sl) {atype : ArrayType} {len kd : Nat} (t0 : Nat) (hty : (atype = .byte ∧ kd = 20 ∧ t0 = 0) ∨ (atype = .int ∧ kd = 21 ∧ t0 = 1) ∨ (atype = .boolean ∧ kd = 23 ∧ t0 = 3)) (hwd : Cond.arrayClass (newarray.typeOf atype) ∈ wT) (hlen : len ≤ 1000000) (ks2 ss2 : Nat) (e1 : ks + 1 = ks2) (e2 : ss + len = ss2) (hks : ks2 ≤ cs) (hss : ss2 ≤ sl) (hd : decode cc pc = .ok (.newarray atype, 2)) (hw : (kK (n + 1) = kd ∧ kN (n + 1) = len ∧ wz I J R (n + 1)) ∧ WA) (k : ∀ ad2, wAg ad ad2 n → kK (n + 1) = kd → WA → WM C ad2 (n + 1) I J R ks2 ss2 (pc + 2) lv (vr (n + 1) :: st)) : WM C ad n I J R ks ss pc lv (vi len :: st) := by
  obtain ⟨p, l, e, Rm, s, m, args, below, meth, c, Q, D, cY, A, nL', own'⟩ := C
  obtain ⟨hx, hb, hml, hown, hts, hK, hA, hlk, rfl, rfl⟩ := hC
  obtain ⟨⟨hk, hN, hz⟩, hwa⟩ := hw
  have hn : n + 1 < 900 := kK_big (by omega)
  subst e1; subst e2
  intro hM hlv hst H locs ls hP hD hS hl
  have hR : Rm = { frames := fr, cells := cs, slots := sl, locals := lo } := hRm
  have hcl : ((Int32.ofInt (len : Int)).toNatClampNeg) = len := by
    have h1 := i32_clamp (x := (len : Int)) (fc_c hst).1 (by omega)
    omega
  have ht0 : (wtys cY)[t0]? = some (cY kd, newarray.typeOf atype) := by rcases hty with ⟨rfl, rfl, rfl⟩ | ⟨rfl, rfl, rfl⟩ | ⟨rfl, rfl, rfl⟩ <;> rfl
  have hRA : ∀ cA : ClassId, va_RA s cA (newarray.typeOf atype) → cA = cY kd := by
    intro cA h1
    have h2 := (hK.2 t0 _ ht0).2
    rcases hty with ⟨rfl, rfl, rfl⟩ | ⟨rfl, rfl, rfl⟩ | ⟨rfl, rfl, rfl⟩ <;> exact Option.some.inj (h1.symm.trans h2)
  have hdef : defaultValue (newarray.typeOf atype) = .int 0 := by rcases hty with ⟨rfl, -, -⟩ | ⟨rfl, -, -⟩ | ⟨rfl, -, -⟩ <;> rfl
  have hcb : componentBytes (newarray.typeOf atype) ≤ 8 := by rcases hty with ⟨rfl, -, -⟩ | ⟨rfl, -, -⟩ | ⟨rfl, -, -⟩ <;> decide
  have hkd : kd = 20 ∨ kd = 21 ∨ kd = 23 := by rcases hty with ⟨-, h, -⟩ | ⟨-, h, -⟩ | ⟨-, h, -⟩ <;> omega
  refine va_newa (N' := len) (a0 := (len, .inl (fun j : Nat => Int32.ofInt (I (n + 1) j)))) hx hb (hts _ hwd) rfl hK hP hD hS hA (fun cA => ?_) (fun q => by rw [i32_0, i32_lt (fc_c hst).1 rg0] at q; omega) hcl (Nat.le_trans (Nat.mul_le_mul hlen hcb) (by decide)) (by rw [hR]; exact hks) (by rw [hR]; exact hss) hd (fun q cA H1 hK2 hP hD hS => ?_)
  · rw [vp_cell_i, hdef]
    congr 1
    funext j
    rw [hz.1]
    rfl
  · have hcA : cA = cY kd := hRA cA (hK2.2 5 (cA, newarray.typeOf atype) rfl).2
    subst hcA
    have hag : wAg ad (va_up ad (n + 1) q) n := wAg_up hn
    have hw2 : wW cY ad n I J R ++ [(q, .inl (cY kd, len, .inl (fun j : Nat => Int32.ofInt (I (n + 1) j))))] = wW cY (va_up ad (n + 1) q) (n + 1) I J R := by
      rw [wW_succ, wW_ag hag hM, va_up_self, wE_ag hag hM, wE_int hk hkd, hN]
    rw [hw2] at hP hD
    have h3 := k _ hag hk hwa (wM_mono (Nat.le_succ n) hM) (fun v hv => wok_mono (Nat.le_succ n) (hlv v hv)) (fc_i (Or.inl (Nat.le_refl _)) (fun v hv => wok_mono (Nat.le_succ n) ((fc_c hst).2 v hv))) H1 locs ls hP hD hS (by rw [lvm_ag hag hlv]; exact hl)
    rw [List.map_cons, st_ag hag (fc_c hst).2, w_ref (Nat.succ_ne_zero n), va_up_self] at h3
    exact h3
theorem x_newarrJ (hC : wOK C cc nL own) {fr lo cs sl : Nat} (hRm : wRm C fr lo cs sl) {len : Nat} (hwd : Cond.arrayClass .long ∈ wT) (hlen : len ≤ 1000000) (ks2 ss2 : Nat) (e1 : ks + 1 = ks2) (e2 : ss + len = ss2) (hks : ks2 ≤ cs) (hss : ss2 ≤ sl) (hd : decode cc pc = .ok (.newarray .long, 2)) (hw : (kK (n + 1) = 22 ∧ kN (n + 1) = len ∧ wz I J R (n + 1)) ∧ WA) (k : ∀ ad2, wAg ad ad2 n → kK (n + 1) = 22 → WA → WM C ad2 (n + 1) I J R ks2 ss2 (pc + 2) lv (vr (n + 1) :: st)) : WM C ad n I J R ks ss pc lv (vi len :: st) := by
  obtain ⟨p, l, e, Rm, s, m, args, below, meth, c, Q, D, cY, A, nL', own'⟩ := C
  obtain ⟨hx, hb, hml, hown, hts, hK, hA, hlk, rfl, rfl⟩ := hC
  obtain ⟨⟨hk, hN, hz⟩, hwa⟩ := hw
  have hn : n + 1 < 900 := kK_big (by omega)
  subst e1; subst e2
  intro hM hlv hst H locs ls hP hD hS hl
  have hR : Rm = { frames := fr, cells := cs, slots := sl, locals := lo } := hRm
  have hcl : ((Int32.ofInt (len : Int)).toNatClampNeg) = len := by
    have h1 := i32_clamp (x := (len : Int)) (fc_c hst).1 (by omega)
    omega
  refine va_newa (atype := .long) (ty := .long) (N' := len) (a0 := (len, .inr (.inl (fun j : Nat => Int64.ofInt (J (n + 1) j))))) hx hb (hts _ hwd) rfl hK hP hD hS hA (fun cA => ?_) (fun q => by rw [i32_0, i32_lt (fc_c hst).1 rg0] at q; omega) hcl (Nat.le_trans (Nat.mul_le_mul hlen (show componentBytes .long ≤ 8 by decide)) (by decide)) (by rw [hR]; exact hks) (by rw [hR]; exact hss) hd (fun q cA H1 hK2 hP hD hS => ?_)
  · rw [vp_cell_l]
    congr 1
    funext j
    rw [hz.2.1]
    rfl
  · have hcA : cA = cY 22 := Option.some.inj ((hK2.2 5 (cA, .long) rfl).2.symm.trans (hK.2 2 (cY 22, .long) rfl).2)
    subst hcA
    have hag : wAg ad (va_up ad (n + 1) q) n := wAg_up hn
    have hw2 : wW cY ad n I J R ++ [(q, .inl (cY 22, len, .inr (.inl (fun j : Nat => Int64.ofInt (J (n + 1) j)))))] = wW cY (va_up ad (n + 1) q) (n + 1) I J R := by
      rw [wW_succ, wW_ag hag hM, va_up_self, wE_ag hag hM, wE_long hk, hN]
    rw [hw2] at hP hD
    have h3 := k _ hag hk hwa (wM_mono (Nat.le_succ n) hM) (fun v hv => wok_mono (Nat.le_succ n) (hlv v hv)) (fc_i (Or.inl (Nat.le_refl _)) (fun v hv => wok_mono (Nat.le_succ n) ((fc_c hst).2 v hv))) H1 locs ls hP hD hS (by rw [lvm_ag hag hlv]; exact hl)
    rw [List.map_cons, st_ag hag (fc_c hst).2, w_ref (Nat.succ_ne_zero n), va_up_self] at h3
    exact h3
theorem x_newq (hC : wOK C cc nL own) {fr lo cs sl : Nat} (hRm : wRm C fr lo cs sl) {index len : Nat} (hwd : Cond.classLink own index "BlindColours$State" ∈ wT) (hwo : Cond.arrayOver (.object "BlindColours$State") ∈ wT) (hlen : len ≤ 1000000) (ks2 ss2 : Nat) (e1 : ks + 1 = ks2) (e2 : ss + len = ss2) (hks : ks2 ≤ cs) (hss : ss2 ≤ sl) (hd : decode cc pc = .ok (.anewarray index, 3)) (hw : (kK (n + 1) = 24 ∧ kN (n + 1) = len ∧ wz I J R (n + 1)) ∧ WA) (k : ∀ ad2, wAg ad ad2 n → kK (n + 1) = 24 → WA → WM C ad2 (n + 1) I J R ks2 ss2 (pc + 3) lv (vr (n + 1) :: st)) : WM C ad n I J R ks ss pc lv (vi len :: st) := by
  obtain ⟨p, l, e, Rm, s, m, args, below, meth, c, Q, D, cY, A, nL', own'⟩ := C
  obtain ⟨hx, hb, hml, hown, hts, hK, hA, hlk, rfl, rfl⟩ := hC
  obtain ⟨⟨hk, hN, hz⟩, hwa⟩ := hw
  have hn : n + 1 < 900 := kK_big (by omega)
  subst e1; subst e2
  intro hM hlv hst H locs ls hP hD hS hl
  have hR : Rm = { frames := fr, cells := cs, slots := sl, locals := lo } := hRm
  have hcl : ((Int32.ofInt (len : Int)).toNatClampNeg) = len := by
    have h1 := i32_clamp (x := (len : Int)) (fc_c hst).1 (by omega)
    omega
  refine va_newq (N' := len) hx hb hown (hts _ hwd) (va_AO.of (hts _ hwo)) hK hP hD hS hA (fun q => by rw [i32_0, i32_lt (fc_c hst).1 rg0] at q; omega) hcl (Nat.le_trans (Nat.mul_le_mul_right 4 hlen) (by decide)) (by rw [hR]; exact hks) (by rw [hR]; exact hss) hd (fun q cA H1 hK2 hP hD hS => ?_)
  have hcA : cA = cY 24 := by
    obtain ⟨_, _, _, _, _, g1⟩ := (hK2.2 5 (cA, .object "BlindColours$State") rfl).2
    obtain ⟨_, _, _, _, _, g2⟩ := (hK.2 4 (cY 24, .object "BlindColours$State") rfl).2
    exact Option.some.inj (g1.symm.trans g2)
  subst hcA
  have hag : wAg ad (va_up ad (n + 1) q) n := wAg_up hn
  have hfn : (fun j : Nat => wrn ad (R (n + 1) j)) = fun _ => none := funext fun j => by rw [hz.2.2]; rfl
  have hw2 : wW cY ad n I J R ++ [(q, .inl (cY 24, len, .inr (.inr (.inr (.inr (fun _ => none))))))] = wW cY (va_up ad (n + 1) q) (n + 1) I J R := by
    rw [wW_succ, wW_ag hag hM, va_up_self, wE_ag hag hM, wE_refs hk, hN, hfn]
  rw [hw2] at hP hD
  have h3 := k _ hag hk hwa (wM_mono (Nat.le_succ n) hM) (fun v hv => wok_mono (Nat.le_succ n) (hlv v hv)) (fc_i (Or.inl (Nat.le_refl _)) (fun v hv => wok_mono (Nat.le_succ n) ((fc_c hst).2 v hv))) H1 locs ls hP hD hS (by rw [lvm_ag hag hlv]; exact hl)
  rw [List.map_cons, st_ag hag (fc_c hst).2, w_ref (Nat.succ_ne_zero n), va_up_self] at h3
  exact h3
theorem x_putFR (hC : wOK C cc nL own) {ad0 : Nat → Nat} {n0 mc ms : Nat} {P : wPc} (hE : wEndC C ad0 n0 mc ms P) (kz : Int) {index ci k a v : Nat} {ty : FieldType} {PR : mR → Prop} (hF : wPL own index ci k 2 ty true) (hz : (k : Int) = kz) (hka : kK a = ci) (hoc : ∀ q : vw_C, vwCl[ci]? = some q → q.1 = own) (hty : (∃ q, ty = .object q) ∨ ∃ q, ty = .array q) (hkv : kK v < 99) (hd : decode cc pc = .ok (.putfield index, 3)) (hw : wLet (up R a kz v) PR) (kk : ∀ R1, PR R1 → WM C ad n I J R1 ks ss (pc + 3) lv st) : WM C ad n I J R ks ss pc lv (vr v :: vr a :: st) := by
  subst hz
  replace kk := kk _ hw
  obtain ⟨p, l, e, Rm, s, m, args, below, meth, c, Q, D, cY, A, nL', own'⟩ := C
  obtain ⟨hx, hb, hml, hown, hts, hK, hA, hlk, rfl, rfl⟩ := hC
  obtain ⟨-, -, -, hin⟩ := hE
  obtain ⟨CN, T, N, ty0, f1, f2, f3, f4, f5, f6, f7, f8, f9, f10, f11, f12⟩ := hF
  intro hM hlv hst H locs ls hP hD hS hl
  have h0 : a ≠ 0 := k_ne0 hka (by omega)
  have hv0 : v ≠ 0 := k_lt0 hkv
  have hn : narrow ty (.ref (ad v)) = .ref (ad v) ∧ fits ty (.ref (ad v)) = true := by
    rcases hty with ⟨q, rfl⟩ | ⟨q, rfl⟩ <;> exact ⟨rfl, rfl⟩
  have hCN : CN = own' := hoc _ f2
  rw [List.map_cons, List.map_cons, w_ref h0, w_ref hv0]
  have hset : (wW cY ad n I J R).set (a - 1) (ad a, .inr (ci, (wFs ad ci I J R a).set k (.ref (ad v)))) = wW cY ad n I J (up R a k v) := by
    refine wW_set h0 (wok_le (fc_c (fc_c hst).2).1 hka (by omega)) (fun b hb2 => wE_ne (fun _ => rfl) (fun _ => rfl) (fun j => up_o R k j v hb2)) ?_
    rw [wE_obj hka f8, wFs_set (I2 := I) (J2 := J) (R2 := up R a k v) f7 (fun j hj => by unfold wF; rw [up_k R a v (by omega)]) (by rw [f6]; show wrf ad (up R a k v a k) = _; rw [up_s, wrf_ref hv0])]
  refine va_putF (v := Value.ref (ad v)) (ty := ty) hx hb hts f1 ty0 f9 f10 hown hK hP hD hS (a - 1) ((wW_get h0 (wok_le (fc_c (fc_c hst).2).1 hka (by omega))).trans (by rw [wE_obj hka f8])) f2 k f3 (hts _ f4) (fun x h => by rw [← f5]; exact h) f11 hin (by rw [f5, hCN]) (by rw [f9 k f3, f12]) hn.1 hn.2 (by rw [wFs_len]; exact f7) hd (fun H1 locs1 hP hD hS => ?_)
  rw [hset] at hP hD
  exact kk (wM_R hM (wok_le (fc_c hst).1 rfl hkv)) hlv (fc_c (fc_c hst).2).2 H1 locs1 ls hP hD hS hl
theorem x_aast (hC : wOK C cc nL own) {a v : Nat} {x : Int} {PR : mR → Prop} (hka : kK a = 24) (hkv : kK v = 7) (hd : decode cc pc = .ok (.aastore, 1)) (hw : (0 ≤ x ∧ x < kN a) ∧ wLet (up R a x v) PR) (kk : ∀ R1, PR R1 → WM C ad n I J R1 ks ss (pc + 1) lv st) : WM C ad n I J R ks ss pc lv (vr v :: vi x :: vr a :: st) := by
  obtain ⟨⟨h1, h2⟩, hw⟩ := hw
  replace kk := kk _ hw
  obtain ⟨p, l, e, Rm, s, m, args, below, meth, c, Q, D, cY, A, nL', own'⟩ := C
  obtain ⟨hx, hb, hml, hown, hts, hK, hA, hlk, rfl, rfl⟩ := hC
  intro hM hlv hst H locs ls hP hD hS hl
  have h0 : a ≠ 0 := k_ne0 hka (by omega)
  have hv0 : v ≠ 0 := k_ne0 hkv (by omega)
  have hrx : rg x := (fc_c (fc_c hst).2).1
  have hst2 := (fc_c (fc_c (fc_c hst).2).2)
  have ha := wok_le hst2.1 hka (by omega)
  have hv := wok_le (fc_c hst).1 hkv (by omega)
  have e := i32_clamp hrx h1
  rw [List.map_cons, List.map_cons, List.map_cons, w_ref h0, w_ref hv0]
  have hset : (wW cY ad n I J R).set (a - 1) (ad a, .inl (cY 24, kN a, .inr (.inr (.inr (.inr (va_up (fun j : Nat => wrn ad (R a j)) (Int32.ofInt x).toNatClampNeg (some (ad v)))))))) = wW cY ad n I J (up R a x v) := by
    refine wW_set h0 ha (fun b hb2 => wE_ne (fun _ => rfl) (fun _ => rfl) (fun j => up_o R x j v hb2)) ?_
    rw [wE_refs hka]
    congr 7
    funext j
    by_cases hj : j = (Int32.ofInt x).toNatClampNeg
    · subst hj
      rw [e, up_s, va_up_self, wrn, if_neg hv0]
    · rw [va_up_ne _ _ hj, up_k R a v (by omega)]
  refine va_astq hx hb hK hP hD hS (a - 1) 4 (v - 1) 7 (r := (RX7, TX7, 7)) ((wW_get h0 ha).trans (by rw [wE_refs hka])) rfl ((wW_get hv0 hv).trans (by rw [wE_obj hkv (by decide)])) rfl (i32_in hrx h1 h2) hd (fun H1 locs1 hP hD hS => ?_)
  rw [hset] at hP hD
  exact kk (wM_R hM hv) hlv hst2.2 H1 locs1 ls hP hD hS hl
theorem x_objInit (hC : wOK C cc nL own) {fr lo cs sl : Nat} (hRm : wRm C fr lo cs sl) {index a : Nat} (h0 : a ≠ 0) (hw1 : Cond.methodLink own index objectInit ∈ wT) (hw2 : Cond.instanceMethod objectInit ∈ wT) (hw3 : Cond.code objectInit ⟨#[0xb1]⟩ 1 none ∈ wT) (hfr : 1 ≤ fr) (hlo : wsum st + 12 ≤ lo) (hd : decode cc pc = .ok (.invokespecial index, 3)) (k : WM C ad n I J R ks ss (pc + 3) lv st) : WM C ad n I J R ks ss pc lv (vr a :: st) := by
  obtain ⟨p, l, e, Rm, s, m, args, below, meth, c, Q, D, cY, A, nL', own'⟩ := C
  obtain ⟨hx, hb, hml, hown, hts, hK, hA, hlk, rfl, rfl⟩ := hC
  intro hM hlv hst H locs ls hP hD hS hl
  have hR : Rm = { frames := fr, cells := cs, slots := sl, locals := lo } := hRm
  rw [List.map_cons, w_ref h0]
  refine W.objInit hx hb hown (hts _ hw1) (hts _ hw2) (hts _ hw3) rfl (by rw [hml]; exact hl.1) rfl hd (by rw [hR]; exact hfr) (by rw [wsum_ok, hR]; show 2 * 0 + wsum st + 12 ≤ lo; omega) ?_
  exact k hM hlv (fc_c hst).2 H locs ls hP hD hS hl
theorem wm_returnC (hC : wOK C cc nL own) {ad0 : Nat → Nat} {n0 mc ms : Nat} {P : wPc} (hE : wEndC C ad0 n0 mc ms P) (hag : wAg ad0 ad n0) (hle : n0 ≤ n) (hd : decode cc pc = .ok (.return_, 1)) (hp : P n I J R) : WM C ad n I J R mc ms pc lv [] := by
  obtain ⟨p, l, e, Rm, s, m, args, below, meth, c, Q, D, cY, A, nL', own'⟩ := C
  obtain ⟨hx, hb, hml, hown, hts, hK, hA, hlk, rfl, rfl⟩ := hC
  obtain ⟨rfl, rfl, hr, -⟩ := hE
  intro hM hlv hst H locs ls hP hD hS hl
  refine W.vret hx hb hr (fun t ht hW => ?_) hS.2.2 hd hlk
  exact ⟨⟨(ad, n, I, J, R), rfl, ⟨hag, hle, hp⟩, hM, by rw [ht]; exact hP, hD⟩, hS.F ht⟩
theorem wAg_in {A : Nat → Prop} {cY : Nat → ClassId} {sz : Nat} (hD : va_D A (wW cY ad n I J R)) (hA : ∀ q, sz ≤ q → A q) : ∀ q, wA ad n sz q → A q := wA_in hD hA
theorem w_afterC {A : Nat → Prop} {p : Program} {l : Launch} {e : Env} {Rm : Room} {s : State} {m : MethodId} {args : Array Value} {below : List Frame} {meth : Method} {c : Code} {Q : State → Prop} {D : va_G} {cY : Nat → ClassId} {H : Heap} {locs : List Loc} {ls : Array Slot} {st0 : List Value} {mc ms : Nat} {P : wPc} {a : Array Value}
    (hr : va_Run p l e Rm s m args below meth c H locs ks ss mc ms (F0 m pc ls st0) (st.map (wv ad)) (wQC D cY ad n H.size P a) (wA ad n H.size)) (hlv : ∀ q ∈ lv, wok n q.2) (hst : ∀ v ∈ st, wok n v) (hS : va_S A s.heap H locs) (hF : ∀ q, wA ad n H.size q → A q) (hl : lv_has ls nL (lvm ad lv))
    (kk : ∀ (ad2 : Nat → Nat) (n2 : Nat) (I2 J2 : mI) (R2 : mR), wAg ad ad2 n → n ≤ n2 → P n2 I2 J2 R2 → WM (p, l, e, Rm, s, m, args, below, meth, c, Q, D, cY, A, nL, own) ad2 n2 I2 J2 R2 (ks + mc) (ss + ms) (pc + 3) lv st) : W p l e Rm s m args below meth c H locs ks ss Q (F0 m pc ls st0) := by
  refine va_callv (show va_Run p l e Rm s m args below meth c H locs ks ss mc ms (F0 m pc ls st0) (st.map (wv ad)) (va_Qv _ _ _ a) _ from hr) hS (fun q _ h => hF q h) hF (fun u t H1 locs1 ht hvm hp hB hz hk hS => ?_)
  obtain ⟨hag, hle, hp⟩ := hp
  obtain ⟨hM, hP, hD⟩ := hB
  have h3 := kk u.1 u.2.1 u.2.2.1 u.2.2.2.1 u.2.2.2.2 hag hle hp hM (fun q hq => wok_mono hle (hlv q hq)) (fun v hv => wok_mono hle (hst v hv)) H1 locs1 ls (by rw [← ht]; exact hP) (hD.weaken (fun k q _ h => hF q.1 h)) hS (by rw [lvm_ag hag hlv]; exact hl)
  rw [st_ag hag hst] at h3
  exact h3
/-- a constructor's call: of a class whose constructor is a nest mate's private one, or open -/
def wCI (own : String) (index : Nat) (y : MethodName) (cc : ByteArray) (nL na : Nat) : Prop := wCB own index y cc nL none na ∧ y.name = "<init>" ∧ Cond.instanceMethod y ∈ wT
def wCN (own : String) (index : Nat) (y : MethodName) (host : String) (cc : ByteArray) (nL na : Nat) : Prop := Cond.methodLinkNest own index y host ∈ wT ∧ Cond.initialized y.cls ∈ wT ∧ Cond.code y cc nL none ∈ wT ∧ (y.cls ≠ "java/lang/invoke/MethodHandle" ∧ y.cls ≠ "java/lang/invoke/VarHandle" ∧ (parseMethodDescriptor y.desc).map (fun d => d.parameters.length) = some na) ∧ y.name = "<init>" ∧ Cond.instanceMethod y ∈ wT
theorem x_callI (hC : wOK C cc nL own) {rfr rlo cs sl : Nat} (hRm : wRm C rfr rlo cs sl) {index : Nat} {y : MethodName} {bytes : ByteArray} {mL fr lo mc ms na b : Nat} {av : List wV} {P : wPc} (hM0 : wMetC y bytes mL fr lo mc ms ad n I J R (vr b :: av) P) (hV : wCI own index y bytes mL na) (h0 : b ≠ 0) (hfr : fr + 1 ≤ rfr) (hlo : 8 + (mL + 11) + lo ≤ rlo) (ks2 ss2 : Nat) (e1 : ks + mc = ks2) (e2 : ss + ms = ss2) (hcs : ks2 ≤ cs ∧ ss2 ≤ sl) (hna : av.length = na) {st0 : List wV} (hst0 : st0 = av.reverse ++ vr b :: st) (hsum : wsum st ≤ 8) (hd : decode cc pc = .ok (.invokespecial index, 3)) (kk : ∀ (ad2 : Nat → Nat) (n2 : Nat) (I2 J2 : mI) (R2 : mR), wAg ad ad2 n → n ≤ n2 → P n2 I2 J2 R2 → WM C ad2 n2 I2 J2 R2 ks2 ss2 (pc + 3) lv st) : WM C ad n I J R ks ss pc lv st0 := by
  obtain ⟨p, l, e, Rm, s, m, args, below, meth, c, Q, D, cY, A, nL', own'⟩ := C
  obtain ⟨hx, hb, hml, hown, hts, hK, hA, hlk, rfl, rfl⟩ := hC
  obtain ⟨⟨b1, b2, b3, b4⟩, hV2, hV3⟩ := hV
  subst hst0; subst e1; subst e2
  have hR : Rm = { frames := rfr, cells := cs, slots := sl, locals := rlo } := hRm
  intro hM hlv hst H locs ls hP hD hS hl
  have hF : ∀ q, wA ad n H.size q → A q := wA_in hD (fun q hq => hA q (Nat.le_trans hS.1 hq))
  have hokb : wok n (vr b) := hst _ (List.mem_append_right _ List.mem_cons_self)
  have hokst : ∀ v ∈ st, wok n v := fun v hv => hst v (List.mem_append_right _ (List.mem_cons_of_mem _ hv))
  have hokav : ∀ v ∈ av, wok n v := fun v hv => hst v (List.mem_append_left _ (List.mem_reverse.mpr hv))
  have hcb : CallB Rm s args own' index y bytes mL none (Cond.code y bytes mL none :: wT) (wRoomC fr lo mc ms) mc ms na := ⟨rfl, rfl, by rw [hR]; exact hfr, by rw [hR]; exact hlo, wT_pay2 hts b3, List.mem_cons_self, hts _ b3, hts _ b2, ⟨b4.1, b4.2.1⟩, wT_sig b4.2.2, hts _ b1⟩
  have hPre : PreS s H (wPre false D cY ad n H.size I J R (vr b :: av)) (Value.ref (ad b) :: av.map (wv ad)) := ⟨wPre_blind, fun U hU hW => ⟨by rw [List.map_cons, w_ref h0], by rw [hU], hM, fc_i hokb hokav, by rw [hU]; exact hP, va_K.moved hW.alike hK, hD.weaken (fun _ _ _ _ => trivial), fun h => by cases h⟩⟩
  refine w_afterC (own := own') (va_runI (As := av.map (wv ad)) (rest := st.map (wv ad)) ⟨hx, hb, hml, hown, hts⟩ (hM0 l D cY H.size) ⟨hcb, hV2, hts _ hV3⟩ hPre rfl (by rw [List.length_map]; exact hna) hl.1 ?_ (lv_room (by rw [wsum_ok]; exact hsum)) hd (by rw [hR]; exact hcs)) hlv hokst hS hF hl kk
  show List.map (wv ad) (av.reverse ++ vr b :: st) = _
  rw [List.map_append, List.map_cons, List.map_reverse, w_ref h0]
theorem x_callN (hC : wOK C cc nL own) {rfr rlo cs sl : Nat} (hRm : wRm C rfr rlo cs sl) {index : Nat} {y : MethodName} {host : String} {bytes : ByteArray} {mL fr lo mc ms na b : Nat} {av : List wV} {P : wPc} (hM0 : wMetC y bytes mL fr lo mc ms ad n I J R (vr b :: av) P) (hV : wCN own index y host bytes mL na) (h0 : b ≠ 0) (hfr : fr + 1 ≤ rfr) (hlo : 8 + (mL + 11) + lo ≤ rlo) (ks2 ss2 : Nat) (e1 : ks + mc = ks2) (e2 : ss + ms = ss2) (hcs : ks2 ≤ cs ∧ ss2 ≤ sl) (hna : av.length = na) {st0 : List wV} (hst0 : st0 = av.reverse ++ vr b :: st) (hsum : wsum st ≤ 8) (hd : decode cc pc = .ok (.invokespecial index, 3)) (kk : ∀ (ad2 : Nat → Nat) (n2 : Nat) (I2 J2 : mI) (R2 : mR), wAg ad ad2 n → n ≤ n2 → P n2 I2 J2 R2 → WM C ad2 n2 I2 J2 R2 ks2 ss2 (pc + 3) lv st) : WM C ad n I J R ks ss pc lv st0 := by
  obtain ⟨p, l, e, Rm, s, m, args, below, meth, c, Q, D, cY, A, nL', own'⟩ := C
  obtain ⟨hx, hb, hml, hown, hts, hK, hA, hlk, rfl, rfl⟩ := hC
  obtain ⟨b1, b2, b3, b4, hV2, hV3⟩ := hV
  subst hst0; subst e1; subst e2
  have hR : Rm = { frames := rfr, cells := cs, slots := sl, locals := rlo } := hRm
  intro hM hlv hst H locs ls hP hD hS hl
  have hF : ∀ q, wA ad n H.size q → A q := wA_in hD (fun q hq => hA q (Nat.le_trans hS.1 hq))
  have hokb : wok n (vr b) := hst _ (List.mem_append_right _ List.mem_cons_self)
  have hokst : ∀ v ∈ st, wok n v := fun v hv => hst v (List.mem_append_right _ (List.mem_cons_of_mem _ hv))
  have hokav : ∀ v ∈ av, wok n v := fun v hv => hst v (List.mem_append_left _ (List.mem_reverse.mpr hv))
  have hcb : va_CN Rm s args own' index y host bytes mL none (Cond.code y bytes mL none :: wT) (wRoomC fr lo mc ms) mc ms na := ⟨⟨rfl, rfl, by rw [hR]; exact hfr, by rw [hR]; exact hlo, wT_pay2 hts b3, List.mem_cons_self⟩, hts _ b3, hts _ b2, ⟨b4.1, b4.2.1⟩, wT_sig b4.2.2, hts _ b1⟩
  have hPre : PreS s H (wPre false D cY ad n H.size I J R (vr b :: av)) (Value.ref (ad b) :: av.map (wv ad)) := ⟨wPre_blind, fun U hU hW => ⟨by rw [List.map_cons, w_ref h0], by rw [hU], hM, fc_i hokb hokav, by rw [hU]; exact hP, va_K.moved hW.alike hK, hD.weaken (fun _ _ _ _ => trivial), fun h => by cases h⟩⟩
  refine w_afterC (own := own') (va_runIN (As := av.map (wv ad)) (rest := st.map (wv ad)) ⟨hx, hb, hml, hown, hts⟩ (hM0 l D cY H.size) ⟨hcb, hV2, hts _ hV3⟩ hPre rfl (by rw [List.length_map]; exact hna) hl.1 ?_ (lv_room (by rw [wsum_ok]; exact hsum)) hd (by rw [hR]; exact hcs)) hlv hokst hS hF hl kk
  show List.map (wv ad) (av.reverse ++ vr b :: st) = _
  rw [List.map_append, List.map_cons, List.map_reverse, w_ref h0]
/-- branches that written numbers decide -/
theorem xs_ge_f (hC : wOK C cc nL own) {x y : Int} {off : Int} {tgt : Nat} (hd : decode cc pc = .ok (.if_icmp .ge off, 3)) (ht : (pc : Int) + off = (tgt : Int)) (h : ¬ y ≤ x) (k : WM C ad n I J R ks ss (pc + 3) lv st) : WM C ad n I J R ks ss pc lv (vi y :: vi x :: st) := wm_icmp_ge (WA := False) (WB := True) hC hd ht (by rw [if_neg h]; trivial) (fun q => q.elim) (fun _ => k)
theorem xs_ge_t (hC : wOK C cc nL own) {x y : Int} {off : Int} {tgt : Nat} (hd : decode cc pc = .ok (.if_icmp .ge off, 3)) (ht : (pc : Int) + off = (tgt : Int)) (h : y ≤ x) (k : WM C ad n I J R ks ss tgt lv st) : WM C ad n I J R ks ss pc lv (vi y :: vi x :: st) := wm_icmp_ge (WA := True) (WB := False) hC hd ht (by rw [if_pos h]; trivial) (fun _ => k) (fun q => q.elim)
end R9
