/-! METHODS THAT MAKE NOTHING: contract, start, ends, calls -/
def wA (ad : Nat → Nat) (n sz : Nat) : Nat → Prop := fun q => (∃ i, i < n ∧ q = ad (i + 1)) ∨ sz ≤ q
/-- the two String constants (901, 902), their bytes (911, 912), two statics: what nobody writes -/
def wLens : List Nat := [143, 14]
def wByts : List (List Int32) := [[98, 108, 105, 110, 100, 32, 99, 111, 108, 111, 117, 114, 32, 116, 104, 105, 110, 103, 32, 108, 97, 116, 101, 32, 110, 101, 97, 114, 32, 119, 101, 97, 114, 115, 32, 112, 117, 114, 115, 101, 32, 114, 111, 119, 32, 115, 99, 111, 114, 101, 115, 32, 99, 111, 117, 110, 116, 115, 32, 103, 105, 118, 101, 115, 32, 119, 97, 114, 109, 32, 108, 111, 117, 100, 32, 100, 101, 101, 112, 32, 99, 111, 115, 116, 32, 121, 101, 97, 114, 32, 109, 111, 111, 100, 32, 109, 97, 116, 99, 104, 32, 119, 111, 114, 110, 32, 104, 101, 97, 114, 100, 32, 98, 97, 114, 101, 32, 105, 102, 32, 111, 114, 32, 97, 110, 100, 32, 110, 111, 116, 32, 97, 108, 108, 32, 109, 105, 110, 32, 109, 97, 120, 32], [59, 43, 45, 42, 47, 37, 40, 41, 44, 91, 93, 60, 62, 61]]
def wTx (i : Nat) : String := if i = 0 then "blind colour thing late near wears purse row scores counts gives warm loud deep cost year mood match worn heard bare if or and not all min max " else ";+-*/%(),[]<>="
def wStr (ad : Nat → Nat) (A : Nat → Prop) (U : State) (H : Heap) : Prop := vk_S 2 wLens wByts (fun i => ad (901 + i)) (fun i => ad (911 + i)) A U H ∧ vk_R "BlindColours$Reader" 67 (wTx 0) (ad 901) U ∧ vk_R "BlindColours$Tokens" 65 (wTx 1) (ad 902) U ∧ va_Z "java/lang/String" "COMPACT_STRINGS" "Z" (.int 1) A U H ∧ (va_Z "jdk/internal/util/Preconditions" "SIOOBE_FORMATTER" "Ljava/util/function/BiFunction;" .null A U H ∨ va_Z "jdk/internal/util/Preconditions" "SIOOBE_FORMATTER" "Ljava/util/function/BiFunction;" (.ref (ad 920)) A U H)
theorem wStr_to {ad : Nat → Nat} {A B : Nat → Prop} {s U : State} {H : Heap} (h : wStr ad A s s.heap) (hk : ∀ q : Nat, q < s.heap.size → ¬ A q → H[q]? = s.heap[q]?) (hW : s.WarmedH U.vm) (hAB : ∀ q, B q → A q) : wStr ad B U H := by
  obtain ⟨h1, h2, h3, h4, h5⟩ := h
  refine ⟨((h1.kept hk).moved hW.alike).narrow hAB, vk_R.warm hW h2, vk_R.warm hW h3, ((va_Z.kept h4 hk).moved hW.alike).narrow hAB, ?_⟩
  rcases h5 with h5 | h5
  · exact Or.inl (((va_Z.kept h5 hk).moved hW.alike).narrow hAB)
  · exact Or.inr (((va_Z.kept h5 hk).moved hW.alike).narrow hAB)
def wPre (b : Bool) (D : va_G) (cY : Nat → ClassId) (ad : Nat → Nat) (n sz : Nat) (I J : mI) (R : mR) (av : List wV) : Array Value → State → Prop := va_Pc (av.map (wv ad)) (fun U => U.heap.size = sz ∧ wM n I J R ∧ (∀ v ∈ av, wok n v) ∧ va_P D vwCl (wW cY ad n I J R) U.heap ∧ va_K D vwCl (wtys cY) U ∧ va_D (fun _ => True) (wW cY ad n I J R) ∧ (b = true → wStr ad (wA ad n sz) U U.heap))
abbrev wS : Type := Int × mI × mI × mR
def wB (D : va_G) (cY : Nat → ClassId) (ad : Nat → Nat) (n sz : Nat) (u : wS) (t : State) : Prop := wM n u.2.1 u.2.2.1 u.2.2.2 ∧ va_P D vwCl (wW cY ad n u.2.1 u.2.2.1 u.2.2.2) t.heap ∧ va_D (wA ad n sz) (wW cY ad n u.2.1 u.2.2.1 u.2.2.2)
abbrev wPo : Type := Int → mI → mI → mR → Prop
def wQi (D : va_G) (cY : Nat → ClassId) (ad : Nat → Nat) (n sz : Nat) (P : wPo) : Array Value → State → Outcome → State → Prop := va_Qi (fun r (u : wS) => r = Int32.ofInt u.1 ∧ rg u.1 ∧ P u.1 u.2.1 u.2.2.1 u.2.2.2) (wB D cY ad n sz) (wA ad n sz)
def wQl (D : va_G) (cY : Nat → ClassId) (ad : Nat → Nat) (n sz : Nat) (P : wPo) : Array Value → State → Outcome → State → Prop := va_Ql (fun r (u : wS) => r = Int64.ofInt u.1 ∧ rl u.1 ∧ P u.1 u.2.1 u.2.2.1 u.2.2.2) (wB D cY ad n sz) (wA ad n sz)
def wQv (D : va_G) (cY : Nat → ClassId) (ad : Nat → Nat) (n sz : Nat) (P : wPo) : Array Value → State → Outcome → State → Prop := va_Qv (fun (u : wS) => P 0 u.2.1 u.2.2.1 u.2.2.2) (wB D cY ad n sz) (wA ad n sz)
/-- a method's room: frames and locals (it makes nothing) -/
abbrev wRoom (fr lo : Nat) : Room := { frames := fr, cells := 0, slots := 0, locals := lo }
/-- the contract: ret none void, some .int, some .boolean, some .long -/
def wQ (ret : Option FieldType) (D : va_G) (cY : Nat → ClassId) (ad : Nat → Nat) (n sz : Nat) (P : wPo) : Array Value → State → Outcome → State → Prop := if ret = none then wQv D cY ad n sz P else if ret = some .long then wQl D cY ad n sz P else wQi D cY ad n sz P
def wMet (y : MethodName) (cc : ByteArray) (nL : Nat) (ret : Option FieldType) (fr lo : Nat) (b : Bool) (ad : Nat → Nat) (n : Nat) (I J : mI) (R : mR) (av : List wV) (P : wPo) : Prop := ∀ (l : Launch) (D : va_G) (cY : Nat → ClassId) (sz : Nat), Met l y (Cond.code y cc nL ret :: wT) (wRoom fr lo) (wPre b D cY ad n sz I J R av) (wQ ret D cY ad n sz P) 0 0 (wA ad n sz)
/-- what a walk is held to at its end -/
def wEnd (C : wX) (ret : Option FieldType) (ad : Nat → Nat) (n : Nat) (P : wPo) : Prop := match C with
  | (_, _, _, _, s, _, args, below, meth, _, Q, D, cY, A, _, _) => Q = MQ below (wQ ret D cY ad n s.heap.size P) args s 0 0 (wA ad n s.heap.size) ∧ A = wA ad n s.heap.size ∧ meth.sig.returnType = ret
def wRm (C : wX) (fr lo cs sl : Nat) : Prop := match C with
  | (_, _, _, Rm, _) => Rm = { frames := fr, cells := cs, slots := sl, locals := lo }
def wargs : Nat → List wV → List (Nat × wV)
  | _, [] => []
  | i, v :: vs => (i, v) :: wargs (if wc v then i + 2 else i + 1) vs
theorem wargs_lvm (ad : Nat → Nat) : ∀ (i : Nat) (vs : List wV), lv_args i (vs.map (wv ad)) = lvm ad (wargs i vs)
  | _, [] => rfl
  | i, v :: vs => by
    have h := wc_ok ad v
    rw [List.map_cons]
    unfold lv_args wargs lvm
    rw [List.map_cons]
    congr 1
    rw [wargs_lvm ad]
    congr 2
    by_cases hc : wc v = true
    · rw [hc] at h; rw [if_pos hc, if_pos (eq_of_beq h)]
    · rw [Bool.not_eq_true] at hc
      rw [hc] at h
      rw [if_neg (by intro q; rw [q] at h; cases h), if_neg (by rw [hc]; decide)]
theorem wargs_ok {P : wV → Prop} : ∀ (i : Nat) (vs : List wV), (∀ v ∈ vs, P v) → ∀ q ∈ wargs i vs, P q.2
  | _, [], _, q, hq => by cases hq
  | i, v :: vs, h, q, hq => by
    rcases List.mem_cons.mp hq with rfl | h2
    · exact h v List.mem_cons_self
    · exact wargs_ok _ vs (fun w hw => h w (List.mem_cons_of_mem _ hw)) q h2
def wslots (vs : List wV) : Nat := (vs.map (fun v => if wc v then 2 else 1)).sum
theorem wslots_sl (ad : Nat → Nat) (vs : List wV) : (lg_sl (vs.map (wv ad))).length = wslots vs := by
  induction vs with
  | nil => rfl
  | cons v vs ih =>
    have h := wc_ok ad v
    unfold lg_sl wslots at *
    rw [List.map_cons, List.flatMap_cons, List.length_append, ih, List.map_cons, List.sum_cons]
    congr 1
    by_cases hc : wc v = true
    · rw [hc] at h; rw [if_pos hc, if_pos (eq_of_beq h)]; rfl
    · rw [Bool.not_eq_true] at hc
      rw [hc] at h
      rw [if_neg (by intro q; rw [q] at h; cases h), if_neg (by rw [hc]; decide)]; rfl
theorem wT_in {w : Cond} (h : w ∈ wT) : w ∈ lw_tbl := (List.mem_filter.mp h).1
theorem wT_pay {args : Array Value} {s : State} (h : ∀ w ∈ wT, w.before args s = true) : ∀ w ∈ wT, ∀ (a' : Array Value) (U : State), s.WarmedH U.vm → w.before a' U = true := by
  intro w hw a' U hW
  have h1 := h w hw
  have h2 := (List.mem_filter.mp hw).2
  by_cases hg : goodWord w = true
  · exact word_at hW (good_of_word hg) h1
  · unfold goodW at h2
    rw [Bool.eq_false_iff.mpr hg, Bool.false_or] at h2
    split at h2
    · exact va_tabs rfl (State.vm_setVm s U.vm) (Cond.methodLinkNest_warmed hW h1)
    · exact Cond.arrayOver_alike hW.alike h1
    · cases h2
theorem wT_pay2 {args : Array Value} {s : State} (h : ∀ w ∈ wT, w.before args s = true) {v : Cond} (hv : v ∈ wT) : ∀ w ∈ v :: wT, ∀ (a' : Array Value) (U : State), s.WarmedH U.vm → w.before a' U = true := fun w hw => by
  rcases List.mem_cons.mp hw with rfl | h2
  · exact wT_pay h _ hv
  · exact wT_pay h _ h2
theorem wT_sig {y : MethodName} {na : Nat} (h : (parseMethodDescriptor y.desc).map (fun d => d.parameters.length) = some na) : ∀ sig, parseMethodDescriptor y.desc = some sig → na = sig.parameters.length := fun sig h1 => by
  rw [h1] at h
  exact (Option.some.inj h).symm

/-- the Strings, as a walk knows them -/
def wStrC (C : wX) (ad : Nat → Nat) : Prop := match C with
  | (_, _, _, _, s, _, _, _, _, _, _, _, _, A, _, _) => wStr ad A s s.heap
theorem wMet_of {y : MethodName} {cc : ByteArray} {nL : Nat} {ret : Option FieldType} {fr lo : Nat} {b : Bool} {ad : Nat → Nat} {n : Nat} {I J : mI} {R : mR} {av : List wV} {P : wPo} (hy : plainName y.cls = true) (hsl : wslots av ≤ nL)
    (h : ∀ C : wX, wOK C cc nL y.cls → wRm C fr lo 0 0 → wEnd C ret ad n P → (b = true → wStrC C ad) → WM C ad n I J R 0 0 0 (wargs 0 av) []) : wMet y cc nL ret fr lo b ad n I J R av P := by
  intro l D cY sz
  refine Met.ofW (cc := cc) (maxL := nL) (ret := ret) hy rfl ?_
  intro p e s m args below meth c s₁ B hml hv
  obtain ⟨rfl, hsz, hM, hav, hP, hK, hD0, hStr⟩ := hv
  have hx := B.exec
  have hb := B.bytes
  have hr := B.returns
  have hts := atoms_spec (ws := Cond.code y cc nL ret :: wT) B.pre
  have hown : s.vm.findClass y.cls = some m.cls := findClass_of_methodNamed B.named
  have hlocks := B.notSynchronized
  subst hsz
  have hD : va_D (wA ad n s.heap.size) (wW cY ad n I J R) := hD0.weaken (fun k q hk _ => by
    unfold wW at hk
    rw [List.getElem?_map] at hk
    rcases Nat.lt_or_ge k n with hkn | hkn
    · rw [List.getElem?_range hkn] at hk
      cases hk
      exact Or.inl ⟨k, hkn, rfl⟩
    · rw [List.getElem?_eq_none (by rw [List.length_range]; exact hkn)] at hk
      cases hk)
  have hl := lv_entry (av.map (wv ad)) (n := nL) (by rw [wslots_sl]; exact hsl)
  rw [lg_entry_eq]
  rw [wargs_lvm] at hl
  exact h (p, l, e, (headSpec (Cond.code y cc nL ret :: wT) (wRoom fr lo)).room, s, m, (av.map (wv ad)).toArray, below, meth, c, MQ below (wQ ret D cY ad n s.heap.size P) (av.map (wv ad)).toArray s 0 0 (wA ad n s.heap.size), D, cY, wA ad n s.heap.size, nL, y.cls)
    ⟨hx, hb, hml, hown, fun w hw => hts w (List.mem_cons_of_mem _ hw), hK, fun q hq => Or.inr hq, hlocks, rfl, rfl⟩ rfl ⟨rfl, rfl, hr⟩ hStr hM (wargs_ok 0 av hav) (fun v hv => by cases hv) s.heap [] _ hP hD va_S.rf hl
section R4
variable {C : wX} {cc : ByteArray} {nL : Nat} {own : String} {ad : Nat → Nat} {n : Nat} {I J : mI} {R : mR} {ks ss pc : Nat} {lv : List (Nat × wV)} {st : List wV}
theorem wm_ireturn (hC : wOK C cc nL own) {x : Int} {P : wPo} (hE : wEnd C (some .int) ad n P) (hd : decode cc pc = .ok (.ireturn, 1)) (hp : P x I J R) : WM C ad n I J R 0 0 pc lv [vi x] := by
  obtain ⟨p, l, e, Rm, s, m, args, below, meth, c, Q, D, cY, A, nL', own'⟩ := C
  obtain ⟨hx, hb, hml, hown, hts, hK, hA, hlk, rfl, rfl⟩ := hC
  obtain ⟨rfl, rfl, hr⟩ := hE
  intro hM hlv hst H locs ls hP hD hS hl
  refine W.iret hx hb hr (fun t ht hW => ?_) hS.2.2 hd hlk
  exact ⟨⟨_, (x, I, J, R), rfl, ⟨rfl, (fc_c hst).1, hp⟩, hM, by rw [ht]; exact hP, hD⟩, hS.F ht⟩
theorem wm_zreturn (hC : wOK C cc nL own) {x : Int} {P : wPo} (hE : wEnd C (some .boolean) ad n P) (h01 : x = 0 ∨ x = 1) (hd : decode cc pc = .ok (.ireturn, 1)) (hp : P x I J R) : WM C ad n I J R 0 0 pc lv [vi x] := by
  obtain ⟨p, l, e, Rm, s, m, args, below, meth, c, Q, D, cY, A, nL', own'⟩ := C
  obtain ⟨hx, hb, hml, hown, hts, hK, hA, hlk, rfl, rfl⟩ := hC
  obtain ⟨rfl, rfl, hr⟩ := hE
  intro hM hlv hst H locs ls hP hD hS hl
  refine W.zret hx hb hr (nar_bool h01).1 (fun t ht hW => ?_) hS.2.2 hd hlk
  exact ⟨⟨_, (x, I, J, R), rfl, ⟨rfl, (fc_c hst).1, hp⟩, hM, by rw [ht]; exact hP, hD⟩, hS.F ht⟩
theorem wm_creturn (hC : wOK C cc nL own) {x : Int} {P : wPo} (hE : wEnd C (some .char) ad n P) (h0 : 0 ≤ x) (h1 : x < 65536) (hd : decode cc pc = .ok (.ireturn, 1)) (hp : P x I J R) : WM C ad n I J R 0 0 pc lv [vi x] := by
  obtain ⟨p, l, e, Rm, s, m, args, below, meth, c, Q, D, cY, A, nL', own'⟩ := C
  obtain ⟨hx, hb, hml, hown, hts, hK, hA, hlk, rfl, rfl⟩ := hC
  obtain ⟨rfl, rfl, hr⟩ := hE
  intro hM hlv hst H locs ls hP hD hS hl
  have hn : narrow .char (.int (Int32.ofInt x)) = .int (Int32.ofInt x) := by
    obtain ⟨q, rfl⟩ : ∃ q : Nat, x = q := ⟨x.toNat, by omega⟩
    exact (pk_charN (q := q) (by omega)).1
  refine W.zret hx hb hr hn (fun t ht hW => ?_) hS.2.2 hd hlk
  exact ⟨⟨_, (x, I, J, R), rfl, ⟨rfl, (fc_c hst).1, hp⟩, hM, by rw [ht]; exact hP, hD⟩, hS.F ht⟩
theorem wm_breturn (hC : wOK C cc nL own) {P : wPo} (hE : wEnd C (some .byte) ad n P) (hd : decode cc pc = .ok (.ireturn, 1)) (hp : P 0 I J R) : WM C ad n I J R 0 0 pc lv [vi 0] := by
  obtain ⟨p, l, e, Rm, s, m, args, below, meth, c, Q, D, cY, A, nL', own'⟩ := C
  obtain ⟨hx, hb, hml, hown, hts, hK, hA, hlk, rfl, rfl⟩ := hC
  obtain ⟨rfl, rfl, hr⟩ := hE
  intro hM hlv hst H locs ls hP hD hS hl
  refine W.zret hx hb hr rfl (fun t ht hW => ?_) hS.2.2 hd hlk
  exact ⟨⟨_, (0, I, J, R), rfl, ⟨rfl, (fc_c hst).1, hp⟩, hM, by rw [ht]; exact hP, hD⟩, hS.F ht⟩
theorem wm_lreturn (hC : wOK C cc nL own) {x : Int} {P : wPo} (hE : wEnd C (some .long) ad n P) (hd : decode cc pc = .ok (.lreturn, 1)) (hp : P x I J R) : WM C ad n I J R 0 0 pc lv [vl x] := by
  obtain ⟨p, l, e, Rm, s, m, args, below, meth, c, Q, D, cY, A, nL', own'⟩ := C
  obtain ⟨hx, hb, hml, hown, hts, hK, hA, hlk, rfl, rfl⟩ := hC
  obtain ⟨rfl, rfl, hr⟩ := hE
  intro hM hlv hst H locs ls hP hD hS hl
  refine W.lret hx hb hr (fun t ht hW => ?_) hS.2.2 hd hlk
  exact ⟨⟨_, (x, I, J, R), rfl, ⟨rfl, (fc_c hst).1, hp⟩, hM, by rw [ht]; exact hP, hD⟩, hS.F ht⟩
theorem wm_return (hC : wOK C cc nL own) {P : wPo} (hE : wEnd C none ad n P) (hd : decode cc pc = .ok (.return_, 1)) (hp : P 0 I J R) : WM C ad n I J R 0 0 pc lv [] := by
  obtain ⟨p, l, e, Rm, s, m, args, below, meth, c, Q, D, cY, A, nL', own'⟩ := C
  obtain ⟨hx, hb, hml, hown, hts, hK, hA, hlk, rfl, rfl⟩ := hC
  obtain ⟨rfl, rfl, hr⟩ := hE
  intro hM hlv hst H locs ls hP hD hS hl
  refine W.vret hx hb hr (fun t ht hW => ?_) hS.2.2 hd hlk
  exact ⟨⟨(0, I, J, R), rfl, hp, hM, by rw [ht]; exact hP, hD⟩, hS.F ht⟩
/-- what the tables say of a call -/
def wCB (own : String) (index : Nat) (y : MethodName) (cc : ByteArray) (nL : Nat) (ret : Option FieldType) (na : Nat) : Prop := Cond.methodLink own index y ∈ wT ∧ Cond.initialized y.cls ∈ wT ∧ Cond.code y cc nL ret ∈ wT ∧ (y.cls ≠ "java/lang/invoke/MethodHandle" ∧ y.cls ≠ "java/lang/invoke/VarHandle" ∧ (parseMethodDescriptor y.desc).map (fun d => d.parameters.length) = some na)
def wCV (own : String) (index : Nat) (y : MethodName) (cc : ByteArray) (nL : Nat) (ret : Option FieldType) (na ci : Nat) : Prop := wCB own index y cc nL ret na ∧ Cond.instanceMethod y ∈ wT ∧ Cond.selects y.cls y y ∈ wT ∧ ∃ q : vw_C, vwCl[ci]? = some q ∧ q.1 = y.cls ∧ ci < 20
def wCS (own : String) (index : Nat) (y : MethodName) (cc : ByteArray) (nL : Nat) (ret : Option FieldType) (na : Nat) : Prop := wCB own index y cc nL ret na ∧ Cond.static y ∈ wT
def wsum (st : List wV) : Nat := (st.map (fun v => if wc v then 2 else 1)).sum
theorem wsum_ok (ad : Nat → Nat) (st : List wV) : ((st.map (wv ad)).map fun v => v.category).sum = wsum st := by
  unfold wsum
  rw [List.map_map]
  congr 1
  apply List.map_congr_left
  intro v _
  show (wv ad v).category = _
  by_cases hc : wc v = true
  · rw [if_pos hc, cat2 hc]
  · rw [Bool.not_eq_true] at hc
    rw [hc, cat1 hc]
    rfl
theorem wPre_blind {b : Bool} {D : va_G} {cY : Nat → ClassId} {sz : Nat} {av : List wV} : FrameBlind (wPre b D cY ad n sz I J R av) := fun a U g mk q => by
  obtain ⟨q0, q1, qM, qa, qP, qK, qD, qS⟩ := q
  refine ⟨q0, q1, qM, qa, qP, va_K.moved (u := U) (U := U.calling g mk a) (Vm.Alike.refl U.vm) qK, qD, fun hb => ?_⟩
  obtain ⟨h1, h2, h3, h4, h5⟩ := qS hb
  refine ⟨vk_S.moved (u := U) (U := U.calling g mk a) (Vm.Alike.refl U.vm) h1, vk_R.same (u := U) (U := U.calling g mk a) rfl h2, vk_R.same (u := U) (U := U.calling g mk a) rfl h3, va_Z.moved (u := U) (U := U.calling g mk a) (Vm.Alike.refl U.vm) h4, ?_⟩
  rcases h5 with h5 | h5
  · exact Or.inl (va_Z.moved (u := U) (U := U.calling g mk a) (Vm.Alike.refl U.vm) h5)
  · exact Or.inr (va_Z.moved (u := U) (U := U.calling g mk a) (Vm.Alike.refl U.vm) h5)
theorem wA_in {A : Nat → Prop} {cY : Nat → ClassId} {sz : Nat} (hD : va_D A (wW cY ad n I J R)) (hA : ∀ q, sz ≤ q → A q) : ∀ q, wA ad n sz q → A q := by
  intro q hq
  rcases hq with ⟨i, hi, rfl⟩ | h
  · exact hD.2 i (ad (i + 1), wE cY ad I J R (i + 1)) (by unfold wW; rw [List.getElem?_map, List.getElem?_range hi]; rfl)
  · exact hA q h
theorem callB_w {Rm : Room} {s : State} {args : Array Value} {index : Nat} {y : MethodName} {bytes : ByteArray} {mL fr lo na : Nat} {ret : Option FieldType} {rfr rlo cs sl : Nat} (hts : ∀ w ∈ wT, w.before args s = true) (hB : wCB own index y bytes mL ret na) (hRm : Rm = { frames := rfr, cells := cs, slots := sl, locals := rlo }) (hf : fr + 1 ≤ rfr) (hlo : 8 + (mL + 11) + lo ≤ rlo) :
    CallB Rm s args own index y bytes mL ret (Cond.code y bytes mL ret :: wT) (wRoom fr lo) 0 0 na := by
  obtain ⟨b1, b2, b3, b4⟩ := hB
  exact ⟨rfl, rfl, by rw [hRm]; exact hf, by rw [hRm]; exact hlo, wT_pay2 hts b3, List.mem_cons_self, hts _ b3, hts _ b2, ⟨b4.1, b4.2.1⟩, wT_sig b4.2.2, hts _ b1⟩
/-- behind a call of a method that makes nothing -/
theorem w_after {A : Nat → Prop} {D : va_G} {cY : Nat → ClassId} {H : Heap} {u : wS} {t : State} {H1 : Heap} (hF : ∀ q, wA ad n H.size q → A q) (ht : t.heap = H1) (hB : wB D cY ad n H.size u t) : wM n u.2.1 u.2.2.1 u.2.2.2 ∧ va_P D vwCl (wW cY ad n u.2.1 u.2.2.1 u.2.2.2) H1 ∧ va_D A (wW cY ad n u.2.1 u.2.2.1 u.2.2.2) := by
  obtain ⟨h1, h2, h3⟩ := hB
  exact ⟨h1, by rw [← ht]; exact h2, h3.weaken (fun k q _ h => hF q.1 h)⟩
/-- after the call: how the walk goes on, by the kind of the answer -/
def wGo (C : wX) (ad : Nat → Nat) (n ks ss pc : Nat) (lv : List (Nat × wV)) (st : List wV) (ret : Option FieldType) (P : wPo) : Prop := ∀ (r : Int) (I J : mI) (R : mR), (if ret = none then r = 0 else if ret = some .long then rl r else rg r) → P r I J R → WM C ad n I J R ks ss pc lv (if ret = none then st else if ret = some .long then vl r :: st else vi r :: st)
theorem wm_goes {p : Program} {l : Launch} {e : Env} {Rm : Room} {s : State} {m : MethodId} {args : Array Value} {below : List Frame} {meth : Method} {c : Code} {Q : State → Prop} {D : va_G} {cY : Nat → ClassId} {A : Nat → Prop} {H : Heap} {locs : List Loc} {ls : Array Slot} {st0 : List Value} {ret : Option FieldType} {P : wPo} {a : Array Value}
    (hr : va_Run p l e Rm s m args below meth c H locs ks ss 0 0 (F0 m pc ls st0) (st.map (wv ad)) (wQ ret D cY ad n H.size P a) (wA ad n H.size)) (hret : ret = none ∨ ret = some .long ∨ ret = some .int ∨ ret = some .boolean ∨ ret = some .char ∨ ret = some .byte)
    (hlv : ∀ q ∈ lv, wok n q.2) (hst : ∀ v ∈ st, wok n v) (hS : va_S A s.heap H locs) (hF : ∀ q, wA ad n H.size q → A q) (hl : lv_has ls nL (lvm ad lv)) (kk : wGo (p, l, e, Rm, s, m, args, below, meth, c, Q, D, cY, A, nL, own) ad n ks ss (pc + 3) lv st ret P) : W p l e Rm s m args below meth c H locs ks ss Q (F0 m pc ls st0) := by
  rcases hret with rfl | rfl | rfl | rfl | rfl | rfl
  · refine va_callv (show va_Run p l e Rm s m args below meth c H locs ks ss 0 0 (F0 m pc ls st0) (st.map (wv ad)) (va_Qv _ _ _ a) _ from hr) hS (fun q _ h => hF q h) hF (fun u t H1 locs1 ht hvm hp hB hz hk hS => ?_)
    obtain ⟨hM, hP, hD⟩ := w_after hF ht hB
    exact kk 0 u.2.1 u.2.2.1 u.2.2.2 rfl hp hM hlv hst H1 locs1 ls hP hD hS hl
  · refine va_calll (show va_Run p l e Rm s m args below meth c H locs ks ss 0 0 (F0 m pc ls st0) (st.map (wv ad)) (va_Ql _ _ _ a) _ from hr) hS (fun q _ h => hF q h) hF (fun r u t H1 locs1 ht hvm hp hB hz hk hS => ?_)
    obtain ⟨hM, hP, hD⟩ := w_after hF ht hB
    obtain ⟨rfl, hg, hp⟩ := hp
    exact kk u.1 u.2.1 u.2.2.1 u.2.2.2 hg hp hM hlv (fc_i hg hst) H1 locs1 ls hP hD hS hl
  · refine va_calli (show va_Run p l e Rm s m args below meth c H locs ks ss 0 0 (F0 m pc ls st0) (st.map (wv ad)) (va_Qi _ _ _ a) _ from hr) hS (fun q _ h => hF q h) hF (fun r u t H1 locs1 ht hvm hp hB hz hk hS => ?_)
    obtain ⟨hM, hP, hD⟩ := w_after hF ht hB
    obtain ⟨rfl, hg, hp⟩ := hp
    exact kk u.1 u.2.1 u.2.2.1 u.2.2.2 hg hp hM hlv (fc_i hg hst) H1 locs1 ls hP hD hS hl
  · refine va_calli (show va_Run p l e Rm s m args below meth c H locs ks ss 0 0 (F0 m pc ls st0) (st.map (wv ad)) (va_Qi _ _ _ a) _ from hr) hS (fun q _ h => hF q h) hF (fun r u t H1 locs1 ht hvm hp hB hz hk hS => ?_)
    obtain ⟨hM, hP, hD⟩ := w_after hF ht hB
    obtain ⟨rfl, hg, hp⟩ := hp
    exact kk u.1 u.2.1 u.2.2.1 u.2.2.2 hg hp hM hlv (fc_i hg hst) H1 locs1 ls hP hD hS hl
  · refine va_calli (show va_Run p l e Rm s m args below meth c H locs ks ss 0 0 (F0 m pc ls st0) (st.map (wv ad)) (va_Qi _ _ _ a) _ from hr) hS (fun q _ h => hF q h) hF (fun r u t H1 locs1 ht hvm hp hB hz hk hS => ?_)
    obtain ⟨hM, hP, hD⟩ := w_after hF ht hB
    obtain ⟨rfl, hg, hp⟩ := hp
    exact kk u.1 u.2.1 u.2.2.1 u.2.2.2 hg hp hM hlv (fc_i hg hst) H1 locs1 ls hP hD hS hl
  · refine va_calli (show va_Run p l e Rm s m args below meth c H locs ks ss 0 0 (F0 m pc ls st0) (st.map (wv ad)) (va_Qi _ _ _ a) _ from hr) hS (fun q _ h => hF q h) hF (fun r u t H1 locs1 ht hvm hp hB hz hk hS => ?_)
    obtain ⟨hM, hP, hD⟩ := w_after hF ht hB
    obtain ⟨rfl, hg, hp⟩ := hp
    exact kk u.1 u.2.1 u.2.2.1 u.2.2.2 hg hp hM hlv (fc_i hg hst) H1 locs1 ls hP hD hS hl
/-- the arguments on the stack, the last on top -/
theorem wm_callV (hC : wOK C cc nL own) {rfr rlo cs sl : Nat} (hRm : wRm C rfr rlo cs sl) {sb : Bool} (hsb : sb = true → wStrC C ad) {index : Nat} {y : MethodName} {bytes : ByteArray} {mL fr lo na ci b : Nat} {ret : Option FieldType} {av : List wV} {P : wPo} (hM0 : wMet y bytes mL ret fr lo sb ad n I J R (vr b :: av) P) (hV : wCV own index y bytes mL ret na ci) (hkb : kK b = ci) (hret : ret = none ∨ ret = some .long ∨ ret = some .int ∨ ret = some .boolean ∨ ret = some .char ∨ ret = some .byte) (hfr : fr + 1 ≤ rfr) (hlo : 8 + (mL + 11) + lo ≤ rlo) (hcs : ks ≤ cs ∧ ss ≤ sl) (hna : av.length = na) {st0 : List wV} (hst0 : st0 = av.reverse ++ vr b :: st) (hsum : wsum st ≤ 8) (hd : decode cc pc = .ok (.invokevirtual index, 3)) (kk : wGo C ad n ks ss (pc + 3) lv st ret P) : WM C ad n I J R ks ss pc lv st0 := by
  obtain ⟨p, l, e, Rm, s, m, args, below, meth, c, Q, D, cY, A, nL', own'⟩ := C
  obtain ⟨hx, hb, hml, hown, hts, hK, hA, hlk, rfl, rfl⟩ := hC
  obtain ⟨hB, hV2, hV3, q, hV4, hV5, hV6⟩ := hV
  subst hst0
  intro hM hlv hst H locs ls hP hD hS hl
  have h0 : b ≠ 0 := k_ne0 hkb (by omega)
  have hF : ∀ q, wA ad n H.size q → A q := wA_in hD (fun q hq => hA q (Nat.le_trans hS.1 hq))
  have hokb : wok n (vr b) := hst _ (List.mem_append_right _ List.mem_cons_self)
  have hokst : ∀ v ∈ st, wok n v := fun v hv => hst v (List.mem_append_right _ (List.mem_cons_of_mem _ hv))
  have hokav : ∀ v ∈ av, wok n v := fun v hv => hst v (List.mem_append_left _ (List.mem_reverse.mpr hv))
  have hcw : CallW Rm s args own' y.cls index y bytes mL ret (Cond.code y bytes mL ret :: wT) (wRoom fr lo) 0 0 na := ⟨callB_w hts hB hRm hfr hlo, hts _ hV2, hts _ hV3⟩
  have hrecv := va_recv hK hP (ci := ci) (q0 := b - 1) hV4 ((wW_get h0 (wok_le hokb hkb (by omega))).trans (by rw [wE_obj hkb hV6]))
  rw [hV5] at hrecv
  have hPre : PreV s H y.cls (ad b) (wPre sb D cY ad n H.size I J R (vr b :: av)) (av.map (wv ad)) := ⟨wPre_blind, hrecv, fun U hU hW => ⟨by rw [List.map_cons, w_ref h0], by rw [hU], hM, fc_i hokb hokav, by rw [hU]; exact hP, va_K.moved hW.alike hK, hD.weaken (fun _ _ _ _ => trivial), fun h => by rw [hU]; exact wStr_to (hsb h) hS.2.1 hW hF⟩⟩
  refine wm_goes (own := own') (va_runV (As := av.map (wv ad)) (rest := st.map (wv ad)) ⟨hx, hb, hml, hown, hts⟩ (hM0 l D cY H.size) hcw hPre rfl (by rw [List.length_map]; exact hna) hl.1 ?_ (lv_room (by rw [wsum_ok]; exact hsum)) hd (by rw [show Rm = _ from hRm]; exact hcs)) hret hlv hokst hS hF hl kk
  show List.map (wv ad) (av.reverse ++ vr b :: st) = _
  rw [List.map_append, List.map_cons, List.map_reverse, w_ref h0]
theorem wm_callS (hC : wOK C cc nL own) {rfr rlo cs sl : Nat} (hRm : wRm C rfr rlo cs sl) {sb : Bool} (hsb : sb = true → wStrC C ad) {index : Nat} {y : MethodName} {bytes : ByteArray} {mL fr lo na : Nat} {ret : Option FieldType} {av : List wV} {P : wPo} (hM0 : wMet y bytes mL ret fr lo sb ad n I J R av P) (hV : wCS own index y bytes mL ret na) (hret : ret = none ∨ ret = some .long ∨ ret = some .int ∨ ret = some .boolean ∨ ret = some .char ∨ ret = some .byte) (hfr : fr + 1 ≤ rfr) (hlo : 8 + (mL + 11) + lo ≤ rlo) (hcs : ks ≤ cs ∧ ss ≤ sl) (hna : av.length = na) {st0 : List wV} (hst0 : st0 = av.reverse ++ st) (hsum : wsum st ≤ 8) (hd : decode cc pc = .ok (.invokestatic index, 3)) (kk : wGo C ad n ks ss (pc + 3) lv st ret P) : WM C ad n I J R ks ss pc lv st0 := by
  obtain ⟨p, l, e, Rm, s, m, args, below, meth, c, Q, D, cY, A, nL', own'⟩ := C
  obtain ⟨hx, hb, hml, hown, hts, hK, hA, hlk, rfl, rfl⟩ := hC
  obtain ⟨hB, hV2⟩ := hV
  subst hst0
  intro hM hlv hst H locs ls hP hD hS hl
  have hF : ∀ q, wA ad n H.size q → A q := wA_in hD (fun q hq => hA q (Nat.le_trans hS.1 hq))
  have hokst : ∀ v ∈ st, wok n v := fun v hv => hst v (List.mem_append_right _ hv)
  have hokav : ∀ v ∈ av, wok n v := fun v hv => hst v (List.mem_append_left _ (List.mem_reverse.mpr hv))
  have hPre : PreS s H (wPre sb D cY ad n H.size I J R av) (av.map (wv ad)) := ⟨wPre_blind, fun U hU hW => ⟨rfl, by rw [hU], hM, hokav, by rw [hU]; exact hP, va_K.moved hW.alike hK, hD.weaken (fun _ _ _ _ => trivial), fun h => by rw [hU]; exact wStr_to (hsb h) hS.2.1 hW hF⟩⟩
  refine wm_goes (own := own') (va_runS (As := av.map (wv ad)) (rest := st.map (wv ad)) ⟨hx, hb, hml, hown, hts⟩ (hM0 l D cY H.size) ⟨callB_w hts hB hRm hfr hlo, hts _ hV2⟩ hPre rfl (by rw [List.length_map]; exact hna) hl.1 ?_ (lv_room (by rw [wsum_ok]; exact hsum)) hd (by rw [show Rm = _ from hRm]; exact hcs)) hret hlv hokst hS hF hl kk
  show List.map (wv ad) (av.reverse ++ st) = _
  rw [List.map_append, List.map_reverse]
/-- System.arraycopy of ints -/
def cpy (I : mI) (a0 : Nat) (sp : Int) (a : Nat) (dp len : Int) : mI := fun b j => if b = a ∧ dp ≤ j ∧ j < dp + len then I a0 (sp + (j - dp)) else I b j
theorem wm_copyi (hC : wOK C cc nL own) {rfr rlo cs sl : Nat} (hRm : wRm C rfr rlo cs sl) {index a0 a : Nat} {sp dp len : Int} (hk0 : kK a0 = 21) (hk1 : kK a = 21) (h1 : 0 ≤ sp) (h2 : 0 ≤ dp) (h3 : 0 ≤ len) (h4 : sp + len ≤ kN a0) (h5 : dp + len ≤ kN a) (hw1 : Cond.methodLink own index arraycopyName ∈ wT) (hw2 : Cond.native arraycopyName ∈ wT) (hw3 : Cond.static arraycopyName ∈ wT) (hw4 : Cond.initialized "java/lang/System" ∈ wT) (hfr : 1 ≤ rfr) (hlo : wsum st + (nativeFrameWords "java/lang/System" "arraycopy" 5 + 11) ≤ rlo) (hd : decode cc pc = .ok (.invokestatic index, 3)) (kk : WM C ad n (cpy I a0 sp a dp len) J R ks ss (pc + 3) lv st) : WM C ad n I J R ks ss pc lv (vi len :: vi dp :: vr a :: vi sp :: vr a0 :: st) := by
  obtain ⟨p, l, e, Rm, s, m, args, below, meth, c, Q, D, cY, A, nL', own'⟩ := C
  obtain ⟨hx, hb, hml, hown, hts, hK, hA, hlk, rfl, rfl⟩ := hC
  intro hM hlv hst H locs ls hP hD hS hl
  obtain ⟨rlen, hst⟩ := fc_c hst
  obtain ⟨rdp, hst⟩ := fc_c hst
  obtain ⟨ra, hst⟩ := fc_c hst
  obtain ⟨rsp, hst⟩ := fc_c hst
  obtain ⟨ra0, hst⟩ := fc_c hst
  have n0 : a0 ≠ 0 := k_ne0 hk0 (by omega)
  have n1 : a ≠ 0 := k_ne0 hk1 (by omega)
  have c1 := i32_clamp rsp h1
  have c2 := i32_clamp rdp h2
  have c3 := i32_clamp rlen h3
  rw [List.map_cons, List.map_cons, List.map_cons, List.map_cons, List.map_cons, w_ref n0, w_ref n1]
  refine va_copyi hx hb (hml.trans hl.1.symm) hown (hts _ hw1) (hts _ hw2) (hts _ hw3) (hts _ hw4) hK hP hD hS (a0 - 1) (a - 1) 1 1 ((wW_get n0 (wok_le ra0 hk0 (by omega))).trans (by rw [wE_int hk0 (by omega)])) ((wW_get n1 (wok_le ra hk1 (by omega))).trans (by rw [wE_int hk1 (by omega)])) rfl rfl rfl
    (fun q => by rw [i32_0, i32_lt rsp rg0] at q; omega) (fun q => by rw [i32_0, i32_lt rdp rg0] at q; omega) (fun q => by rw [i32_0, i32_lt rlen rg0] at q; omega) (by omega) (by omega) (fun i _ => rfl) (by rw [show Rm = _ from hRm]; exact hfr) (by rw [wsum_ok, show Rm = _ from hRm]; exact hlo) hd (fun H1 locs1 hP hD hS => ?_)
  have hset := wW_set (cY := cY) (ad := ad) (n := n) (I := I) (J := J) (R := R) (I2 := cpy I a0 sp a dp len) (J2 := J) (R2 := R) (e := .inl (cY 21, kN a, .inl (va_cpy (fun j : Nat => Int32.ofInt (I a0 j)) (fun j : Nat => Int32.ofInt (I a j)) (Int32.ofInt sp).toNatClampNeg (Int32.ofInt dp).toNatClampNeg (Int32.ofInt len).toNatClampNeg))) n1 (wok_le ra hk1 (by omega)) (fun b hb2 => wE_ne (fun j => by unfold cpy; rw [if_neg (fun q => hb2 q.1)]) (fun _ => rfl) (fun _ => rfl)) (by
    rw [wE_int hk1 (by omega)]
    congr 3
    congr 1
    funext j
    unfold cpy va_cpy
    by_cases hj : (Int32.ofInt dp).toNatClampNeg ≤ j ∧ j < (Int32.ofInt dp).toNatClampNeg + (Int32.ofInt len).toNatClampNeg
    · rw [if_pos hj, if_pos ⟨rfl, by omega, by omega⟩]
      congr 2
      omega
    · rw [if_neg hj, if_neg (by omega)])
  rw [hset] at hP hD
  exact kk ⟨fun b j => by unfold cpy; split; exact hM.1 _ _; exact hM.1 _ _, hM.2⟩ hlv hst H1 locs1 ls hP hD hS hl
theorem wm_iushr (hC : wOK C cc nL own) {x y : Int} (hd : decode cc pc = .ok (.iushr, 1)) (k : WM C ad n I J R ks ss (pc + 1) lv (vi ((Int32.ofInt x).toUInt32 >>> ((Int32.ofInt y).toUInt32 &&& Int32.toUInt32 31)).toInt32.toInt :: st)) : WM C ad n I J R ks ss pc lv (vi y :: vi x :: st) := by
  obtain ⟨p, l, e, Rm, s, m, args, below, meth, c, Q, D, cY, A, nL', own'⟩ := C
  obtain ⟨hx, hb, hml, hown, hts, hK, hA, hlk, rfl, rfl⟩ := hC
  intro hM hlv hst H locs ls hP hD hS hl
  exact lv_iushr hx hb hd (Int32.ofInt_toInt _).symm (k hM hlv (fc_i (rg_i32 _) (fc_c (fc_c hst).2).2) H locs ls hP hD hS hl)
end R4
