/-! THE FLAT MEMORY: every object that the constructors make has a number; ints, longs and references are three functions of (object, place). One judgement WM hides heap, locals' array and frame. -/
abbrev wV : Type := Int ⊕ Int ⊕ Nat
abbrev vi (x : Int) : wV := Sum.inl x
abbrev vl (x : Int) : wV := Sum.inr (Sum.inl x)
abbrev vr (a : Nat) : wV := Sum.inr (Sum.inr a)
abbrev rg (x : Int) : Prop := -2147483648 ≤ x ∧ x < 2147483648
abbrev rl (x : Int) : Prop := -9223372036854775808 ≤ x ∧ x < 9223372036854775808
abbrev mI : Type := Nat → Int → Int
abbrev mR : Type := Nat → Int → Nat
def up {α : Type} (I : Nat → Int → α) (a : Nat) (k : Int) (v : α) : Nat → Int → α := fun b j => if b = a ∧ j = k then v else I b j
def wrf (ad : Nat → Nat) (a : Nat) : Value := if a = 0 then .null else .ref (ad a)
def wrn (ad : Nat → Nat) (a : Nat) : Option Nat := if a = 0 then none else some (ad a)
def wv (ad : Nat → Nat) (v : wV) : Value := match v with
  | .inl x => .int (Int32.ofInt x)
  | .inr (.inl x) => .long (Int64.ofInt x)
  | .inr (.inr a) => wrf ad a
def wok (n : Nat) (v : wV) : Prop := match v with
  | .inl x => rg x
  | .inr (.inl x) => rl x
  | .inr (.inr a) => a ≤ n ∨ 900 ≤ a
def wc (v : wV) : Bool := match v with
  | .inl _ => false
  | .inr (.inl _) => true
  | .inr (.inr _) => false
theorem wc_ok (ad : Nat → Nat) (v : wV) : ((wv ad v).category == 2) = wc v := by
  rcases v with x | x | a
  · rfl
  · rfl
  · show ((wrf ad a).category == 2) = false
    unfold wrf
    split <;> rfl
def wF (ad : Nat → Nat) (t : Nat) (I J : mI) (R : mR) (a k : Nat) : Value := if t = 0 then .int (Int32.ofInt (I a k)) else if t = 1 then .long (Int64.ofInt (J a k)) else wrf ad (R a k)
def wFs (ad : Nat → Nat) (c : Nat) (I J : mI) (R : mR) (a : Nat) : List Value := (List.range (kF c)).map (fun k => wF ad (kT c k) I J R a k)
def wE (cY : Nat → ClassId) (ad : Nat → Nat) (I J : mI) (R : mR) (a : Nat) : va_E :=
  if kK a < 20 then .inr (kK a, wFs ad (kK a) I J R a)
  else if kK a = 22 then .inl (cY 22, kN a, .inr (.inl (fun j => Int64.ofInt (J a j))))
  else if kK a = 24 then .inl (cY 24, kN a, .inr (.inr (.inr (.inr (fun j => wrn ad (R a j))))))
  else .inl (cY (kK a), kN a, .inl (fun j => Int32.ofInt (I a j)))
def wW (cY : Nat → ClassId) (ad : Nat → Nat) (n : Nat) (I J : mI) (R : mR) : va_W := (List.range n).map (fun i => (ad (i + 1), wE cY ad I J R (i + 1)))
abbrev wtys (cY : Nat → ClassId) : List (ClassId × FieldType) := [(cY 20, .byte), (cY 21, .int), (cY 22, .long), (cY 23, .boolean), (cY 24, .object "BlindColours$State")]
def wM (n : Nat) (I J : mI) (R : mR) : Prop := (∀ a k, rg (I a k)) ∧ (∀ a k, rl (J a k)) ∧ ∀ a k, R a k ≤ n
/-- the fixed things of a method's walk -/
abbrev wX : Type := Program × Launch × Env × Room × State × MethodId × Array Value × List Frame × Method × Code × (State → Prop) × va_G × (Nat → ClassId) × (Nat → Prop) × Nat × String
def goodW (w : Cond) : Bool := goodWord w || (match w with | .methodLinkNest _ _ _ _ => true | .arrayOver (.object _) => true | _ => false)
def wT : List Cond := lw_tbl.filter goodW
def wOK (C : wX) (cc : ByteArray) (nL : Nat) (own : String) : Prop := match C with
  | (p, _, _, _, s, m, args, _, meth, c, _, D, cY, A, nL', own') => p.tables.exec = Jvm.exec ∧ c.code = cc ∧ c.maxLocals = nL ∧ s.vm.findClass own = some m.cls ∧ (∀ w ∈ wT, w.before args s = true) ∧ va_K D vwCl (wtys cY) s ∧ (∀ q, s.heap.size ≤ q → A q) ∧ meth.locks = false ∧ nL' = nL ∧ own' = own
def lvm (ad : Nat → Nat) (lv : List (Nat × wV)) : List (Nat × Value) := lv.map (fun q => (q.1, wv ad q.2))
def WM (C : wX) (ad : Nat → Nat) (n : Nat) (I J : mI) (R : mR) (ks ss pc : Nat) (lv : List (Nat × wV)) (st : List wV) : Prop := match C with
  | (p, l, e, Rm, s, m, args, below, meth, c, Q, D, cY, A, nL, _) => wM n I J R → (∀ q ∈ lv, wok n q.2) → (∀ v ∈ st, wok n v) → ∀ (H : Heap) (locs : List Loc) (ls : Array Slot), va_P D vwCl (wW cY ad n I J R) H → va_D A (wW cY ad n I J R) → va_S A s.heap H locs → lv_has ls nL (lvm ad lv) → W p l e Rm s m args below meth c H locs ks ss Q (F0 m pc ls (st.map (wv ad)))
section R1
variable {C : wX} {cc : ByteArray} {nL : Nat} {own : String} {ad : Nat → Nat} {n : Nat} {I J : mI} {R : mR} {ks ss pc : Nat} {lv : List (Nat × wV)} {st : List wV}
theorem fc_c {P : wV → Prop} {a : wV} {l : List wV} (h : ∀ v ∈ a :: l, P v) : P a ∧ ∀ v ∈ l, P v := List.forall_mem_cons.mp h
theorem fc_i {P : wV → Prop} {a : wV} {l : List wV} (h : P a) (h2 : ∀ v ∈ l, P v) : ∀ v ∈ a :: l, P v := List.forall_mem_cons.mpr ⟨h, h2⟩
theorem rg_i32 (x : Int32) : rg x.toInt := ⟨Int32.le_toInt x, Int32.toInt_lt x⟩
theorem rl_i64 (x : Int64) : rl x.toInt := ⟨Int64.le_toInt x, Int64.toInt_lt x⟩
theorem i32_toInt {x : Int} (h : rg x) : (Int32.ofInt x).toInt = x := Int32.toInt_ofInt_of_le (by omega) (by omega)
theorem i64_toInt {x : Int} (h : rl x) : (Int64.ofInt x).toInt = x := Int64.toInt_ofInt_of_le (by omega) (by omega)
theorem i32_lt {x y : Int} (hx : rg x) (hy : rg y) : Int32.ofInt x < Int32.ofInt y ↔ x < y := by rw [Int32.lt_iff_toInt_lt, i32_toInt hx, i32_toInt hy]
theorem i32_le {x y : Int} (hx : rg x) (hy : rg y) : Int32.ofInt x ≤ Int32.ofInt y ↔ x ≤ y := by rw [Int32.le_iff_toInt_le, i32_toInt hx, i32_toInt hy]
theorem i32_eq {x y : Int} (hx : rg x) (hy : rg y) : Int32.ofInt x = Int32.ofInt y ↔ x = y := by rw [← Int32.toInt_inj, i32_toInt hx, i32_toInt hy]
theorem i64_lt {x y : Int} (hx : rl x) (hy : rl y) : Int64.ofInt x < Int64.ofInt y ↔ x < y := by rw [Int64.lt_iff_toInt_lt, i64_toInt hx, i64_toInt hy]
theorem i64_le {x y : Int} (hx : rl x) (hy : rl y) : Int64.ofInt x ≤ Int64.ofInt y ↔ x ≤ y := by rw [Int64.le_iff_toInt_le, i64_toInt hx, i64_toInt hy]
theorem i64_eq {x y : Int} (hx : rl x) (hy : rl y) : Int64.ofInt x = Int64.ofInt y ↔ x = y := by rw [← Int64.toInt_inj, i64_toInt hx, i64_toInt hy]
theorem rg0 : rg 0 := by omega
theorem i32_0 : (0 : Int32) = Int32.ofInt 0 := rfl
theorem i64_0 : (0 : Int64) = Int64.ofInt 0 := rfl
-- constants
theorem wm_iconst (hC : wOK C cc nL own) {x : Int} (hd : decode cc pc = .ok (.iconst x, 1)) (hr : rg x := by omega) (k : WM C ad n I J R ks ss (pc + 1) lv (vi x :: st)) : WM C ad n I J R ks ss pc lv st := by
  obtain ⟨p, l, e, Rm, s, m, args, below, meth, c, Q, D, cY, A, nL', own'⟩ := C
  obtain ⟨hx, hb, hml, hown, hts, hK, hA, hlk, rfl, rfl⟩ := hC
  intro hM hlv hst H locs ls hP hD hS hl
  exact lv_iconst hx hb hd rfl (k hM hlv (fc_i hr hst) H locs ls hP hD hS hl)
theorem wm_bipush (hC : wOK C cc nL own) {x : Int} (hd : decode cc pc = .ok (.bipush x, 2)) (hv : (Int8.ofInt x).toInt32 = Int32.ofInt x := by decide) (hr : rg x := by omega) (k : WM C ad n I J R ks ss (pc + 2) lv (vi x :: st)) : WM C ad n I J R ks ss pc lv st := by
  obtain ⟨p, l, e, Rm, s, m, args, below, meth, c, Q, D, cY, A, nL', own'⟩ := C
  obtain ⟨hx, hb, hml, hown, hts, hK, hA, hlk, rfl, rfl⟩ := hC
  intro hM hlv hst H locs ls hP hD hS hl
  exact lv_bipush hx hb hd hv (k hM hlv (fc_i hr hst) H locs ls hP hD hS hl)
theorem wm_sipush (hC : wOK C cc nL own) {x : Int} (hd : decode cc pc = .ok (.sipush x, 3)) (hv : (Int16.ofInt x).toInt32 = Int32.ofInt x := by decide) (hr : rg x := by omega) (k : WM C ad n I J R ks ss (pc + 3) lv (vi x :: st)) : WM C ad n I J R ks ss pc lv st := by
  obtain ⟨p, l, e, Rm, s, m, args, below, meth, c, Q, D, cY, A, nL', own'⟩ := C
  obtain ⟨hx, hb, hml, hown, hts, hK, hA, hlk, rfl, rfl⟩ := hC
  intro hM hlv hst H locs ls hP hD hS hl
  exact lv_sipush hx hb hd hv (k hM hlv (fc_i hr hst) H locs ls hP hD hS hl)
theorem wm_ldc (hC : wOK C cc nL own) {x : Int} {index : Nat} {v : Int32} (hw : Cond.constant own index v ∈ wT) (hv : v = Int32.ofInt x) (hd : decode cc pc = .ok (.ldc index, 2)) (hr : rg x := by omega) (k : WM C ad n I J R ks ss (pc + 2) lv (vi x :: st)) : WM C ad n I J R ks ss pc lv st := by
  obtain ⟨p, l, e, Rm, s, m, args, below, meth, c, Q, D, cY, A, nL', own'⟩ := C
  obtain ⟨hx, hb, hml, hown, hts, hK, hA, hlk, rfl, rfl⟩ := hC
  subst hv
  intro hM hlv hst H locs ls hP hD hS hl
  exact lv_ldc hx hb hown (hts _ hw) hd (k hM hlv (fc_i hr hst) H locs ls hP hD hS hl)
theorem wm_ldc2 (hC : wOK C cc nL own) {x : Int} {index : Nat} {v : Int64} (hw : Cond.constantLong own index v ∈ wT) (hv : v = Int64.ofInt x) (hd : decode cc pc = .ok (.ldc2_w index, 3)) (hr : rl x := by omega) (k : WM C ad n I J R ks ss (pc + 3) lv (vl x :: st)) : WM C ad n I J R ks ss pc lv st := by
  obtain ⟨p, l, e, Rm, s, m, args, below, meth, c, Q, D, cY, A, nL', own'⟩ := C
  obtain ⟨hx, hb, hml, hown, hts, hK, hA, hlk, rfl, rfl⟩ := hC
  subst hv
  intro hM hlv hst H locs ls hP hD hS hl
  exact lv_ldc2 hx hb hown (hts _ hw) hd (k hM hlv (fc_i hr hst) H locs ls hP hD hS hl)
theorem wm_lconst (hC : wOK C cc nL own) {x : Int} {q : Fin 2} (hd : decode cc pc = .ok (.lconst q, 1)) (hv : Int64.ofNat (q : Nat) = Int64.ofInt x := by rfl) (hr : rl x := by omega) (k : WM C ad n I J R ks ss (pc + 1) lv (vl x :: st)) : WM C ad n I J R ks ss pc lv st := by
  obtain ⟨p, l, e, Rm, s, m, args, below, meth, c, Q, D, cY, A, nL', own'⟩ := C
  obtain ⟨hx, hb, hml, hown, hts, hK, hA, hlk, rfl, rfl⟩ := hC
  intro hM hlv hst H locs ls hP hD hS hl
  exact lv_lconst hx hb hd hv (k hM hlv (fc_i hr hst) H locs ls hP hD hS hl)
-- locals
theorem lvm_at {ls : Array Slot} {v : wV} {i : Nat} (h : lv_has ls nL (lvm ad lv)) (j : Nat) (hj : lv[j]? = some (i, v)) : ls[i]? = some (.val (wv ad v)) := lv_at h j (by unfold lvm; rw [List.getElem?_map, hj]; rfl)
theorem lvm_mem {P : wV → Prop} {v : wV} {i : Nat} (h : ∀ q ∈ lv, P q.2) (j : Nat) (hj : lv[j]? = some (i, v)) : P v := h (i, v) (List.mem_of_getElem? hj)
theorem wm_iload_n (hC : wOK C cc nL own) (j : Nat) {q : Fin 4} {x : Int} (hd : decode cc pc = .ok (.iload_n q, 1)) (hj : lv[j]? = some ((q : Nat), vi x)) (k : WM C ad n I J R ks ss (pc + 1) lv (vi x :: st)) : WM C ad n I J R ks ss pc lv st := by
  obtain ⟨p, l, e, Rm, s, m, args, below, meth, c, Q, D, cY, A, nL', own'⟩ := C
  obtain ⟨hx, hb, hml, hown, hts, hK, hA, hlk, rfl, rfl⟩ := hC
  intro hM hlv hst H locs ls hP hD hS hl
  exact lv_iload_n hx hb hd rfl (lvm_at hl j hj) (k hM hlv (fc_i (lvm_mem hlv j hj) hst) H locs ls hP hD hS hl)
theorem wm_iload (hC : wOK C cc nL own) (j : Nat) {q : Nat} {x : Int} (hd : decode cc pc = .ok (.iload q, 2)) (hj : lv[j]? = some (q, vi x)) (k : WM C ad n I J R ks ss (pc + 2) lv (vi x :: st)) : WM C ad n I J R ks ss pc lv st := by
  obtain ⟨p, l, e, Rm, s, m, args, below, meth, c, Q, D, cY, A, nL', own'⟩ := C
  obtain ⟨hx, hb, hml, hown, hts, hK, hA, hlk, rfl, rfl⟩ := hC
  intro hM hlv hst H locs ls hP hD hS hl
  exact lv_iload hx hb hd (lvm_at hl j hj) (k hM hlv (fc_i (lvm_mem hlv j hj) hst) H locs ls hP hD hS hl)
theorem wm_lload_n (hC : wOK C cc nL own) (j : Nat) {q : Fin 4} {x : Int} (hd : decode cc pc = .ok (.lload_n q, 1)) (hj : lv[j]? = some ((q : Nat), vl x)) (k : WM C ad n I J R ks ss (pc + 1) lv (vl x :: st)) : WM C ad n I J R ks ss pc lv st := by
  obtain ⟨p, l, e, Rm, s, m, args, below, meth, c, Q, D, cY, A, nL', own'⟩ := C
  obtain ⟨hx, hb, hml, hown, hts, hK, hA, hlk, rfl, rfl⟩ := hC
  intro hM hlv hst H locs ls hP hD hS hl
  exact lv_lload_n hx hb hd rfl (lvm_at hl j hj) (k hM hlv (fc_i (lvm_mem hlv j hj) hst) H locs ls hP hD hS hl)
theorem wm_lload (hC : wOK C cc nL own) (j : Nat) {q : Nat} {x : Int} (hd : decode cc pc = .ok (.lload q, 2)) (hj : lv[j]? = some (q, vl x)) (k : WM C ad n I J R ks ss (pc + 2) lv (vl x :: st)) : WM C ad n I J R ks ss pc lv st := by
  obtain ⟨p, l, e, Rm, s, m, args, below, meth, c, Q, D, cY, A, nL', own'⟩ := C
  obtain ⟨hx, hb, hml, hown, hts, hK, hA, hlk, rfl, rfl⟩ := hC
  intro hM hlv hst H locs ls hP hD hS hl
  exact lv_lload hx hb hd (lvm_at hl j hj) (k hM hlv (fc_i (lvm_mem hlv j hj) hst) H locs ls hP hD hS hl)
theorem wrf_ref {a : Nat} (h : a ≠ 0) : wrf ad a = .ref (ad a) := if_neg h
theorem wm_aload_n (hC : wOK C cc nL own) (j : Nat) {q : Fin 4} {a : Nat} (hd : decode cc pc = .ok (.aload_n q, 1)) (hj : lv[j]? = some ((q : Nat), vr a)) (h0 : a ≠ 0) (k : WM C ad n I J R ks ss (pc + 1) lv (vr a :: st)) : WM C ad n I J R ks ss pc lv st := by
  obtain ⟨p, l, e, Rm, s, m, args, below, meth, c, Q, D, cY, A, nL', own'⟩ := C
  obtain ⟨hx, hb, hml, hown, hts, hK, hA, hlk, rfl, rfl⟩ := hC
  intro hM hlv hst H locs ls hP hD hS hl
  refine lv_aload_n (x := ad a) hx hb hd rfl ((lvm_at hl j hj).trans (by show some (Slot.val (wrf ad a)) = _; rw [wrf_ref h0])) ?_
  have h2 := k hM hlv (fc_i (lvm_mem hlv j hj) hst) H locs ls hP hD hS hl
  rw [List.map_cons, show wv ad (vr a) = .ref (ad a) from wrf_ref h0] at h2
  exact h2
theorem wm_aload (hC : wOK C cc nL own) (j : Nat) {q : Nat} {a : Nat} (hd : decode cc pc = .ok (.aload q, 2)) (hj : lv[j]? = some (q, vr a)) (h0 : a ≠ 0) (k : WM C ad n I J R ks ss (pc + 2) lv (vr a :: st)) : WM C ad n I J R ks ss pc lv st := by
  obtain ⟨p, l, e, Rm, s, m, args, below, meth, c, Q, D, cY, A, nL', own'⟩ := C
  obtain ⟨hx, hb, hml, hown, hts, hK, hA, hlk, rfl, rfl⟩ := hC
  intro hM hlv hst H locs ls hP hD hS hl
  refine lv_aload (x := ad a) hx hb hd ((lvm_at hl j hj).trans (by show some (Slot.val (wrf ad a)) = _; rw [wrf_ref h0])) ?_
  have h2 := k hM hlv (fc_i (lvm_mem hlv j hj) hst) H locs ls hP hD hS hl
  rw [List.map_cons, show wv ad (vr a) = .ref (ad a) from wrf_ref h0] at h2
  exact h2
/-- a store of one word -/
def st1 (i : Nat) (v : wV) (L : List (Nat × wV)) : List (Nat × wV) := (i, v) :: L.filter (fun q => !(q.1 == i) && !(q.1 + 1 == i && wc q.2))
def st2 (i : Nat) (v : wV) (L : List (Nat × wV)) : List (Nat × wV) := (i, v) :: L.filter (fun q => !(q.1 == i) && (!(q.1 == i + 1) && !(q.1 + 1 == i && wc q.2)))
theorem st1_lvm (i : Nat) (v : wV) (L : List (Nat × wV)) : (i, wv ad v) :: (lvm ad L).filter (fun q => !(q.1 == i) && !(q.1 + 1 == i && q.2.category == 2)) = lvm ad (st1 i v L) := by
  unfold lvm st1
  rw [List.map_cons, List.filter_map]
  congr 2
  apply List.filter_congr
  intro q _
  simp only [Function.comp_apply, wc_ok]
theorem st2_lvm (i : Nat) (v : wV) (L : List (Nat × wV)) : (i, wv ad v) :: (lvm ad L).filter (fun q => !(q.1 == i) && (!(q.1 == i + 1) && !(q.1 + 1 == i && q.2.category == 2))) = lvm ad (st2 i v L) := by
  unfold lvm st2
  rw [List.map_cons, List.filter_map]
  congr 2
  apply List.filter_congr
  intro q _
  simp only [Function.comp_apply, wc_ok]
theorem st1_ok {i : Nat} {v : wV} {L : List (Nat × wV)} {P : wV → Prop} (h : P v) (hL : ∀ q ∈ L, P q.2) : ∀ q ∈ st1 i v L, P q.2 := by
  intro q hq
  rcases List.mem_cons.mp hq with rfl | h2
  · exact h
  · exact hL q (List.mem_filter.mp h2).1
theorem st2_ok {i : Nat} {v : wV} {L : List (Nat × wV)} {P : wV → Prop} (h : P v) (hL : ∀ q ∈ L, P q.2) : ∀ q ∈ st2 i v L, P q.2 := by
  intro q hq
  rcases List.mem_cons.mp hq with rfl | h2
  · exact h
  · exact hL q (List.mem_filter.mp h2).1
theorem wm_istore_n (hC : wOK C cc nL own) {q : Fin 4} {x : Int} {L2 : List (Nat × wV)} (hd : decode cc pc = .ok (.istore_n q, 1)) (hn : (q : Nat) < nL) (hL : st1 q (vi x) lv = L2) (k : WM C ad n I J R ks ss (pc + 1) L2 st) : WM C ad n I J R ks ss pc lv (vi x :: st) := by
  obtain ⟨p, l, e, Rm, s, m, args, below, meth, c, Q, D, cY, A, nL', own'⟩ := C
  obtain ⟨hx, hb, hml, hown, hts, hK, hA, hlk, rfl, rfl⟩ := hC
  intro hM hlv hst H locs ls hP hD hS hl
  subst hL
  exact lv_istore_n hx hb hd rfl hl hn (st1_lvm _ (vi x) lv) (fun ls hl => k hM (st1_ok (fc_c hst).1 hlv) (fc_c hst).2 H locs ls hP hD hS hl)
theorem wm_istore (hC : wOK C cc nL own) {q : Nat} {x : Int} {L2 : List (Nat × wV)} (hd : decode cc pc = .ok (.istore q, 2)) (hn : q < nL) (hL : st1 q (vi x) lv = L2) (k : WM C ad n I J R ks ss (pc + 2) L2 st) : WM C ad n I J R ks ss pc lv (vi x :: st) := by
  obtain ⟨p, l, e, Rm, s, m, args, below, meth, c, Q, D, cY, A, nL', own'⟩ := C
  obtain ⟨hx, hb, hml, hown, hts, hK, hA, hlk, rfl, rfl⟩ := hC
  intro hM hlv hst H locs ls hP hD hS hl
  subst hL
  exact lv_istore hx hb hd hl hn (st1_lvm _ (vi x) lv) (fun ls hl => k hM (st1_ok (fc_c hst).1 hlv) (fc_c hst).2 H locs ls hP hD hS hl)
theorem wm_lstore_n (hC : wOK C cc nL own) {q : Fin 4} {x : Int} {L2 : List (Nat × wV)} (hd : decode cc pc = .ok (.lstore_n q, 1)) (hn : (q : Nat) + 1 < nL) (hL : st2 q (vl x) lv = L2) (k : WM C ad n I J R ks ss (pc + 1) L2 st) : WM C ad n I J R ks ss pc lv (vl x :: st) := by
  obtain ⟨p, l, e, Rm, s, m, args, below, meth, c, Q, D, cY, A, nL', own'⟩ := C
  obtain ⟨hx, hb, hml, hown, hts, hK, hA, hlk, rfl, rfl⟩ := hC
  intro hM hlv hst H locs ls hP hD hS hl
  subst hL
  exact lv_lstore_n hx hb hd rfl hl hn (st2_lvm _ (vl x) lv) (fun ls hl => k hM (st2_ok (fc_c hst).1 hlv) (fc_c hst).2 H locs ls hP hD hS hl)
theorem wm_lstore (hC : wOK C cc nL own) {q : Nat} {x : Int} {L2 : List (Nat × wV)} (hd : decode cc pc = .ok (.lstore q, 2)) (hn : q + 1 < nL) (hL : st2 q (vl x) lv = L2) (k : WM C ad n I J R ks ss (pc + 2) L2 st) : WM C ad n I J R ks ss pc lv (vl x :: st) := by
  obtain ⟨p, l, e, Rm, s, m, args, below, meth, c, Q, D, cY, A, nL', own'⟩ := C
  obtain ⟨hx, hb, hml, hown, hts, hK, hA, hlk, rfl, rfl⟩ := hC
  intro hM hlv hst H locs ls hP hD hS hl
  subst hL
  exact lv_lstore hx hb hd hl hn (st2_lvm _ (vl x) lv) (fun ls hl => k hM (st2_ok (fc_c hst).1 hlv) (fc_c hst).2 H locs ls hP hD hS hl)
theorem wm_astore_n (hC : wOK C cc nL own) {q : Fin 4} {a : Nat} {L2 : List (Nat × wV)} (hd : decode cc pc = .ok (.astore_n q, 1)) (h0 : a ≠ 0) (hn : (q : Nat) < nL) (hL : st1 q (vr a) lv = L2) (k : WM C ad n I J R ks ss (pc + 1) L2 st) : WM C ad n I J R ks ss pc lv (vr a :: st) := by
  obtain ⟨p, l, e, Rm, s, m, args, below, meth, c, Q, D, cY, A, nL', own'⟩ := C
  obtain ⟨hx, hb, hml, hown, hts, hK, hA, hlk, rfl, rfl⟩ := hC
  intro hM hlv hst H locs ls hP hD hS hl
  subst hL
  rw [List.map_cons, show wv ad (vr a) = .ref (ad a) from wrf_ref h0]
  have hh := st1_lvm (ad := ad) q (vr a) lv
  rw [show wv ad (vr a) = .ref (ad a) from wrf_ref h0] at hh
  exact lv_astore_n hx hb hd rfl hl hn hh (fun ls hl => k hM (st1_ok (fc_c hst).1 hlv) (fc_c hst).2 H locs ls hP hD hS hl)
theorem wm_iinc (hC : wOK C cc nL own) (j : Nat) {q : Nat} {x d : Int} {L2 : List (Nat × wV)} (hd : decode cc pc = .ok (.iinc q d, 3)) (hj : lv[j]? = some (q, vi x)) (hn : q < nL) (hr : rg (x + d)) (hL : st1 q (vi (x + d)) lv = L2) (k : WM C ad n I J R ks ss (pc + 3) L2 st) : WM C ad n I J R ks ss pc lv st := by
  obtain ⟨p, l, e, Rm, s, m, args, below, meth, c, Q, D, cY, A, nL', own'⟩ := C
  obtain ⟨hx, hb, hml, hown, hts, hK, hA, hlk, rfl, rfl⟩ := hC
  intro hM hlv hst H locs ls hP hD hS hl
  subst hL
  exact lv_iinc (k := j) (x := Int32.ofInt x) (v := Int32.ofInt (x + d)) hx hb hd hl (by unfold lvm; rw [List.getElem?_map, hj]; rfl) (Int32.ofInt_add x d).symm hn (st1_lvm _ (vi (x + d)) lv) (fun ls hl => k hM (st1_ok hr hlv) hst H locs ls hP hD hS hl)
/-- other locals, by their places -/
def wpick (L : List (Nat × wV)) (js : List Nat) : List (Nat × wV) := js.filterMap (fun j => L[j]?)
theorem wm_sub (js : List Nat) {L2 : List (Nat × wV)} (hL : wpick lv js = L2) (k : WM C ad n I J R ks ss pc L2 st) : WM C ad n I J R ks ss pc lv st := by
  obtain ⟨p, l, e, Rm, s, m, args, below, meth, c, Q, D, cY, A, nL', own'⟩ := C
  intro hM hlv hst H locs ls hP hD hS hl
  subst hL
  refine k hM (fun q hq => ?_) hst H locs ls hP hD hS (lv_sub hl js ?_)
  · obtain ⟨i, -, hi⟩ := List.mem_filterMap.mp hq
    exact hlv q (List.mem_of_getElem? hi)
  · unfold lvm lv_pick wpick
    rw [List.map_filterMap]
    congr 1
    funext i
    rw [List.getElem?_map]
end R1
