/-- a named value -/
def wLet {α : Type} (e : α) (P : α → Prop) : Prop := P e
theorem wLet_e {α : Type} {e : α} {P : α → Prop} : wLet e P = P e := rfl
theorem wLet_i {α : Type} {e : α} {P : α → Prop} (h : ∀ x, x = e → P x) : wLet e P := h e rfl
theorem kN_rg (a : Nat) : rg (kN a) := by
  have h : ∀ x ∈ kNs, x ≤ 100000 := by decide +kernel
  have h2 : kN a ≤ 100000 := by
    unfold kN
    rw [List.getD_eq_getElem?_getD]
    cases hq : kNs[a]? with
    | none => exact Nat.zero_le _
    | some x => exact h x (List.mem_of_getElem? hq)
  omega
theorem nB_lo (x : Int) : -128 ≤ nB x := Int8.le_toInt _
theorem nB_hi (x : Int) : nB x < 128 := Int8.toInt_lt _
section R5
variable {C : wX} {cc : ByteArray} {nL : Nat} {own : String} {ad : Nat → Nat} {n : Nat} {I J : mI} {R : mR} {ks ss pc : Nat} {lv : List (Nat × wV)} {st : List wV} {WA : Prop} {PI : mI → Prop} {PR : mR → Prop} {PX : Int → Prop}
theorem x_iadd (hC : wOK C cc nL own) {x y : Int} (hd : decode cc pc = .ok (.iadd, 1)) (hw : rg (x + y) ∧ WA) (k : WA → WM C ad n I J R ks ss (pc + 1) lv (vi (x + y) :: st)) : WM C ad n I J R ks ss pc lv (vi y :: vi x :: st) := wm_iadd hC hd hw.1 (k hw.2)
theorem x_isub (hC : wOK C cc nL own) {x y : Int} (hd : decode cc pc = .ok (.isub, 1)) (hw : rg (x - y) ∧ WA) (k : WA → WM C ad n I J R ks ss (pc + 1) lv (vi (x - y) :: st)) : WM C ad n I J R ks ss pc lv (vi y :: vi x :: st) := wm_isub hC hd hw.1 (k hw.2)
theorem x_imul (hC : wOK C cc nL own) {x y : Int} (hd : decode cc pc = .ok (.imul, 1)) (hw : rg (x * y) ∧ WA) (k : WA → WM C ad n I J R ks ss (pc + 1) lv (vi (x * y) :: st)) : WM C ad n I J R ks ss pc lv (vi y :: vi x :: st) := wm_imul hC hd hw.1 (k hw.2)
theorem x_idiv (hC : wOK C cc nL own) {x y : Int} (hd : decode cc pc = .ok (.idiv, 1)) (hw : (y ≠ 0 ∧ rg (x.tdiv y)) ∧ WA) (k : WA → WM C ad n I J R ks ss (pc + 1) lv (vi (x.tdiv y) :: st)) : WM C ad n I J R ks ss pc lv (vi y :: vi x :: st) := wm_idiv hC hd hw.1.1 hw.1.2 (k hw.2)
theorem x_irem (hC : wOK C cc nL own) {x y : Int} (hd : decode cc pc = .ok (.irem, 1)) (hw : y ≠ 0 ∧ WA) (k : WA → WM C ad n I J R ks ss (pc + 1) lv (vi (x.tmod y) :: st)) : WM C ad n I J R ks ss pc lv (vi y :: vi x :: st) := wm_irem hC hd hw.1 (k hw.2)
theorem rg_tdiv {x y : Int} (h : rg x) (hy : 0 < y) : rg (x.tdiv y) := by
  have h1 : (x.tdiv y).natAbs ≤ x.natAbs := by rw [Int.natAbs_tdiv]; exact Nat.div_le_self _ _
  have h3 := Int.neg_tdiv (-x) y
  rw [Int.neg_neg] at h3
  rcases Int.le_total 0 x with q | q
  · have h4 := Int.tdiv_nonneg q (by omega : 0 ≤ y)
    omega
  · have h4 := Int.tdiv_nonneg (show 0 ≤ -x by omega) (by omega : 0 ≤ y)
    omega
theorem x_idivP (hC : wOK C cc nL own) {x y : Int} (hy : 0 < y) (hd : decode cc pc = .ok (.idiv, 1)) (k : WM C ad n I J R ks ss (pc + 1) lv (vi (x.tdiv y) :: st)) : WM C ad n I J R ks ss pc lv (vi y :: vi x :: st) := by
  by_cases h : rg x
  · exact wm_idiv hC hd (by omega) (rg_tdiv h hy) k
  · obtain ⟨p, l, e, Rm, s, m, args, below, meth, c, Q, D, cY, A, nL', own'⟩ := C
    exact fun _ _ hst => absurd (fc_c (fc_c hst).2).1 h
theorem x_iremP (hC : wOK C cc nL own) {x y : Int} (hy : 0 < y) (hd : decode cc pc = .ok (.irem, 1)) (k : WM C ad n I J R ks ss (pc + 1) lv (vi (x.tmod y) :: st)) : WM C ad n I J R ks ss pc lv (vi y :: vi x :: st) := wm_irem hC hd (by omega) k
theorem x_ladd (hC : wOK C cc nL own) {x y : Int} (hd : decode cc pc = .ok (.ladd, 1)) (hw : rl (x + y) ∧ WA) (k : WA → WM C ad n I J R ks ss (pc + 1) lv (vl (x + y) :: st)) : WM C ad n I J R ks ss pc lv (vl y :: vl x :: st) := wm_ladd hC hd hw.1 (k hw.2)
theorem x_lsub (hC : wOK C cc nL own) {x y : Int} (hd : decode cc pc = .ok (.lsub, 1)) (hw : rl (x - y) ∧ WA) (k : WA → WM C ad n I J R ks ss (pc + 1) lv (vl (x - y) :: st)) : WM C ad n I J R ks ss pc lv (vl y :: vl x :: st) := wm_lsub hC hd hw.1 (k hw.2)
theorem x_lmul (hC : wOK C cc nL own) {x y : Int} (hd : decode cc pc = .ok (.lmul, 1)) (hw : rl (x * y) ∧ WA) (k : WA → WM C ad n I J R ks ss (pc + 1) lv (vl (x * y) :: st)) : WM C ad n I J R ks ss pc lv (vl y :: vl x :: st) := wm_lmul hC hd hw.1 (k hw.2)
theorem x_ldiv (hC : wOK C cc nL own) {x y : Int} (hd : decode cc pc = .ok (.ldiv, 1)) (hw : (y ≠ 0 ∧ rl (x.tdiv y)) ∧ WA) (k : WA → WM C ad n I J R ks ss (pc + 1) lv (vl (x.tdiv y) :: st)) : WM C ad n I J R ks ss pc lv (vl y :: vl x :: st) := wm_ldiv hC hd hw.1.1 hw.1.2 (k hw.2)
theorem x_lrem (hC : wOK C cc nL own) {x y : Int} (hd : decode cc pc = .ok (.lrem, 1)) (hw : y ≠ 0 ∧ WA) (k : WA → WM C ad n I J R ks ss (pc + 1) lv (vl (x.tmod y) :: st)) : WM C ad n I J R ks ss pc lv (vl y :: vl x :: st) := wm_lrem hC hd hw.1 (k hw.2)
theorem rl_tdiv {x y : Int} (h : rl x) (hy : 0 < y) : rl (x.tdiv y) := by
  have h1 : (x.tdiv y).natAbs ≤ x.natAbs := by rw [Int.natAbs_tdiv]; exact Nat.div_le_self _ _
  have h3 := Int.neg_tdiv (-x) y
  rw [Int.neg_neg] at h3
  rcases Int.le_total 0 x with q | q
  · have h4 := Int.tdiv_nonneg q (by omega : 0 ≤ y)
    omega
  · have h4 := Int.tdiv_nonneg (show 0 ≤ -x by omega) (by omega : 0 ≤ y)
    omega
theorem x_ldivP (hC : wOK C cc nL own) {x y : Int} (hy : 0 < y) (hd : decode cc pc = .ok (.ldiv, 1)) (k : WM C ad n I J R ks ss (pc + 1) lv (vl (x.tdiv y) :: st)) : WM C ad n I J R ks ss pc lv (vl y :: vl x :: st) := by
  by_cases h : rl x
  · exact wm_ldiv hC hd (by omega) (rl_tdiv h hy) k
  · obtain ⟨p, l, e, Rm, s, m, args, below, meth, c, Q, D, cY, A, nL', own'⟩ := C
    exact fun _ _ hst => absurd (fc_c (fc_c hst).2).1 h
theorem x_lremP (hC : wOK C cc nL own) {x y : Int} (hy : 0 < y) (hd : decode cc pc = .ok (.lrem, 1)) (k : WM C ad n I J R ks ss (pc + 1) lv (vl (x.tmod y) :: st)) : WM C ad n I J R ks ss pc lv (vl y :: vl x :: st) := wm_lrem hC hd (by omega) k
theorem x_ineg (hC : wOK C cc nL own) {x : Int} (hd : decode cc pc = .ok (.ineg, 1)) (hw : rg (-x) ∧ WA) (k : WA → WM C ad n I J R ks ss (pc + 1) lv (vi (-x) :: st)) : WM C ad n I J R ks ss pc lv (vi x :: st) := wm_ineg hC hd hw.1 (k hw.2)
theorem x_l2i (hC : wOK C cc nL own) {x : Int} (hd : decode cc pc = .ok (.l2i, 1)) (hw : rg x ∧ WA) (k : WA → WM C ad n I J R ks ss (pc + 1) lv (vi x :: st)) : WM C ad n I J R ks ss pc lv (vl x :: st) := wm_l2i hC hd hw.1 (k hw.2)
theorem x_iinc (hC : wOK C cc nL own) (j : Nat) {q : Nat} {x d : Int} {L2 : List (Nat × wV)} (hd : decode cc pc = .ok (.iinc q d, 3)) (hj : lv[j]? = some (q, vi x)) (hn : q < nL) (hL : st1 q (vi (x + d)) lv = L2) (hw : rg (x + d) ∧ WA) (k : WA → WM C ad n I J R ks ss (pc + 3) L2 st) : WM C ad n I J R ks ss pc lv st := wm_iinc hC j hd hj hn hw.1 hL (k hw.2)
theorem x_getI (hC : wOK C cc nL own) (kz : Int) {index ci k a : Nat} {ty : FieldType} {fin : Bool} (hF : wPL own index ci k 0 ty fin) (hz : (k : Int) = kz) (hka : kK a = ci) (hd : decode cc pc = .ok (.getfield index, 3)) (kk : WM C ad n I J R ks ss (pc + 3) lv (vi (I a kz) :: st)) : WM C ad n I J R ks ss pc lv (vr a :: st) := by
  subst hz
  exact wm_getI hC hF hka hd kk
theorem x_getJ (hC : wOK C cc nL own) (kz : Int) {index ci k a : Nat} {ty : FieldType} {fin : Bool} (hF : wPL own index ci k 1 ty fin) (hz : (k : Int) = kz) (hka : kK a = ci) (hd : decode cc pc = .ok (.getfield index, 3)) (kk : WM C ad n I J R ks ss (pc + 3) lv (vl (J a kz) :: st)) : WM C ad n I J R ks ss pc lv (vr a :: st) := by
  subst hz
  exact wm_getJ hC hF hka hd kk
theorem x_getR (hC : wOK C cc nL own) (kz : Int) {index ci k a : Nat} {ty : FieldType} {fin : Bool} (hF : wPL own index ci k 2 ty fin) (hz : (k : Int) = kz) (hka : kK a = ci) (hd : decode cc pc = .ok (.getfield index, 3)) (kk : WM C ad n I J R ks ss (pc + 3) lv (vr (R a kz) :: st)) : WM C ad n I J R ks ss pc lv (vr a :: st) := by
  subst hz
  exact wm_getR hC hF hka hd kk
theorem x_getR2 (hC : wOK C cc nL own) (kz : Int) {index ci k a c2 : Nat} {ty : FieldType} {fin : Bool} (hF : wPL own index ci k 2 ty fin) (hz : (k : Int) = kz) (hka : kK a = ci) (hd : decode cc pc = .ok (.getfield index, 3)) (hw : kK (R a kz) = c2 ∧ WA) (kk : kK (R a kz) = c2 → WA → WM C ad n I J R ks ss (pc + 3) lv (vr (R a kz) :: st)) : WM C ad n I J R ks ss pc lv (vr a :: st) := x_getR hC kz hF hz hka hd (kk hw.1 hw.2)
theorem x_putI (hC : wOK C cc nL own) (kz : Int) {index ci k a : Nat} {v : Int} (hF : wPL own index ci k 0 .int false) (hz : (k : Int) = kz) (hka : kK a = ci) (hd : decode cc pc = .ok (.putfield index, 3)) (hw : wLet (up I a kz v) PI) (kk : ∀ I1, PI I1 → WM C ad n I1 J R ks ss (pc + 3) lv st) : WM C ad n I J R ks ss pc lv (vi v :: vr a :: st) := by
  subst hz
  exact wm_putI hC hF hka (Or.inl rfl) hd (kk _ hw)
theorem x_putZ (hC : wOK C cc nL own) (kz : Int) {index ci k a : Nat} {v : Int} (hF : wPL own index ci k 0 .boolean false) (hz : (k : Int) = kz) (hka : kK a = ci) (h01 : v = 0 ∨ v = 1) (hd : decode cc pc = .ok (.putfield index, 3)) (hw : wLet (up I a kz v) PI) (kk : ∀ I1, PI I1 → WM C ad n I1 J R ks ss (pc + 3) lv st) : WM C ad n I J R ks ss pc lv (vi v :: vr a :: st) := by
  subst hz
  exact wm_putI hC hF hka (Or.inr ⟨rfl, h01⟩) hd (kk _ hw)
theorem x_putJ (hC : wOK C cc nL own) (kz : Int) {index ci k a : Nat} {v : Int} (hF : wPL own index ci k 1 .long false) (hz : (k : Int) = kz) (hka : kK a = ci) (hd : decode cc pc = .ok (.putfield index, 3)) (hw : wLet (up J a kz v) PI) (kk : ∀ J1, PI J1 → WM C ad n I J1 R ks ss (pc + 3) lv st) : WM C ad n I J R ks ss pc lv (vl v :: vr a :: st) := by
  subst hz
  exact wm_putJ hC hF hka hd (kk _ hw)
theorem x_putR (hC : wOK C cc nL own) (kz : Int) {index ci k a v : Nat} {ty : FieldType} (hF : wPL own index ci k 2 ty false) (hz : (k : Int) = kz) (hka : kK a = ci) (hty : (∃ q, ty = .object q) ∨ ∃ q, ty = .array q) (hv0 : v ≠ 0) (hd : decode cc pc = .ok (.putfield index, 3)) (hw : wLet (up R a kz v) PR) (kk : ∀ R1, PR R1 → WM C ad n I J R1 ks ss (pc + 3) lv st) : WM C ad n I J R ks ss pc lv (vr v :: vr a :: st) := by
  subst hz
  exact wm_putR hC hF hka hty hv0 hd (kk _ hw)
theorem x_iald (hC : wOK C cc nL own) {a : Nat} {x : Int} (hka : kK a = 21) (hd : decode cc pc = .ok (.iaload, 1)) (hw : (0 ≤ x ∧ x < kN a) ∧ WA) (k : WA → WM C ad n I J R ks ss (pc + 1) lv (vi (I a x) :: st)) : WM C ad n I J R ks ss pc lv (vi x :: vr a :: st) := wm_iald hC hka hw.1.1 hw.1.2 hd (k hw.2)
theorem x_bald (hC : wOK C cc nL own) {a : Nat} {x : Int} (hka : kK a = 20) (hd : decode cc pc = .ok (.baload, 1)) (hw : (0 ≤ x ∧ x < kN a) ∧ WA) (k : WA → WM C ad n I J R ks ss (pc + 1) lv (vi (I a x) :: st)) : WM C ad n I J R ks ss pc lv (vi x :: vr a :: st) := wm_bald hC hka hw.1.1 hw.1.2 hd (k hw.2)
theorem x_zald (hC : wOK C cc nL own) {a : Nat} {x : Int} (hka : kK a = 23) (hd : decode cc pc = .ok (.baload, 1)) (hw : (0 ≤ x ∧ x < kN a) ∧ WA) (k : WA → WM C ad n I J R ks ss (pc + 1) lv (vi (I a x) :: st)) : WM C ad n I J R ks ss pc lv (vi x :: vr a :: st) := wm_zald hC hka hw.1.1 hw.1.2 hd (k hw.2)
theorem x_lald (hC : wOK C cc nL own) {a : Nat} {x : Int} (hka : kK a = 22) (hd : decode cc pc = .ok (.laload, 1)) (hw : (0 ≤ x ∧ x < kN a) ∧ WA) (k : WA → WM C ad n I J R ks ss (pc + 1) lv (vl (J a x) :: st)) : WM C ad n I J R ks ss pc lv (vi x :: vr a :: st) := wm_lald hC hka hw.1.1 hw.1.2 hd (k hw.2)
theorem x_aald (hC : wOK C cc nL own) {a c2 : Nat} {x : Int} (hka : kK a = 24) (hd : decode cc pc = .ok (.aaload, 1)) (hw : (0 ≤ x ∧ x < kN a) ∧ kK (R a x) = c2 ∧ WA) (k : kK (R a x) = c2 → WA → WM C ad n I J R ks ss (pc + 1) lv (vr (R a x) :: st)) : WM C ad n I J R ks ss pc lv (vi x :: vr a :: st) := wm_aald hC hka hw.1.1 hw.1.2 hd (k hw.2.1 hw.2.2)
theorem x_iast (hC : wOK C cc nL own) {a : Nat} {x v : Int} (hka : kK a = 21) (hd : decode cc pc = .ok (.iastore, 1)) (hw : (0 ≤ x ∧ x < kN a) ∧ wLet (up I a x v) PI) (k : ∀ I1, PI I1 → WM C ad n I1 J R ks ss (pc + 1) lv st) : WM C ad n I J R ks ss pc lv (vi v :: vi x :: vr a :: st) := wm_iast hC hka hw.1.1 hw.1.2 hd (k _ hw.2)
theorem x_bast (hC : wOK C cc nL own) {a : Nat} {x v : Int} (hka : kK a = 20) (h1 : -128 ≤ v) (h2 : v < 128) (hd : decode cc pc = .ok (.bastore, 1)) (hw : (0 ≤ x ∧ x < kN a) ∧ wLet (up I a x v) PI) (k : ∀ I1, PI I1 → WM C ad n I1 J R ks ss (pc + 1) lv st) : WM C ad n I J R ks ss pc lv (vi v :: vi x :: vr a :: st) := wm_bast hC hka hw.1.1 hw.1.2 h1 h2 hd (k _ hw.2)
theorem x_zast (hC : wOK C cc nL own) {a : Nat} {x v : Int} (hka : kK a = 23) (h01 : v = 0 ∨ v = 1) (hd : decode cc pc = .ok (.bastore, 1)) (hw : (0 ≤ x ∧ x < kN a) ∧ wLet (up I a x v) PI) (k : ∀ I1, PI I1 → WM C ad n I1 J R ks ss (pc + 1) lv st) : WM C ad n I J R ks ss pc lv (vi v :: vi x :: vr a :: st) := wm_zast hC hka hw.1.1 hw.1.2 h01 hd (k _ hw.2)
theorem x_last (hC : wOK C cc nL own) {a : Nat} {x v : Int} (hka : kK a = 22) (hd : decode cc pc = .ok (.lastore, 1)) (hw : (0 ≤ x ∧ x < kN a) ∧ wLet (up J a x v) PI) (k : ∀ J1, PI J1 → WM C ad n I J1 R ks ss (pc + 1) lv st) : WM C ad n I J R ks ss pc lv (vl v :: vi x :: vr a :: st) := wm_last hC hka hw.1.1 hw.1.2 hd (k _ hw.2)
theorem x_alen (hC : wOK C cc nL own) {a ci : Nat} (hka : kK a = ci) (hci : ci = 20 ∨ ci = 21 ∨ ci = 22 ∨ ci = 23 ∨ ci = 24) (hd : decode cc pc = .ok (.arraylength, 1)) (kk : WM C ad n I J R ks ss (pc + 1) lv (vi (kN a) :: st)) : WM C ad n I J R ks ss pc lv (vr a :: st) := wm_alen hC hka hci (kN_rg a) hd kk
theorem x_nameI {e : Int} (hw : wLet e PX) (kk : ∀ x, PX x → WM C ad n I J R ks ss pc lv (vi x :: st)) : WM C ad n I J R ks ss pc lv (vi e :: st) := kk e hw
theorem x_nameL {e : Int} (hw : wLet e PX) (kk : ∀ x, PX x → WM C ad n I J R ks ss pc lv (vl x :: st)) : WM C ad n I J R ks ss pc lv (vl e :: st) := kk e hw
theorem x_copyi (hC : wOK C cc nL own) {rfr rlo cs sl : Nat} (hRm : wRm C rfr rlo cs sl) {index a0 a : Nat} {sp dp len : Int} (hk0 : kK a0 = 21) (hk1 : kK a = 21) (hws : Cond.methodLink own index arraycopyName ∈ wT ∧ Cond.native arraycopyName ∈ wT ∧ Cond.static arraycopyName ∈ wT ∧ Cond.initialized "java/lang/System" ∈ wT) (hfr : 1 ≤ rfr) (hlo : wsum st + (nativeFrameWords "java/lang/System" "arraycopy" 5 + 11) ≤ rlo) (hd : decode cc pc = .ok (.invokestatic index, 3)) (hw : (0 ≤ sp ∧ 0 ≤ dp ∧ 0 ≤ len ∧ sp + len ≤ kN a0 ∧ dp + len ≤ kN a) ∧ wLet (cpy I a0 sp a dp len) PI) (kk : ∀ I1, PI I1 → WM C ad n I1 J R ks ss (pc + 3) lv st) : WM C ad n I J R ks ss pc lv (vi len :: vi dp :: vr a :: vi sp :: vr a0 :: st) := wm_copyi hC hRm hk0 hk1 hw.1.1 hw.1.2.1 hw.1.2.2.1 hw.1.2.2.2.1 hw.1.2.2.2.2 hws.1 hws.2.1 hws.2.2.1 hws.2.2.2 hfr hlo hd (kk _ hw.2)
theorem x_callV_v (hC : wOK C cc nL own) {rfr rlo cs sl : Nat} (hRm : wRm C rfr rlo cs sl) {index : Nat} {y : MethodName} {bytes : ByteArray} {mL fr lo na ci b : Nat} {av : List wV} {P : wPo} (hV : wCV own index y bytes mL none na ci) (hkb : kK b = ci) (hM0 : wMet y bytes mL none fr lo ad n I J R (vr b :: av) P) (hfr : fr + 1 ≤ rfr) (hlo : 8 + (mL + 11) + lo ≤ rlo) (hcs : ks ≤ cs ∧ ss ≤ sl) (hna : av.length = na) {st0 : List wV} (hst0 : st0 = av.reverse ++ vr b :: st) (hsum : wsum st ≤ 8) (hd : decode cc pc = .ok (.invokevirtual index, 3)) (kk : ∀ (r : Int) (I1 J1 : mI) (R1 : mR), P r I1 J1 R1 → WM C ad n I1 J1 R1 ks ss (pc + 3) lv (st)) : WM C ad n I J R ks ss pc lv st0 := wm_callV hC hRm hM0 hV hkb (by decide) hfr hlo hcs hna hst0 hsum hd (fun r I1 J1 R1 _ hp => kk r I1 J1 R1 hp)
theorem x_callV_i (hC : wOK C cc nL own) {rfr rlo cs sl : Nat} (hRm : wRm C rfr rlo cs sl) {index : Nat} {y : MethodName} {bytes : ByteArray} {mL fr lo na ci b : Nat} {av : List wV} {P : wPo} (hV : wCV own index y bytes mL (some .int) na ci) (hkb : kK b = ci) (hM0 : wMet y bytes mL (some .int) fr lo ad n I J R (vr b :: av) P) (hfr : fr + 1 ≤ rfr) (hlo : 8 + (mL + 11) + lo ≤ rlo) (hcs : ks ≤ cs ∧ ss ≤ sl) (hna : av.length = na) {st0 : List wV} (hst0 : st0 = av.reverse ++ vr b :: st) (hsum : wsum st ≤ 8) (hd : decode cc pc = .ok (.invokevirtual index, 3)) (kk : ∀ (r : Int) (I1 J1 : mI) (R1 : mR), P r I1 J1 R1 → WM C ad n I1 J1 R1 ks ss (pc + 3) lv (vi r :: st)) : WM C ad n I J R ks ss pc lv st0 := wm_callV hC hRm hM0 hV hkb (by decide) hfr hlo hcs hna hst0 hsum hd (fun r I1 J1 R1 _ hp => kk r I1 J1 R1 hp)
theorem x_callV_z (hC : wOK C cc nL own) {rfr rlo cs sl : Nat} (hRm : wRm C rfr rlo cs sl) {index : Nat} {y : MethodName} {bytes : ByteArray} {mL fr lo na ci b : Nat} {av : List wV} {P : wPo} (hV : wCV own index y bytes mL (some .boolean) na ci) (hkb : kK b = ci) (hM0 : wMet y bytes mL (some .boolean) fr lo ad n I J R (vr b :: av) P) (hfr : fr + 1 ≤ rfr) (hlo : 8 + (mL + 11) + lo ≤ rlo) (hcs : ks ≤ cs ∧ ss ≤ sl) (hna : av.length = na) {st0 : List wV} (hst0 : st0 = av.reverse ++ vr b :: st) (hsum : wsum st ≤ 8) (hd : decode cc pc = .ok (.invokevirtual index, 3)) (kk : ∀ (r : Int) (I1 J1 : mI) (R1 : mR), P r I1 J1 R1 → WM C ad n I1 J1 R1 ks ss (pc + 3) lv (vi r :: st)) : WM C ad n I J R ks ss pc lv st0 := wm_callV hC hRm hM0 hV hkb (by decide) hfr hlo hcs hna hst0 hsum hd (fun r I1 J1 R1 _ hp => kk r I1 J1 R1 hp)
theorem x_callV_l (hC : wOK C cc nL own) {rfr rlo cs sl : Nat} (hRm : wRm C rfr rlo cs sl) {index : Nat} {y : MethodName} {bytes : ByteArray} {mL fr lo na ci b : Nat} {av : List wV} {P : wPo} (hV : wCV own index y bytes mL (some .long) na ci) (hkb : kK b = ci) (hM0 : wMet y bytes mL (some .long) fr lo ad n I J R (vr b :: av) P) (hfr : fr + 1 ≤ rfr) (hlo : 8 + (mL + 11) + lo ≤ rlo) (hcs : ks ≤ cs ∧ ss ≤ sl) (hna : av.length = na) {st0 : List wV} (hst0 : st0 = av.reverse ++ vr b :: st) (hsum : wsum st ≤ 8) (hd : decode cc pc = .ok (.invokevirtual index, 3)) (kk : ∀ (r : Int) (I1 J1 : mI) (R1 : mR), P r I1 J1 R1 → WM C ad n I1 J1 R1 ks ss (pc + 3) lv (vl r :: st)) : WM C ad n I J R ks ss pc lv st0 := wm_callV hC hRm hM0 hV hkb (by decide) hfr hlo hcs hna hst0 hsum hd (fun r I1 J1 R1 _ hp => kk r I1 J1 R1 hp)
theorem x_callS_v (hC : wOK C cc nL own) {rfr rlo cs sl : Nat} (hRm : wRm C rfr rlo cs sl) {index : Nat} {y : MethodName} {bytes : ByteArray} {mL fr lo na  : Nat} {av : List wV} {P : wPo} (hV : wCS own index y bytes mL none na) (hM0 : wMet y bytes mL none fr lo ad n I J R av P) (hfr : fr + 1 ≤ rfr) (hlo : 8 + (mL + 11) + lo ≤ rlo) (hcs : ks ≤ cs ∧ ss ≤ sl) (hna : av.length = na) {st0 : List wV} (hst0 : st0 = av.reverse ++ st) (hsum : wsum st ≤ 8) (hd : decode cc pc = .ok (.invokestatic index, 3)) (kk : ∀ (r : Int) (I1 J1 : mI) (R1 : mR), P r I1 J1 R1 → WM C ad n I1 J1 R1 ks ss (pc + 3) lv (st)) : WM C ad n I J R ks ss pc lv st0 := wm_callS hC hRm hM0 hV (by decide) hfr hlo hcs hna hst0 hsum hd (fun r I1 J1 R1 _ hp => kk r I1 J1 R1 hp)
theorem x_callS_i (hC : wOK C cc nL own) {rfr rlo cs sl : Nat} (hRm : wRm C rfr rlo cs sl) {index : Nat} {y : MethodName} {bytes : ByteArray} {mL fr lo na  : Nat} {av : List wV} {P : wPo} (hV : wCS own index y bytes mL (some .int) na) (hM0 : wMet y bytes mL (some .int) fr lo ad n I J R av P) (hfr : fr + 1 ≤ rfr) (hlo : 8 + (mL + 11) + lo ≤ rlo) (hcs : ks ≤ cs ∧ ss ≤ sl) (hna : av.length = na) {st0 : List wV} (hst0 : st0 = av.reverse ++ st) (hsum : wsum st ≤ 8) (hd : decode cc pc = .ok (.invokestatic index, 3)) (kk : ∀ (r : Int) (I1 J1 : mI) (R1 : mR), P r I1 J1 R1 → WM C ad n I1 J1 R1 ks ss (pc + 3) lv (vi r :: st)) : WM C ad n I J R ks ss pc lv st0 := wm_callS hC hRm hM0 hV (by decide) hfr hlo hcs hna hst0 hsum hd (fun r I1 J1 R1 _ hp => kk r I1 J1 R1 hp)
theorem x_callS_z (hC : wOK C cc nL own) {rfr rlo cs sl : Nat} (hRm : wRm C rfr rlo cs sl) {index : Nat} {y : MethodName} {bytes : ByteArray} {mL fr lo na  : Nat} {av : List wV} {P : wPo} (hV : wCS own index y bytes mL (some .boolean) na) (hM0 : wMet y bytes mL (some .boolean) fr lo ad n I J R av P) (hfr : fr + 1 ≤ rfr) (hlo : 8 + (mL + 11) + lo ≤ rlo) (hcs : ks ≤ cs ∧ ss ≤ sl) (hna : av.length = na) {st0 : List wV} (hst0 : st0 = av.reverse ++ st) (hsum : wsum st ≤ 8) (hd : decode cc pc = .ok (.invokestatic index, 3)) (kk : ∀ (r : Int) (I1 J1 : mI) (R1 : mR), P r I1 J1 R1 → WM C ad n I1 J1 R1 ks ss (pc + 3) lv (vi r :: st)) : WM C ad n I J R ks ss pc lv st0 := wm_callS hC hRm hM0 hV (by decide) hfr hlo hcs hna hst0 hsum hd (fun r I1 J1 R1 _ hp => kk r I1 J1 R1 hp)
theorem x_callS_l (hC : wOK C cc nL own) {rfr rlo cs sl : Nat} (hRm : wRm C rfr rlo cs sl) {index : Nat} {y : MethodName} {bytes : ByteArray} {mL fr lo na  : Nat} {av : List wV} {P : wPo} (hV : wCS own index y bytes mL (some .long) na) (hM0 : wMet y bytes mL (some .long) fr lo ad n I J R av P) (hfr : fr + 1 ≤ rfr) (hlo : 8 + (mL + 11) + lo ≤ rlo) (hcs : ks ≤ cs ∧ ss ≤ sl) (hna : av.length = na) {st0 : List wV} (hst0 : st0 = av.reverse ++ st) (hsum : wsum st ≤ 8) (hd : decode cc pc = .ok (.invokestatic index, 3)) (kk : ∀ (r : Int) (I1 J1 : mI) (R1 : mR), P r I1 J1 R1 → WM C ad n I1 J1 R1 ks ss (pc + 3) lv (vl r :: st)) : WM C ad n I J R ks ss pc lv st0 := wm_callS hC hRm hM0 hV (by decide) hfr hlo hcs hna hst0 hsum hd (fun r I1 J1 R1 _ hp => kk r I1 J1 R1 hp)
end R5
