section R2
variable {C : wX} {cc : ByteArray} {nL : Nat} {own : String} {ad : Nat → Nat} {n : Nat} {I J : mI} {R : mR} {ks ss pc : Nat} {lv : List (Nat × wV)} {st : List wV}
def bAnd (x y : Int) : Int := (Int32.ofInt x &&& Int32.ofInt y).toInt
def bOr (x y : Int) : Int := (Int32.ofInt x ||| Int32.ofInt y).toInt
def bXor (x y : Int) : Int := (Int32.ofInt x ^^^ Int32.ofInt y).toInt
def bShl (x y : Int) : Int := (Int32.ofInt x <<< (Int32.ofInt y &&& 31)).toInt
def bShr (x y : Int) : Int := (Int32.ofInt x >>> (Int32.ofInt y &&& 31)).toInt
def lAnd (x y : Int) : Int := (Int64.ofInt x &&& Int64.ofInt y).toInt
def lOr (x y : Int) : Int := (Int64.ofInt x ||| Int64.ofInt y).toInt
def lShl (x y : Int) : Int := (Int64.ofInt x <<< ((Int32.ofInt y).toInt64 &&& 63)).toInt
def lShr (x y : Int) : Int := (Int64.ofInt x >>> ((Int32.ofInt y).toInt64 &&& 63)).toInt
def nB (x : Int) : Int := (Int32.ofInt x).toInt8.toInt
def nC (x : Int) : Int := ((Int32.ofInt x).toUInt32 % 65536).toInt32.toInt
theorem w_ref {a : Nat} (h0 : a ≠ 0) : wv ad (vr a) = .ref (ad a) := wrf_ref h0
theorem rg_tmod {x y : Int} (h : rg x) : rg (x.tmod y) := by
  have h2 := Nat.mod_le x.natAbs y.natAbs
  rw [← Int.natAbs_tmod x y] at h2
  have h3 := Int.neg_tmod (-x) y
  rw [Int.neg_neg] at h3
  rcases Int.le_total 0 x with q | q
  · omega
  · have h4 := Int.tmod_nonneg y (show 0 ≤ -x by omega)
    omega
theorem rl_tmod {x y : Int} (h : rl x) : rl (x.tmod y) := by
  have h2 := Nat.mod_le x.natAbs y.natAbs
  rw [← Int.natAbs_tmod x y] at h2
  have h3 := Int.neg_tmod (-x) y
  rw [Int.neg_neg] at h3
  rcases Int.le_total 0 x with q | q
  · omega
  · have h4 := Int.tmod_nonneg y (show 0 ≤ -x by omega)
    omega
theorem i32_div {x y : Int} (hx : rg x) (hy : rg y) : Int32.ofInt x / Int32.ofInt y = Int32.ofInt (x.tdiv y) := by
  rw [← Int32.toInt_inj, Int32.toInt_div, i32_toInt hx, i32_toInt hy, Int32.toInt_ofInt]
theorem i64_div {x y : Int} (hx : rl x) (hy : rl y) : Int64.ofInt x / Int64.ofInt y = Int64.ofInt (x.tdiv y) := by
  rw [← Int64.toInt_inj, Int64.toInt_div, i64_toInt hx, i64_toInt hy, Int64.toInt_ofInt]
theorem i32_rem {x y : Int} (hx : rg x) (hy : rg y) : Int32.ofInt x - Int32.ofInt x / Int32.ofInt y * Int32.ofInt y = Int32.ofInt (x.tmod y) := by
  rw [i32_div hx hy, ← Int32.ofInt_mul, ← Int32.ofInt_sub, Int.tmod_def, Int.mul_comm]
theorem i64_rem {x y : Int} (hx : rl x) (hy : rl y) : Int64.ofInt x - Int64.ofInt x / Int64.ofInt y * Int64.ofInt y = Int64.ofInt (x.tmod y) := by
  rw [i64_div hx hy, ← Int64.ofInt_mul, ← Int64.ofInt_sub, Int.tmod_def, Int.mul_comm]
theorem wm_iadd (hC : wOK C cc nL own) {x y : Int} (hd : decode cc pc = .ok (.iadd, 1)) (hr : rg (x + y)) (k : WM C ad n I J R ks ss (pc + 1) lv (vi (x + y) :: st)) : WM C ad n I J R ks ss pc lv (vi y :: vi x :: st) := by
  obtain ⟨p, l, e, Rm, s, m, args, below, meth, c, Q, D, cY, A, nL', own'⟩ := C
  obtain ⟨hx, hb, hml, hown, hts, hK, hA, hlk, rfl, rfl⟩ := hC
  intro hM hlv hst H locs ls hP hD hS hl
  refine lv_iadd hx hb hd ?_
  rw [← Int32.ofInt_add]
  exact k hM hlv (fc_i hr (fc_c (fc_c hst).2).2) H locs ls hP hD hS hl
theorem wm_ladd (hC : wOK C cc nL own) {x y : Int} (hd : decode cc pc = .ok (.ladd, 1)) (hr : rl (x + y)) (k : WM C ad n I J R ks ss (pc + 1) lv (vl (x + y) :: st)) : WM C ad n I J R ks ss pc lv (vl y :: vl x :: st) := by
  obtain ⟨p, l, e, Rm, s, m, args, below, meth, c, Q, D, cY, A, nL', own'⟩ := C
  obtain ⟨hx, hb, hml, hown, hts, hK, hA, hlk, rfl, rfl⟩ := hC
  intro hM hlv hst H locs ls hP hD hS hl
  refine lv_ladd hx hb hd ?_
  rw [← Int64.ofInt_add]
  exact k hM hlv (fc_i hr (fc_c (fc_c hst).2).2) H locs ls hP hD hS hl
theorem wm_isub (hC : wOK C cc nL own) {x y : Int} (hd : decode cc pc = .ok (.isub, 1)) (hr : rg (x - y)) (k : WM C ad n I J R ks ss (pc + 1) lv (vi (x - y) :: st)) : WM C ad n I J R ks ss pc lv (vi y :: vi x :: st) := by
  obtain ⟨p, l, e, Rm, s, m, args, below, meth, c, Q, D, cY, A, nL', own'⟩ := C
  obtain ⟨hx, hb, hml, hown, hts, hK, hA, hlk, rfl, rfl⟩ := hC
  intro hM hlv hst H locs ls hP hD hS hl
  refine lv_isub hx hb hd ?_
  rw [← Int32.ofInt_sub]
  exact k hM hlv (fc_i hr (fc_c (fc_c hst).2).2) H locs ls hP hD hS hl
theorem wm_lsub (hC : wOK C cc nL own) {x y : Int} (hd : decode cc pc = .ok (.lsub, 1)) (hr : rl (x - y)) (k : WM C ad n I J R ks ss (pc + 1) lv (vl (x - y) :: st)) : WM C ad n I J R ks ss pc lv (vl y :: vl x :: st) := by
  obtain ⟨p, l, e, Rm, s, m, args, below, meth, c, Q, D, cY, A, nL', own'⟩ := C
  obtain ⟨hx, hb, hml, hown, hts, hK, hA, hlk, rfl, rfl⟩ := hC
  intro hM hlv hst H locs ls hP hD hS hl
  refine lv_lsub hx hb hd ?_
  rw [← Int64.ofInt_sub]
  exact k hM hlv (fc_i hr (fc_c (fc_c hst).2).2) H locs ls hP hD hS hl
theorem wm_imul (hC : wOK C cc nL own) {x y : Int} (hd : decode cc pc = .ok (.imul, 1)) (hr : rg (x * y)) (k : WM C ad n I J R ks ss (pc + 1) lv (vi (x * y) :: st)) : WM C ad n I J R ks ss pc lv (vi y :: vi x :: st) := by
  obtain ⟨p, l, e, Rm, s, m, args, below, meth, c, Q, D, cY, A, nL', own'⟩ := C
  obtain ⟨hx, hb, hml, hown, hts, hK, hA, hlk, rfl, rfl⟩ := hC
  intro hM hlv hst H locs ls hP hD hS hl
  refine lv_imul hx hb hd ?_
  rw [← Int32.ofInt_mul]
  exact k hM hlv (fc_i hr (fc_c (fc_c hst).2).2) H locs ls hP hD hS hl
theorem wm_lmul (hC : wOK C cc nL own) {x y : Int} (hd : decode cc pc = .ok (.lmul, 1)) (hr : rl (x * y)) (k : WM C ad n I J R ks ss (pc + 1) lv (vl (x * y) :: st)) : WM C ad n I J R ks ss pc lv (vl y :: vl x :: st) := by
  obtain ⟨p, l, e, Rm, s, m, args, below, meth, c, Q, D, cY, A, nL', own'⟩ := C
  obtain ⟨hx, hb, hml, hown, hts, hK, hA, hlk, rfl, rfl⟩ := hC
  intro hM hlv hst H locs ls hP hD hS hl
  refine lv_lmul hx hb hd ?_
  rw [← Int64.ofInt_mul]
  exact k hM hlv (fc_i hr (fc_c (fc_c hst).2).2) H locs ls hP hD hS hl
theorem wm_ineg (hC : wOK C cc nL own) {x : Int} (hd : decode cc pc = .ok (.ineg, 1)) (hr : rg (-x)) (k : WM C ad n I J R ks ss (pc + 1) lv (vi (-x) :: st)) : WM C ad n I J R ks ss pc lv (vi x :: st) := by
  obtain ⟨p, l, e, Rm, s, m, args, below, meth, c, Q, D, cY, A, nL', own'⟩ := C
  obtain ⟨hx, hb, hml, hown, hts, hK, hA, hlk, rfl, rfl⟩ := hC
  intro hM hlv hst H locs ls hP hD hS hl
  refine lv_ineg hx hb hd ?_
  rw [← Int32.ofInt_neg]
  exact k hM hlv (fc_i hr (fc_c hst).2) H locs ls hP hD hS hl
theorem wm_idiv (hC : wOK C cc nL own) {x y : Int} (hd : decode cc pc = .ok (.idiv, 1)) (h0 : y ≠ 0) (hr : rg (x.tdiv y)) (k : WM C ad n I J R ks ss (pc + 1) lv (vi (x.tdiv y) :: st)) : WM C ad n I J R ks ss pc lv (vi y :: vi x :: st) := by
  obtain ⟨p, l, e, Rm, s, m, args, below, meth, c, Q, D, cY, A, nL', own'⟩ := C
  obtain ⟨hx, hb, hml, hown, hts, hK, hA, hlk, rfl, rfl⟩ := hC
  intro hM hlv hst H locs ls hP hD hS hl
  refine lv_idiv hx hb hd (fun q => h0 ((i32_eq (fc_c hst).1 (by omega)).mp q)) ?_
  rw [i32_div (fc_c (fc_c hst).2).1 (fc_c hst).1]
  exact k hM hlv (fc_i hr (fc_c (fc_c hst).2).2) H locs ls hP hD hS hl
theorem wm_irem (hC : wOK C cc nL own) {x y : Int} (hd : decode cc pc = .ok (.irem, 1)) (h0 : y ≠ 0) (k : WM C ad n I J R ks ss (pc + 1) lv (vi (x.tmod y) :: st)) : WM C ad n I J R ks ss pc lv (vi y :: vi x :: st) := by
  obtain ⟨p, l, e, Rm, s, m, args, below, meth, c, Q, D, cY, A, nL', own'⟩ := C
  obtain ⟨hx, hb, hml, hown, hts, hK, hA, hlk, rfl, rfl⟩ := hC
  intro hM hlv hst H locs ls hP hD hS hl
  refine lv_irem hx hb hd (fun q => h0 ((i32_eq (fc_c hst).1 (by omega)).mp q)) ?_
  rw [i32_rem (fc_c (fc_c hst).2).1 (fc_c hst).1]
  exact k hM hlv (fc_i (rg_tmod (fc_c (fc_c hst).2).1) (fc_c (fc_c hst).2).2) H locs ls hP hD hS hl
theorem wm_ldiv (hC : wOK C cc nL own) {x y : Int} (hd : decode cc pc = .ok (.ldiv, 1)) (h0 : y ≠ 0) (hr : rl (x.tdiv y)) (k : WM C ad n I J R ks ss (pc + 1) lv (vl (x.tdiv y) :: st)) : WM C ad n I J R ks ss pc lv (vl y :: vl x :: st) := by
  obtain ⟨p, l, e, Rm, s, m, args, below, meth, c, Q, D, cY, A, nL', own'⟩ := C
  obtain ⟨hx, hb, hml, hown, hts, hK, hA, hlk, rfl, rfl⟩ := hC
  intro hM hlv hst H locs ls hP hD hS hl
  refine lv_ldiv hx hb hd (fun q => h0 ((i64_eq (fc_c hst).1 (by omega)).mp q)) ?_
  rw [i64_div (fc_c (fc_c hst).2).1 (fc_c hst).1]
  exact k hM hlv (fc_i hr (fc_c (fc_c hst).2).2) H locs ls hP hD hS hl
theorem wm_lrem (hC : wOK C cc nL own) {x y : Int} (hd : decode cc pc = .ok (.lrem, 1)) (h0 : y ≠ 0) (k : WM C ad n I J R ks ss (pc + 1) lv (vl (x.tmod y) :: st)) : WM C ad n I J R ks ss pc lv (vl y :: vl x :: st) := by
  obtain ⟨p, l, e, Rm, s, m, args, below, meth, c, Q, D, cY, A, nL', own'⟩ := C
  obtain ⟨hx, hb, hml, hown, hts, hK, hA, hlk, rfl, rfl⟩ := hC
  intro hM hlv hst H locs ls hP hD hS hl
  refine lv_lrem hx hb hd (fun q => h0 ((i64_eq (fc_c hst).1 (by omega)).mp q)) ?_
  rw [i64_rem (fc_c (fc_c hst).2).1 (fc_c hst).1]
  exact k hM hlv (fc_i (rl_tmod (fc_c (fc_c hst).2).1) (fc_c (fc_c hst).2).2) H locs ls hP hD hS hl
theorem wm_iand (hC : wOK C cc nL own) {x y : Int} (hd : decode cc pc = .ok (.iand, 1))  (k : WM C ad n I J R ks ss (pc + 1) lv (vi (bAnd x y) :: st)) : WM C ad n I J R ks ss pc lv (vi y :: vi x :: st) := by
  obtain ⟨p, l, e, Rm, s, m, args, below, meth, c, Q, D, cY, A, nL', own'⟩ := C
  obtain ⟨hx, hb, hml, hown, hts, hK, hA, hlk, rfl, rfl⟩ := hC
  intro hM hlv hst H locs ls hP hD hS hl
  refine lv_iand hx hb hd ?_
  have h2 := k hM hlv (fc_i (rg_i32 _) (fc_c (fc_c hst).2).2) H locs ls hP hD hS hl
  rw [List.map_cons, show wv ad (vi (bAnd x y)) = _ from congrArg Value.int (Int32.ofInt_toInt _)] at h2
  exact h2
theorem wm_ior (hC : wOK C cc nL own) {x y : Int} (hd : decode cc pc = .ok (.ior, 1))  (k : WM C ad n I J R ks ss (pc + 1) lv (vi (bOr x y) :: st)) : WM C ad n I J R ks ss pc lv (vi y :: vi x :: st) := by
  obtain ⟨p, l, e, Rm, s, m, args, below, meth, c, Q, D, cY, A, nL', own'⟩ := C
  obtain ⟨hx, hb, hml, hown, hts, hK, hA, hlk, rfl, rfl⟩ := hC
  intro hM hlv hst H locs ls hP hD hS hl
  refine lv_ior hx hb hd ?_
  have h2 := k hM hlv (fc_i (rg_i32 _) (fc_c (fc_c hst).2).2) H locs ls hP hD hS hl
  rw [List.map_cons, show wv ad (vi (bOr x y)) = _ from congrArg Value.int (Int32.ofInt_toInt _)] at h2
  exact h2
theorem wm_ishl (hC : wOK C cc nL own) {x y : Int} (hd : decode cc pc = .ok (.ishl, 1))  (k : WM C ad n I J R ks ss (pc + 1) lv (vi (bShl x y) :: st)) : WM C ad n I J R ks ss pc lv (vi y :: vi x :: st) := by
  obtain ⟨p, l, e, Rm, s, m, args, below, meth, c, Q, D, cY, A, nL', own'⟩ := C
  obtain ⟨hx, hb, hml, hown, hts, hK, hA, hlk, rfl, rfl⟩ := hC
  intro hM hlv hst H locs ls hP hD hS hl
  refine lv_ishl hx hb hd ?_
  have h2 := k hM hlv (fc_i (rg_i32 _) (fc_c (fc_c hst).2).2) H locs ls hP hD hS hl
  rw [List.map_cons, show wv ad (vi (bShl x y)) = _ from congrArg Value.int (Int32.ofInt_toInt _)] at h2
  exact h2
theorem wm_ishr (hC : wOK C cc nL own) {x y : Int} (hd : decode cc pc = .ok (.ishr, 1))  (k : WM C ad n I J R ks ss (pc + 1) lv (vi (bShr x y) :: st)) : WM C ad n I J R ks ss pc lv (vi y :: vi x :: st) := by
  obtain ⟨p, l, e, Rm, s, m, args, below, meth, c, Q, D, cY, A, nL', own'⟩ := C
  obtain ⟨hx, hb, hml, hown, hts, hK, hA, hlk, rfl, rfl⟩ := hC
  intro hM hlv hst H locs ls hP hD hS hl
  refine lv_ishr hx hb hd ?_
  have h2 := k hM hlv (fc_i (rg_i32 _) (fc_c (fc_c hst).2).2) H locs ls hP hD hS hl
  rw [List.map_cons, show wv ad (vi (bShr x y)) = _ from congrArg Value.int (Int32.ofInt_toInt _)] at h2
  exact h2
theorem wm_land (hC : wOK C cc nL own) {x y : Int} (hd : decode cc pc = .ok (.land, 1))  (k : WM C ad n I J R ks ss (pc + 1) lv (vl (lAnd x y) :: st)) : WM C ad n I J R ks ss pc lv (vl y :: vl x :: st) := by
  obtain ⟨p, l, e, Rm, s, m, args, below, meth, c, Q, D, cY, A, nL', own'⟩ := C
  obtain ⟨hx, hb, hml, hown, hts, hK, hA, hlk, rfl, rfl⟩ := hC
  intro hM hlv hst H locs ls hP hD hS hl
  refine lv_land hx hb hd ?_
  have h2 := k hM hlv (fc_i (rl_i64 _) (fc_c (fc_c hst).2).2) H locs ls hP hD hS hl
  rw [List.map_cons, show wv ad (vl (lAnd x y)) = _ from congrArg Value.long (Int64.ofInt_toInt _)] at h2
  exact h2
theorem wm_lor (hC : wOK C cc nL own) {x y : Int} (hd : decode cc pc = .ok (.lor, 1))  (k : WM C ad n I J R ks ss (pc + 1) lv (vl (lOr x y) :: st)) : WM C ad n I J R ks ss pc lv (vl y :: vl x :: st) := by
  obtain ⟨p, l, e, Rm, s, m, args, below, meth, c, Q, D, cY, A, nL', own'⟩ := C
  obtain ⟨hx, hb, hml, hown, hts, hK, hA, hlk, rfl, rfl⟩ := hC
  intro hM hlv hst H locs ls hP hD hS hl
  refine lv_lor hx hb hd ?_
  have h2 := k hM hlv (fc_i (rl_i64 _) (fc_c (fc_c hst).2).2) H locs ls hP hD hS hl
  rw [List.map_cons, show wv ad (vl (lOr x y)) = _ from congrArg Value.long (Int64.ofInt_toInt _)] at h2
  exact h2
theorem wm_lshl (hC : wOK C cc nL own) {x y : Int} (hd : decode cc pc = .ok (.lshl, 1))  (k : WM C ad n I J R ks ss (pc + 1) lv (vl (lShl x y) :: st)) : WM C ad n I J R ks ss pc lv (vi y :: vl x :: st) := by
  obtain ⟨p, l, e, Rm, s, m, args, below, meth, c, Q, D, cY, A, nL', own'⟩ := C
  obtain ⟨hx, hb, hml, hown, hts, hK, hA, hlk, rfl, rfl⟩ := hC
  intro hM hlv hst H locs ls hP hD hS hl
  exact lv_lshl hx hb hd (Int64.ofInt_toInt _).symm (k hM hlv (fc_i (rl_i64 _) (fc_c (fc_c hst).2).2) H locs ls hP hD hS hl)
theorem wm_lshr (hC : wOK C cc nL own) {x y : Int} (hd : decode cc pc = .ok (.lshr, 1))  (k : WM C ad n I J R ks ss (pc + 1) lv (vl (lShr x y) :: st)) : WM C ad n I J R ks ss pc lv (vi y :: vl x :: st) := by
  obtain ⟨p, l, e, Rm, s, m, args, below, meth, c, Q, D, cY, A, nL', own'⟩ := C
  obtain ⟨hx, hb, hml, hown, hts, hK, hA, hlk, rfl, rfl⟩ := hC
  intro hM hlv hst H locs ls hP hD hS hl
  exact lv_lshr hx hb hd (Int64.ofInt_toInt _).symm (k hM hlv (fc_i (rl_i64 _) (fc_c (fc_c hst).2).2) H locs ls hP hD hS hl)
theorem wm_i2l (hC : wOK C cc nL own) {x : Int} (hd : decode cc pc = .ok (.i2l, 1))  (k : WM C ad n I J R ks ss (pc + 1) lv (vl x :: st)) : WM C ad n I J R ks ss pc lv (vi x :: st) := by
  obtain ⟨p, l, e, Rm, s, m, args, below, meth, c, Q, D, cY, A, nL', own'⟩ := C
  obtain ⟨hx, hb, hml, hown, hts, hK, hA, hlk, rfl, rfl⟩ := hC
  intro hM hlv hst H locs ls hP hD hS hl
  have hr : rg x := (fc_c hst).1
  exact lv_i2l hx hb hd (by rw [← Int64.toInt_inj, Int32.toInt_toInt64, i32_toInt hr, i64_toInt (by omega)]) (k hM hlv (fc_i (by show rl x; omega) (fc_c hst).2) H locs ls hP hD hS hl)
theorem wm_l2i (hC : wOK C cc nL own) {x : Int} (hd : decode cc pc = .ok (.l2i, 1)) (hr : rg x) (k : WM C ad n I J R ks ss (pc + 1) lv (vi x :: st)) : WM C ad n I J R ks ss pc lv (vl x :: st) := by
  obtain ⟨p, l, e, Rm, s, m, args, below, meth, c, Q, D, cY, A, nL', own'⟩ := C
  obtain ⟨hx, hb, hml, hown, hts, hK, hA, hlk, rfl, rfl⟩ := hC
  intro hM hlv hst H locs ls hP hD hS hl
  exact lv_l2i hx hb hd Int64.toInt32_ofInt (k hM hlv (fc_i hr (fc_c hst).2) H locs ls hP hD hS hl)
theorem wm_i2b (hC : wOK C cc nL own) {x : Int} (hd : decode cc pc = .ok (.i2b, 1))  (k : WM C ad n I J R ks ss (pc + 1) lv (vi (nB x) :: st)) : WM C ad n I J R ks ss pc lv (vi x :: st) := by
  obtain ⟨p, l, e, Rm, s, m, args, below, meth, c, Q, D, cY, A, nL', own'⟩ := C
  obtain ⟨hx, hb, hml, hown, hts, hK, hA, hlk, rfl, rfl⟩ := hC
  intro hM hlv hst H locs ls hP hD hS hl
  exact lv_i2b hx hb hd (by rw [nB, ← Int32.toInt_inj, Int8.toInt_toInt32, i32_toInt]; exact ⟨by have := Int8.le_toInt (Int32.ofInt x).toInt8; omega, by have := Int8.toInt_lt (Int32.ofInt x).toInt8; omega⟩) (k hM hlv (fc_i ⟨by show _ ≤ (Int32.ofInt x).toInt8.toInt; have := Int8.le_toInt (Int32.ofInt x).toInt8; omega, by show (Int32.ofInt x).toInt8.toInt < _; have := Int8.toInt_lt (Int32.ofInt x).toInt8; omega⟩ (fc_c hst).2) H locs ls hP hD hS hl)
theorem wm_i2c (hC : wOK C cc nL own) {x : Int} (hd : decode cc pc = .ok (.i2c, 1))  (k : WM C ad n I J R ks ss (pc + 1) lv (vi (nC x) :: st)) : WM C ad n I J R ks ss pc lv (vi x :: st) := by
  obtain ⟨p, l, e, Rm, s, m, args, below, meth, c, Q, D, cY, A, nL', own'⟩ := C
  obtain ⟨hx, hb, hml, hown, hts, hK, hA, hlk, rfl, rfl⟩ := hC
  intro hM hlv hst H locs ls hP hD hS hl
  exact lv_i2c hx hb hd (Int32.ofInt_toInt _).symm (k hM hlv (fc_i (rg_i32 _) (fc_c hst).2) H locs ls hP hD hS hl)
theorem cat1 {v : wV} (h : wc v = false) : (wv ad v).category = 1 := by
  have h1 := wc_ok ad v
  rw [h] at h1
  rcases lv_cat (wv ad v) with q | q
  · exact q
  · rw [q] at h1; cases h1
theorem cat2 {v : wV} (h : wc v = true) : (wv ad v).category = 2 := by
  have h1 := wc_ok ad v
  rw [h] at h1
  exact eq_of_beq h1
theorem wm_dup (hC : wOK C cc nL own) {v : wV} (hd : decode cc pc = .ok (.dup, 1)) (hc : wc v = false := by rfl) (k : WM C ad n I J R ks ss (pc + 1) lv (v :: v :: st)) : WM C ad n I J R ks ss pc lv (v :: st) := by
  obtain ⟨p, l, e, Rm, s, m, args, below, meth, c, Q, D, cY, A, nL', own'⟩ := C
  obtain ⟨hx, hb, hml, hown, hts, hK, hA, hlk, rfl, rfl⟩ := hC
  intro hM hlv hst H locs ls hP hD hS hl
  exact lv_dup hx hb hd (cat1 hc) (k hM hlv (fc_i (fc_c hst).1 hst) H locs ls hP hD hS hl)
theorem wm_pop (hC : wOK C cc nL own) {v : wV} (hd : decode cc pc = .ok (.pop, 1)) (hc : wc v = false := by rfl) (k : WM C ad n I J R ks ss (pc + 1) lv (st)) : WM C ad n I J R ks ss pc lv (v :: st) := by
  obtain ⟨p, l, e, Rm, s, m, args, below, meth, c, Q, D, cY, A, nL', own'⟩ := C
  obtain ⟨hx, hb, hml, hown, hts, hK, hA, hlk, rfl, rfl⟩ := hC
  intro hM hlv hst H locs ls hP hD hS hl
  exact lv_pop hx hb hd (cat1 hc) (k hM hlv (fc_c hst).2 H locs ls hP hD hS hl)
theorem wm_dup2_11 (hC : wOK C cc nL own) {v w : wV} (hd : decode cc pc = .ok (.dup2, 1)) (hc : wc v = false := by rfl) (hc2 : wc w = false := by rfl) (k : WM C ad n I J R ks ss (pc + 1) lv (v :: w :: v :: w :: st)) : WM C ad n I J R ks ss pc lv (v :: w :: st) := by
  obtain ⟨p, l, e, Rm, s, m, args, below, meth, c, Q, D, cY, A, nL', own'⟩ := C
  obtain ⟨hx, hb, hml, hown, hts, hK, hA, hlk, rfl, rfl⟩ := hC
  intro hM hlv hst H locs ls hP hD hS hl
  exact lv_dup2_11 hx hb hd (cat1 hc) (cat1 hc2) (k hM hlv (fc_i (fc_c hst).1 (fc_i (fc_c (fc_c hst).2).1 hst)) H locs ls hP hD hS hl)
theorem wm_dup2_2 (hC : wOK C cc nL own) {v : wV} (hd : decode cc pc = .ok (.dup2, 1)) (hc : wc v = true := by rfl) (k : WM C ad n I J R ks ss (pc + 1) lv (v :: v :: st)) : WM C ad n I J R ks ss pc lv (v :: st) := by
  obtain ⟨p, l, e, Rm, s, m, args, below, meth, c, Q, D, cY, A, nL', own'⟩ := C
  obtain ⟨hx, hb, hml, hown, hts, hK, hA, hlk, rfl, rfl⟩ := hC
  intro hM hlv hst H locs ls hP hD hS hl
  exact lv_dup2_2 hx hb hd (cat2 hc) (k hM hlv (fc_i (fc_c hst).1 hst) H locs ls hP hD hS hl)
theorem wm_goto (hC : wOK C cc nL own) {off : Int} {tgt : Nat} (hd : decode cc pc = .ok (.goto off, 3)) (ht : (pc : Int) + off = (tgt : Int)) (k : WM C ad n I J R ks ss tgt lv st) : WM C ad n I J R ks ss pc lv st := by
  obtain ⟨p, l, e, Rm, s, m, args, below, meth, c, Q, D, cY, A, nL', own'⟩ := C
  obtain ⟨hx, hb, hml, hown, hts, hK, hA, hlk, rfl, rfl⟩ := hC
  intro hM hlv hst H locs ls hP hD hS hl
  exact lv_goto hx hb hd ht (k hM hlv hst H locs ls hP hD hS hl)
theorem wm_icmp_eq (hC : wOK C cc nL own) {x y : Int} {off : Int} {tgt : Nat} {WA WB : Prop} (hd : decode cc pc = .ok (.if_icmp .eq off, 3)) (ht : (pc : Int) + off = (tgt : Int)) (hw : if x = y then WA else WB) (kt : WA → WM C ad n I J R ks ss tgt lv st) (kf : WB → WM C ad n I J R ks ss (pc + 3) lv st) : WM C ad n I J R ks ss pc lv (vi y :: vi x :: st) := by
  obtain ⟨p, l, e, Rm, s, m, args, below, meth, c, Q, D, cY, A, nL', own'⟩ := C
  obtain ⟨hx, hb, hml, hown, hts, hK, hA, hlk, rfl, rfl⟩ := hC
  intro hM hlv hst H locs ls hP hD hS hl
  by_cases h : x = y
  · rw [if_pos h] at hw
    exact lv_icmp_eq hx hb hd ht (fun _ => kt hw hM hlv (fc_c (fc_c hst).2).2 H locs ls hP hD hS hl) (fun q => absurd ((i32_eq (fc_c (fc_c hst).2).1 (fc_c hst).1).mpr h) q)
  · rw [if_neg h] at hw
    exact lv_icmp_eq hx hb hd ht (fun q => absurd ((i32_eq (fc_c (fc_c hst).2).1 (fc_c hst).1).mp q) h) (fun _ => kf hw hM hlv (fc_c (fc_c hst).2).2 H locs ls hP hD hS hl)
theorem wm_icmp_ne (hC : wOK C cc nL own) {x y : Int} {off : Int} {tgt : Nat} {WA WB : Prop} (hd : decode cc pc = .ok (.if_icmp .ne off, 3)) (ht : (pc : Int) + off = (tgt : Int)) (hw : if x = y then WA else WB) (kf : WA → WM C ad n I J R ks ss (pc + 3) lv st) (kt : WB → WM C ad n I J R ks ss tgt lv st) : WM C ad n I J R ks ss pc lv (vi y :: vi x :: st) := by
  obtain ⟨p, l, e, Rm, s, m, args, below, meth, c, Q, D, cY, A, nL', own'⟩ := C
  obtain ⟨hx, hb, hml, hown, hts, hK, hA, hlk, rfl, rfl⟩ := hC
  intro hM hlv hst H locs ls hP hD hS hl
  by_cases h : x = y
  · rw [if_pos h] at hw
    exact lv_icmp_ne hx hb hd ht (fun q => absurd ((i32_eq (fc_c (fc_c hst).2).1 (fc_c hst).1).mpr h) q) (fun _ => kf hw hM hlv (fc_c (fc_c hst).2).2 H locs ls hP hD hS hl)
  · rw [if_neg h] at hw
    exact lv_icmp_ne hx hb hd ht (fun _ => kt hw hM hlv (fc_c (fc_c hst).2).2 H locs ls hP hD hS hl) (fun q => absurd ((i32_eq (fc_c (fc_c hst).2).1 (fc_c hst).1).mp q) h)
theorem wm_icmp_lt (hC : wOK C cc nL own) {x y : Int} {off : Int} {tgt : Nat} {WA WB : Prop} (hd : decode cc pc = .ok (.if_icmp .lt off, 3)) (ht : (pc : Int) + off = (tgt : Int)) (hw : if x < y then WA else WB) (kt : WA → WM C ad n I J R ks ss tgt lv st) (kf : WB → WM C ad n I J R ks ss (pc + 3) lv st) : WM C ad n I J R ks ss pc lv (vi y :: vi x :: st) := by
  obtain ⟨p, l, e, Rm, s, m, args, below, meth, c, Q, D, cY, A, nL', own'⟩ := C
  obtain ⟨hx, hb, hml, hown, hts, hK, hA, hlk, rfl, rfl⟩ := hC
  intro hM hlv hst H locs ls hP hD hS hl
  by_cases h : x < y
  · rw [if_pos h] at hw
    exact lv_icmp_lt hx hb hd ht (fun _ => kt hw hM hlv (fc_c (fc_c hst).2).2 H locs ls hP hD hS hl) (fun q => absurd ((i32_lt (fc_c (fc_c hst).2).1 (fc_c hst).1).mpr h) q)
  · rw [if_neg h] at hw
    exact lv_icmp_lt hx hb hd ht (fun q => absurd ((i32_lt (fc_c (fc_c hst).2).1 (fc_c hst).1).mp q) h) (fun _ => kf hw hM hlv (fc_c (fc_c hst).2).2 H locs ls hP hD hS hl)
theorem wm_icmp_ge (hC : wOK C cc nL own) {x y : Int} {off : Int} {tgt : Nat} {WA WB : Prop} (hd : decode cc pc = .ok (.if_icmp .ge off, 3)) (ht : (pc : Int) + off = (tgt : Int)) (hw : if y ≤ x then WA else WB) (kt : WA → WM C ad n I J R ks ss tgt lv st) (kf : WB → WM C ad n I J R ks ss (pc + 3) lv st) : WM C ad n I J R ks ss pc lv (vi y :: vi x :: st) := by
  obtain ⟨p, l, e, Rm, s, m, args, below, meth, c, Q, D, cY, A, nL', own'⟩ := C
  obtain ⟨hx, hb, hml, hown, hts, hK, hA, hlk, rfl, rfl⟩ := hC
  intro hM hlv hst H locs ls hP hD hS hl
  by_cases h : y ≤ x
  · rw [if_pos h] at hw
    exact lv_icmp_ge hx hb hd ht (fun _ => kt hw hM hlv (fc_c (fc_c hst).2).2 H locs ls hP hD hS hl) (fun q => absurd ((i32_le (fc_c hst).1 (fc_c (fc_c hst).2).1).mpr h) q)
  · rw [if_neg h] at hw
    exact lv_icmp_ge hx hb hd ht (fun q => absurd ((i32_le (fc_c hst).1 (fc_c (fc_c hst).2).1).mp q) h) (fun _ => kf hw hM hlv (fc_c (fc_c hst).2).2 H locs ls hP hD hS hl)
theorem wm_icmp_gt (hC : wOK C cc nL own) {x y : Int} {off : Int} {tgt : Nat} {WA WB : Prop} (hd : decode cc pc = .ok (.if_icmp .gt off, 3)) (ht : (pc : Int) + off = (tgt : Int)) (hw : if y < x then WA else WB) (kt : WA → WM C ad n I J R ks ss tgt lv st) (kf : WB → WM C ad n I J R ks ss (pc + 3) lv st) : WM C ad n I J R ks ss pc lv (vi y :: vi x :: st) := by
  obtain ⟨p, l, e, Rm, s, m, args, below, meth, c, Q, D, cY, A, nL', own'⟩ := C
  obtain ⟨hx, hb, hml, hown, hts, hK, hA, hlk, rfl, rfl⟩ := hC
  intro hM hlv hst H locs ls hP hD hS hl
  by_cases h : y < x
  · rw [if_pos h] at hw
    exact lv_icmp_gt hx hb hd ht (fun _ => kt hw hM hlv (fc_c (fc_c hst).2).2 H locs ls hP hD hS hl) (fun q => absurd ((i32_lt (fc_c hst).1 (fc_c (fc_c hst).2).1).mpr h) q)
  · rw [if_neg h] at hw
    exact lv_icmp_gt hx hb hd ht (fun q => absurd ((i32_lt (fc_c hst).1 (fc_c (fc_c hst).2).1).mp q) h) (fun _ => kf hw hM hlv (fc_c (fc_c hst).2).2 H locs ls hP hD hS hl)
theorem wm_icmp_le (hC : wOK C cc nL own) {x y : Int} {off : Int} {tgt : Nat} {WA WB : Prop} (hd : decode cc pc = .ok (.if_icmp .le off, 3)) (ht : (pc : Int) + off = (tgt : Int)) (hw : if x ≤ y then WA else WB) (kt : WA → WM C ad n I J R ks ss tgt lv st) (kf : WB → WM C ad n I J R ks ss (pc + 3) lv st) : WM C ad n I J R ks ss pc lv (vi y :: vi x :: st) := by
  obtain ⟨p, l, e, Rm, s, m, args, below, meth, c, Q, D, cY, A, nL', own'⟩ := C
  obtain ⟨hx, hb, hml, hown, hts, hK, hA, hlk, rfl, rfl⟩ := hC
  intro hM hlv hst H locs ls hP hD hS hl
  by_cases h : x ≤ y
  · rw [if_pos h] at hw
    exact lv_icmp_le hx hb hd ht (fun _ => kt hw hM hlv (fc_c (fc_c hst).2).2 H locs ls hP hD hS hl) (fun q => absurd ((i32_le (fc_c (fc_c hst).2).1 (fc_c hst).1).mpr h) q)
  · rw [if_neg h] at hw
    exact lv_icmp_le hx hb hd ht (fun q => absurd ((i32_le (fc_c (fc_c hst).2).1 (fc_c hst).1).mp q) h) (fun _ => kf hw hM hlv (fc_c (fc_c hst).2).2 H locs ls hP hD hS hl)
theorem wm_if_eq (hC : wOK C cc nL own) {x : Int} {off : Int} {tgt : Nat} {WA WB : Prop} (hd : decode cc pc = .ok (.ifCond .eq off, 3)) (ht : (pc : Int) + off = (tgt : Int)) (hw : if x = 0 then WA else WB) (kt : WA → WM C ad n I J R ks ss tgt lv st) (kf : WB → WM C ad n I J R ks ss (pc + 3) lv st) : WM C ad n I J R ks ss pc lv (vi x :: st) := by
  obtain ⟨p, l, e, Rm, s, m, args, below, meth, c, Q, D, cY, A, nL', own'⟩ := C
  obtain ⟨hx, hb, hml, hown, hts, hK, hA, hlk, rfl, rfl⟩ := hC
  intro hM hlv hst H locs ls hP hD hS hl
  by_cases h : x = 0
  · rw [if_pos h] at hw
    exact lv_if_eq hx hb hd ht (fun _ => kt hw hM hlv (fc_c hst).2 H locs ls hP hD hS hl) (fun q => absurd ((i32_eq (fc_c hst).1 rg0).mpr h) q)
  · rw [if_neg h] at hw
    exact lv_if_eq hx hb hd ht (fun q => absurd ((i32_eq (fc_c hst).1 rg0).mp q) h) (fun _ => kf hw hM hlv (fc_c hst).2 H locs ls hP hD hS hl)
theorem wm_if_ne (hC : wOK C cc nL own) {x : Int} {off : Int} {tgt : Nat} {WA WB : Prop} (hd : decode cc pc = .ok (.ifCond .ne off, 3)) (ht : (pc : Int) + off = (tgt : Int)) (hw : if x = 0 then WA else WB) (kf : WA → WM C ad n I J R ks ss (pc + 3) lv st) (kt : WB → WM C ad n I J R ks ss tgt lv st) : WM C ad n I J R ks ss pc lv (vi x :: st) := by
  obtain ⟨p, l, e, Rm, s, m, args, below, meth, c, Q, D, cY, A, nL', own'⟩ := C
  obtain ⟨hx, hb, hml, hown, hts, hK, hA, hlk, rfl, rfl⟩ := hC
  intro hM hlv hst H locs ls hP hD hS hl
  by_cases h : x = 0
  · rw [if_pos h] at hw
    exact lv_if_ne hx hb hd ht (fun q => absurd ((i32_eq (fc_c hst).1 rg0).mpr h) q) (fun _ => kf hw hM hlv (fc_c hst).2 H locs ls hP hD hS hl)
  · rw [if_neg h] at hw
    exact lv_if_ne hx hb hd ht (fun _ => kt hw hM hlv (fc_c hst).2 H locs ls hP hD hS hl) (fun q => absurd ((i32_eq (fc_c hst).1 rg0).mp q) h)
theorem wm_if_lt (hC : wOK C cc nL own) {x : Int} {off : Int} {tgt : Nat} {WA WB : Prop} (hd : decode cc pc = .ok (.ifCond .lt off, 3)) (ht : (pc : Int) + off = (tgt : Int)) (hw : if x < 0 then WA else WB) (kt : WA → WM C ad n I J R ks ss tgt lv st) (kf : WB → WM C ad n I J R ks ss (pc + 3) lv st) : WM C ad n I J R ks ss pc lv (vi x :: st) := by
  obtain ⟨p, l, e, Rm, s, m, args, below, meth, c, Q, D, cY, A, nL', own'⟩ := C
  obtain ⟨hx, hb, hml, hown, hts, hK, hA, hlk, rfl, rfl⟩ := hC
  intro hM hlv hst H locs ls hP hD hS hl
  by_cases h : x < 0
  · rw [if_pos h] at hw
    exact lv_if_lt hx hb hd ht (fun _ => kt hw hM hlv (fc_c hst).2 H locs ls hP hD hS hl) (fun q => absurd ((i32_lt (fc_c hst).1 rg0).mpr h) q)
  · rw [if_neg h] at hw
    exact lv_if_lt hx hb hd ht (fun q => absurd ((i32_lt (fc_c hst).1 rg0).mp q) h) (fun _ => kf hw hM hlv (fc_c hst).2 H locs ls hP hD hS hl)
theorem wm_if_ge (hC : wOK C cc nL own) {x : Int} {off : Int} {tgt : Nat} {WA WB : Prop} (hd : decode cc pc = .ok (.ifCond .ge off, 3)) (ht : (pc : Int) + off = (tgt : Int)) (hw : if 0 ≤ x then WA else WB) (kt : WA → WM C ad n I J R ks ss tgt lv st) (kf : WB → WM C ad n I J R ks ss (pc + 3) lv st) : WM C ad n I J R ks ss pc lv (vi x :: st) := by
  obtain ⟨p, l, e, Rm, s, m, args, below, meth, c, Q, D, cY, A, nL', own'⟩ := C
  obtain ⟨hx, hb, hml, hown, hts, hK, hA, hlk, rfl, rfl⟩ := hC
  intro hM hlv hst H locs ls hP hD hS hl
  by_cases h : 0 ≤ x
  · rw [if_pos h] at hw
    exact lv_if_ge hx hb hd ht (fun _ => kt hw hM hlv (fc_c hst).2 H locs ls hP hD hS hl) (fun q => absurd ((i32_le rg0 (fc_c hst).1).mpr h) q)
  · rw [if_neg h] at hw
    exact lv_if_ge hx hb hd ht (fun q => absurd ((i32_le rg0 (fc_c hst).1).mp q) h) (fun _ => kf hw hM hlv (fc_c hst).2 H locs ls hP hD hS hl)
theorem wm_if_gt (hC : wOK C cc nL own) {x : Int} {off : Int} {tgt : Nat} {WA WB : Prop} (hd : decode cc pc = .ok (.ifCond .gt off, 3)) (ht : (pc : Int) + off = (tgt : Int)) (hw : if 0 < x then WA else WB) (kt : WA → WM C ad n I J R ks ss tgt lv st) (kf : WB → WM C ad n I J R ks ss (pc + 3) lv st) : WM C ad n I J R ks ss pc lv (vi x :: st) := by
  obtain ⟨p, l, e, Rm, s, m, args, below, meth, c, Q, D, cY, A, nL', own'⟩ := C
  obtain ⟨hx, hb, hml, hown, hts, hK, hA, hlk, rfl, rfl⟩ := hC
  intro hM hlv hst H locs ls hP hD hS hl
  by_cases h : 0 < x
  · rw [if_pos h] at hw
    exact lv_if_gt hx hb hd ht (fun _ => kt hw hM hlv (fc_c hst).2 H locs ls hP hD hS hl) (fun q => absurd ((i32_lt rg0 (fc_c hst).1).mpr h) q)
  · rw [if_neg h] at hw
    exact lv_if_gt hx hb hd ht (fun q => absurd ((i32_lt rg0 (fc_c hst).1).mp q) h) (fun _ => kf hw hM hlv (fc_c hst).2 H locs ls hP hD hS hl)
theorem wm_if_le (hC : wOK C cc nL own) {x : Int} {off : Int} {tgt : Nat} {WA WB : Prop} (hd : decode cc pc = .ok (.ifCond .le off, 3)) (ht : (pc : Int) + off = (tgt : Int)) (hw : if x ≤ 0 then WA else WB) (kt : WA → WM C ad n I J R ks ss tgt lv st) (kf : WB → WM C ad n I J R ks ss (pc + 3) lv st) : WM C ad n I J R ks ss pc lv (vi x :: st) := by
  obtain ⟨p, l, e, Rm, s, m, args, below, meth, c, Q, D, cY, A, nL', own'⟩ := C
  obtain ⟨hx, hb, hml, hown, hts, hK, hA, hlk, rfl, rfl⟩ := hC
  intro hM hlv hst H locs ls hP hD hS hl
  by_cases h : x ≤ 0
  · rw [if_pos h] at hw
    exact lv_if_le hx hb hd ht (fun _ => kt hw hM hlv (fc_c hst).2 H locs ls hP hD hS hl) (fun q => absurd ((i32_le (fc_c hst).1 rg0).mpr h) q)
  · rw [if_neg h] at hw
    exact lv_if_le hx hb hd ht (fun q => absurd ((i32_le (fc_c hst).1 rg0).mp q) h) (fun _ => kf hw hM hlv (fc_c hst).2 H locs ls hP hD hS hl)
theorem wm_lcmp_eq (hC : wOK C cc nL own) {x y : Int} {off : Int} {tgt : Nat} {WA WB : Prop} (hd1 : decode cc pc = .ok (.lcmp, 1)) (hd : decode cc (pc + 1) = .ok (.ifCond .eq off, 3)) (ht : ((pc + 1 : Nat) : Int) + off = (tgt : Int)) (hw : if x = y then WA else WB) (kt : WA → WM C ad n I J R ks ss tgt lv st) (kf : WB → WM C ad n I J R ks ss (pc + 4) lv st) : WM C ad n I J R ks ss pc lv (vl y :: vl x :: st) := by
  obtain ⟨p, l, e, Rm, s, m, args, below, meth, c, Q, D, cY, A, nL', own'⟩ := C
  obtain ⟨hx, hb, hml, hown, hts, hK, hA, hlk, rfl, rfl⟩ := hC
  intro hM hlv hst H locs ls hP hD hS hl
  refine W.lcmp hx hb hd1 ?_
  by_cases h : x = y
  · rw [if_pos h] at hw
    exact lv_if_eq hx hb hd ht (fun _ => kt hw hM hlv (fc_c (fc_c hst).2).2 H locs ls hP hD hS hl) (fun q => absurd (((lg_cmp_eq _ _).trans (i64_eq (fc_c (fc_c hst).2).1 (fc_c hst).1)).mpr h) q)
  · rw [if_neg h] at hw
    exact lv_if_eq hx hb hd ht (fun q => absurd (((lg_cmp_eq _ _).trans (i64_eq (fc_c (fc_c hst).2).1 (fc_c hst).1)).mp q) h) (fun _ => kf hw hM hlv (fc_c (fc_c hst).2).2 H locs ls hP hD hS hl)
theorem wm_lcmp_ne (hC : wOK C cc nL own) {x y : Int} {off : Int} {tgt : Nat} {WA WB : Prop} (hd1 : decode cc pc = .ok (.lcmp, 1)) (hd : decode cc (pc + 1) = .ok (.ifCond .ne off, 3)) (ht : ((pc + 1 : Nat) : Int) + off = (tgt : Int)) (hw : if x = y then WA else WB) (kf : WA → WM C ad n I J R ks ss (pc + 4) lv st) (kt : WB → WM C ad n I J R ks ss tgt lv st) : WM C ad n I J R ks ss pc lv (vl y :: vl x :: st) := by
  obtain ⟨p, l, e, Rm, s, m, args, below, meth, c, Q, D, cY, A, nL', own'⟩ := C
  obtain ⟨hx, hb, hml, hown, hts, hK, hA, hlk, rfl, rfl⟩ := hC
  intro hM hlv hst H locs ls hP hD hS hl
  refine W.lcmp hx hb hd1 ?_
  by_cases h : x = y
  · rw [if_pos h] at hw
    exact lv_if_ne hx hb hd ht (fun q => absurd (((lg_cmp_eq _ _).trans (i64_eq (fc_c (fc_c hst).2).1 (fc_c hst).1)).mpr h) q) (fun _ => kf hw hM hlv (fc_c (fc_c hst).2).2 H locs ls hP hD hS hl)
  · rw [if_neg h] at hw
    exact lv_if_ne hx hb hd ht (fun _ => kt hw hM hlv (fc_c (fc_c hst).2).2 H locs ls hP hD hS hl) (fun q => absurd (((lg_cmp_eq _ _).trans (i64_eq (fc_c (fc_c hst).2).1 (fc_c hst).1)).mp q) h)
theorem wm_lcmp_lt (hC : wOK C cc nL own) {x y : Int} {off : Int} {tgt : Nat} {WA WB : Prop} (hd1 : decode cc pc = .ok (.lcmp, 1)) (hd : decode cc (pc + 1) = .ok (.ifCond .lt off, 3)) (ht : ((pc + 1 : Nat) : Int) + off = (tgt : Int)) (hw : if x < y then WA else WB) (kt : WA → WM C ad n I J R ks ss tgt lv st) (kf : WB → WM C ad n I J R ks ss (pc + 4) lv st) : WM C ad n I J R ks ss pc lv (vl y :: vl x :: st) := by
  obtain ⟨p, l, e, Rm, s, m, args, below, meth, c, Q, D, cY, A, nL', own'⟩ := C
  obtain ⟨hx, hb, hml, hown, hts, hK, hA, hlk, rfl, rfl⟩ := hC
  intro hM hlv hst H locs ls hP hD hS hl
  refine W.lcmp hx hb hd1 ?_
  by_cases h : x < y
  · rw [if_pos h] at hw
    exact lv_if_lt hx hb hd ht (fun _ => kt hw hM hlv (fc_c (fc_c hst).2).2 H locs ls hP hD hS hl) (fun q => absurd (((lg_cmp_lt _ _).trans (i64_lt (fc_c (fc_c hst).2).1 (fc_c hst).1)).mpr h) q)
  · rw [if_neg h] at hw
    exact lv_if_lt hx hb hd ht (fun q => absurd (((lg_cmp_lt _ _).trans (i64_lt (fc_c (fc_c hst).2).1 (fc_c hst).1)).mp q) h) (fun _ => kf hw hM hlv (fc_c (fc_c hst).2).2 H locs ls hP hD hS hl)
theorem wm_lcmp_ge (hC : wOK C cc nL own) {x y : Int} {off : Int} {tgt : Nat} {WA WB : Prop} (hd1 : decode cc pc = .ok (.lcmp, 1)) (hd : decode cc (pc + 1) = .ok (.ifCond .ge off, 3)) (ht : ((pc + 1 : Nat) : Int) + off = (tgt : Int)) (hw : if y ≤ x then WA else WB) (kt : WA → WM C ad n I J R ks ss tgt lv st) (kf : WB → WM C ad n I J R ks ss (pc + 4) lv st) : WM C ad n I J R ks ss pc lv (vl y :: vl x :: st) := by
  obtain ⟨p, l, e, Rm, s, m, args, below, meth, c, Q, D, cY, A, nL', own'⟩ := C
  obtain ⟨hx, hb, hml, hown, hts, hK, hA, hlk, rfl, rfl⟩ := hC
  intro hM hlv hst H locs ls hP hD hS hl
  refine W.lcmp hx hb hd1 ?_
  by_cases h : y ≤ x
  · rw [if_pos h] at hw
    exact lv_if_ge hx hb hd ht (fun _ => kt hw hM hlv (fc_c (fc_c hst).2).2 H locs ls hP hD hS hl) (fun q => absurd (((lg_cmp_ge _ _).trans (i64_le (fc_c hst).1 (fc_c (fc_c hst).2).1)).mpr h) q)
  · rw [if_neg h] at hw
    exact lv_if_ge hx hb hd ht (fun q => absurd (((lg_cmp_ge _ _).trans (i64_le (fc_c hst).1 (fc_c (fc_c hst).2).1)).mp q) h) (fun _ => kf hw hM hlv (fc_c (fc_c hst).2).2 H locs ls hP hD hS hl)
theorem wm_lcmp_gt (hC : wOK C cc nL own) {x y : Int} {off : Int} {tgt : Nat} {WA WB : Prop} (hd1 : decode cc pc = .ok (.lcmp, 1)) (hd : decode cc (pc + 1) = .ok (.ifCond .gt off, 3)) (ht : ((pc + 1 : Nat) : Int) + off = (tgt : Int)) (hw : if y < x then WA else WB) (kt : WA → WM C ad n I J R ks ss tgt lv st) (kf : WB → WM C ad n I J R ks ss (pc + 4) lv st) : WM C ad n I J R ks ss pc lv (vl y :: vl x :: st) := by
  obtain ⟨p, l, e, Rm, s, m, args, below, meth, c, Q, D, cY, A, nL', own'⟩ := C
  obtain ⟨hx, hb, hml, hown, hts, hK, hA, hlk, rfl, rfl⟩ := hC
  intro hM hlv hst H locs ls hP hD hS hl
  refine W.lcmp hx hb hd1 ?_
  by_cases h : y < x
  · rw [if_pos h] at hw
    exact lv_if_gt hx hb hd ht (fun _ => kt hw hM hlv (fc_c (fc_c hst).2).2 H locs ls hP hD hS hl) (fun q => absurd (((lg_cmp_gt _ _).trans (i64_lt (fc_c hst).1 (fc_c (fc_c hst).2).1)).mpr h) q)
  · rw [if_neg h] at hw
    exact lv_if_gt hx hb hd ht (fun q => absurd (((lg_cmp_gt _ _).trans (i64_lt (fc_c hst).1 (fc_c (fc_c hst).2).1)).mp q) h) (fun _ => kf hw hM hlv (fc_c (fc_c hst).2).2 H locs ls hP hD hS hl)
theorem wm_lcmp_le (hC : wOK C cc nL own) {x y : Int} {off : Int} {tgt : Nat} {WA WB : Prop} (hd1 : decode cc pc = .ok (.lcmp, 1)) (hd : decode cc (pc + 1) = .ok (.ifCond .le off, 3)) (ht : ((pc + 1 : Nat) : Int) + off = (tgt : Int)) (hw : if x ≤ y then WA else WB) (kt : WA → WM C ad n I J R ks ss tgt lv st) (kf : WB → WM C ad n I J R ks ss (pc + 4) lv st) : WM C ad n I J R ks ss pc lv (vl y :: vl x :: st) := by
  obtain ⟨p, l, e, Rm, s, m, args, below, meth, c, Q, D, cY, A, nL', own'⟩ := C
  obtain ⟨hx, hb, hml, hown, hts, hK, hA, hlk, rfl, rfl⟩ := hC
  intro hM hlv hst H locs ls hP hD hS hl
  refine W.lcmp hx hb hd1 ?_
  by_cases h : x ≤ y
  · rw [if_pos h] at hw
    exact lv_if_le hx hb hd ht (fun _ => kt hw hM hlv (fc_c (fc_c hst).2).2 H locs ls hP hD hS hl) (fun q => absurd (((lg_cmp_le _ _).trans (i64_le (fc_c (fc_c hst).2).1 (fc_c hst).1)).mpr h) q)
  · rw [if_neg h] at hw
    exact lv_if_le hx hb hd ht (fun q => absurd (((lg_cmp_le _ _).trans (i64_le (fc_c (fc_c hst).2).1 (fc_c hst).1)).mp q) h) (fun _ => kf hw hM hlv (fc_c (fc_c hst).2).2 H locs ls hP hD hS hl)
theorem wm_tableIn (hC : wOK C cc nL own) {x v : Int} {dflt lo hi : Int} {offs : Array Int} {len : Nat} {off : Int} {tgt : Nat} (hd : decode cc pc = .ok (.tableswitch dflt lo hi offs, len)) (he : x = v) (h1 : ¬ v < lo) (h2 : ¬ hi < v) (ho : offs[(v - lo).toNat]? = some off) (ht : (pc : Int) + off = (tgt : Int)) (k : WM C ad n I J R ks ss tgt lv st) : WM C ad n I J R ks ss pc lv (vi x :: st) := by
  obtain ⟨p, l, e, Rm, s, m, args, below, meth, c, Q, D, cY, A, nL', own'⟩ := C
  obtain ⟨hx, hb, hml, hown, hts, hK, hA, hlk, rfl, rfl⟩ := hC
  intro hM hlv hst H locs ls hP hD hS hl
  subst he
  have e := i32_toInt (fc_c hst).1
  exact lv_tableIn hx hb hd (by rw [e]; exact h1) (by rw [e]; exact h2) (by rw [e]; exact ho) ht (k hM hlv (fc_c hst).2 H locs ls hP hD hS hl)
theorem wm_tableOut (hC : wOK C cc nL own) {x : Int} {dflt lo hi : Int} {offs : Array Int} {len : Nat} {tgt : Nat} (hd : decode cc pc = .ok (.tableswitch dflt lo hi offs, len)) (h : x < lo ∨ hi < x) (ht : (pc : Int) + dflt = (tgt : Int)) (k : WM C ad n I J R ks ss tgt lv st) : WM C ad n I J R ks ss pc lv (vi x :: st) := by
  obtain ⟨p, l, e, Rm, s, m, args, below, meth, c, Q, D, cY, A, nL', own'⟩ := C
  obtain ⟨hx, hb, hml, hown, hts, hK, hA, hlk, rfl, rfl⟩ := hC
  intro hM hlv hst H locs ls hP hD hS hl
  have e := i32_toInt (fc_c hst).1
  exact lv_tableOut hx hb hd (by rw [e]; exact h) ht (k hM hlv (fc_c hst).2 H locs ls hP hD hS hl)
end R2
