section R7
variable {C : wX} {cc : ByteArray} {nL : Nat} {own : String} {ad : Nat → Nat} {n : Nat} {I J : mI} {R : mR} {ks ss pc : Nat} {lv : List (Nat × wV)} {st : List wV}
theorem wm_ldcw (hC : wOK C cc nL own) {x : Int} {index : Nat} {v : Int32} (hw : Cond.constant own index v ∈ wT) (hv : v = Int32.ofInt x) (hd : decode cc pc = .ok (.ldc_w index, 3)) (hr : rg x := by omega) (k : WM C ad n I J R ks ss (pc + 3) lv (vi x :: st)) : WM C ad n I J R ks ss pc lv st := by
  obtain ⟨p, l, e, Rm, s, m, args, below, meth, c, Q, D, cY, A, nL', own'⟩ := C
  obtain ⟨hx, hb, hml, hown, hts, hK, hA, hlk, rfl, rfl⟩ := hC
  subst hv
  intro hM hlv hst H locs ls hP hD hS hl
  exact lv_ldcw hx hb hown (hts _ hw) hd (k hM hlv (fc_i hr hst) H locs ls hP hD hS hl)
def bUshr (x y : Int) : Int := ((Int32.ofInt x).toUInt32 >>> ((Int32.ofInt y).toUInt32 &&& Int32.toUInt32 31)).toInt32.toInt
theorem wm_iushr2 (hC : wOK C cc nL own) {x y : Int} (hd : decode cc pc = .ok (.iushr, 1)) (k : WM C ad n I J R ks ss (pc + 1) lv (vi (bUshr x y) :: st)) : WM C ad n I J R ks ss pc lv (vi y :: vi x :: st) := wm_iushr hC hd k
end R7
theorem noS {P : Prop} : false = true → P := fun h => by cases h
