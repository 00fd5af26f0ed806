/-! The class works out a whole formula -/
def segC (I : mI) (o : Nat) : Int → List (Int × Int) → Prop
  | _, [] => True
  | i, q :: r => I o i = enc q ∧ segC I o (i + 1) r
theorem wo_run {a : Nat} {en : Int} {I : mI} {Q : Int → mI → Prop} {env : Int → Int} (hen : en ≤ 1600) : ∀ (c : List (Int × Int)) (i : Int) (J : mI) (ts ts' : List Bool) (st : List Int), (∀ q ∈ c, 1 ≤ q.1 → q.1 ≤ 9 → I 5 (q.1 - 1) = env q.1 ∧ vIn (env q.1)) → segC I (a + 6) i c → i + (c.length : Int) = en → 0 ≤ i → tyR c ts = some ts' → tv ts st → stk J 6 st →
    (∀ J' : mI, stk J' 6 (evR env c st) → (∀ b, b ≠ 6 → J' b = J b) → tv ts' (evR env c st) → p8_workOut_b50 a en I Q 1 ((evR env c st).length : Int) en J') → p8_workOut_b50 a en I Q (c.length + 1) (st.length : Int) i J
  | [], i, J, ts, ts', st, _, _, hi, _, ht, hv, hs, k => by
    have e : ts = ts' := Option.some.inj ht
    subst e
    have e2 : i = en := by rw [← hi]; show i = i + ((0 : Nat) : Int); omega
    subst e2
    exact k J hs (fun _ _ => rfl) hv
  | q :: c, i, J, ts, ts', st, hvar, hseg, hi, h0, ht, hv, hs, k => by
    obtain ⟨t1, h1, h2⟩ := Option.bind_eq_some_iff.mp ht
    have hl : ((q :: c).length : Int) = (c.length : Int) + 1 := by rw [List.length_cons]; omega
    have hq := hvar q List.mem_cons_self
    have hv2 := evS_tv (env := env) h1 hv (fun x y => (hq x y).2)
    refine wo_step h0 (by omega) (by omega) hseg.1 (fun x y => (hq x y).1) h1 hv hs (fun J' hs' hJ => ?_)
    refine wo_run hen c (i + 1) J' t1 ts' (evS env q st) (fun z hz => hvar z (List.mem_cons_of_mem _ hz)) hseg.2 (by omega) (by omega) h2 hv2 hs' (fun J2 hs2 hJ2 hv3 => k J2 hs2 (fun b hb => (hJ2 b hb).trans (hJ b hb)) hv3)
def evF (env : Int → Int) (c : List (Int × Int)) : Int := (evR env c []).headD 0
/-- a formula of one value: what it comes to -/
theorem wo_formula {a : Nat} {en i : Int} {I J : mI} {Q : Int → mI → Prop} {env : Int → Int} {c : List (Int × Int)} {t : Bool} (hen : en ≤ 1600) (hvar : ∀ q ∈ c, 1 ≤ q.1 → q.1 ≤ 9 → I 5 (q.1 - 1) = env q.1 ∧ vIn (env q.1)) (hseg : segC I (a + 6) i c) (hi : i + (c.length : Int) = en) (h0 : 0 ≤ i) (ht : tyR c [] = some [t])
    (k : ∀ J' : mI, (∀ b, b ≠ 6 → J' b = J b) → vIn (evF env c) → (t = true → vT01 (evF env c)) → Q (evF env c) J') : ∃ f, p8_workOut_b50 a en I Q f 0 i J := by
  refine ⟨c.length + 1, wo_run hen c i J [] [t] [] hvar hseg hi h0 ht trivial trivial (fun J' hs hJ hv => ?_)⟩
  unfold evF at k
  revert hs hv k
  generalize evR env c [] = st
  intro k hs hv
  match st, hs, hv, k with
  | [x], hs, hv, k =>
    show p8_workOut_b50_body a en I Q (p8_workOut_b50 a en I Q 0) _ en J'
    unfold p8_workOut_b50_body
    have hx : J' 6 0 = x := hs.1
    have hin : vIn x := hv.1.1
    rw [if_pos (Int.le_refl _), show (([x].length : Nat) : Int) = 1 from rfl, if_neg (by decide), hx]
    exact ⟨by omega, k J' hJ hin hv.1.2⟩
