/-! The model reckons a whole formula -/
def segM (I : mI) : Int → List (Int × Int) → Prop
  | _, [] => True
  | i, q :: r => (I 175 i = q.1 ∧ (q.1 = 0 → I 176 i = q.2)) ∧ segM I (i + 1) r
theorem ro_run {w en : Int} {I : mI} {Q : Int → mI → Prop} {env : Int → Int} (hbk : 0 ≤ I 159 13 ∧ I 159 13 < 2) (hw : 0 ≤ w ∧ w < 3) (hen : 1600 * I 159 13 + I 174 (3 * I 159 13 + w) = en) (hen2 : en ≤ 3200) : ∀ (c : List (Int × Int)) (i : Int) (J : mI) (ts ts' : List Bool) (st : List Int), (∀ q ∈ c, 1 ≤ q.1 → q.1 ≤ 9 → I 194 q.1 = env q.1 ∧ vIn (env q.1)) → segM I i c → i + (c.length : Int) = en → 0 ≤ i → tyR c ts = some ts' → tv ts st → stk J 193 st →
    (∀ J' : mI, stk J' 193 (evR env c st) → (∀ b, b ≠ 193 → J' b = J b) → tv ts' (evR env c st) → p12_reckons_b25 w I Q 1 ((evR env c st).length : Int) en J') → p12_reckons_b25 w I Q (c.length + 1) (st.length : Int) i J
  | [], i, J, ts, ts', st, _, _, hi, _, ht, hv, hs, k => by
    have e : ts = ts' := Option.some.inj ht
    subst e
    have e2 : i = en := by rw [← hi]; show i = i + ((0 : Nat) : Int); omega
    subst e2
    exact k J hs (fun _ _ => rfl) hv
  | q :: c, i, J, ts, ts', st, hvar, hseg, hi, h0, ht, hv, hs, k => by
    obtain ⟨t1, h1, h2⟩ := Option.bind_eq_some_iff.mp ht
    have hl : ((q :: c).length : Int) = (c.length : Int) + 1 := by rw [List.length_cons]; omega
    have hq := hvar q List.mem_cons_self
    have hv2 := evS_tv (env := env) h1 hv (fun x y => (hq x y).2)
    refine ro_step hbk hw hen hen2 h0 (by omega) hseg.1.1 hseg.1.2 (fun x y => (hq x y).1) h1 hv hs (fun J' hs' hJ => ?_)
    refine ro_run hbk hw hen hen2 c (i + 1) J' t1 ts' (evS env q st) (fun z hz => hvar z (List.mem_cons_of_mem _ hz)) hseg.2 (by omega) (by omega) h2 hv2 hs' (fun J2 hs2 hJ2 hv3 => k J2 hs2 (fun b hb => (hJ2 b hb).trans (hJ b hb)) hv3)
theorem ro_formula {w en i : Int} {I J : mI} {Q : Int → mI → Prop} {env : Int → Int} {c : List (Int × Int)} {t : Bool} (hbk : 0 ≤ I 159 13 ∧ I 159 13 < 2) (hw : 0 ≤ w ∧ w < 3) (hen : 1600 * I 159 13 + I 174 (3 * I 159 13 + w) = en) (hen2 : en ≤ 3200) (hst : 1600 * I 159 13 + I 173 (3 * I 159 13 + w) = i) (hvar : ∀ q ∈ c, 1 ≤ q.1 → q.1 ≤ 9 → I 194 q.1 = env q.1 ∧ vIn (env q.1)) (hseg : segM I i c) (hi : i + (c.length : Int) = en) (h0 : 0 ≤ i) (ht : tyR c [] = some [t])
    (k : ∀ J' : mI, (∀ b, b ≠ 193 → J' b = J b) → vIn (evF env c) → (t = true → vT01 (evF env c)) → Q (evF env c) J') : p12_reckons w I J Q := by
  unfold p12_reckons
  rw [hst]
  refine ⟨by omega, by omega, by omega, ⟨by omega, by omega⟩, by omega, wLet_r ⟨c.length + 1, ?_⟩⟩
  refine ro_run hbk hw hen hen2 c i J [] [t] [] hvar hseg hi h0 ht trivial trivial (fun J' hs hJ hv => ?_)
  unfold evF at k
  revert hs hv k
  generalize evR env c [] = st
  intro k hs hv
  match st, hs, hv, k with
  | [x], hs, hv, k =>
    show p12_reckons_b25_body w I Q (p12_reckons_b25 w I Q 0) _ en J'
    unfold p12_reckons_b25_body
    have hx : J' 193 0 = x := hs.1
    rw [hen]
    refine ⟨by omega, by omega, by omega, ⟨by omega, by omega⟩, by omega, ?_⟩
    rw [if_pos (Int.le_refl _), hx]
    exact k J' hJ hv.1.1 hv.1.2
/-- the class's, from its own start -/
theorem wo_whole {a : Nat} {w : Int} {I J : mI} {Q : Int → mI → Prop} {env : Int → Int} {c : List (Int × Int)} {t : Bool} (hw : 0 ≤ w ∧ w < 3) (hfr : 0 ≤ I (a + 7) w) (hto : I (a + 8) w ≤ 1600) (hlen : I (a + 7) w + (c.length : Int) = I (a + 8) w) (hvar : ∀ q ∈ c, 1 ≤ q.1 → q.1 ≤ 9 → I 5 (q.1 - 1) = env q.1 ∧ vIn (env q.1)) (hseg : segC I (a + 6) (I (a + 7) w) c) (ht : tyR c [] = some [t])
    (k : ∀ J' : mI, (∀ b, b ≠ 6 → J' b = J b) → vIn (evF env c) → (t = true → vT01 (evF env c)) → Q (evF env c) J') : p8_workOut a w I J Q := by
  have hc : c ≠ [] := fun e => by rw [e] at ht; cases ht
  have hp : 0 < c.length := List.length_pos_iff.mpr hc
  unfold p8_workOut p3_hasCode
  rw [if_neg (by omega), if_neg (by omega)]
  refine ⟨hw, hw, ?_⟩
  rw [if_neg (by omega)]
  show (if (1 : Int) = 0 then _ else _)
  rw [if_neg (by decide)]
  refine ⟨hw, ?_⟩
  by_cases h : 1600 ≤ I (a + 8) w
  · rw [if_pos h]
    exact ⟨hw, wo_formula (Int.le_refl _) hvar hseg (by omega) hfr ht k⟩
  · rw [if_neg h]
    exact ⟨hw, hw, wo_formula hto hvar hseg hlen hfr ht k⟩
