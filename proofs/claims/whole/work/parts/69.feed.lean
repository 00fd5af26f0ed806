/-! BYTES -/
theorem and255 (y : Int) : bAnd y 255 = y % 256 := by
  unfold bAnd
  have h : (Int32.ofInt y &&& Int32.ofInt 255).toBitVec.toNat = (y % 4294967296).toNat % 256 := by
    rw [Int32.toBitVec_and, BitVec.toNat_and]
    have h1 : (Int32.ofInt y).toBitVec.toNat = (y % 4294967296).toNat := BitVec.toNat_ofInt y
    have h2 : (Int32.ofInt 255).toBitVec.toNat = 2 ^ 8 - 1 := by decide
    rw [h1, h2, Nat.and_two_pow_sub_one_eq_mod]
  have h2 : (Int32.ofInt y &&& Int32.ofInt 255).toInt = ((Int32.ofInt y &&& Int32.ofInt 255).toBitVec.toNat : Int) := by
    show (Int32.ofInt y &&& Int32.ofInt 255).toBitVec.toInt = _
    rw [BitVec.toInt_eq_toNat_of_lt (by rw [h]; omega)]
  rw [h2, h]; omega
theorem nB_mod (y : Int) : nB y % 256 = y % 256 := by
  unfold nB
  rw [Int32.toInt_toInt8, Int32.toInt_ofInt, show Int32.size = 2 ^ 32 from rfl]
  have h1 : (Int.bmod (Int.bmod y (2 ^ 32)) (2 ^ 8)) % 256 = (Int.bmod y (2 ^ 32)) % 256 := Int.bmod_emod ..
  have h2 : (Int.bmod y (2 ^ 32)) % ((2 ^ 32 : Nat) : Int) = y % ((2 ^ 32 : Nat) : Int) := Int.bmod_emod ..
  have h3 : ((2 ^ 32 : Nat) : Int) = 4294967296 := by decide
  rw [h3] at h2
  omega
theorem byte_eq (y : Int) : bAnd (nB y) 255 = bAnd y 255 := by rw [and255, and255, nB_mod]
def gnF (x : Int) (j : Int) : Int := if j = 0 then bShr x 24 else if j = 1 then bShr x (24 + -8) else if j = 2 then bShr x (24 + -8 + -8) else bShr x (24 + -8 + -8 + -8)
def cwr (I I' : mI) (n m : Int) (g : Int → Int) : Prop := I' 2 1 = n + m ∧ (∀ j, n ≤ j → j < n + m → I' 3 j = nB (g (j - n))) ∧ (∀ j, j < n → I' 3 j = I 3 j) ∧ (∀ z, z ≠ 2 → z ≠ 3 → I' z = I z)
def mwr (I I' : mI) (n m : Int) (g : Int → Int) : Prop := I' 159 1 = n + m ∧ (∀ j, n ≤ j → j < n + m → I' 160 j = bAnd (g (j - n)) 255) ∧ (∀ j, j < n → I' 160 j = I 160 j) ∧ (∀ z, z ≠ 159 → z ≠ 160 → I' z = I z) ∧ (∀ j, j ≠ 1 → I' 159 j = I 159 j)
def glF (m : Int) (g g' : Int → Int) (j : Int) : Int := if j < m then g j else g' (j - m)
theorem cwr_t {I I1 I2 : mI} {n m m' p : Int} {g g' : Int → Int} (hm : 0 ≤ m) (hp : p = n + m) (h1 : cwr I I1 n m g) (h2 : cwr I1 I2 p m' g') : cwr I I2 n (m + m') (glF m g g') := by
  subst hp
  obtain ⟨a1, a2, a3, a4⟩ := h1
  obtain ⟨b1, b2, b3, b4⟩ := h2
  refine ⟨by omega, fun j j0 j1 => ?_, fun j hj => (b3 j (by omega)).trans (a3 j hj), fun z z2 z3 => (b4 z z2 z3).trans (a4 z z2 z3)⟩
  unfold glF
  by_cases e : j < n + m
  · rw [if_pos (by omega), b3 j e]; exact a2 j j0 e
  · rw [if_neg (by omega), b2 j (by omega) (by omega), show j - (n + m) = j - n - m by omega]
theorem mwr_t {I I1 I2 : mI} {n m m' p : Int} {g g' : Int → Int} (hm : 0 ≤ m) (hp : p = n + m) (h1 : mwr I I1 n m g) (h2 : mwr I1 I2 p m' g') : mwr I I2 n (m + m') (glF m g g') := by
  subst hp
  obtain ⟨a1, a2, a3, a4, a5⟩ := h1
  obtain ⟨b1, b2, b3, b4, b5⟩ := h2
  refine ⟨by omega, fun j j0 j1 => ?_, fun j hj => (b3 j (by omega)).trans (a3 j hj), fun z z2 z3 => (b4 z z2 z3).trans (a4 z z2 z3), fun j hj => (b5 j hj).trans (a5 j hj)⟩
  unfold glF
  by_cases e : j < n + m
  · rw [if_pos (by omega), b3 j e]; exact a2 j j0 e
  · rw [if_neg (by omega), b2 j (by omega) (by omega), show j - (n + m) = j - n - m by omega]
theorem c_num1 {I : mI} {x s n : Int} {f : Nat} {Q : mI → Prop} (hs : 0 ≤ s) (hs2 : s ≤ 24) (hn : I 2 1 = n) (h0 : 0 ≤ n) (h1 : n < 1600) (k : ∀ I' : mI, cwr I I' n 1 (fun _ => bShr x s) → p9_addNumber_b18 x Q f (s + -8) I') : p9_addNumber_b18 x Q (f + 1) s I := by
  show p9_addNumber_b18_body x Q (p9_addNumber_b18 x Q f) s I
  unfold p9_addNumber_b18_body
  rw [hn]
  refine zf (by omega) ⟨by omega, m_putK (fun I1 q1 g1 f1 => ?_)⟩
  rw [f1 2 (by decide), hn]
  refine ⟨by omega, m_putK (fun I2 q2 g2 f2 => ⟨by omega, k I2 ⟨q2, fun j j0 j1 => ?_, fun j hj => ?_, fun z z2 z3 => (f2 z z2).trans (f1 z z3)⟩⟩)⟩
  · rw [f2 3 (by decide), show j = n by omega]; exact q1
  · rw [f2 3 (by decide), g1 j (by omega)]
theorem c_num {I : mI} {x n : Int} {Q : mI → Prop} (hn : I 2 1 = n) (h0 : 0 ≤ n) (h1 : n + 4 ≤ 1600) (k : ∀ I' : mI, cwr I I' n 4 (gnF x) → Q I') : p9_addNumber x I Q := by
  unfold p9_addNumber
  rw [hn]
  refine ⟨by omega, zt h1 ⟨5, ?_⟩⟩
  refine c_num1 (by omega) (by omega) hn h0 (by omega) (fun I1 w1 => ?_)
  refine c_num1 (by omega) (by omega) w1.1 (by omega) (by omega) (fun I2 w2 => ?_)
  refine c_num1 (by omega) (by omega) w2.1 (by omega) (by omega) (fun I3 w3 => ?_)
  refine c_num1 (by omega) (by omega) w3.1 (by omega) (by omega) (fun I4 w4 => ?_)
  show p9_addNumber_b18_body x Q (p9_addNumber_b18 x Q 0) _ I4
  unfold p9_addNumber_b18_body
  refine zt (by omega) (k I4 ?_)
  have w := cwr_t (m := 1 + 1 + 1) (by decide) (by omega) (cwr_t (m := 1 + 1) (by decide) (by omega) (cwr_t (m := 1) (by decide) (by omega) w1 w2) w3) w4
  obtain ⟨a1, a2, a3, a4⟩ := w
  refine ⟨by omega, fun j j0 j1 => ?_, a3, a4⟩
  rw [a2 j j0 (by omega)]
  have hj : j - n = 0 ∨ j - n = 1 ∨ j - n = 2 ∨ j - n = 3 := by omega
  rcases hj with e | e | e | e <;> rw [e] <;> rfl
theorem m_num1 {I : mI} {x s n : Int} {f : Nat} {Q : mI → Prop} (hs : 0 ≤ s) (hs2 : s ≤ 24) (hn : I 159 1 = n) (h0 : 0 ≤ n) (h1 : n < 1800) (k : ∀ I' : mI, mwr I I' n 1 (fun _ => bShr x s) → p12_put_b3 x Q f (s + -8) I') : p12_put_b3 x Q (f + 1) s I := by
  show p12_put_b3_body x Q (p12_put_b3 x Q f) s I
  unfold p12_put_b3_body
  rw [hn]
  refine zf (by omega) ⟨by omega, m_putK (fun I1 q1 g1 f1 => ?_)⟩
  rw [f1 159 (by decide), hn]
  refine ⟨by omega, m_putK (fun I2 q2 g2 f2 => ⟨by omega, k I2 ⟨q2, fun j j0 j1 => ?_, fun j hj => ?_, fun z z2 z3 => (f2 z z2).trans (f1 z z3), fun j hj => by rw [g2 j hj, f1 159 (by decide)]⟩⟩)⟩
  · rw [f2 160 (by decide), show j = n by omega]; exact q1
  · rw [f2 160 (by decide), g1 j (by omega)]
theorem m_num {I : mI} {x n : Int} {Q : mI → Prop} (hn : I 159 1 = n) (h0 : 0 ≤ n) (h1 : n + 4 ≤ 1600) (k : ∀ I' : mI, mwr I I' n 4 (gnF x) → Q I') : p12_put x I Q := by
  refine ⟨5, ?_⟩
  refine m_num1 (by omega) (by omega) hn h0 (by omega) (fun I1 w1 => ?_)
  refine m_num1 (by omega) (by omega) w1.1 (by omega) (by omega) (fun I2 w2 => ?_)
  refine m_num1 (by omega) (by omega) w2.1 (by omega) (by omega) (fun I3 w3 => ?_)
  refine m_num1 (by omega) (by omega) w3.1 (by omega) (by omega) (fun I4 w4 => ?_)
  show p12_put_b3_body x Q (p12_put_b3 x Q 0) _ I4
  unfold p12_put_b3_body
  refine zt (by omega) (k I4 ?_)
  have w := mwr_t (m := 1 + 1 + 1) (by decide) (by omega) (mwr_t (m := 1 + 1) (by decide) (by omega) (mwr_t (m := 1) (by decide) (by omega) w1 w2) w3) w4
  obtain ⟨a1, a2, a3, a4, a5⟩ := w
  refine ⟨by omega, fun j j0 j1 => ?_, a3, a4, a5⟩
  rw [a2 j j0 (by omega)]
  have hj : j - n = 0 ∨ j - n = 1 ∨ j - n = 2 ∨ j - n = 3 := by omega
  rcases hj with e | e | e | e <;> rw [e] <;> rfl
theorem la_0 {L t : Nat} {X : Int → Int} {i : Int} {I J : mI} {R : mR} {K : mI → mI → mR → Prop} (H : LaH L t X i I J R K) : plaw_0 L X i I J R K := by
  have H' := H
  obtain ⟨hL, hX, h0, h1, ht, ⟨h, sp, bk, V, F, S, P, hl, hs, r1, r2, r3, r4, r5, r6, r7⟩, hK⟩ := H
  obtain ⟨t1, t2, t3, t4⟩ := id r1
  unfold plaw_0
  refine ⟨by omega, by omega, by omega, by omega, by omega, by omega, by omega, by omega, by omega, by omega, ?_⟩
  generalize X (i + 1) = x1
  generalize X (i + 2) = x2
  generalize X (i + 3) = x3
  generalize X (i + 4) = x4
  generalize X (i + 5) = x5
  unfold p11_feed
  refine ⟨by omega, zs (fun e => ?_) (fun e => ?_)⟩
  · refine c_num rfl t2 (by omega) (fun I1 w1 => c_num w1.1 (by omega) (by omega) (fun I2 w2 => c_num w2.1 (by omega) (by omega) (fun I3 w3 => c_num w3.1 (by omega) (by omega) (fun I4 w4 => c_num w4.1 (by omega) (by omega) (fun I5 w5 => ⟨by omega, by omega, by omega, by omega, by omega, by omega, by omega, by omega, by omega, by omega, ?_⟩)))))
    have w := cwr_t (m := 4 + 4 + 4 + 4) (by decide) (by omega) (cwr_t (m := 4 + 4 + 4) (by decide) (by omega) (cwr_t (m := 4 + 4) (by decide) (by omega) (cwr_t (m := 4) (by decide) (by omega) w1 w2) w3) w4) w5
    obtain ⟨a1, a2, a3, a4⟩ := w
    have e9 : I5 159 1 = I 2 1 := by rw [a4 159 (by decide) (by decide)]; exact t1
    unfold p12_feed
    rw [e9]
    refine ⟨by omega, zt e ?_⟩
    refine m_num e9 t2 (by omega) (fun Ia v1 => m_num v1.1 (by omega) (by omega) (fun Ib v2 => m_num v2.1 (by omega) (by omega) (fun Ic v3 => m_num v3.1 (by omega) (by omega) (fun Id v4 => m_num v4.1 (by omega) (by omega) (fun I6 v5 => ?_)))))
    have v := mwr_t (m := 4 + 4 + 4 + 4) (by decide) (by omega) (mwr_t (m := 4 + 4 + 4) (by decide) (by omega) (mwr_t (m := 4 + 4) (by decide) (by omega) (mwr_t (m := 4) (by decide) (by omega) v1 v2) v3) v4) v5
    obtain ⟨b1, b2, b3, b4, b5⟩ := v
    refine zt (by omega) (hK I6 J R ?_)
    have e0 : ∀ z, z ≠ 2 → z ≠ 3 → z ≠ 159 → z ≠ 160 → I6 z = I z := fun z z2 z3 z9 z0 => (b4 z z9 z0).trans (a4 z z2 z3)
    have e99 : ∀ j, j ≠ 1 → I6 159 j = I 159 j := fun j hj => by rw [b5 j hj, a4 159 (by decide) (by decide)]
    have e1 := e0 1 (by decide) (by decide) (by decide) (by decide)
    refine ⟨h, sp, bk, V, F, S, P, fr_lan hl (fun z _ _ => e0 z (by omega) (by omega) (by omega) (by omega)) (by rw [e0 146 (by decide) (by decide) (by decide) (by decide)]) (e99 13 (by decide)) (fun z _ _ => e0 z (by omega) (by omega) (by omega) (by omega)) (e0 192 (by decide) (by decide) (by decide) (by decide)) rfl rfl, fr_sta hs (fun z _ _ => e0 z (by omega) (by omega) (by omega) (by omega)) (fun z _ _ => e0 z (by omega) (by omega) (by omega) (by omega)), ?_, fr_ref r2 (by omega) (e0 122 (by decide) (by decide) (by decide) (by decide)) (e0 184 (by decide) (by decide) (by decide) (by decide)), fr_fau r3 (by rw [e1]) (by rw [e1]) (e99 10 (by decide)) (e99 11 (by decide)), fr_die r4 (by rw [e1]) rfl, fr_pas r5 (fun z _ _ => e0 z (by omega) (by omega) (by omega) (by omega)) (e99 52 (by decide)) (e99 53 (by decide)) (fun w S' _ _ hst => stM_fr (fun z _ _ => e0 z (by omega) (by omega) (by omega) (by omega)) hst), fr_pic r6 (by rw [e0 119 (by decide) (by decide) (by decide) (by decide)]) (e0 120 (by decide) (by decide) (by decide) (by decide)) (e99 68 (by decide)) (e0 203 (by decide) (by decide) (by decide) (by decide)), fr_met r7 (by rw [e0 151 (by decide) (by decide) (by decide) (by decide)]) (e0 157 (by decide) (by decide) (by decide) (by decide)) (e99 62 (by decide)) (fun z _ _ => e0 z (by omega) (by omega) (by omega) (by omega))⟩
    have f2 : I6 2 1 = I5 2 1 := by rw [b4 2 (by decide) (by decide)]
    refine ⟨by omega, by omega, by omega, fun k k0 k1 => ?_⟩
    rw [b4 3 (by decide) (by decide)]
    by_cases ek : k < I 2 1
    · rw [a3 k ek, b3 k ek, a4 160 (by decide) (by decide)]; exact t4 k k0 ek
    · rw [a2 k (by omega) (by omega), b2 k (by omega) (by omega), byte_eq]
      refine ⟨rfl, ?_⟩
      rw [and255]; omega
  · refine laR H' (by decide) (by decide) (fun I1 f1 kk => ⟨by omega, by omega, by omega, by omega, by omega, by omega, by omega, by omega, by omega, by omega, ?_⟩)
    unfold p12_feed
    rw [f1 159 (by decide), t1]
    exact ⟨by omega, zf e (kk _ (fun I2 hk2 => zt rfl hk2))⟩
