/-! THE READERS: the model reads what a statement tells -/
theorem oneR_1 (V : mI) (kd p a b c e : Int) : oneR V (up (up (tV V (kd * 6 + V 1 kd) p a b c) 3 ((kd * 6 + V 1 kd) * 4 + 3) e) 1 kd (V 1 kd + 1)) kd p a b c e := by
  obtain ⟨v0, v1, v2, v3, v4⟩ := tV_ev V (kd * 6 + V 1 kd) p a b c
  refine ⟨fun z h1 h2 h3 => by rw [up_ne h1, up_ne h3, v0 z h2 h3], up_s _ _ _ _, fun j hj => by rw [up_k _ _ _ hj, up_o _ _ _ _ (by decide), v0 1 (by decide) (by decide)], ?_, fun j hj => ?_, ⟨?_, ?_, ?_, fun _ => ?_⟩, fun kd' w j hne h0 h4 => ?_⟩
  · rw [up_o _ _ _ _ (by decide), up_o _ _ _ _ (by decide)]; exact v1
  · rw [up_o _ _ _ _ (by decide), up_o _ _ _ _ (by decide)]; exact v2 j hj
  · unfold tr; rw [up_o _ _ _ _ (by decide), up_k _ _ _ (by omega)]; exact v3.1
  · unfold tr; rw [up_o _ _ _ _ (by decide), up_k _ _ _ (by omega)]; exact v3.2.1
  · unfold tr; rw [up_o _ _ _ _ (by decide), up_k _ _ _ (by omega)]; exact v3.2.2
  · unfold tr; rw [up_o _ _ _ _ (by decide), up_s]
  · unfold tr; rw [up_o _ _ _ _ (by decide), up_k _ _ _ (by omega)]; exact v4 _ (by omega) (by omega) (by omega)
theorem oneR_n (V : mI) {kd : Int} (p a b c : Int) (hk : kd ≠ 1) : oneR V (up (tV V (kd * 6 + V 1 kd) p a b c) 1 kd (V 1 kd + 1)) kd p a b c 0 := by
  obtain ⟨v0, v1, v2, v3, v4⟩ := tV_ev V (kd * 6 + V 1 kd) p a b c
  refine ⟨fun z h1 h2 h3 => by rw [up_ne h1, v0 z h2 h3], up_s _ _ _ _, fun j hj => by rw [up_k _ _ _ hj, v0 1 (by decide) (by decide)], ?_, fun j hj => ?_, ⟨?_, ?_, ?_, fun q => absurd q hk⟩, fun kd' w j hne h0 h4 => ?_⟩
  · rw [up_o _ _ _ _ (by decide)]; exact v1
  · rw [up_o _ _ _ _ (by decide)]; exact v2 j hj
  · unfold tr; rw [up_o _ _ _ _ (by decide)]; exact v3.1
  · unfold tr; rw [up_o _ _ _ _ (by decide)]; exact v3.2.1
  · unfold tr; rw [up_o _ _ _ _ (by decide)]; exact v3.2.2
  · unfold tr; rw [up_o _ _ _ _ (by decide)]; exact v4 _ (by omega) (by omega) (by omega)
section
variable {tb : Int → Int} {n : Int} {m : Nat} {b : Int} {i : Nat} {I J : mI} {V : mI} {F : mF}
theorem mQ_row {I' : mI} {z0 : Nat} (hz0 : z0 ≠ 159 ∧ z0 ≠ 160) (h : mQ tb n m b i I J) (f : ∀ z, z ≠ z0 → I' z = I z) : mQ tb n m b i I' J := mS_row hz0 h f rfl
theorem m_b0 {Q : mI → mI → Prop} (hc : ctD tb n m) (him : i < m) (hq : mQ tb n m b i I J) (h12 : I 159 12 = -1) (hM : mM b V F I J) (hw : WF V F)
    (kf : V 1 0 = 6 → ∀ I', blR I I' 6 (lN1 tb n i) → Q I' J)
    (k1 : V 1 0 ≠ 6 → ∀ (I' J' : mI) (j : Nat) (V' : mI), gOne (kN1 tb n) (vN1 tb n) V F 0 (i + 1) = Sum.inr (j, V', F) → mFm b I I' J J' → mQ tb n m b j I' J' → mM b V' F I' J' → Q I' J')
    (k0 : V 1 0 ≠ 6 → ∀ (I' J' : mI) (k : Int) (i' : Nat), gOne (kN1 tb n) (vN1 tb n) V F 0 (i + 1) = Sum.inl (k, i') → mBl b I I' J J' k (lN1 tb n i') → Q I' J') : p12_blinding I J Q := by
  have hn := hq.1.1.2.1
  have ck := hw.1
  have b01 := hq.2.2.2.2
  have b3 := bsz_3
  unfold p12_blinding
  refine m_shape hc him hq h12 hM hw (Or.inl ⟨rfl, rfl⟩) (fun e I' hb => zt rfl (kf e I' hb)) (fun e k2 tk a bb c I' J' e1 e2 e3 hs hq' => zf (by decide) ?_) (fun e I' J' k i' eg hb => zt rfl (k0 e I' J' k i' eg hb))
  obtain ⟨s1, s2, s3, s4, s5, s6, s7⟩ := hs
  have b' := hq'.2.2.2
  have e161 : I' 161 b = V 1 0 := by rw [s2 161 (by decide) (by decide) (by decide)]; exact hM.1.1
  rw [b'.1, e161]
  refine ⟨by omega, by omega, by omega, m_putK (fun I2 q2 g2 f2 => ?_)⟩
  have fr : mFm b I' I2 J' J' := mFm_row (z0 := 161) (by decide) f2 (fun j hj => g2 j (fun q => by rw [b3.2.2.2.1] at hj; omega))
  refine k1 e I2 J' (i + 1 + 1 + 2 + 2 + 2) (up (tV V (0 * 6 + V 1 0) (vN1 tb n (i + 1)) a bb c) 1 0 (V 1 0 + 1)) ?_ (mFm_t s1 fr) (mQ_row (z0 := 161) (by decide) hq' f2) ?_
  · unfold gOne
    rw [if_pos k2, if_pos tk, e1, gK_r, e2, gK_r, e3, gK_r, if_neg (by decide)]
  · have im1 : i + 1 ≤ m := him
    exact mM_one0 hM hw (by omega) (oneR_n V _ a bb c (by decide)) (tk_nam hc hn im1 k2) (fun z a c d e => by rw [f2 z d, s2 z a c e]) q2 (by rw [f2 162 (by decide)]; exact s3.1) (by rw [f2 162 (by decide)]; exact s3.2.1) (by rw [f2 162 (by decide)]; exact s3.2.2) (fun j h0 h1 h2 => by rw [f2 162 (by decide)]; exact s4 j h0 h1 h2) (by rw [f2 159 (by decide)]; exact s5) s6 s7
theorem m_b2 {Q : mI → mI → Prop} (hc : ctD tb n m) (him : i < m) (hq : mQ tb n m b i I J) (h12 : I 159 12 = -1) (hM : mM b V F I J) (hw : WF V F)
    (kf : V 1 2 = 6 → ∀ I', blR I I' 6 (lN1 tb n i) → Q I' J)
    (k1 : V 1 2 ≠ 6 → ∀ (I' J' : mI) (j : Nat) (V' : mI), gOne (kN1 tb n) (vN1 tb n) V F 2 (i + 1) = Sum.inr (j, V', F) → mFm b I I' J J' → mQ tb n m b j I' J' → mM b V' F I' J' → Q I' J')
    (k0 : V 1 2 ≠ 6 → ∀ (I' J' : mI) (k : Int) (i' : Nat), gOne (kN1 tb n) (vN1 tb n) V F 2 (i + 1) = Sum.inl (k, i') → mBl b I I' J J' k (lN1 tb n i') → Q I' J') : p12_thinging I J Q := by
  have hn := hq.1.1.2.1
  have ck := hw.1
  have b01 := hq.2.2.2.2
  have b3 := bsz_3
  unfold p12_thinging
  refine m_shape hc him hq h12 hM hw (Or.inr (Or.inr ⟨rfl, rfl⟩)) (fun e I' hb => zt rfl (kf e I' hb)) (fun e k2 tk a bb c I' J' e1 e2 e3 hs hq' => zf (by decide) ?_) (fun e I' J' k i' eg hb => zt rfl (k0 e I' J' k i' eg hb))
  obtain ⟨s1, s2, s3, s4, s5, s6, s7⟩ := hs
  have b' := hq'.2.2.2
  have e167 : I' 167 b = V 1 2 := by rw [s2 167 (by decide) (by decide) (by decide)]; exact hM.1.2.2
  rw [b'.1, e167]
  refine ⟨by omega, by omega, by omega, by omega, m_putK (fun I2 q2 g2 f2 => ?_)⟩
  rw [f2 159 (by decide), b'.1, f2 167 (by decide), e167]
  refine ⟨by omega, by omega, by omega, by omega, m_putK (fun I3 q3 g3 f3 => ?_)⟩
  rw [f3 159 (by decide), f2 159 (by decide), b'.1, f3 167 (by decide), f2 167 (by decide), e167]
  refine ⟨by omega, by omega, by omega, m_putK (fun I4 q4 g4 f4 => ?_)⟩
  have fr2 : mFm b I' I2 J' J' := mFm_row (z0 := 169) (by decide) f2 (fun j hj => g2 j (fun q => by rw [b3.2.2.2.2.2.2.2.1] at hj; omega))
  have fr3 : mFm b I2 I3 J' J' := mFm_row (z0 := 170) (by decide) f3 (fun j hj => g3 j (fun q => by rw [b3.2.2.2.2.2.2.2.2.1] at hj; omega))
  have fr4 : mFm b I3 I4 J' J' := mFm_row (z0 := 167) (by decide) f4 (fun j hj => g4 j (fun q => by rw [b3.2.2.2.2.2.1] at hj; omega))
  refine k1 e I4 J' (i + 1 + 1 + 2 + 2 + 2) (up (tV V (2 * 6 + V 1 2) (vN1 tb n (i + 1)) a bb c) 1 2 (V 1 2 + 1)) ?_ (mFm_t s1 (mFm_t fr2 (mFm_t fr3 fr4))) (mQ_row (z0 := 167) (by decide) (mQ_row (z0 := 170) (by decide) (mQ_row (z0 := 169) (by decide) hq' f2) f3) f4) ?_
  · unfold gOne
    rw [if_pos k2, if_pos tk, e1, gK_r, e2, gK_r, e3, gK_r, if_neg (by decide)]
  · have e4 : ∀ z, z ≠ 167 → z ≠ 169 → z ≠ 170 → I4 z = I' z := fun z a c d => by rw [f4 z a, f3 z d, f2 z c]
    have e168 := e4 168 (by decide) (by decide) (by decide)
    exact mM_one2 hM hw (by omega) (oneR_n V _ a bb c (by decide)) (tk_nam hc hn him k2) (fun z a c d e g k => by rw [e4 z d g k, s2 z a c e]) q4 (by rw [e168]; exact s3.1) (by rw [e168]; exact s3.2.1) (by rw [e168]; exact s3.2.2) (fun j h0 h1 h2 => by rw [e168]; exact s4 j h0 h1 h2) (by rw [f4 169 (by decide), f3 169 (by decide)]; exact q2) (fun j hj => by rw [f4 169 (by decide), f3 169 (by decide), g2 j hj, s2 169 (by decide) (by decide) (by decide)]) (by rw [f4 170 (by decide)]; exact q3) (fun j hj => by rw [f4 170 (by decide), g3 j hj, f2 170 (by decide), s2 170 (by decide) (by decide) (by decide)]) (by rw [e4 159 (by decide) (by decide) (by decide)]; exact s5) s6 s7
theorem m_b1 {Q : mI → mI → Prop} (hc : ctD tb n m) (him : i < m) (hq : mQ tb n m b i I J) (h12 : I 159 12 = -1) (hM : mM b V F I J) (hw : WF V F)
    (kf : V 1 1 = 6 → ∀ I', blR I I' 6 (lN1 tb n i) → Q I' J)
    (k1 : V 1 1 ≠ 6 → ∀ (I' J' : mI) (j : Nat) (V' : mI), gOne (kN1 tb n) (vN1 tb n) V F 1 (i + 1) = Sum.inr (j, V', F) → mFm b I I' J J' → mQ tb n m b j I' J' → mM b V' F I' J' → Q I' J')
    (k0 : V 1 1 ≠ 6 → ∀ (I' J' : mI) (k : Int) (i' : Nat), gOne (kN1 tb n) (vN1 tb n) V F 1 (i + 1) = Sum.inl (k, i') → mBl b I I' J J' k (lN1 tb n i') → Q I' J') : p12_colouring I J Q := by
  have hn := hq.1.1.2.1
  have ck := hw.1
  have b01 := hq.2.2.2.2
  have b3 := bsz_3
  unfold p12_colouring
  refine m_shape hc him hq h12 hM hw (Or.inr (Or.inl ⟨rfl, rfl⟩)) (fun e I' hb => zt rfl (kf e I' hb)) (fun e k2 tk a bb c I' J' e1 e2 e3 hs hq' => zf (by decide) ?_) (fun e I' J' k i' eg hb => zt rfl (k0 e I' J' k i' eg hb))
  have k1 := k1 e
  have k0 := k0 e
  unfold gOne at k1 k0
  rw [if_pos k2, if_pos tk, e1, gK_r, e2, gK_r, e3, gK_r, if_pos rfl] at k1 k0
  obtain ⟨s1, s2, s3, s4, s5, s6, s7⟩ := hs
  have e164 : I' 164 b = V 1 1 := by rw [s2 164 (by decide) (by decide) (by decide)]; exact hM.1.2.1
  unfold gTr at k1 k0
  -- what follows the word
  have row : ∀ (I3 J3 : mI) (r : Int) (Qr : mI → Prop), I3 164 b = V 1 1 → (∀ I4, I4 166 (6 * b + V 1 1) = r → (∀ j, j ≠ 6 * b + V 1 1 → I4 166 j = I3 166 j) → (∀ z, z ≠ 166 → I4 z = I3 z) → Qr I4) → ((0 : Int) ≤ (6 * b + V 1 1) ∧ (6 * b + V 1 1) < (12 : Int)) ∧ wLet (up I3 166 (6 * b + V 1 1) r) Qr := fun I3 J3 r Qr e kk => ⟨by have := hq.2.2.2.2; omega, m_putK kk⟩
  have dd : ∀ (I4 J4 : mI), 0 < I4 159 8 → Q I4 J4 → (if (I4 159 8) = 0 then (((0 : Int) ≤ (I4 159 32) ∧ (I4 159 32) < (2 : Int)) ∧ (rg ((I4 164 (I4 159 32)) + 1) ∧ (((0 : Int) ≤ (I4 159 32) ∧ (I4 159 32) < (2 : Int)) ∧ wLet (up I4 164 (I4 159 32) ((I4 164 (I4 159 32)) + 1)) (fun I5 => (Q I5 J4))))) else (Q I4 J4)) := fun I4 J4 h8 hq => zf (by omega) hq
  refine mw_word (k := 14) hc hq' (by rw [ownM_all]; rfl) (by decide) (fun a3 I2 J2 hf2 hq2 => ?_) (fun a3 I2 hb2 => ?_)
  rotate_left
  · have a3' : ¬ (kN1 tb n (i + 1 + 1 + 2 + 2 + 2) = 1 ∧ vN1 tb n (i + 1 + 1 + 2 + 2 + 2) = 14) := a3
    rw [if_neg a3'] at k0
    have z164 : I2 164 b = V 1 1 := by rw [hb2.1 164 (by decide)]; exact e164
    have h8 : 0 < I2 159 8 := by have := hb2.2.2.1; omega
    have e32 : I2 159 32 = b := by rw [hb2.2.1 32 (by decide) (by decide)]; exact hq'.2.2.2.1
    rw [e32, z164]
    refine ⟨by omega, by omega, by omega, mw_numD h8 (row I2 J' 0 _ z164 (fun I4 q4 g4 f4 => dd I4 J' (by rw [f4 159 (by decide)]; exact h8) ?_))⟩
    have fr4 : mFm b I2 I4 J' J' := mFm_row (z0 := 166) (by decide) f4 (fun j hj => g4 j (fun q => by rw [b3.2.2.2.2.2.2.1] at hj; omega))
    refine k0 I4 J' 1 (i + 1 + 1 + 2 + 2 + 2) rfl ⟨mFm_t s1 (mFm_t (mFm_bl hb2) fr4), by rw [f4 159 (by decide)]; exact hb2.2.2.1, by rw [f4 159 (by decide)]; exact hb2.2.2.2⟩
  have a3' : kN1 tb n (i + 1 + 1 + 2 + 2 + 2) = 1 ∧ vN1 tb n (i + 1 + 1 + 2 + 2 + 2) = 14 := a3
  rw [if_pos a3'] at k1 k0
  have z164 : I2 164 b = V 1 1 := by rw [hf2.1 164 (by decide)]; exact e164
  rw [hq2.2.2.2.1, z164]
  refine ⟨by omega, by omega, by omega, mw_num hc hq2 (fun I3 J3 v e4 hf3 hq3 => row I3 J3 v _ (by rw [hf3.1 164 (by decide)]; exact z164) (fun I4 q4 g4 f4 => ?_)) (fun I3 v k i' e4 hb3 => row I3 J2 v _ (by rw [hb3.1 164 (by decide)]; exact z164) (fun I4 q4 g4 f4 => dd I4 J2 (by rw [f4 159 (by decide)]; have := hb3.2.2.1; omega) ?_))⟩
  · rw [e4, gK_r] at k1
    have fr4 : mFm b I3 I4 J3 J3 := mFm_row (z0 := 166) (by decide) f4 (fun j hj => g4 j (fun q => by rw [b3.2.2.2.2.2.2.1] at hj; omega))
    have hq4 := mQ_row (z0 := 166) (by decide) hq3 f4
    have z4 : I4 164 b = V 1 1 := by rw [f4 164 (by decide), hf3.1 164 (by decide)]; exact z164
    rw [hq4.2.2.2.1, z4]
    refine zt hq4.2.2.1 ⟨by omega, by omega, by omega, m_putK (fun I5 q5 g5 f5 => ?_)⟩
    have fr5 : mFm b I4 I5 J3 J3 := mFm_row (z0 := 164) (by decide) f5 (fun j hj => g5 j (fun q => by rw [b3.2.2.2.2.1] at hj; omega))
    refine k1 I5 J3 _ _ rfl (mFm_t s1 (mFm_t (mFm_fr hf2) (mFm_t (mFm_fr hf3) (mFm_t fr4 fr5)))) (mQ_row (z0 := 164) (by decide) hq4 f5) ?_
    have e5 : ∀ z, z ≠ 159 → z ≠ 164 → z ≠ 166 → I5 z = I' z := fun z a c d => by rw [f5 z c, f4 z d, hf3.1 z a, hf2.1 z a]
    have e165 := e5 165 (by decide) (by decide) (by decide)
    have q31 : ∀ {A B C D : mI}, mFr A B C D → B 159 31 = A 159 31 := fun h => h.2.1 31 (by decide) (by decide) (by decide) (by decide) (by decide)
    have j177 : J3 177 = J' 177 := by rw [hf3.2.2.1 177 (by decide), hf2.2.2.1 177 (by decide)]
    exact mM_one1 hM hw (by omega) (oneR_1 V 1 _ a bb c v) (tk_nam hc hn him k2) (fun z a c d e g => by rw [e5 z (by omega) d g, s2 z a c e]) q5 (by rw [e165]; exact s3.1) (by rw [e165]; exact s3.2.1) (by rw [e165]; exact s3.2.2) (fun j h0 h1 h2 => by rw [e165]; exact s4 j h0 h1 h2) (by rw [f5 166 (by decide)]; exact q4) (fun j hj => by rw [f5 166 (by decide), g4 j hj, hf3.1 166 (by decide), hf2.1 166 (by decide), s2 166 (by decide) (by decide) (by decide)]) (by rw [f5 159 (by decide), f4 159 (by decide), q31 hf3, q31 hf2]; exact s5) (by rw [j177]; exact s6) (fun j hj => by rw [j177]; exact s7 j hj)
  · have fr4 : mFm b I3 I4 J2 J2 := mFm_row (z0 := 166) (by decide) f4 (fun j hj => g4 j (fun q => by rw [b3.2.2.2.2.2.2.1] at hj; omega))
    refine k0 I4 J2 k i' (by rw [e4]; rfl) ⟨mFm_t s1 (mFm_t (mFm_fr hf2) (mFm_t (mFm_bl hb3) fr4)), by rw [f4 159 (by decide)]; exact hb3.2.2.1, by rw [f4 159 (by decide)]; exact hb3.2.2.2⟩
end
