/-! THE READERS: the model reads one of a kind -/
section
variable {tb : Int → Int} {n : Int} {m : Nat} {b : Int} {i : Nat} {I J : mI} {V : mI} {F : mF}
theorem bsz_3 : bsz 162 = 18 ∧ bsz 165 = 18 ∧ bsz 168 = 18 ∧ bsz 161 = 1 ∧ bsz 164 = 1 ∧ bsz 167 = 1 ∧ bsz 166 = 6 ∧ bsz 169 = 6 ∧ bsz 170 = 6 ∧ bsz 163 = 1 ∧ bsz 171 = 1 ∧ bsz 172 = 1 ∧ bsz 173 = 3 ∧ bsz 174 = 3 ∧ bsz 175 = 1600 ∧ bsz 176 = 1600 := by decide
/-- one row of the bank changes -/
theorem mFm_row {I' : mI} {z0 : Nat} (h0 : 161 ≤ z0 ∧ z0 ≤ 176) (f : ∀ z, z ≠ z0 → I' z = I z) (g : ∀ j, ¬ (bsz z0 * b ≤ j ∧ j < bsz z0 * b + bsz z0) → I' z0 j = I z0 j) : mFm b I I' J J :=
  ⟨fun z _ a _ => f z (by omega), fun j _ => by rw [f 159 (by omega)], fun z a c j d => by
    by_cases q : z = z0
    · rw [q] at d ⊢; exact g j d
    · rw [f z q], fun _ _ _ => rfl, fun _ _ => rfl, fun _ _ => rfl, fun e => by rw [f 159 (by omega)] at e ⊢; exact ⟨e, rfl⟩⟩
theorem m_shape {kd : Int} {sz : Nat} {Q : Int → mI → mI → Prop} (hc : ctD tb n m) (him : i < m) (hq : mQ tb n m b i I J) (h12 : I 159 12 = -1) (hM : mM b V F I J) (hw : WF V F) (hkd : (kd = 0 ∧ sz = 162) ∨ (kd = 1 ∧ sz = 165) ∨ (kd = 2 ∧ sz = 168))
    (kf : V 1 kd = 6 → ∀ I', blR I I' 6 (lN1 tb n i) → Q 0 I' J)
    (k1 : V 1 kd ≠ 6 → kN1 tb n (i + 1) = 2 → (fdC V 0 (vN1 tb n (i + 1)) = -1 ∧ fdC V 1 (vN1 tb n (i + 1)) = -1 ∧ fdC V 2 (vN1 tb n (i + 1)) = -1) → ∀ (a bb c : Int) (I' J' : mI), gTr (kN1 tb n) (vN1 tb n) 11 9 (i + 1 + 1) = Sum.inr (i + 1 + 1 + 2, a) → gTr (kN1 tb n) (vN1 tb n) 12 9 (i + 1 + 1 + 2) = Sum.inr (i + 1 + 1 + 2 + 2, bb) → gTr (kN1 tb n) (vN1 tb n) 13 9 (i + 1 + 1 + 2 + 2) = Sum.inr (i + 1 + 1 + 2 + 2 + 2, c) → shR b kd (V 1 kd) a bb c (w256 tb n (pN tb n (i + 1))) sz I I' J J' → mQ tb n m b (i + 1 + 1 + 2 + 2 + 2) I' J' → Q 1 I' J')
    (k0 : V 1 kd ≠ 6 → ∀ (I' J' : mI) (k : Int) (i' : Nat), gOne (kN1 tb n) (vN1 tb n) V F kd (i + 1) = Sum.inl (k, i') → mBl b I I' J J' k (lN1 tb n i') → Q 0 I' J') : p12_isShaped kd I J Q := by
  have hk3 : kd = 0 ∨ kd = 1 ∨ kd = 2 := by omega
  have ck := cnt_k hw hk3
  have hb := hq.2.2.2
  unfold p12_isShaped
  refine m_many hM hb hk3 (zs (fun e => ?_) (fun e => ?_))
  · unfold p12_isShaped_b16
    exact m_cnt hc him hq h12 (fun q => absurd q (by decide)) (fun _ I' hb => zt rfl (kf e I' hb))
  unfold p12_isShaped_b16
  refine m_cnt hc him hq h12 (fun _ I1 J1 hf1 hq1 => zf (by decide) ?_) (fun q => absurd rfl q)
  have k1 := k1 e
  have k0 := k0 e
  have hM1 := mM_fr hM hf1
  have f1 := mFm_fr (b := b) hf1
  unfold gOne at k0
  refine m_many hM1 hq1.2.2.2 hk3 ?_
  -- dead
  have d7 : ∀ (I7 J7 : mI) (r3 r4 r5 r6 : Int) (Qx : Int → mI → mI → Prop), 0 < I7 159 8 → (∀ v, Qx v I7 J7) → p12_mustWord 1684366704 I7 J7 (fun I7 J7 => p12_number 0 9 I7 J7 Qx) := fun I7 J7 _ _ _ _ Qx h8 kk => mw_wordD h8 (mw_numD h8 (kk 0))
  have d5 : ∀ (I5 J5 : mI) (Qx : Int → mI → mI → Prop), 0 < I5 159 8 → (∀ v, Qx v I5 J5) → p12_mustWord 1819243876 I5 J5 (fun I5 J5 => p12_number 0 9 I5 J5 Qx) := fun I5 J5 Qx h8 kk => mw_wordD h8 (mw_numD h8 (kk 0))
  have d3 : ∀ (I3 J3 : mI) (Qx : Int → mI → mI → Prop), 0 < I3 159 8 → (∀ v, Qx v I3 J3) → p12_mustWord 2002874989 I3 J3 (fun I3 J3 => p12_number 0 9 I3 J3 Qx) := fun I3 J3 Qx h8 kk => mw_wordD h8 (mw_numD h8 (kk 0))
  refine m_fresh hc hq1 hM1 hw (fun k2 tk I2 J2 hf2 hq2 => ?_) (fun k2 tk I2 v hb2 => ?_) (fun k2 I2 v hb2 => ?_)
  rotate_left
  · rw [if_pos k2, if_neg tk] at k0
    have h8 : 0 < I2 159 8 := by have := hb2.2.2.1; omega
    exact d3 I2 J1 _ h8 (fun _ => d5 I2 J1 _ h8 (fun _ => d7 I2 J1 0 0 0 0 _ h8 (fun _ => zf (by omega) (k0 I2 J1 2 (i + 1) rfl (mBl_t f1 (mBl_b hb2))))))
  · rw [if_neg k2] at k0
    have h8 : 0 < I2 159 8 := by have := hb2.2.2.1; omega
    exact d3 I2 J1 _ h8 (fun _ => d5 I2 J1 _ h8 (fun _ => d7 I2 J1 0 0 0 0 _ h8 (fun _ => zf (by omega) (k0 I2 J1 1 (i + 1) rfl (mBl_t f1 (mBl_b hb2))))))
  rw [if_pos k2, if_pos tk] at k0
  have f2 := mFm_t f1 (mFm_fr (b := b) hf2)
  have z2 : ∀ z, z ≠ 159 → I2 z = I z := fun z hz => (hf2.1 z hz).trans (hf1.1 z hz)
  refine m_tr (k := 11) hc hq2 (by rw [ownM_all]; rfl) (by decide) (fun I4 J4 a e4 hf4 hq4 => ?_) (fun I4 J4 v k i' e4 hb4 _ _ => ?_)
  rotate_left
  · have h8 : 0 < I4 159 8 := by have := hb4.2.1; omega
    exact d5 I4 J4 _ h8 (fun _ => d7 I4 J4 0 0 0 0 _ h8 (fun _ => zf (by omega) (k0 I4 J4 k i' (by rw [show ((11 : Nat) : Int) = 11 from rfl] at e4; rw [e4]; rfl) (mBl_t f2 hb4))))
  have e4' : gTr (kN1 tb n) (vN1 tb n) 11 9 (i + 1 + 1) = Sum.inr (i + 1 + 1 + 2, a) := e4
  rw [e4', gK_r] at k0
  have f4 := mFm_t f2 (mFm_fr (b := b) hf4)
  refine m_tr (k := 12) hc hq4 (by rw [ownM_all]; rfl) (by decide) (fun I6 J6 bb e6 hf6 hq6 => ?_) (fun I6 J6 v k i' e6 hb6 _ _ => ?_)
  rotate_left
  · have h8 : 0 < I6 159 8 := by have := hb6.2.1; omega
    have e6' : gTr (kN1 tb n) (vN1 tb n) 12 9 (i + 1 + 1 + 2) = Sum.inl (k, i') := e6
    exact d7 I6 J6 0 0 0 0 _ h8 (fun _ => zf (by omega) (k0 I6 J6 k i' (by rw [e6']; rfl) (mBl_t f4 hb6)))
  have e6' : gTr (kN1 tb n) (vN1 tb n) 12 9 (i + 1 + 1 + 2) = Sum.inr (i + 1 + 1 + 2 + 2, bb) := e6
  rw [e6', gK_r] at k0
  have f6 := mFm_t f4 (mFm_fr (b := b) hf6)
  refine m_tr (k := 13) hc hq6 (by rw [ownM_all]; rfl) (by decide) (fun I8 J8 c e8 hf8 hq8 => ?_) (fun I8 J8 v k i' e8 hb8 _ _ => ?_)
  rotate_left
  · have h8 : 0 < I8 159 8 := by have := hb8.2.1; omega
    have e8' : gTr (kN1 tb n) (vN1 tb n) 13 9 (i + 1 + 1 + 2 + 2) = Sum.inl (k, i') := e8
    exact zf (by omega) (k0 I8 J8 k i' (by rw [e8']; rfl) (mBl_t f6 hb8))
  have e8' : gTr (kN1 tb n) (vN1 tb n) 13 9 (i + 1 + 1 + 2 + 2) = Sum.inr (i + 1 + 1 + 2 + 2 + 2, c) := e8
  have f8 := mFm_t f6 (mFm_fr (b := b) hf8)
  have z8 : ∀ z, z ≠ 159 → I8 z = I z := fun z hz => by rw [hf8.1 z hz, hf6.1 z hz, hf4.1 z hz, z2 z hz]
  have j8 : J8 177 = J 177 := by rw [hf8.2.2.1 177 (by decide), hf6.2.2.1 177 (by decide), hf4.2.2.1 177 (by decide), hf2.2.2.1 177 (by decide), hf1.2.2.1 177 (by decide)]
  have c31 : I8 159 31 = I 159 31 := by
    have q : ∀ {A B C D : mI}, mFr A B C D → B 159 31 = A 159 31 := fun h => h.2.1 31 (by decide) (by decide) (by decide) (by decide) (by decide)
    rw [q hf8, q hf6, q hf4, q hf2, q hf1]
  have h8 := hq8.2.2.1
  have b8 := hq8.2.2.2
  rw [b8.1]
  refine zt (by omega) ⟨by omega, by omega, by omega, wLet_r ⟨by omega, by omega, by omega, by omega, by omega, m_putK (fun J9 q9 g9 p9 => ?_)⟩⟩
  have k1' := k1 k2 tk a bb c
  have fin : ∀ I9 : mI, (∀ z, z ≠ sz → I9 z = I8 z) → I9 sz (18 * b + 3 * V 1 kd + 0) = a → I9 sz (18 * b + 3 * V 1 kd + 1) = bb → I9 sz (18 * b + 3 * V 1 kd + 2) = c → (∀ j, j ≠ 18 * b + 3 * V 1 kd + 0 → j ≠ 18 * b + 3 * V 1 kd + 1 → j ≠ 18 * b + 3 * V 1 kd + 2 → I9 sz j = I8 sz j) → Q 1 I9 J9 := fun I9 fz s0 s1 s2 s3 => by
    have b3 := bsz_3
    have fr9 : mFm b I8 I9 J8 J9 := by
      refine mFm_t (mFm_row (z0 := sz) (by omega) fz (fun j hj => s3 j ?_ ?_ ?_)) ⟨fun _ _ _ _ => rfl, fun _ _ => rfl, fun _ _ _ _ _ => rfl, fun z a c => p9 z c, fun j _ => by rw [p9 159 (by decide)], fun j hj => g9 j (by omega), fun e => ⟨e, rfl⟩⟩
      · rcases hkd with ⟨_, q⟩ | ⟨_, q⟩ | ⟨_, q⟩ <;> rw [q] at hj
        · rw [b3.1] at hj; omega
        · rw [b3.2.1] at hj; omega
        · rw [b3.2.2.1] at hj; omega
      · rcases hkd with ⟨_, q⟩ | ⟨_, q⟩ | ⟨_, q⟩ <;> rw [q] at hj
        · rw [b3.1] at hj; omega
        · rw [b3.2.1] at hj; omega
        · rw [b3.2.2.1] at hj; omega
      · rcases hkd with ⟨_, q⟩ | ⟨_, q⟩ | ⟨_, q⟩ <;> rw [q] at hj
        · rw [b3.1] at hj; omega
        · rw [b3.2.1] at hj; omega
        · rw [b3.2.2.1] at hj; omega
    refine k1' I9 J9 e4' e6' e8' ⟨mFm_t f8 fr9, fun z a c d => by rw [fz z d, z8 z (by omega)], ⟨s0, s1, s2⟩, fun j h0 h1 h2 => by rw [s3 j h0 h1 h2, z8 sz (by omega)], by rw [fz 159 (by omega)]; exact c31, q9, fun j hj => by rw [g9 j hj, j8]⟩ ?_
    exact mS_row (z0 := sz) (by omega) hq8 fz (by rw [p9 159 (by decide)])
  rcases hkd with ⟨q1, q2⟩ | ⟨q1, q2⟩ | ⟨q1, q2⟩
  · subst q1; subst q2
    exact zt rfl (m_shapes (kd := 0) (W := 0) (Or.inl rfl) b8.2 (by omega) fin)
  · subst q1; subst q2
    exact zf (by decide) (zt rfl (m_shapes (kd := 0) (W := 0) (Or.inr (Or.inl rfl)) b8.2 (by omega) fin))
  · subst q1; subst q2
    exact zf (by decide) (zf (by decide) (m_shapes (kd := 0) (W := 0) (Or.inr (Or.inr rfl)) b8.2 (by omega) fin))
end
