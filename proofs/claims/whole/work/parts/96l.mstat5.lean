/-! THE READERS: the model reads late, near, wears, purse, row -/
section
variable {tb : Int → Int} {n : Int} {m : Nat} {b : Int} {i : Nat} {I J : mI} {V : mI} {F : mF}
theorem m_lateS {Q : mI → mI → Prop} (hc : ctD tb n m) (him : i < m) (hq : mQ tb n m b i I J) (h12 : I 159 12 = -1) (hM : mM b V F I J) (hw : WF V F)
    (k1 : ∀ (I' J' : mI) (j : Nat) (V' : mI), gK (gFd (kN1 tb n) (vN1 tb n) V 0 (i + 1)) (fun k => if has1 (V 0 9) k = 1 then Sum.inl (3, i + 1) else Sum.inr (i + 1 + 1, up V 0 9 (bOr (V 0 9) (bShl 1 k)), F)) = Sum.inr (j, V', F) → mFm b I I' J J' → mQ tb n m b j I' J' → mM b V' F I' J' → Q I' J')
    (k0 : ∀ (I' J' : mI) (k : Int) (i' : Nat), (gK (gFd (kN1 tb n) (vN1 tb n) V 0 (i + 1)) (fun k => if has1 (V 0 9) k = 1 then Sum.inl (3, i + 1) else Sum.inr (i + 1 + 1, up V 0 9 (bOr (V 0 9) (bShl 1 k)), F)) : Rt) = Sum.inl (k, i') → mBl b I I' J J' k (lN1 tb n i') → Q I' J') : p12_lateness I J Q := by
  have b01 := hq.2.2.2.2
  have b3 := bsz_3
  unfold p12_lateness
  refine m_cnt hc him hq h12 (fun _ I1 J1 hf1 hq1 => zf (by decide) ?_) (fun q => absurd rfl q)
  have hM1 := mM_fr hM hf1
  have f1 := mFm_fr (b := b) hf1
  rw [hq1.2.2.2.1]
  refine ⟨by omega, ?_⟩
  rw [hM1.2.2.2.2.2.1]
  have dead : ∀ (I2 J2 : mI), 0 < I2 159 8 → Q I2 J2 → (if (I2 159 8) = 0 then (((0 : Int) ≤ (I2 159 32) ∧ (I2 159 32) < (2 : Int)) ∧ (((0 : Int) ≤ (I2 159 32) ∧ (I2 159 32) < (2 : Int)) ∧ wLet (up I2 163 (I2 159 32) (bOr (I2 163 (I2 159 32)) (bShl 1 0))) (fun I3 => (Q I3 J2)))) else (Q I2 J2)) := fun I2 J2 h8 hq => zf (by omega) hq
  refine m_known hc hq1 hM1 hw (Or.inl rfl) (fun k e t I2 J2 hf2 hq2 => ?_) (fun k e t I2 hb2 => dead I2 J1 (by have := hb2.2.2.1; omega) ?_) (fun I2 k' i' e hb2 => dead I2 J1 (by have := hb2.2.2.1; omega) ?_)
  · have g := gFd_ok e
    rw [e, gK_r, if_neg t] at k1
    have hM2 := mM_fr hM1 hf2
    rw [hq2.2.2.2.1]
    refine zt hq2.2.2.1 ⟨by omega, by omega, m_putK (fun I3 q3 g3 f3 => ?_)⟩
    rw [hM2.2.2.2.2.2.1] at q3
    have fr3 : mFm b I2 I3 J2 J2 := mFm_row (z0 := 163) (by decide) f3 (fun j hj => g3 j (fun q => by rw [b3.2.2.2.2.2.2.2.2.2.1] at hj; omega))
    refine k1 I3 J2 _ _ rfl (mFm_t f1 (mFm_t (mFm_fr hf2) fr3)) (mQ_row (z0 := 163) (by decide) hq2 f3) ?_
    have e0 : ∀ j, j ≠ 9 → up V 0 9 (bOr (V 0 9) (bShl 1 k)) 0 j = V 0 j := fun j hj => up_k _ _ _ hj
    obtain ⟨m1, m2, m3, m4, m5, m6, m7, m8, m9, m10, m11⟩ := hM2
    unfold mM tr iNam
    rw [up_0 (b := 1) (by decide), up_0 (b := 2) (by decide), up_0 (b := 3) (by decide), up_0 (b := 4) (by decide), up_0 (b := 5) (by decide), e0 10 (by decide), e0 11 (by decide), e0 8 (by decide), up_s]
    rw [f3 161 (by decide), f3 162 (by decide), f3 164 (by decide), f3 165 (by decide), f3 166 (by decide), f3 167 (by decide), f3 168 (by decide), f3 169 (by decide), f3 170 (by decide), f3 171 (by decide), f3 172 (by decide), f3 174 (by decide), f3 159 (by decide)]
    exact ⟨m1, m2, m3, m4, m5, q3, m7, m8, fun w a c => ⟨foM_fr (f3 173 (by decide)) (f3 174 (by decide)) (f3 175 (by decide)) (f3 176 (by decide)) (m9 w a c).1, (m9 w a c).2⟩, m10, m11⟩
  · rw [e, gK_r, if_pos t] at k0
    exact k0 I2 J1 3 (i + 1) rfl (mBl_t f1 (mBl_b hb2))
  · exact k0 I2 J1 k' i' (by rw [e]; rfl) (mBl_t f1 (mBl_b hb2))
theorem m_purS {k z0 : Nat} {hi : Int} {Q : mI → mI → Prop} (hc : ctD tb n m) (him : i < m) (hq : mQ tb n m b i I J) (h12 : I 159 12 = -1) (hM : mM b V F I J) (hk : (k = 10 ∧ z0 = 171) ∨ (k = 11 ∧ z0 = 172))
    (k1 : ∀ (I' J' : mI) (j : Nat) (V' : mI), gK (gNum (kN1 tb n) (vN1 tb n) hi (i + 1)) (fun a => Sum.inr (a.1, up V 0 k a.2, F)) = Sum.inr (j, V', F) → mFm b I I' J J' → mQ tb n m b j I' J' → mM b V' F I' J' → Q I' J')
    (k0 : ∀ (I' J' : mI) (k' : Int) (i' : Nat), (gK (gNum (kN1 tb n) (vN1 tb n) hi (i + 1)) (fun a => Sum.inr (a.1, up V 0 k a.2, F)) : Rt) = Sum.inl (k', i') → mBl b I I' J J' k' (lN1 tb n i') → Q I' J') : p12_telling hi I J (fun r I6 J4 => (((0 : Int) ≤ b ∧ b < (2 : Int)) ∧ wLet (up I6 z0 b r) (fun I7 => (Q I7 J4)))) := by
  have b01 := hq.2.2.2.2
  have b3 := bsz_3
  have bz : bsz z0 = 1 := by
    rcases hk with ⟨_, q⟩ | ⟨_, q⟩ <;> rw [q] <;> decide
  unfold p12_telling
  refine m_cnt hc him hq h12 (fun _ I1 J1 hf1 hq1 => zf (by decide) ?_) (fun q => absurd rfl q)
  have hM1 := mM_fr hM hf1
  have f1 := mFm_fr (b := b) hf1
  refine mw_num hc hq1 (fun I2 J2 v e hf2 hq2 => ⟨by omega, m_putK (fun I3 q3 g3 f3 => ?_)⟩) (fun I2 v k' i' e hb2 => ⟨by omega, m_putK (fun I3 q3 g3 f3 => ?_)⟩)
  · rw [e, gK_r] at k1
    have hM2 := mM_fr hM1 hf2
    have fr3 : mFm b I2 I3 J2 J2 := mFm_row (z0 := z0) (by omega) f3 (fun j hj => g3 j (fun q => by rw [bz] at hj; omega))
    refine k1 I3 J2 _ _ rfl (mFm_t f1 (mFm_t (mFm_fr hf2) fr3)) (mQ_row (z0 := z0) (by omega) hq2 f3) ?_
    have e0 : ∀ j, j ≠ (k : Int) → up V 0 (k : Int) v 0 j = V 0 j := fun j hj => up_k _ _ _ hj
    have es : up V 0 (k : Int) v 0 (k : Int) = v := up_s _ _ _ _
    obtain ⟨m1, m2, m3, m4, m5, m6, m7, m8, m9, m10, m11⟩ := hM2
    unfold mM tr iNam
    show _ ∧ _
    rw [up_0 (b := 1) (by decide), up_0 (b := 2) (by decide), up_0 (b := 3) (by decide), up_0 (b := 4) (by decide), up_0 (b := 5) (by decide), e0 9 (by omega), e0 8 (by omega)]
    rw [f3 161 (by omega), f3 162 (by omega), f3 163 (by omega), f3 164 (by omega), f3 165 (by omega), f3 166 (by omega), f3 167 (by omega), f3 168 (by omega), f3 169 (by omega), f3 170 (by omega), f3 174 (by omega), f3 159 (by omega)]
    refine ⟨m1, m2, m3, m4, m5, m6, m7, ⟨?_, ?_⟩, fun w a c => ⟨foM_fr (f3 173 (by omega)) (f3 174 (by omega)) (f3 175 (by omega)) (f3 176 (by omega)) (m9 w a c).1, (m9 w a c).2⟩, m10, m11⟩
    · rcases hk with ⟨r, s⟩ | ⟨r, s⟩
      · subst r; subst s; exact q3.trans es.symm
      · rw [f3 171 (by omega), e0 10 (by omega)]; exact m8.1
    · rcases hk with ⟨r, s⟩ | ⟨r, s⟩
      · rw [f3 172 (by omega), e0 11 (by omega)]; exact m8.2
      · subst r; subst s; exact q3.trans es.symm
  · have fr3 : mFm b I2 I3 J1 J1 := mFm_row (z0 := z0) (by omega) f3 (fun j hj => g3 j (fun q => by rw [bz] at hj; omega))
    exact k0 I3 J1 k' i' (by rw [e]; rfl) ⟨mFm_t f1 (mFm_t (mFm_bl hb2) fr3), by rw [f3 159 (by omega)]; exact hb2.2.2.1, by rw [f3 159 (by omega)]; exact hb2.2.2.2⟩
theorem m_wearS {Q : mI → mI → Prop} (hc : ctD tb n m) (him : i < m) (hq : mQ tb n m b i I J) (h12 : I 159 12 = -1) (hM : mM b V F I J) (hw : WF V F)
    (k1 : ∀ (I' J' : mI) (j : Nat) (V' : mI), gK (gFd (kN1 tb n) (vN1 tb n) V 2 (i + 1)) (fun a => gK (gFd (kN1 tb n) (vN1 tb n) V 1 (i + 1 + 1)) (fun c => Sum.inr (i + 1 + 2, up V 5 a c, F))) = Sum.inr (j, V', F) → mFm b I I' J J' → mQ tb n m b j I' J' → mM b V' F I' J' → Q I' J')
    (k0 : ∀ (I' J' : mI) (k : Int) (i' : Nat), (gK (gFd (kN1 tb n) (vN1 tb n) V 2 (i + 1)) (fun a => gK (gFd (kN1 tb n) (vN1 tb n) V 1 (i + 1 + 1)) (fun c => Sum.inr (i + 1 + 2, up V 5 a c, F))) : Rt) = Sum.inl (k, i') → mBl b I I' J J' k (lN1 tb n i') → Q I' J') : p12_wearing I J Q := by
  have b01 := hq.2.2.2.2
  have b3 := bsz_3
  have ck := hw.1
  have h00 : ∀ k, 0 ≤ k → k < 6 → has1 0 k ≠ 1 := fun k a c => by rw [has1_0 a c]; decide
  unfold p12_wearing
  refine m_cnt hc him hq h12 (fun _ I1 J1 hf1 hq1 => zf (by decide) ?_) (fun q => absurd rfl q)
  have hM1 := mM_fr hM hf1
  have f1 := mFm_fr (b := b) hf1
  refine m_known hc hq1 hM1 hw (Or.inr (Or.inr rfl)) (fun k e t I2 J2 hf2 hq2 => ?_) (fun k e t => absurd t (h00 k (gFd_ok e).2.2.1 (by have := (gFd_ok e).2.2.2; omega))) (fun I2 k' i' e hb2 => m_knownD (by have := hb2.2.2.1; omega) (zf (by have := hb2.2.2.1; omega) (k0 I2 J1 k' i' (by rw [e]; rfl) (mBl_t f1 (mBl_b hb2)))))
  have g := gFd_ok e
  rw [e, gK_r] at k1 k0
  have hM2 := mM_fr hM1 hf2
  have f2 := mFm_t f1 (mFm_fr (b := b) hf2)
  refine m_known hc hq2 hM2 hw (Or.inr (Or.inl rfl)) (fun c e2 t2 I3 J3 hf3 hq3 => ?_) (fun c e t => absurd t (h00 c (gFd_ok e).2.2.1 (by have := (gFd_ok e).2.2.2; omega))) (fun I3 k' i' e2 hb3 => zf (by have := hb3.2.2.1; omega) (k0 I3 J2 k' i' (by rw [e2]; rfl) (mBl_t f2 (mBl_b hb3))))
  have g2 := gFd_ok e2
  rw [e2, gK_r] at k1
  have hM3 := mM_fr hM2 hf3
  rw [hq3.2.2.2.1]
  refine zt hq3.2.2.1 ⟨by omega, by omega, by omega, m_putK (fun I4 q4 g4 f4 => ?_)⟩
  have fr4 : mFm b I3 I4 J3 J3 := mFm_row (z0 := 170) (by decide) f4 (fun j hj => g4 j (fun q => by rw [b3.2.2.2.2.2.2.2.2.1] at hj; omega))
  refine k1 I4 J3 _ _ rfl (mFm_t f2 (mFm_t (mFm_fr hf3) fr4)) (mQ_row (z0 := 170) (by decide) hq3 f4) ?_
  obtain ⟨m1, m2, m3, m4, m5, m6, m7, m8, m9, m10, m11⟩ := hM3
  unfold mM tr iNam
  rw [up_0 (b := 1) (by decide), up_0 (b := 2) (by decide), up_0 (b := 3) (by decide), up_0 (b := 4) (by decide), up_0 (b := 0) (by decide)]
  rw [f4 161 (by decide), f4 162 (by decide), f4 163 (by decide), f4 164 (by decide), f4 165 (by decide), f4 166 (by decide), f4 167 (by decide), f4 168 (by decide), f4 169 (by decide), f4 171 (by decide), f4 172 (by decide), f4 174 (by decide), f4 159 (by decide)]
  refine ⟨m1, m2, m3, m4, m5, m6, fun t t0 t1 => ⟨(m7 t t0 t1).1, ?_⟩, m8, fun w a c => ⟨foM_fr (f4 173 (by decide)) (f4 174 (by decide)) (f4 175 (by decide)) (f4 176 (by decide)) (m9 w a c).1, (m9 w a c).2⟩, m10, m11⟩
  by_cases q : t = k
  · rw [q, up_s]; exact q4
  · rw [up_k _ _ _ q, g4 _ (by omega)]; exact (m7 t t0 t1).2
theorem m_nearS {Q : mI → mI → Prop} (hc : ctD tb n m) (him : i < m) (hq : mQ tb n m b i I J) (h12 : I 159 12 = -1) (hM : mM b V F I J) (hw : WF V F)
    (k1 : ∀ (I' J' : mI) (j : Nat) (V' : mI), gK (gFd (kN1 tb n) (vN1 tb n) V 2 (i + 1)) (fun a => gK (gFd (kN1 tb n) (vN1 tb n) V 2 (i + 1 + 1)) (fun c => if a = c ∨ has1 (V 4 a) c = 1 then Sum.inl (3, i + 1 + 1) else Sum.inr (i + 1 + 2, up (up V 4 a (bOr (V 4 a) (bShl 1 c))) 4 c (bOr (V 4 c) (bShl 1 a)), F))) = Sum.inr (j, V', F) → mFm b I I' J J' → mQ tb n m b j I' J' → mM b V' F I' J' → Q I' J')
    (k0 : ∀ (I' J' : mI) (k : Int) (i' : Nat), (gK (gFd (kN1 tb n) (vN1 tb n) V 2 (i + 1)) (fun a => gK (gFd (kN1 tb n) (vN1 tb n) V 2 (i + 1 + 1)) (fun c => if a = c ∨ has1 (V 4 a) c = 1 then Sum.inl (3, i + 1 + 1) else Sum.inr (i + 1 + 2, up (up V 4 a (bOr (V 4 a) (bShl 1 c))) 4 c (bOr (V 4 c) (bShl 1 a)), F))) : Rt) = Sum.inl (k, i') → mBl b I I' J J' k (lN1 tb n i') → Q I' J') : p12_nearing I J Q := by
  have b01 := hq.2.2.2.2
  have b3 := bsz_3
  have ck := hw.1
  have w5 := hw.2.2.2.2.1
  have h00 : ∀ k, 0 ≤ k → k < 6 → has1 0 k ≠ 1 := fun k a c => by rw [has1_0 a c]; decide
  unfold p12_nearing
  refine m_cnt hc him hq h12 (fun _ I1 J1 hf1 hq1 => zf (by decide) ?_) (fun q => absurd rfl q)
  have hM1 := mM_fr hM hf1
  have f1 := mFm_fr (b := b) hf1
  refine m_known hc hq1 hM1 hw (Or.inr (Or.inr rfl)) (fun k e t I2 J2 hf2 hq2 => ?_) (fun k e t => absurd t (h00 k (gFd_ok e).2.2.1 (by have := (gFd_ok e).2.2.2; omega))) (fun I2 k' i' e hb2 => zf (by have := hb2.2.2.1; omega) (k0 I2 J1 k' i' (by rw [e]; rfl) (mBl_t f1 (mBl_b hb2))))
  have g := gFd_ok e
  rw [e, gK_r] at k1 k0
  have hM2 := mM_fr hM1 hf2
  have f2 := mFm_t f1 (mFm_fr (b := b) hf2)
  have x := w5 k g.2.2.1 (by omega)
  have h8 := hq2.2.2.1
  rw [hq2.2.2.2.1, (hM2.2.2.2.2.2.2.1 k g.2.2.1 g.2.2.2).1]
  have bt : ∀ c, 0 ≤ c → c < 6 → (has1 (bOr (V 4 k) (bShl 1 k)) c = 1 ↔ (k = c ∨ has1 (V 4 k) c = 1)) := fun c c0 c6 => by
    rw [(bit_or x.1.1 x.1.2 g.2.2.1 (by omega)).2 c c0 c6]
    by_cases q : c = k
    · rw [if_pos q]; exact ⟨fun _ => Or.inl q.symm, fun _ => rfl⟩
    · rw [if_neg q]
      exact ⟨fun z => Or.inr z, fun z => z.elim (fun z => absurd z.symm q) id⟩
  refine zt (by omega) ⟨by omega, by omega, by omega, m_known hc hq2 hM2 hw (Or.inr (Or.inr rfl)) (fun c e2 t2 I3 J3 hf3 hq3 => ?_) (fun c e2 t2 I3 hb3 => zf (by have := hb3.2.2.1; omega) ?_) (fun I3 k' i' e2 hb3 => zf (by have := hb3.2.2.1; omega) (k0 I3 J2 k' i' (by rw [e2]; rfl) (mBl_t f2 (mBl_b hb3))))⟩
  rotate_left
  · have g2 := gFd_ok e2
    rw [e2, gK_r, if_pos ((bt c g2.2.2.1 (by omega)).mp t2)] at k0
    exact k0 I3 J2 3 (i + 1 + 1) rfl (mBl_t f2 (mBl_b hb3))
  have g2 := gFd_ok e2
  have nb : ¬ (k = c ∨ has1 (V 4 k) c = 1) := fun z => t2 ((bt c g2.2.2.1 (by omega)).mpr z)
  rw [e2, gK_r, if_neg nb] at k1
  have ne : k ≠ c := fun z => nb (Or.inl z)
  have hM3 := mM_fr hM2 hf3
  have h83 := hq3.2.2.1
  rw [hq3.2.2.2.1]
  refine zt (by omega) ⟨by omega, by omega, by omega, by omega, m_putK (fun I4 q4 g4 f4 => ?_)⟩
  rw [f4 159 (by decide), hq3.2.2.2.1]
  refine ⟨by omega, by omega, by omega, by omega, m_putK (fun I5 q5 g5 f5 => ?_)⟩
  rw [(hM3.2.2.2.2.2.2.1 k g.2.2.1 g.2.2.2).1] at q4
  rw [g4 (6 * b + c) (by omega), (hM3.2.2.2.2.2.2.1 c g2.2.2.1 g2.2.2.2).1] at q5
  have fr4 : mFm b I3 I4 J3 J3 := mFm_row (z0 := 169) (by decide) f4 (fun j hj => g4 j (fun q => by rw [b3.2.2.2.2.2.2.2.1] at hj; omega))
  have fr5 : mFm b I4 I5 J3 J3 := mFm_row (z0 := 169) (by decide) f5 (fun j hj => g5 j (fun q => by rw [b3.2.2.2.2.2.2.2.1] at hj; omega))
  refine k1 I5 J3 _ _ rfl (mFm_t f2 (mFm_t (mFm_fr hf3) (mFm_t fr4 fr5))) (mQ_row (z0 := 169) (by decide) (mQ_row (z0 := 169) (by decide) hq3 f4) f5) ?_
  obtain ⟨n1, n2, n3, n4, n5⟩ := near_ev hw g.2.2 g2.2.2 ne rfl
  generalize up (up V 4 k (bOr (V 4 k) (bShl 1 c))) 4 c (bOr (V 4 c) (bShl 1 k)) = V' at n1 n2 n3 n4 n5 ⊢
  have e5 : ∀ z, z ≠ 169 → I5 z = I3 z := fun z hz => (f5 z hz).trans (f4 z hz)
  obtain ⟨m1, m2, m3, m4, m5, m6, m7, m8, m9, m10, m11⟩ := hM3
  unfold mM tr iNam
  rw [n1 1 (by decide), n1 2 (by decide), n1 3 (by decide), n1 5 (by decide), n1 0 (by decide)]
  rw [e5 161 (by decide), e5 162 (by decide), e5 163 (by decide), e5 164 (by decide), e5 165 (by decide), e5 166 (by decide), e5 167 (by decide), e5 168 (by decide), e5 170 (by decide), e5 171 (by decide), e5 172 (by decide), e5 174 (by decide), e5 159 (by decide)]
  refine ⟨m1, m2, m3, m4, m5, m6, fun t t0 t1 => ⟨?_, (m7 t t0 t1).2⟩, m8, fun w a c => ⟨foM_fr (e5 173 (by decide)) (e5 174 (by decide)) (e5 175 (by decide)) (e5 176 (by decide)) (m9 w a c).1, (m9 w a c).2⟩, m10, m11⟩
  by_cases q : t = c
  · rw [q, n3]; exact q5
  · by_cases q2 : t = k
    · rw [q2, n2, g5 _ (by omega)]; exact q4
    · rw [n4 t q2 q, g5 _ (by omega), g4 _ (by omega)]; exact (m7 t t0 t1).1
end
