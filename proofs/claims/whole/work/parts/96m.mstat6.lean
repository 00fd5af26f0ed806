/-! THE READERS: the model reads a formula's statement -/
section
variable {tb : Int → Int} {n : Int} {m : Nat} {b : Int} {i : Nat} {I J : mI} {V : mI} {F : mF}
theorem m_reads {w : Int} {w0 : Nat} {s : Int} {Q : mI → mI → Prop} (hc : ctD tb n m) (hq : mQ tb n m b i I J) (h3 : w = 0 ∨ w = 1 ∨ w = 2) (hs : (w0 = 0 ∧ s = 1) ∨ (w0 = 4 ∧ s = 0)) (h33 : I 159 33 = w) (h31 : 0 ≤ I 159 31 ∧ I 159 31 ≤ (i : Int))
    (k1 : ∀ (I' J' : mI) (j : Nat) (cs : List (Int × Int)), gR (kN1 tb n) (vN1 tb n) w 90 w0 0 0 i = Sum.inr (j, cs) → mfr b I I' → jK J J' → I' 159 31 = I 159 31 + (cs.length : Int) → (∀ z, z < 1600 * b + I 159 31 → I' 175 z = I 175 z ∧ I' 176 z = I 176 z) → segM I' (1600 * b + I 159 31) cs → mQ tb n m b j I' J' → Q I' J')
    (k5 : ∀ (I' J' : mI) (j : Nat) (cs : List (Int × Int)), gR (kN1 tb n) (vN1 tb n) w 90 w0 0 0 i = Sum.inr (j, cs) → kN1 tb n j = 5 → mNo b I I' J J' 1 (lN1 tb n j) → Q I' J')
    (k0 : ∀ (I' J' : mI) (k : Int) (i' : Nat), gR (kN1 tb n) (vN1 tb n) w 90 w0 0 0 i = Sum.inl (k, i') → mNo b I I' J J' k (lN1 tb n i') → Q I' J') : p12_reads s I J Q := by
  obtain ⟨hS, him, h8, hb, b01⟩ := hq
  have hm := hc.1
  unfold p12_reads
  refine zt (by omega) (m_putK (fun I1 q1 g1 f1 => m_putK (fun I2 q2 g2 f2 => m_putK (fun I3 q3 g3 f3 => m_putK (fun I4 q4 g4 f4 => ?_)))))
  have ez : ∀ z, z ≠ 159 → I4 z = I z := fun z hz => by rw [f4 z hz, f3 z hz, f2 z hz, f1 z hz]
  have ej : ∀ j, j ≠ 39 → j ≠ 40 → j ≠ 42 → j ≠ 43 → I4 159 j = I 159 j := fun j a c d e => by rw [g4 j e, g3 j d, g2 j c, g1 j a]
  have e39 : I4 159 39 = 0 := by rw [g4 39 (by decide), g3 39 (by decide), g2 39 (by decide)]; exact q1
  have e40 : I4 159 40 = 0 := by rw [g4 40 (by decide), g3 40 (by decide)]; exact q2
  have e42 : I4 159 42 = ((0 : Nat) : Int) := by rw [g4 42 (by decide)]; exact q3
  have main : ∀ kd : Int, (kd = if w0 = 0 then 1 else 0) → p12_pushes kd I4 (fun I5 => ∃ f, p12_reads_b43 Q f 1 I5 J) := fun kd hkd => by
    refine m_push (F := 0) (q := 0) e39 (by decide) e42 (fun I5 u1 u2 u3 u4 u5 u6 u7 u8 => ⟨m + 2, ?_⟩)
    have vz : ∀ z, z ≠ 159 → ¬ (178 ≤ z ∧ z ≤ 183) → I5 z = I z := fun z a c => by rw [u1 z a (by omega) (by omega) (by omega) (by omega), ez z a]
    have vj : ∀ j, j ≠ 39 → j ≠ 40 → j ≠ 42 → j ≠ 43 → I5 159 j = I 159 j := fun j a c d e => by rw [u2 j a, ej j a c d e]
    have e31 : I5 159 31 = I 159 31 := vj 31 (by decide) (by decide) (by decide) (by decide)
    have fr0 : mfr b I I5 := ⟨fun z a c d e => vz z a e, fun j a => vj j (by omega) (by omega) (by omega) (by omega), fun j _ => by rw [vz 175 (by decide) (by decide), vz 176 (by decide) (by decide)]; exact ⟨rfl, rfl⟩⟩
    have L5 : mL tb n m b w 0 i I5 J := ⟨mS_f hS (vz 160 (by decide) (by decide)) (fun j _ _ => vj j (by omega) (by omega) (by omega) (by omega)) rfl, him, (vj 8 (by decide) (by decide) (by decide) (by decide)).trans h8, by rw [vj 32 (by decide) (by decide) (by decide) (by decide)]; exact ⟨hb, b01⟩, (vj 33 (by decide) (by decide) (by decide) (by decide)).trans h33, by rw [u3]; rfl, by decide⟩
    have b182 : I5 182 ((0 : Nat) : Int) = ((0 : Nat) : Int) := u7
    have k178 : I5 178 ((0 : Nat) : Int) = kd := u4
    have k179 : I5 179 ((0 : Nat) : Int) = 0 := u5
    have k180 : I5 180 ((0 : Nat) : Int) = 1 := u6
    have E5 : mE tb n m b w 0 0 0 i I5 J := ⟨L5, by rw [u2 42 (by decide)]; exact e42, by rw [u2 40 (by decide)]; exact e40, by rw [b182]; decide, by rw [e31]; exact h31, by decide, by decide, by rw [u2 43 (by decide)]; exact q4⟩
    have X5 : mX tb n w0 0 0 0 i I5 := by
      rcases hs with ⟨r, _⟩ | ⟨r, _⟩
      · rw [r] at hkd ⊢
        exact mX_tst b182 k179 (by rw [k178, hkd]; exact Or.inl rfl) k180 (by decide)
      · rw [r] at hkd ⊢
        exact mX_sum b182 k179 (by rw [k178, hkd]; decide) (by decide)
    have w7 : w0 ≤ 4 := by omega
    refine mRd hc h3 (Q := Q) 90 w0 0 0 0 0 i I5 J (by omega) (by rcases hs with ⟨r, _⟩ | ⟨r, _⟩ <;> rw [r] <;> decide) E5 X5 (fun q => by omega) (fun I6 J6 j cs e hA => ?_) (fun I6 J6 k i' e hN => k0 I6 J6 k i' e (mNo_t fr0 (jK_r J) hN)) (m + 2) (by omega)
    have g := g_ok (tkM_of hc) h3 90 w0 0 0 i (by omega) (by decide) him (fun q => by omega) j cs e
    obtain ⟨⟨c1, hs', hcc, hC⟩, hP, hSP⟩ := hA
    have lc : cs.length = c1.length + hs'.length := by rw [hcc, List.length_append, opC_len]
    have hH : mH 0 0 1 hs' I6 := mC_H0 E5 b182 hC (by rcases hs with ⟨r, _⟩ | ⟨r, _⟩ <;> rw [r] <;> decide) (by rcases hs with ⟨r, _⟩ | ⟨r, _⟩ <;> rw [r] <;> decide) g.2.1 hm (by have := g.2.2.1; omega)
    obtain ⟨a1, a2, a3, a4, a5, a6, a7, a8, a9, a10, a11, a12, a13⟩ := hC
    have k6 : I6 178 ((0 : Nat) : Int) = kd := a4.trans k178
    have ph : 0 ≤ I6 179 ((0 : Nat) : Int) ∧ I6 179 ((0 : Nat) : Int) ≤ 2 := by
      rcases hs with ⟨r, _⟩ | ⟨r, _⟩
      · have := hP.1 (by omega); omega
      · have := hP.2.2 (by omega); omega
    refine gd_g (i2 := j + 1) g.2.1 a12 (Nat.lt_succ_self j) (fun Qg _ kd' => go_end (f := 0) (q := 0) (hs := hs') hc a3 ?_ ph (fun l => ⟨hSP.2.1 w7 (by omega), hSP.1 (by omega) (by omega)⟩) (fun t => ?_) hH (fun I7 h5 hn => kd' I7 J6 (k5 I7 J6 j cs e h5 (mNo_t (mfr_t fr0 a1.1) a2 hn))) (fun I7 hj hS7 => kd' I7 J6 ?_))
    · rw [k6, hkd]
      by_cases q : w0 = 0
      · rw [if_pos q]; exact Or.inr rfl
      · rw [if_neg q]; exact Or.inl rfl
    · rcases hs with ⟨r, _⟩ | ⟨r, _⟩
      · have := hP.1 (by omega)
        exact ⟨by omega, hSP.2.2.1 (by omega), hSP.2.2.2 r⟩
      · rw [k6, hkd, r] at t
        rcases t with x | x | x <;> exact absurd x (by decide)
    · obtain ⟨j1, j2, j3, j4, j5, j6, j7⟩ := hj
      have fr7 := fR_t a1 j1 (Nat.le_refl 0) (Nat.le_refl 0)
      refine k1 I7 J6 j cs e (mfr_t fr0 fr7.1) a2 (by rw [j5, a5, e31]; omega) (fun z hz => ?_) ?_ ⟨hS7, g.2.1, by rw [j3 8 (by decide) (by decide) (by decide)]; exact a3.2.2.1, by rw [j3 32 (by decide) (by decide) (by decide)]; exact a3.2.2.2.1⟩
      · have x := fr7.2.2.2.2.2 z (by omega)
        rw [vz 175 (by decide) (by decide), vz 176 (by decide) (by decide)] at x
        exact x
      · rw [hcc, ← e31]
        refine segM_ap (segM_lo (fun z _ h => j1.2.2.2.2.2 z (by omega)) a6) ?_
        rw [show 1600 * b + I5 159 31 + (c1.length : Int) = 1600 * b + I6 159 31 by omega]; exact j7
  rcases hs with ⟨r1, r2⟩ | ⟨r1, r2⟩
  · exact zf (by omega) (main 1 (by rw [if_pos r1]))
  · exact zt r2 (main 0 (by rw [if_neg (by omega)]))
theorem mFm_w {I' J' : mI} (h : mfw b I I') (hJ : jK J J') (h89 : I' 159 8 = 0 → I 159 8 = 0 ∧ I' 159 9 = I 159 9) : mFm b I I' J J' := by
  have b3 := bsz_3
  refine ⟨fun z a c d => h.1 z a (by omega) (by omega) d, fun j a => h.2.1 j (by omega), fun z a c j d => ?_, fun z a _ => hJ.1 z a, hJ.2, fun j _ => by rw [hJ.1 177 (by decide)], h89⟩
  by_cases q : z = 175
  · rw [q] at d ⊢
    rw [b3.2.2.2.2.2.2.2.2.2.2.2.2.2.2.1] at d
    exact (h.2.2 j d).1
  · by_cases q2 : z = 176
    · rw [q2] at d ⊢
      rw [b3.2.2.2.2.2.2.2.2.2.2.2.2.2.2.2] at d
      exact (h.2.2 j d).2
    · rw [h.1 z (by omega) q q2 (by omega)]
theorem mFm_m {I' J' : mI} (h : mfr b I I') (hJ : jK J J') : mFm b I I' J J' := mFm_w (mfw_of h) hJ (fun e => ⟨by rw [← h.2.1 8 (by omega)]; exact e, h.2.1 9 (by omega)⟩)
theorem m_formS {w : Int} {Q : mI → mI → Prop} (hc : ctD tb n m) (him : i < m) (hq : mQ tb n m b i I J) (h12 : I 159 12 = -1) (hM : mM b V F I J) (hw : WF V F) (h3 : w = 0 ∨ w = 1 ∨ w = 2) (h8 : V 0 8 ≤ (i : Int))
    (kf : F w ≠ [] → ∀ I', blR I I' 6 (lN1 tb n i) → Q I' J)
    (k1 : F w = [] → ∀ (I' J' : mI) (j : Nat) (V' : mI) (F' : mF), gFo (kN1 tb n) (vN1 tb n) V F w (i + 1) = Sum.inr (j, V', F') → mFm b I I' J J' → mQ tb n m b j I' J' → mM b V' F' I' J' → Q I' J')
    (k5 : F w = [] → ∀ (I' J' : mI) (j : Nat) (V' : mI) (F' : mF), gFo (kN1 tb n) (vN1 tb n) V F w (i + 1) = Sum.inr (j, V', F') → kN1 tb n j = 5 → mBl b I I' J J' 1 (lN1 tb n j) → Q I' J')
    (k0 : F w = [] → ∀ (I' J' : mI) (k : Int) (i' : Nat), gFo (kN1 tb n) (vN1 tb n) V F w (i + 1) = Sum.inl (k, i') → mBl b I I' J J' k (lN1 tb n i') → Q I' J') : p12_reading w I J Q := by
  have b01 := hq.2.2.2.2
  have b3 := bsz_3
  have w8 := hw.2.2.2.2.2.2.2
  have hT := tkM_of hc
  have hm := hc.1
  have m9 := hM.2.2.2.2.2.2.2.2.1
  have m10 := hM.2.2.2.2.2.2.2.2.2.1
  have fo := (m9 w (by omega) (by omega)).1
  unfold p12_reading
  rw [hq.2.2.2.1]
  refine ⟨by omega, by omega, wLet_r ⟨by omega, zs (fun e => ?_) (fun e => ?_)⟩⟩
  rotate_left
  · have ne : F w ≠ [] := fun q => by
      rcases fo with x | x
      · exact e x.2
      · exact x.1 q
    unfold p12_reading_b25
    exact m_cnt hc him hq h12 (fun q => absurd q (by decide)) (fun _ I' hb => zt rfl (kf ne I' hb))
  have em : F w = [] := by
    rcases fo with x | x
    · exact x.1
    · have := x.2.1; omega
  have k1 := k1 em
  have k5 := k5 em
  have k0 := k0 em
  unfold p12_reading_b25
  refine m_cnt hc him hq h12 (fun _ I1 J1 hf1 hq1 => zf (by decide) (m_putK (fun I2 q2 g2 f2 => ?_))) (fun q => absurd rfl q)
  have f1 := mFm_fr (b := b) hf1
  have c31 : I1 159 31 = V 0 8 := by rw [hf1.2.1 31 (by decide) (by decide) (by decide) (by decide) (by decide)]; exact m10
  rw [g2 31 (by decide), c31]
  refine ⟨by omega, m_putK (fun I3 q3 g3 f3 => ?_)⟩
  have fr2 : mFm b I1 I2 J1 J1 := ⟨fun z a _ _ => f2 z a, fun j a => g2 j (by omega), fun z a c j _ => by rw [f2 z (by omega)], fun _ _ _ => rfl, fun _ _ => rfl, fun _ _ => rfl, fun e => ⟨by rw [← g2 8 (by decide)]; exact e, g2 9 (by decide)⟩⟩
  have fr3 : mFm b I2 I3 J1 J1 := mFm_row (z0 := 173) (by decide) f3 (fun j hj => g3 j (fun q => by rw [b3.2.2.2.2.2.2.2.2.2.2.2.2.1] at hj; omega))
  have f13 := mFm_t f1 (mFm_t fr2 fr3)
  have e159 : I3 159 = I2 159 := f3 159 (by decide)
  have hq3 : mQ tb n m b (i + 1) I3 J1 := by
    refine mQ_row (z0 := 173) (by decide) ?_ f3
    obtain ⟨a1, a2, a3, a4⟩ := hq1
    exact ⟨mS_f a1 (f2 160 (by decide)) (fun j _ _ => g2 j (by omega)) rfl, a2, by rw [g2 8 (by decide)]; exact a3, by rw [g2 32 (by decide)]; exact a4⟩
  have h33 : I3 159 33 = w := by rw [e159]; exact q2
  have h31 : I3 159 31 = V 0 8 := by rw [e159, g2 31 (by decide)]; exact c31
  have ez3 : ∀ z, z ≠ 159 → z ≠ 173 → I3 z = I z := fun z a c => by rw [f3 z c, f2 z a, hf1.1 z a]
  unfold gFo at k1 k5 k0
  have fin : ∀ (w0 : Nat) (s : Int), w0 = (if w = 1 then 0 else 4) → ((w0 = 0 ∧ s = 1) ∨ (w0 = 4 ∧ s = 0)) → p12_reading_b58 (3 * b + w) s I3 J1 Q := fun w0 s hw0 hs => by
    rw [← hw0] at k1 k5 k0
    unfold p12_reading_b58
    refine m_reads hc hq3 h3 hs h33 (by omega) (fun I4 J4 j cs e hm4 hj4 e31 ek es hq4 => ⟨by omega, m_putK (fun I5 q5 g5 f5 => ?_)⟩) (fun I4 J4 j cs e kk hn => ⟨by omega, m_putK (fun I5 q5 g5 f5 => ?_)⟩) (fun I4 J4 k i' e hn => ⟨by omega, m_putK (fun I5 q5 g5 f5 => ?_)⟩)
    · rw [e] at k1
      have g := fo_ok hT (show i + 1 ≤ m from him) h3 (by rw [← hw0]; exact e)
      have fr5 : mFm b I4 I5 J4 J4 := mFm_row (z0 := 174) (by decide) f5 (fun j hj => g5 j (fun q => by rw [b3.2.2.2.2.2.2.2.2.2.2.2.2.2.1] at hj; omega))
      refine k1 I5 J4 j _ _ rfl (mFm_t f13 (mFm_t (mFm_m hm4 hj4) fr5)) (mQ_row (z0 := 174) (by decide) hq4 f5) ?_
      have z5 : ∀ z, 161 ≤ z ∧ z ≤ 172 → I5 z = I z := fun z a => by rw [f5 z (by omega), hm4.1 z (by omega) (by omega) (by omega) (by omega), ez3 z (by omega) (by omega)]
      have j5 : J4 177 = J 177 := by rw [hj4.1 177 (by decide), hf1.2.2.1 177 (by decide)]
      have e0 : ∀ j, j ≠ 8 → up (up (up V 7 w (V 0 8)) 0 8 (V 0 8 + (cs.length : Int))) 8 w (V 0 8 + (cs.length : Int)) 0 j = V 0 j := fun j hj => by rw [up_o _ _ _ _ (by decide), up_k _ _ _ hj, up_o _ _ _ _ (by decide)]
      have e8 : up (up (up V 7 w (V 0 8)) 0 8 (V 0 8 + (cs.length : Int))) 8 w (V 0 8 + (cs.length : Int)) 0 8 = V 0 8 + (cs.length : Int) := by rw [up_o _ _ _ _ (by decide), up_s]
      have eV : ∀ z, z ≠ 0 → z ≠ 7 → z ≠ 8 → up (up (up V 7 w (V 0 8)) 0 8 (V 0 8 + (cs.length : Int))) 8 w (V 0 8 + (cs.length : Int)) z = V z := fun z h0 h7 h8 => by rw [up_ne h8, up_ne h0, up_ne h7]
      have c31' : I5 159 31 = V 0 8 + (cs.length : Int) := by rw [f5 159 (by decide), e31, h31]
      obtain ⟨m1, m2, m3, m4, m5, m6, m7, m8, m9, m10, m11⟩ := hM
      unfold mM tr iNam
      rw [eV 1 (by decide) (by decide) (by decide), eV 2 (by decide) (by decide) (by decide), eV 3 (by decide) (by decide) (by decide), eV 4 (by decide) (by decide) (by decide), eV 5 (by decide) (by decide) (by decide), e0 9 (by decide), e0 10 (by decide), e0 11 (by decide), e8, c31', j5]
      rw [z5 161 (by decide), z5 162 (by decide), z5 163 (by decide), z5 164 (by decide), z5 165 (by decide), z5 166 (by decide), z5 167 (by decide), z5 168 (by decide), z5 169 (by decide), z5 170 (by decide), z5 171 (by decide), z5 172 (by decide)]
      refine ⟨m1, m2, m3, m4, m5, m6, m7, m8, fun w' a c => ?_, rfl, m11⟩
      have ef : (fun x => if x = w then cs else F x) w' = (if w' = w then cs else F w') := rfl
      rw [ef]
      have e173 : I5 173 (3 * b + w') = I3 173 (3 * b + w') := by rw [f5 173 (by decide), hm4.1 173 (by decide) (by decide) (by decide) (by decide)]
      by_cases q : w' = w
      · rw [if_pos q, q]
        rw [q] at e173
        rw [e31, h31] at q5
        refine ⟨Or.inr ⟨g.2.1, ?_, ?_, ?_, ?_⟩, fun _ => by rw [q5]; exact Int.le_refl _⟩
        · rw [e173, q3]; exact w8.1
        · rw [e173, q3, q5]
        · rw [q5]; omega
        · rw [e173, q3, ← h31]
          exact segM_fr (f5 175 (by decide)) (f5 176 (by decide)) es
      · rw [if_neg q]
        have x173 : I5 173 (3 * b + w') = I 173 (3 * b + w') := by rw [e173, g3 _ (by omega), f2 173 (by decide), hf1.1 173 (by decide)]
        have x174 : I5 174 (3 * b + w') = I 174 (3 * b + w') := by rw [g5 _ (by omega), hm4.1 174 (by decide) (by decide) (by decide) (by decide), ez3 174 (by decide) (by decide)]
        have y := m9 w' a c
        unfold foM at y ⊢
        rw [x173, x174]
        refine ⟨?_, fun ne => by have := y.2 ne; omega⟩
        rcases y.1 with r | ⟨r1, r2, r3, r4, r5⟩
        · exact Or.inl r
        · refine Or.inr ⟨r1, r2, r3, r4, ?_⟩
          have yl := y.2 r1
          refine segM_fr (f5 175 (by decide)) (f5 176 (by decide)) (segM_lo (I := I3) (fun z _ hz => ek z (by omega)) (segM_fr (ez3 175 (by decide) (by decide)) (ez3 176 (by decide) (by decide)) r5))
    · rw [e] at k5
      have fr5 : mFm b I4 I5 J4 J4 := mFm_row (z0 := 174) (by decide) f5 (fun j hj => g5 j (fun q => by rw [b3.2.2.2.2.2.2.2.2.2.2.2.2.2.1] at hj; omega))
      exact k5 I5 J4 j _ _ rfl kk ⟨mFm_t f13 (mFm_t (mFm_w hn.1 hn.2.1 (fun e => by have := hn.2.2.1; omega)) fr5), by rw [f5 159 (by decide)]; exact hn.2.2.1, by rw [f5 159 (by decide)]; exact hn.2.2.2⟩
    · rw [e] at k0
      have fr5 : mFm b I4 I5 J4 J4 := mFm_row (z0 := 174) (by decide) f5 (fun j hj => g5 j (fun q => by rw [b3.2.2.2.2.2.2.2.2.2.2.2.2.2.1] at hj; omega))
      exact k0 I5 J4 k i' rfl ⟨mFm_t f13 (mFm_t (mFm_w hn.1 hn.2.1 (fun e => by have := hn.2.2.1; omega)) fr5), by rw [f5 159 (by decide)]; exact hn.2.2.1, by rw [f5 159 (by decide)]; exact hn.2.2.2⟩
  exact zs (fun q => fin 0 1 (by rw [if_pos q]) (Or.inl ⟨rfl, rfl⟩)) (fun q => fin 4 0 (by rw [if_neg q]) (Or.inr ⟨rfl, rfl⟩))
end
