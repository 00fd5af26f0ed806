/-! THE READERS: the model reads a statement: one of a kind -/
section
variable {tb : Int → Int} {n : Int} {m : Nat} {b : Int} {i : Nat} {I J : mI} {V : mI} {F : mF}
theorem iNam_one {V' J' : mI} {kd p a bb c e W : Int} (hw : WF V F) (h6 : V 1 kd < 6) (hkd : kd = 0 ∨ kd = 1 ∨ kd = 2) (o : oneR V V' kd p a bb c e) (hn : naR p W) (h : iNam V J b) (j1 : J' 177 (18 * b + 6 * kd + V 1 kd) = W) (j2 : ∀ j, j ≠ 18 * b + 6 * kd + V 1 kd → J' 177 j = J 177 j) : iNam V' J' b := fun kd' w h0 h3 w0 w1 => by
  obtain ⟨o1, o2, o3, o4, o5, o6, o7⟩ := o
  have ck := cnt_k hw hkd
  have ck' := cnt_k (kd := kd') hw (by omega)
  by_cases q : kd' = kd ∧ w = V 1 kd
  · rw [q.1, q.2, o4, j1]; exact hn
  · have lw : w < V 1 kd' := by
      by_cases r : kd' = kd
      · rw [r] at w1 ⊢
        rw [o2] at w1
        have : w ≠ V 1 kd := fun z => q ⟨r, z⟩
        omega
      · rw [o3 kd' r] at w1; exact w1
    have ne : kd' * 6 + w ≠ kd * 6 + V 1 kd := fun z => by
      by_cases r : kd' = kd
      · rw [r] at lw z; omega
      · omega
    rw [o5 _ ne, j2 _ (by omega)]
    exact h kd' w h0 h3 w0 lw
theorem mM_one0 {V' I' J' : mI} {p a bb c e W : Int} (hM : mM b V F I J) (hw : WF V F) (h6 : V 1 0 < 6) (o : oneR V V' 0 p a bb c e) (hn : naR p W) (z1 : ∀ z, 161 ≤ z → z ≤ 176 → z ≠ 161 → z ≠ 162 → I' z = I z) (hcnt : I' 161 b = V 1 0 + 1) (s0 : I' 162 (18 * b + 3 * V 1 0 + 0) = a) (s1 : I' 162 (18 * b + 3 * V 1 0 + 1) = bb) (s2 : I' 162 (18 * b + 3 * V 1 0 + 2) = c) (s3 : ∀ j, j ≠ 18 * b + 3 * V 1 0 + 0 → j ≠ 18 * b + 3 * V 1 0 + 1 → j ≠ 18 * b + 3 * V 1 0 + 2 → I' 162 j = I 162 j) (h31 : I' 159 31 = I 159 31) (j1 : J' 177 (18 * b + 6 * 0 + V 1 0) = W) (j2 : ∀ j, j ≠ 18 * b + 6 * 0 + V 1 0 → J' 177 j = J 177 j) : mM b V' F I' J' := by
  obtain ⟨m1, m2, m3, m4, m5, m6, m7, m8, m9, m10, m11⟩ := hM
  have nam := iNam_one hw h6 (Or.inl rfl) o hn m11 j1 j2
  obtain ⟨o1, o2, o3, o4, o5, o6, o7⟩ := o
  have ck := hw.1
  have e : ∀ z, 163 ≤ z ∧ z ≤ 176 → I' z = I z := fun z a => z1 z (by omega) (by omega) (by omega) (by omega)
  refine ⟨⟨by rw [hcnt, o2], by rw [e 164 (by decide), o3 1 (by decide)]; exact m1.2.1, by rw [e 167 (by decide), o3 2 (by decide)]; exact m1.2.2⟩, fun w j w0 w1 j0 j3 => ?_, fun w j w0 w1 j0 j3 => ?_, fun w j w0 w1 j0 j3 => ?_, fun w w0 w1 => ?_, ?_, fun t t0 t1 => ?_, ?_, fun w w0 w3 => ?_, ?_, nam⟩
  · by_cases q : w = V 1 0
    · rw [q]
      have : j = 0 ∨ j = 1 ∨ j = 2 := by omega
      rcases this with r | r | r <;> rw [r]
      · rw [s0]; exact o6.1.symm
      · rw [s1]; exact o6.2.1.symm
      · rw [s2]; exact o6.2.2.1.symm
    · rw [s3 _ (by omega) (by omega) (by omega), o7 0 w j (by omega) j0 (by omega)]
      exact m2 w j w0 (by omega) j0 j3
  · rw [o3 1 (by decide)] at w1
    rw [e 165 (by decide), o7 1 w j (by omega) j0 (by omega)]; exact m3 w j w0 w1 j0 j3
  · rw [o3 2 (by decide)] at w1
    rw [e 168 (by decide), o7 2 w j (by omega) j0 (by omega)]; exact m4 w j w0 w1 j0 j3
  · rw [o3 1 (by decide)] at w1
    rw [e 166 (by decide), o7 1 w 3 (by omega) (by decide) (by decide)]; exact m5 w w0 w1
  · rw [e 163 (by decide), o1 0 (by decide) (by decide) (by decide)]; exact m6
  · rw [o3 2 (by decide)] at t1
    rw [e 169 (by decide), e 170 (by decide), o1 4 (by decide) (by decide) (by decide), o1 5 (by decide) (by decide) (by decide)]; exact m7 t t0 t1
  · rw [e 171 (by decide), e 172 (by decide), o1 0 (by decide) (by decide) (by decide)]; exact m8
  · rw [e 174 (by decide), h31]
    exact ⟨foM_fr (e 173 (by decide)) (e 174 (by decide)) (e 175 (by decide)) (e 176 (by decide)) (m9 w w0 w3).1, (m9 w w0 w3).2⟩
  · rw [h31, o1 0 (by decide) (by decide) (by decide)]; exact m10
theorem mM_one1 {V' I' J' : mI} {p a bb c e W : Int} (hM : mM b V F I J) (hw : WF V F) (h6 : V 1 1 < 6) (o : oneR V V' 1 p a bb c e) (hn : naR p W) (z1 : ∀ z, 161 ≤ z → z ≤ 176 → z ≠ 164 → z ≠ 165 → z ≠ 166 → I' z = I z) (hcnt : I' 164 b = V 1 1 + 1) (s0 : I' 165 (18 * b + 3 * V 1 1 + 0) = a) (s1 : I' 165 (18 * b + 3 * V 1 1 + 1) = bb) (s2 : I' 165 (18 * b + 3 * V 1 1 + 2) = c) (s3 : ∀ j, j ≠ 18 * b + 3 * V 1 1 + 0 → j ≠ 18 * b + 3 * V 1 1 + 1 → j ≠ 18 * b + 3 * V 1 1 + 2 → I' 165 j = I 165 j) (c0 : I' 166 (6 * b + V 1 1) = e) (c1 : ∀ j, j ≠ 6 * b + V 1 1 → I' 166 j = I 166 j) (h31 : I' 159 31 = I 159 31) (j1 : J' 177 (18 * b + 6 * 1 + V 1 1) = W) (j2 : ∀ j, j ≠ 18 * b + 6 * 1 + V 1 1 → J' 177 j = J 177 j) : mM b V' F I' J' := by
  obtain ⟨m1, m2, m3, m4, m5, m6, m7, m8, m9, m10, m11⟩ := hM
  have nam := iNam_one hw h6 (Or.inr (Or.inl rfl)) o hn m11 j1 j2
  obtain ⟨o1, o2, o3, o4, o5, o6, o7⟩ := o
  have ck := hw.1
  have e : ∀ z, (161 ≤ z ∧ z ≤ 163) ∨ (167 ≤ z ∧ z ≤ 176) → I' z = I z := fun z a => z1 z (by omega) (by omega) (by omega) (by omega) (by omega)
  refine ⟨⟨by rw [e 161 (by decide), o3 0 (by decide)]; exact m1.1, by rw [hcnt, o2], by rw [e 167 (by decide), o3 2 (by decide)]; exact m1.2.2⟩, fun w j w0 w1 j0 j3 => ?_, fun w j w0 w1 j0 j3 => ?_, fun w j w0 w1 j0 j3 => ?_, fun w w0 w1 => ?_, ?_, fun t t0 t1 => ?_, ?_, fun w w0 w3 => ?_, ?_, nam⟩
  · rw [o3 0 (by decide)] at w1
    rw [e 162 (by decide), o7 0 w j (by omega) j0 (by omega)]; exact m2 w j w0 w1 j0 j3
  · by_cases q : w = V 1 1
    · rw [q]
      have : j = 0 ∨ j = 1 ∨ j = 2 := by omega
      rcases this with r | r | r <;> rw [r]
      · rw [s0]; exact o6.1.symm
      · rw [s1]; exact o6.2.1.symm
      · rw [s2]; exact o6.2.2.1.symm
    · rw [s3 _ (by omega) (by omega) (by omega), o7 1 w j (by omega) j0 (by omega)]
      exact m3 w j w0 (by omega) j0 j3
  · rw [o3 2 (by decide)] at w1
    rw [e 168 (by decide), o7 2 w j (by omega) j0 (by omega)]; exact m4 w j w0 w1 j0 j3
  · by_cases q : w = V 1 1
    · rw [q, c0]; exact (o6.2.2.2 rfl).symm
    · rw [c1 _ (by omega), o7 1 w 3 (by omega) (by decide) (by decide)]; exact m5 w w0 (by omega)
  · rw [e 163 (by decide), o1 0 (by decide) (by decide) (by decide)]; exact m6
  · rw [o3 2 (by decide)] at t1
    rw [e 169 (by decide), e 170 (by decide), o1 4 (by decide) (by decide) (by decide), o1 5 (by decide) (by decide) (by decide)]; exact m7 t t0 t1
  · rw [e 171 (by decide), e 172 (by decide), o1 0 (by decide) (by decide) (by decide)]; exact m8
  · rw [e 174 (by decide), h31]
    exact ⟨foM_fr (e 173 (by decide)) (e 174 (by decide)) (e 175 (by decide)) (e 176 (by decide)) (m9 w w0 w3).1, (m9 w w0 w3).2⟩
  · rw [h31, o1 0 (by decide) (by decide) (by decide)]; exact m10
theorem mM_one2 {V' I' J' : mI} {p a bb c e W : Int} (hM : mM b V F I J) (hw : WF V F) (h6 : V 1 2 < 6) (o : oneR V V' 2 p a bb c e) (hn : naR p W) (z1 : ∀ z, 161 ≤ z → z ≤ 176 → z ≠ 167 → z ≠ 168 → z ≠ 169 → z ≠ 170 → I' z = I z) (hcnt : I' 167 b = V 1 2 + 1) (s0 : I' 168 (18 * b + 3 * V 1 2 + 0) = a) (s1 : I' 168 (18 * b + 3 * V 1 2 + 1) = bb) (s2 : I' 168 (18 * b + 3 * V 1 2 + 2) = c) (s3 : ∀ j, j ≠ 18 * b + 3 * V 1 2 + 0 → j ≠ 18 * b + 3 * V 1 2 + 1 → j ≠ 18 * b + 3 * V 1 2 + 2 → I' 168 j = I 168 j) (c0 : I' 169 (6 * b + V 1 2) = 0) (c1 : ∀ j, j ≠ 6 * b + V 1 2 → I' 169 j = I 169 j) (d0 : I' 170 (6 * b + V 1 2) = -1) (d1 : ∀ j, j ≠ 6 * b + V 1 2 → I' 170 j = I 170 j) (h31 : I' 159 31 = I 159 31) (j1 : J' 177 (18 * b + 6 * 2 + V 1 2) = W) (j2 : ∀ j, j ≠ 18 * b + 6 * 2 + V 1 2 → J' 177 j = J 177 j) : mM b V' F I' J' := by
  obtain ⟨m1, m2, m3, m4, m5, m6, m7, m8, m9, m10, m11⟩ := hM
  have nam := iNam_one hw h6 (Or.inr (Or.inr rfl)) o hn m11 j1 j2
  obtain ⟨o1, o2, o3, o4, o5, o6, o7⟩ := o
  have ck := hw.1
  have w5 := hw.2.2.2.2.1
  have e : ∀ z, (161 ≤ z ∧ z ≤ 166) ∨ (171 ≤ z ∧ z ≤ 176) → I' z = I z := fun z a => z1 z (by omega) (by omega) (by omega) (by omega) (by omega) (by omega)
  refine ⟨⟨by rw [e 161 (by decide), o3 0 (by decide)]; exact m1.1, by rw [e 164 (by decide), o3 1 (by decide)]; exact m1.2.1, by rw [hcnt, o2]⟩, fun w j w0 w1 j0 j3 => ?_, fun w j w0 w1 j0 j3 => ?_, fun w j w0 w1 j0 j3 => ?_, fun w w0 w1 => ?_, ?_, fun t t0 t1 => ?_, ?_, fun w w0 w3 => ?_, ?_, nam⟩
  · rw [o3 0 (by decide)] at w1
    rw [e 162 (by decide), o7 0 w j (by omega) j0 (by omega)]; exact m2 w j w0 w1 j0 j3
  · rw [o3 1 (by decide)] at w1
    rw [e 165 (by decide), o7 1 w j (by omega) j0 (by omega)]; exact m3 w j w0 w1 j0 j3
  · by_cases q : w = V 1 2
    · rw [q]
      have : j = 0 ∨ j = 1 ∨ j = 2 := by omega
      rcases this with r | r | r <;> rw [r]
      · rw [s0]; exact o6.1.symm
      · rw [s1]; exact o6.2.1.symm
      · rw [s2]; exact o6.2.2.1.symm
    · rw [s3 _ (by omega) (by omega) (by omega), o7 2 w j (by omega) j0 (by omega)]
      exact m4 w j w0 (by omega) j0 j3
  · rw [o3 1 (by decide)] at w1
    rw [e 166 (by decide), o7 1 w 3 (by omega) (by decide) (by decide)]; exact m5 w w0 w1
  · rw [e 163 (by decide), o1 0 (by decide) (by decide) (by decide)]; exact m6
  · rw [o1 4 (by decide) (by decide) (by decide), o1 5 (by decide) (by decide) (by decide)]
    by_cases q : t = V 1 2
    · have x := w5 t t0 (by omega)
      have y := x.2.2 (by omega)
      rw [y.1, y.2, q]; exact ⟨c0, d0⟩
    · rw [c1 _ (by omega), d1 _ (by omega)]; exact m7 t t0 (by omega)
  · rw [e 171 (by decide), e 172 (by decide), o1 0 (by decide) (by decide) (by decide)]; exact m8
  · rw [e 174 (by decide), h31]
    exact ⟨foM_fr (e 173 (by decide)) (e 174 (by decide)) (e 175 (by decide)) (e 176 (by decide)) (m9 w w0 w3).1, (m9 w w0 w3).2⟩
  · rw [h31, o1 0 (by decide) (by decide) (by decide)]; exact m10
/-- a name and three numbers are kept -/
def shR (b kd cnt a bb c W : Int) (sz : Nat) (I I' J J' : mI) : Prop := mFm b I I' J J' ∧ (∀ z, 161 ≤ z → z ≤ 176 → z ≠ sz → I' z = I z) ∧ (I' sz (18 * b + 3 * cnt + 0) = a ∧ I' sz (18 * b + 3 * cnt + 1) = bb ∧ I' sz (18 * b + 3 * cnt + 2) = c) ∧ (∀ j, j ≠ 18 * b + 3 * cnt + 0 → j ≠ 18 * b + 3 * cnt + 1 → j ≠ 18 * b + 3 * cnt + 2 → I' sz j = I sz j) ∧ I' 159 31 = I 159 31 ∧ J' 177 (18 * b + 6 * kd + cnt) = W ∧ ∀ j, j ≠ 18 * b + 6 * kd + cnt → J' 177 j = J 177 j
theorem mS_row {I' J' : mI} {z0 : Nat} (hz0 : z0 ≠ 159 ∧ z0 ≠ 160) (h : mQ tb n m b i I J) (f : ∀ z, z ≠ z0 → I' z = I z) (hJ : J' 159 7 = J 159 7) : mQ tb n m b i I' J' := by
  have e := f 159 (fun q => hz0.1 q.symm)
  exact ⟨mS_f h.1 (f 160 (fun q => hz0.2 q.symm)) (fun j _ _ => by rw [e]) hJ, h.2.1, by rw [e]; exact h.2.2.1, by rw [e]; exact h.2.2.2⟩
theorem m_shapes {sz : Nat} {a bb c cnt W : Int} {kd : Int} {Q : mI → Prop} (hsz : (sz = 162 ∨ sz = 165 ∨ sz = 168)) (hb : b = 0 ∨ b = 1) (hcnt : 0 ≤ cnt ∧ cnt < 6) (kk : ∀ I', (∀ z, z ≠ sz → I' z = I z) → I' sz (18 * b + 3 * cnt + 0) = a → I' sz (18 * b + 3 * cnt + 1) = bb → I' sz (18 * b + 3 * cnt + 2) = c → (∀ j, j ≠ 18 * b + 3 * cnt + 0 → j ≠ 18 * b + 3 * cnt + 1 → j ≠ 18 * b + 3 * cnt + 2 → I' sz j = I sz j) → Q I') : p12_shapes sz (18 * b + 3 * cnt) a bb c I Q := by
  unfold p12_shapes
  refine ⟨by omega, m_putK (fun I1 q1 g1 f1 => ⟨by omega, by omega, m_putK (fun I2 q2 g2 f2 => ⟨by omega, by omega, m_putK (fun I3 q3 g3 f3 => kk I3 (fun z hz => by rw [f3 z hz, f2 z hz, f1 z hz]) ?_ ?_ q3 (fun j h0 h1 h2 => ?_))⟩)⟩)⟩
  · rw [show 18 * b + 3 * cnt + 0 = 18 * b + 3 * cnt by omega, g3 _ (by omega), g2 _ (by omega)]; exact q1
  · rw [g3 _ (by omega)]; exact q2
  · rw [g3 j h2, g2 j h1, g1 j (by omega)]
end
