/-! THE CALLS, one by one: land -/
theorem ldM_keep {I I' : mI} {bk : Int} {V : mI} {F : mF} (hv : ldOK V) (h13 : I' 159 13 = bk) (hf : ∀ z, 161 ≤ z → z ≤ 176 → ∀ j, (bsz z * bk ≤ j ∧ j < bsz z * bk + bsz z) → I' z j = I z j) (h : ldM I bk V F) : ldM I' bk V F := by
  obtain ⟨m1, m2, m3, m4, m5, m6, m7, m8, m9, m10, m11, m12, m13, m14⟩ := h
  have b3 := bsz_3
  obtain ⟨b162, b165, b168, b161, b164, b167, b166, b169, b170, b163, b171, b172, b173, b174, b175, b176⟩ := b3
  have ck := hv.1
  have k1 : ∀ z, 161 ≤ z → z ≤ 176 → bsz z = 1 → I' z bk = I z bk := fun z a c e => hf z a c bk (by rw [e]; omega)
  have k18 : ∀ z w j, 161 ≤ z → z ≤ 176 → bsz z = 18 → 0 ≤ w → w < 6 → 0 ≤ j → j < 3 → I' z (18 * bk + 3 * w + j) = I z (18 * bk + 3 * w + j) := fun z w j a c e w0 w6 j0 j3 => hf z a c _ (by rw [e]; omega)
  have k6 : ∀ z w, 161 ≤ z → z ≤ 176 → bsz z = 6 → 0 ≤ w → w < 6 → I' z (6 * bk + w) = I z (6 * bk + w) := fun z w a c e w0 w6 => hf z a c _ (by rw [e]; omega)
  have k3 : ∀ z w, 161 ≤ z → z ≤ 176 → bsz z = 3 → 0 ≤ w → w < 3 → I' z (3 * bk + w) = I z (3 * bk + w) := fun z w a c e w0 w6 => hf z a c _ (by rw [e]; omega)
  refine ⟨h13, m2, by rw [k1 161 (by decide) (by decide) b161]; exact m3, by rw [k1 164 (by decide) (by decide) b164]; exact m4, by rw [k1 167 (by decide) (by decide) b167]; exact m5, fun w j a c d e => ?_, fun w j a c d e => ?_, fun w j a c d e => ?_, fun w a c => ?_, by rw [k1 163 (by decide) (by decide) b163]; exact m10, fun t a c => ?_, by rw [k1 171 (by decide) (by decide) b171]; exact m12, by rw [k1 172 (by decide) (by decide) b172]; exact m13, fun w a c => ?_⟩
  · rw [k18 162 w j (by decide) (by decide) b162 a (by omega) d e]; exact m6 w j a c d e
  · rw [k18 165 w j (by decide) (by decide) b165 a (by omega) d e]; exact m7 w j a c d e
  · rw [k18 168 w j (by decide) (by decide) b168 a (by omega) d e]; exact m8 w j a c d e
  · rw [k6 166 w (by decide) (by decide) b166 a (by omega)]; exact m9 w a c
  · rw [k6 169 t (by decide) (by decide) b169 a (by omega), k6 170 t (by decide) (by decide) b170 a (by omega)]; exact m11 t a c
  · have x := m14 w a c
    unfold foM at x ⊢
    rw [k3 173 w (by decide) (by decide) b173 a c, k3 174 w (by decide) (by decide) b174 a c]
    rcases x with r | ⟨r1, r2, r3, r4, r5⟩
    · exact Or.inl r
    · refine Or.inr ⟨r1, r2, r3, r4, segM_lo (fun z z0 z1 => ⟨hf 175 (by decide) (by decide) z (by rw [b175]; omega), hf 176 (by decide) (by decide) z (by rw [b176]; omega)⟩) r5⟩
def S00 (V : mI) : mI := fun z j => if z = 0 then (if j = 1 then V 0 10 else 0) else if z = 1 then j else if z = 2 then 5 else if z = 3 then V 5 j else 0
theorem la_2 {L t : Nat} {X : Int → Int} {i : Int} {I J : mI} {R : mR} {K : mI → mI → mR → Prop} (H : LaH L t X i I J R K) : plaw_2 L X i I J R K := by
  obtain ⟨hL, hX, h0, h1, ht, ⟨h, sp, bk, V, F, S, P, hl, hs, hr⟩, hk⟩ := H
  have hl' := hl
  have hs' := hs
  obtain ⟨r1, r2, r3, r4, r5, r6, r7⟩ := hr
  obtain ⟨⟨a1, a2, a3⟩, l2, l3, l4, l5, l6, l7, l8, l9⟩ := hl
  have hsp : isLd sp := by unfold isLd; omega
  have hh : isLd h := by unfold isLd; omega
  have hhs : (h = 123 ∧ sp = 132) ∨ (h = 132 ∧ sp = 123) := a3
  have r1' := r1
  obtain ⟨t1, t2, t3, t4⟩ := r1'
  have tp : tpC I (I 2 1) (I 160) := ⟨rfl, ⟨t2, t3⟩, t4⟩
  have l5' := l5
  obtain ⟨m13, b01, -⟩ := l5'
  have nb : 1 - bk = 0 ∨ 1 - bk = 1 := by omega
  have rf : ∀ k, 0 ≤ k → k < 6 → I 122 k = I 184 k ∧ 0 ≤ I 122 k ∧ I 122 k ≤ t := r2
  unfold plaw_2 p11_land
  rw [a2]
  refine ⟨hsp, c_read tp hsp (fun m V0 hc w0 v0 => ?_)⟩
  have eR1 : (up R 141 2 sp) 1 = R 1 := up_fr 1 (by decide)
  -- the model, over whatever the class has left
  have mod : ∀ (I7 : mI) (Qm : Int → mI → mI → Prop), (∀ z, 159 ≤ z → I7 z = I z) →
      (∀ (I' J' : mI) (c' : Nat) (V' : mI) (F' : mF), gRd (kN1 (I 160) (I 2 1)) (vN1 (I 160) (I 2 1)) (lN1 (I 160) (I 2 1)) 62 0 V0 (fun _ => []) 0 = Sum.inr (c', V', F') → WF V' F' → mFl (1 - bk) I7 I' J J' → I' 159 8 = 0 → I' 159 9 = -1 → I' 159 32 = 1 - bk → mM (1 - bk) V' F' I' J' → p12_land_b170 c' I' J' Qm) →
      (∀ (I' J' : mI) (r k pl : Int), gRd (kN1 (I 160) (I 2 1)) (vN1 (I 160) (I 2 1)) (lN1 (I 160) (I 2 1)) 62 0 V0 (fun _ => []) 0 = Sum.inl (k, pl) → mFl (1 - bk) I7 I' J J' → (I' 159 8 = k ∧ 0 < k) → I' 159 9 = pl → p12_land_b170 r I' J' Qm) → p12_land I7 J Qm := fun I7 Qm hz k1 k0 =>
    m_land hc ⟨t2, t3⟩ (by rw [hz 159 (by decide)]; exact t1) (fun j j0 j1 => by rw [hz 160 (by decide)]; exact ⟨rfl, (t4 j j0 j1).2⟩) (by rw [hz 159 (by decide)]; exact m13) b01 w0 v0 k1 k0
  -- a bank is kept
  have keep : ∀ {I7 I' : mI}, (∀ z, 159 ≤ z → I7 z = I z) → (∀ z, 161 ≤ z → z ≤ 176 → ∀ j, ¬ (bsz z * (1 - bk) ≤ j ∧ j < bsz z * (1 - bk) + bsz z) → I' z j = I7 z j) → ∀ z, 161 ≤ z → z ≤ 176 → ∀ j, (bsz z * bk ≤ j ∧ j < bsz z * bk + bsz z) → I' z j = I z j := fun hz hf z a c j hj => by
    have x := hf z a c j (fun q => by
      rcases b01 with e | e
      · rw [e] at q hj; omega
      · rw [e] at q hj; omega)
    rw [x, hz z (by omega)]
  refine ⟨fun I1 c V' F' e w' rw' sg e6 e7 xf => ?_, fun I1 r k pl e e6 kne e7 xf => ?_⟩
  · -- no fault
    refine m_putK (fun I2 q2 g2 f2 => m_putK (fun I3 q3 g3 f3 => m_putK (fun I4 q4 g4 f4 => ?_)))
    have e14 : I4 1 14 = 0 := by rw [g4 14 (by decide), q3, f2 141 (by decide)]; exact e6
    have e15 : I4 1 15 = -1 := by rw [q4, f3 141 (by decide), f2 141 (by decide)]; exact e7
    have er : (up R 141 2 sp) 1 12 = h ∧ (up R 141 2 sp) 1 13 = sp := by rw [eR1]; exact ⟨a1, a2⟩
    rw [er.1, er.2]
    have e312 : up (up (up R 141 2 sp) 1 13 h) 1 12 sp 1 12 = sp := up_s _ _ _ _
    have e313 : up (up (up R 141 2 sp) 1 13 h) 1 12 sp 1 13 = h := by rw [up_k _ _ _ (by decide), up_s]
    refine zt e14 ⟨hsp, hh, wLet_r (wLet_r ⟨by rw [e312]; exact hsp, ?_⟩)⟩
    rw [e312]
    generalize up (up (up R 141 2 sp) 1 13 h) 1 12 sp = R3 at e312 e313 ⊢
    have z4 : ∀ z, z ≠ 1 → z ≠ 2 → I4 z = I1 z := fun z a c => by rw [f4 z a, f3 z a, f2 z c]
    refine c_beg hsp (fun I5 z5 p0 p1 p2 p3 => m_putK (fun I6 q6 g6 f6 => m_putK (fun I7 q7 g7 f7 => ?_)))
    have z7 : ∀ z, z ≠ 1 → z ≠ 2 → ¬ (7 ≤ z ∧ z ≤ 10) → z ≠ 17 → z ≠ 151 → I7 z = I1 z := fun z a c d e g => by rw [f7 z g, f6 z e, z5 z d, z4 z a c]
    have z7' : ∀ z, z ≠ 1 → z ≠ 2 → ¬ (7 ≤ z ∧ z ≤ 10) → z ≠ 17 → z ≠ 151 → ¬ (141 ≤ z ∧ z ≤ 145) → ¬ (sp ≤ z ∧ z ≤ sp + 8) → I7 z = I z := fun z a c d e g k l => (z7 z a c d e g).trans (xf z k l)
    have hi : ∀ z, 159 ≤ z → I7 z = I z := fun z a => z7' z (by omega) (by omega) (by omega) (by omega) (by omega) (by omega) (by omega)
    refine mod I7 _ hi (fun I8 J8 c2 V2 F2 eg wv fl e8 e9 e32 hM => ?_) (fun I8 J8 r k pl eg _ _ _ => ?_)
    rotate_left
    · rw [e] at eg; cases eg
    rw [e] at eg
    have ec := Sum.inr.inj eg
    have c1 := (Prod.mk.inj ec).1
    have c2' := (Prod.mk.inj (Prod.mk.inj ec).2).1
    have c3 := (Prod.mk.inj (Prod.mk.inj ec).2).2
    subst c1; subst c2'; subst c3
    obtain ⟨x1, x2, x3, x4, x5, x6, x7⟩ := fl
    unfold p12_land_b170
    refine m_putK (fun I9 q9 g9 f9 => m_putK (fun I10 q10 g10 f10 => zt ?_ (m_putK (fun I11 q11 g11 f11 => ?_))))
    · rw [g10 8 (by decide), g9 8 (by decide), e8]; decide
    have y13 : I11 159 13 = 1 - bk := by rw [q11, g10 32 (by decide), g9 32 (by decide)]; exact e32
    have zz : ∀ z, z ≠ 159 → I11 z = I8 z := fun z a => by rw [f11 z a, f10 z a, f9 z a]
    refine m_beg y13 nb (fun I12 z12 j12 s53 s62 s185 s186 s190 s6 s192 => zt rfl (hk I12 J8 R3 ?_))
    have jj : ∀ j, j ≠ 10 → j ≠ 11 → j ≠ 13 → j ≠ 53 → j ≠ 62 → I12 159 j = I8 159 j := fun j a c d e g => by rw [j12 j e g, g11 j d, g10 j c, g9 j a]
    have y10 : I12 159 10 = 0 := by rw [j12 10 (by decide) (by decide), g11 10 (by decide), g10 10 (by decide), q9]; exact e8
    have y11 : I12 159 11 = -1 := by rw [j12 11 (by decide) (by decide), g11 11 (by decide), q10, g9 9 (by decide)]; exact e9
    have w13 : I12 159 13 = 1 - bk := by rw [j12 13 (by decide) (by decide)]; exact y13
    have lo : ∀ z, z ≤ 158 → I12 z = I7 z := fun z a => by rw [z12 z (by omega) (by omega) (by omega), zz z (by omega), x1 z (by omega) (by omega) (by omega)]
    have up8 : ∀ z, 161 ≤ z ∧ z ≤ 176 → I12 z = I8 z := fun z a => by rw [z12 z (by omega) (by omega) (by omega), zz z (by omega)]
    have hi12 : ∀ z, 177 ≤ z → ¬ (178 ≤ z ∧ z ≤ 183) → ¬ (185 ≤ z ∧ z ≤ 190) → z ≠ 192 → I12 z = I z := fun z a c d e => by rw [z12 z (by omega) d e, zz z (by omega), x1 z (by omega) (by omega) c, hi z (by omega)]
    have hM12 : mM (1 - bk) V' F' I12 J8 := mM_f hM (fun z a c => up8 z ⟨a, c⟩) (jj 31 (by decide) (by decide) (by decide) (by decide) (by decide)) rfl
    have w08 : V' 0 8 ≤ (m : Int) := gRd_ok (tkM_of hc) (fun j hj e => (tk_1 (tb := I 160) (n := I 2 1) (p := pN (I 160) (I 2 1) j) (by have := pN_i hc ⟨t2, t3⟩ hj; omega) t3 e).1) 62 0 V0 (fun _ => []) 0 c V' F' e (Nat.zero_le m) w0 (Int.le_of_eq v0.2.1)
    have hm := hc.1
    -- the land as the class's memory holds it
    generalize hVf : (fun a => if a = 6 then I1 (sp + 6) else V' a : mI) = Vf
    have hv : ∀ a, a ≠ 6 → Vf a = V' a := fun a q => by rw [← hVf]; exact if_neg q
    have hv6 : Vf 6 = I1 (sp + 6) := by rw [← hVf]; exact if_pos rfl
    have row : ∀ a, a ≤ 8 → I12 (sp + a) = Vf a := fun a ha => by
      rw [lo (sp + a) (by omega), z7 (sp + a) (by omega) (by omega) (by omega) (by omega) (by omega)]
      by_cases q : a = 6
      · rw [q, hv6]
      · rw [hv a q]; exact rw' a ha q
    have w'' := w'
    obtain ⟨u1, u2, u3, u4, u5, u6, u7, u8⟩ := w''
    obtain ⟨v1, v2, v3, v4, v5, v6, v7, v8, v9, v10, v11⟩ := hM12
    have trf : ∀ kd w j, tr Vf kd w j = tr V' kd w j := fun kd w j => by unfold tr; rw [hv 3 (by decide)]
    have ok : ldOK Vf := by
      unfold ldOK
      rw [hv 0 (by decide), hv 1 (by decide), hv 4 (by decide), hv 5 (by decide)]
      exact ⟨u1, fun kd w j a c d e g k => by rw [trf]; exact u2 kd w j a c d e g k, fun w a c => by rw [trf]; exact u3 w a c, u4.1, u4.2.1, u4.2.2, fun t a c => (u5 t a (by omega)).1, fun t a c => (u5 t a c).2.1⟩
    have fok : foOK Vf F' := fun w a c => by
      have x := u8.2 w a c
      refine ⟨?_, x.2.2⟩
      unfold foC
      rw [hv 8 (by decide), hv 7 (by decide)]
      by_cases q : F' w = []
      · have y := x.1 q
        exact Or.inl ⟨q, by omega⟩
      · have y := x.2.1 q
        have ln : (F' w).length ≠ 0 := fun z => q (List.length_eq_zero_iff.mp z)
        exact Or.inr ⟨q, by omega, segC_fr hv6 (sg w a c q), y.1, y.2.1, by omega⟩
    have lan : iLan I12 J8 R3 sp h (1 - bk) Vf F' := by
      refine ⟨⟨e312, e313, by omega⟩, ⟨row 0 (by decide), row 1 (by decide), row 2 (by decide), row 3 (by decide), row 4 (by decide), row 5 (by decide), row 6 (by decide), row 7 (by decide), row 8 (by decide)⟩, ok, fok, ?_, ?_, ?_, ?_, ?_⟩
      · refine ⟨w13, nb, by rw [hv 1 (by decide)]; exact v1.1, by rw [hv 1 (by decide)]; exact v1.2.1, by rw [hv 1 (by decide)]; exact v1.2.2, fun w j a c d e => ?_, fun w j a c d e => ?_, fun w j a c d e => ?_, fun w a c => ?_, by rw [hv 0 (by decide)]; exact v6, fun t a c => ?_, by rw [hv 0 (by decide)]; exact v8.1, by rw [hv 0 (by decide)]; exact v8.2, fun w a c => (v9 w a c).1⟩
        · rw [hv 1 (by decide)] at c; rw [trf]; exact v2 w j a c d e
        · rw [hv 1 (by decide)] at c; rw [trf]; exact v3 w j a c d e
        · rw [hv 1 (by decide)] at c; rw [trf]; exact v4 w j a c d e
        · rw [hv 1 (by decide)] at c; rw [trf]; exact v5 w a c
        · rw [hv 1 (by decide)] at c; rw [hv 4 (by decide), hv 5 (by decide)]; exact v7 t a c
      · unfold nrOK
        rw [hv 1 (by decide), hv 4 (by decide)]; exact u7
      · unfold iNam
        rw [hv 1 (by decide), hv 2 (by decide)]; exact v11
      · intro x a c
        have c' : x < V' 1 0 := by rw [hv 1 (by decide)] at c; exact c
        have tw : tw0 Vf x = tr V' 0 x 0 := by
          unfold tw0
          rw [if_pos ⟨a, c⟩, trf]
        have z162 : ∀ j, 0 ≤ j → j < 3 → I12 192 (3 * x + j) = tr V' 0 x j := fun j j0 j3 => by
          rw [s192 (3 * x + j) (by omega) (by omega), zz 162 (by decide), ← up8 162 (by decide), show 18 * (1 - bk) + (3 * x + j) = 18 * (1 - bk) + 3 * x + j by omega]
          exact v2 x j a c' j0 j3
        rw [tw, trf, trf]
        exact ⟨z162 0 (by decide) (by decide), z162 1 (by decide) (by decide), z162 2 (by decide) (by decide)⟩
      · rw [lo 146 (by decide), z7' 146 (by decide) (by decide) (by decide) (by decide) (by decide) (by decide) (by omega)]; exact l9
    have sta : iSta I12 Vf (S00 Vf) := by
      have e7 : I12 7 = I5 7 := by rw [lo 7 (by decide), f7 7 (by decide), f6 7 (by decide)]
      have e8' : ∀ z, 8 ≤ z ∧ z ≤ 10 → I12 z = I5 z := fun z a => by rw [lo z (by omega), f7 z (by omega), f6 z (by omega)]
      have sp5 : ∀ k : Int, I4 (sp + 5) k = V' 5 k := fun k => by
        rw [z4 (sp + 5) (by omega) (by omega), rw' 5 (by decide) (by decide)]
      have sp10 : I4 sp 10 = V' 0 10 := by
        rw [z4 sp (by omega) (by omega)]
        exact congrFun (rw' 0 (by decide) (by decide)) 10
      refine ⟨⟨?_, ?_, ?_, fun k a c => ?_, fun k a c => ?_⟩, ⟨?_, ?_, ?_, fun k a c => ?_, fun k a c => ?_⟩, ⟨by show (0 : Int) ≤ 0 ∧ (0 : Int) ≤ 999; decide, ?_, by show (0 : Int) ≤ 0 ∧ (0 : Int) ≤ 40; decide, fun k a c => ⟨a, c⟩, fun k l _ _ _ _ e => e, fun k _ _ => by show (0 : Int) ≤ 5 ∧ (5 : Int) ≤ 9; decide, fun k a c => ?_⟩⟩
      · rw [e7]; exact p0
      · rw [e7, p1, sp10]
        show V' 0 10 = Vf 0 10
        rw [hv 0 (by decide)]
      · rw [e7]; exact p2
      · have y := p3 k a c
        rw [e8' 8 (by decide), e8' 9 (by decide), e8' 10 (by decide), y.1, y.2.1, y.2.2, sp5 k]
        refine ⟨rfl, rfl, ?_⟩
        show V' 5 k = Vf 5 k
        rw [hv 5 (by decide)]
      · have c' : k < 3 * (0 : Int) := c
        omega
      · exact s185
      · show I12 186 0 = Vf 0 10
        rw [s186, zz 171 (by decide), ← up8 171 (by decide), v8.1, hv 0 (by decide)]
      · exact s190
      · have y := s6 k a c.1
        show I12 187 (6 * 0 + k) = k ∧ I12 188 (6 * 0 + k) = 5 ∧ I12 189 (6 * 0 + k) = Vf 5 k
        rw [show (6 : Int) * 0 + k = k by omega, y.1, y.2.1, y.2.2, hv 5 (by decide), zz 167 (by decide), ← up8 167 (by decide), zz 170 (by decide), ← up8 170 (by decide), v1.2.2]
        refine ⟨rfl, rfl, ?_⟩
        by_cases q : V' 1 2 ≤ k
        · rw [if_pos q, ((u5 k a c.1).2.2 q).2]
        · rw [if_neg q]; exact (v7 k a (by omega)).2
      · have c' : k < 3 * (0 : Int) := c
        omega
      · show 0 ≤ Vf 0 10 ∧ Vf 0 10 ≤ 9999
        rw [hv 0 (by decide)]
        have := u4.2.1
        omega
      · show -1 ≤ Vf 5 k ∧ Vf 5 k < Vf 1 1
        rw [hv 5 (by decide), hv 1 (by decide)]
        exact (u5 k a c).2.1
    have j89 : J8 159 54 = J 159 54 := x5 54 (by decide)
    have m159 : ∀ j, mKl j → j ≠ 10 → j ≠ 11 → j ≠ 13 → j ≠ 53 → j ≠ 62 → I12 159 j = I 159 j := fun j a c d e g k => by rw [jj j c d e g k, x2 j a, hi 159 (by decide)]
    have k1 : ∀ j, j ≠ 14 → j ≠ 15 → I12 1 j = I 1 j := fun j a c => by
      rw [lo 1 (by decide), f7 1 (by decide), f6 1 (by decide), z5 1 (by decide), g4 j c, g3 j a, f2 1 (by decide), xf 1 (by decide) (by omega)]
    have k17 : ∀ j, j ≠ 2 → I12 17 j = I 17 j := fun j a => by
      rw [lo 17 (by decide), f7 17 (by decide), g6 j a, z5 17 (by decide), z4 17 (by decide) (by decide), xf 17 (by decide) (by omega)]
    have e21 : I12 2 1 = 0 := by
      rw [lo 2 (by decide), f7 2 (by decide), f6 2 (by decide), z5 2 (by decide), f4 2 (by decide), f3 2 (by decide)]; exact q2
    have e1591 : I12 159 1 = 0 := (jj 1 (by decide) (by decide) (by decide) (by decide) (by decide)).trans x7
    have k114 : I12 1 14 = 0 := by
      rw [lo 1 (by decide), f7 1 (by decide), f6 1 (by decide), z5 1 (by decide)]; exact e14
    have k115 : I12 1 15 = -1 := by
      rw [lo 1 (by decide), f7 1 (by decide), f6 1 (by decide), z5 1 (by decide)]; exact e15
    have k172 : I12 17 2 = 0 := by
      rw [lo 17 (by decide), f7 17 (by decide)]; exact q6
    have k1515 : I12 151 5 = 0 := by
      rw [lo 151 (by decide)]; exact q7
    have kz : ∀ z, z ≤ 158 → z ≠ 1 → z ≠ 2 → ¬ (7 ≤ z ∧ z ≤ 10) → z ≠ 17 → z ≠ 151 → ¬ (141 ≤ z ∧ z ≤ 145) → ¬ (sp ≤ z ∧ z ≤ sp + 8) → I12 z = I z := fun z a c d e g k l u => by rw [lo z a, z7' z c d e g k l u]
    refine ⟨sp, h, 1 - bk, Vf, F', S00 Vf, P, lan, sta, ?_, ?_, ?_, ?_, ?_, ?_, ?_⟩
    · refine ⟨by rw [e1591, e21], by rw [e21]; decide, by rw [e21]; decide, fun k a c => ?_⟩
      rw [e21] at c; omega
    · intro k a c
      have y := rf k a c
      rw [kz 122 (by decide) (by decide) (by decide) (by decide) (by decide) (by decide) (by decide) (by omega), hi12 184 (by decide) (by decide) (by decide) (by decide)]
      omega
    · exact ⟨by rw [k114, y10], by rw [k115, y11]⟩
    · unfold iDie
      rw [k1 16 (by decide) (by decide), j89]; exact r4
    · obtain ⟨c0, c1, c2, c3, c4⟩ := r5
      refine ⟨by rw [k17 1 (by decide)]; exact c0, by rw [k172, s53], by rw [k172]; decide, by rw [m159 52 (by omega) (by decide) (by decide) (by decide) (by decide) (by decide)]; exact c3, fun j a c => ?_⟩
      rw [k172] at c; omega
    · obtain ⟨c0, c1, c2, c3⟩ := r6
      unfold iPic
      rw [kz 119 (by decide) (by decide) (by decide) (by decide) (by decide) (by decide) (by decide) (by omega), kz 120 (by decide) (by decide) (by decide) (by decide) (by decide) (by decide) (by decide) (by omega), m159 68 (by omega) (by decide) (by decide) (by decide) (by decide) (by decide), hi12 203 (by decide) (by decide) (by decide) (by decide)]
      exact ⟨c0, c1, c2, c3⟩
    · refine ⟨by rw [k1515, s62], by rw [k1515]; decide, by rw [k1515]; decide, fun j a c => ?_⟩
      rw [k1515] at c; omega
  · -- a fault
    refine m_putK (fun I2 q2 g2 f2 => m_putK (fun I3 q3 g3 f3 => m_putK (fun I4 q4 g4 f4 => ?_)))
    have e14 : I4 1 14 = k := by rw [g4 14 (by decide), q3, f2 141 (by decide)]; exact e6
    have e15 : I4 1 15 = pl := by rw [q4, f3 141 (by decide), f2 141 (by decide)]; exact e7
    have z4 : ∀ z, z ≠ 1 → z ≠ 2 → ¬ (141 ≤ z ∧ z ≤ 145) → ¬ (sp ≤ z ∧ z ≤ sp + 8) → I4 z = I z := fun z a c d e => by rw [f4 z a, f3 z a, f2 z c, xf z d e]
    have r122 : I4 122 = I 122 := z4 122 (by decide) (by decide) (by decide) (by omega)
    have rf1 := rf 1 (by decide) (by decide)
    refine zf (by rw [e14]; exact kne) (c_refuse (by decide) (by decide) (by rw [r122]; omega) (fun I5 p0 p1 p2 => ?_))
    have z5 : ∀ z, z ≠ 1 → z ≠ 2 → z ≠ 122 → ¬ (141 ≤ z ∧ z ≤ 145) → ¬ (sp ≤ z ∧ z ≤ sp + 8) → I5 z = I z := fun z a c d e g => by rw [p2 z d, z4 z a c e g]
    have hi : ∀ z, 159 ≤ z → I5 z = I z := fun z a => z5 z (by omega) (by omega) (by omega) (by omega) (by omega)
    refine mod I5 _ hi (fun I8 J8 c2 V2 F2 eg _ _ _ _ _ _ => ?_) (fun I8 J8 r' k2 pl2 eg fl e8 e9 => ?_)
    · rw [e] at eg; cases eg
    rw [e] at eg
    have ec := Sum.inl.inj eg
    have ek := (Prod.mk.inj ec).1
    have ep := (Prod.mk.inj ec).2
    subst ek; subst ep
    obtain ⟨x1, x2, x3, x4, x5, x6, x7⟩ := fl
    unfold p12_land_b170
    have i184 : I8 184 = I 184 := by rw [x1 184 (by decide) (by decide) (by decide), hi 184 (by decide)]
    refine m_putK (fun I9 q9 g9 f9 => m_putK (fun I10 q10 g10 f10 => zf ?_ (m_refuse (by decide) (by decide) ?_ (fun I11 y0 y1 y2 => zt rfl (hk I11 J8 _ ?_)))))
    · rw [g10 8 (by decide), g9 8 (by decide)]; omega
    · rw [f10 184 (by decide), f9 184 (by decide), i184]; omega
    have zz : ∀ z, z ≠ 159 → z ≠ 184 → I11 z = I8 z := fun z a c => by rw [y2 z c, f10 z a, f9 z a]
    have jj : ∀ j, j ≠ 10 → j ≠ 11 → I11 159 j = I8 159 j := fun j a c => by rw [y2 159 (by decide), g10 j c, g9 j a]
    have y10 : I11 159 10 = k := by rw [y2 159 (by decide), g10 10 (by decide), q9]; exact e8.1
    have y11 : I11 159 11 = pl := by rw [y2 159 (by decide), q10, g9 9 (by decide)]; exact e9
    have lo : ∀ z, z ≤ 158 → I11 z = I5 z := fun z a => by rw [zz z (by omega) (by omega), x1 z (by omega) (by omega) (by omega)]
    have kz : ∀ z, z ≤ 158 → z ≠ 1 → z ≠ 2 → z ≠ 122 → ¬ (141 ≤ z ∧ z ≤ 145) → ¬ (sp ≤ z ∧ z ≤ sp + 8) → I11 z = I z := fun z a c d e g k => by rw [lo z a, z5 z c d e g k]
    have hi11 : ∀ z, 177 ≤ z → ¬ (178 ≤ z ∧ z ≤ 183) → z ≠ 184 → I11 z = I z := fun z a c d => by rw [zz z (by omega) d, x1 z (by omega) (by omega) c, hi z (by omega)]
    have m159 : ∀ j, mKl j → j ≠ 10 → j ≠ 11 → I11 159 j = I 159 j := fun j a c d => by rw [jj j c d, x2 j a, hi 159 (by decide)]
    have e21 : I11 2 1 = 0 := by
      rw [lo 2 (by decide), p2 2 (by decide), f4 2 (by decide), f3 2 (by decide)]; exact q2
    have e1591 : I11 159 1 = 0 := (jj 1 (by decide) (by decide)).trans x7
    have k1 : ∀ j, j ≠ 14 → j ≠ 15 → I11 1 j = I 1 j := fun j a c => by
      rw [lo 1 (by decide), p2 1 (by decide), g4 j c, g3 j a, f2 1 (by decide), xf 1 (by decide) (by omega)]
    have k114 : I11 1 14 = k := by rw [lo 1 (by decide), p2 1 (by decide)]; exact e14
    have k115 : I11 1 15 = pl := by rw [lo 1 (by decide), p2 1 (by decide)]; exact e15
    have row : ∀ a, a ≤ 8 → I11 (h + a) = I (h + a) := fun a ha => kz (h + a) (by omega) (by omega) (by omega) (by omega) (by omega) (by omega)
    have kk : ∀ z, 161 ≤ z → z ≤ 176 → ∀ j, (bsz z * bk ≤ j ∧ j < bsz z * bk + bsz z) → I11 z j = I z j := fun z a c j hj => by
      rw [zz z (by omega) (by omega)]
      exact keep hi (fun z a c j d => x3 z a c j d) z a c j hj
    have lan : iLan I11 J8 (up R 141 2 sp) h sp bk V F := by
      obtain ⟨d0, d1, d2, d3, d4, d5, d6, d7, d8⟩ := l2
      refine ⟨⟨by rw [eR1]; exact a1, by rw [eR1]; exact a2, a3⟩, ⟨(row 0 (by decide)).trans d0, (row 1 (by decide)).trans d1, (row 2 (by decide)).trans d2, (row 3 (by decide)).trans d3, (row 4 (by decide)).trans d4, (row 5 (by decide)).trans d5, (row 6 (by decide)).trans d6, (row 7 (by decide)).trans d7, (row 8 (by decide)).trans d8⟩, l3, l4, ldM_keep l3 (by rw [m159 13 (by omega) (by decide) (by decide)]; exact m13) kk l5, l6, ?_, ?_, ?_⟩
      · intro kd w a c d e
        have ck := l3.1
        have c6 : V 1 kd ≤ 6 := by
          have : kd = 0 ∨ kd = 1 ∨ kd = 2 := by omega
          rcases this with z | z | z <;> rw [z] <;> omega
        rw [x6 _ (by omega)]
        exact l7 kd w a c d e
      · unfold twM
        rw [hi11 192 (by decide) (by decide) (by decide)]; exact l8
      · rw [kz 146 (by decide) (by decide) (by decide) (by decide) (by decide) (by omega)]; exact l9
    refine ⟨h, sp, bk, V, F, S, P, lan, fr_sta hs' (fun z a c => kz z (by omega) (by omega) (by omega) (by omega) (by omega) (by omega)) (fun z a c => hi11 z (by omega) (by omega) (by omega)), ?_, ?_, ?_, ?_, ?_, ?_, ?_⟩
    · refine ⟨by rw [e1591, e21], by rw [e21]; decide, by rw [e21]; decide, fun k a c => ?_⟩
      rw [e21] at c; omega
    · intro k a c
      have y := rf k a c
      have e122 : I11 122 = I5 122 := lo 122 (by decide)
      have e184 : ∀ k, I10 184 k = I 184 k := fun k => by rw [f10 184 (by decide), f9 184 (by decide), i184]
      rw [e122]
      by_cases q : k = 1
      · rw [q, p0, y0, r122, e184]
        rw [q] at y; omega
      · rw [p1 k q, y1 k q, r122, e184]; omega
    · exact ⟨by rw [k114, y10], by rw [k115, y11]⟩
    · exact fr_die r4 (k1 16 (by decide) (by decide)) (x5 54 (by decide))
    · exact fr_pas r5 (fun z a c => kz z (by omega) (by omega) (by omega) (by omega) (by omega) (by omega)) (m159 52 (by omega) (by decide) (by decide)) (m159 53 (by omega) (by decide) (by decide)) (fun w S' _ _ hst => stM_fr (fun z a c => hi11 z (by omega) (by omega) (by omega)) hst)
    · exact fr_pic r6 (by rw [kz 119 (by decide) (by decide) (by decide) (by decide) (by decide) (by omega)]) (kz 120 (by decide) (by decide) (by decide) (by decide) (by decide) (by omega)) (m159 68 (by omega) (by decide) (by decide)) (hi11 203 (by decide) (by decide) (by decide))
    · exact fr_met r7 (by rw [kz 151 (by decide) (by decide) (by decide) (by decide) (by decide) (by omega)]) (kz 157 (by decide) (by decide) (by decide) (by decide) (by decide) (by omega)) (m159 62 (by omega) (by decide) (by decide)) (fun z a c => hi11 z (by omega) (by omega) (by omega))
