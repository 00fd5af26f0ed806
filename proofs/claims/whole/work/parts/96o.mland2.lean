/-! THE READERS: the model reads a land -/
section
variable {tb : Int → Int} {n : Int} {m : Nat} {b : Int} {i : Nat} {I J : mI}
theorem mFm_r (b : Int) (I J : mI) : mFm b I I J J := ⟨fun _ _ _ _ => rfl, fun _ _ => rfl, fun _ _ _ _ _ => rfl, fun _ _ _ => rfl, fun _ _ => rfl, fun _ _ => rfl, fun e => ⟨e, rfl⟩⟩
theorem m_s0 (h : mS tb n i I J) : I 159 3 = 0 ↔ kN1 tb n i = 0 := by
  unfold kN1
  rcases h.2.2 with ⟨a, c, _⟩ | ⟨a, c, -⟩ | ⟨a, c, -⟩ | ⟨a, c, -⟩ | ⟨a, c, -⟩
  · exact ⟨fun _ => a, fun _ => c⟩
  · exact ⟨fun _ => by omega, fun _ => by omega⟩
  · exact ⟨fun _ => by omega, fun _ => by omega⟩
  · exact ⟨fun _ => by omega, fun _ => by omega⟩
  · exact ⟨fun q => absurd q c, fun _ => by omega⟩
theorem m_landGo {Q : Int → mI → mI → Prop} (hc : ctD tb n m) :
    ∀ (f c : Nat) (V : mI) (F : mF) (i : Nat) (I J : mI), f + c = 62 → c ≤ 60 → (c = 60 → kN1 tb n i = 0) → WF V F → V 0 8 ≤ (i : Int) → mQ tb n m b i I J → mM b V F I J →
      (∀ (I' J' : mI) (c' : Nat) (V' : mI) (F' : mF), gRd (kN1 tb n) (vN1 tb n) (lN1 tb n) f c V F i = Sum.inr (c', V', F') → WF V' F' → mFm b I I' J J' → I' 159 8 = 0 → I' 159 32 = b → mM b V' F' I' J' → p12_land_b170 c' I' J' Q) →
      (∀ (I' J' : mI) (r k pl : Int), gRd (kN1 tb n) (vN1 tb n) (lN1 tb n) f c V F i = Sum.inl (k, pl) → mBl b I I' J J' k pl → p12_land_b170 r I' J' Q) → p12_land_b141 Q f c I J
  | 0, c, V, F, i, I, J, hfc, hc60, _, _, _, _, _, _, _ => by omega
  | f + 1, c, V, F, i, I, J, hfc, hc60, hend, hw, h8, hq, hM, k1, k0 => by
    have hn := hq.1.1.2.1
    have him := hq.2.1
    have hT := tkM_of hc
    show p12_land_b141_body Q (p12_land_b141 Q f) c I J
    unfold p12_land_b141_body
    have dead : ∀ (I' J' : mI) (k pl : Int), gRd (kN1 tb n) (vN1 tb n) (lN1 tb n) (f + 1) c V F i = Sum.inl (k, pl) → mBl b I I' J J' k pl → p12_land_b141 Q f ((c : Int) + 1) I' J' := fun I' J' k pl e hb => by
      obtain ⟨f', rfl⟩ : ∃ f', f = f' + 1 := ⟨f - 1, by omega⟩
      show p12_land_b141_body Q (p12_land_b141 Q f') ((c : Int) + 1) I' J'
      unfold p12_land_b141_body
      exact zf (by have := hb.2.1; omega) (k0 I' J' _ k pl e hb)
    refine zt hq.2.2.1 (zs (fun e3 => ?_) (fun e3 => ?_))
    · have e0 := (m_s0 hq.1).mp e3
      exact k1 I J c V F (by unfold gRd; rw [if_pos e0]) hw (mFm_r b I J) hq.2.2.1 hq.2.2.2.1 hM
    · have e0 : kN1 tb n i ≠ 0 := fun q => e3 ((m_s0 hq.1).mpr q)
      have c60 : c ≠ 60 := fun q => e0 (hend q)
      have eg : gRd (kN1 tb n) (vN1 tb n) (lN1 tb n) (f + 1) c V F i = (match gSt (kN1 tb n) (vN1 tb n) V F i with
        | Sum.inl e => Sum.inl (e.1, lN1 tb n e.2)
        | Sum.inr x => gRd (kN1 tb n) (vN1 tb n) (lN1 tb n) f (c + 1) x.2.1 x.2.2 x.1) := by
        show (if kN1 tb n i = 0 then _ else if c = 60 then _ else _) = _
        rw [if_neg e0, if_neg c60]
        rfl
      rw [eg] at k1 k0 dead
      have hT1 : kN1 tb n i = 1 → 0 ≤ vN1 tb n i := fun e => (tk_1 (tb := tb) (n := n) (p := pN tb n i) (by have := pN_i hc hn him; omega) hn.2 e).1
      have gok := fun (j : Nat) (V' : mI) (F' : mF) (e : gSt (kN1 tb n) (vN1 tb n) V F i = Sum.inr (j, V', F')) => gSt_ok hT hT1 him hw h8 e
      rw [gSt_eq] at k1 k0 dead gok
      refine m_stmt hc hq hM hw h8 (fun I1 J1 j V' F' es hf1 hq1 hM1 => ⟨by omega, ?_⟩) (fun I1 J1 j V' F' es k5 hb => ⟨by omega, m_finD (by have := hb.2.1; omega) (dead I1 J1 1 (lN1 tb n j) ?_ hb)⟩) (fun I1 J1 k i' es hb => ⟨by omega, m_finD (by have := hb.2.1; omega) (dead I1 J1 k (lN1 tb n i') (by rw [es]; rfl) hb)⟩)
      · rw [es, gK_r] at k1 k0 dead gok
        refine m_fin hc hq1 (fun a nn I2 J2 hf2 hq2 => ?_) (fun a nn I2 hb2 => ?_) (fun a I2 hb2 => ?_)
        · have ge : gEnd (kN1 tb n) (vN1 tb n) (j, V', F') = Sum.inr (j + 1, V', F') := by unfold gEnd; rw [if_pos a]
          rw [ge] at k1 k0
          have g := gok (j + 1) V' F' ge
          have f2 := mFm_t hf1 (mFm_fr (b := b) hf2)
          have r := m_landGo (Q := Q) hc f (c + 1) V' F' (j + 1) I2 J2 (by omega) (by omega) (fun q => by
            by_cases z : kN1 tb n (j + 1) = 0
            · exact z
            · exact absurd ⟨by omega, z⟩ nn) g.1 g.2.2.2 hq2 (mM_fr hM1 hf2) (fun I' J' c' V2 F2 e w' hf' => k1 I' J' c' V2 F2 e w' (mFm_t f2 hf')) (fun I' J' r k pl e hb => k0 I' J' r k pl e (mBl_t f2 hb))
          rw [show ((c + 1 : Nat) : Int) = (c : Int) + 1 by omega] at r
          exact r
        · have ge : gEnd (kN1 tb n) (vN1 tb n) (j, V', F') = Sum.inr (j + 1, V', F') := by unfold gEnd; rw [if_pos a]
          rw [ge] at dead
          refine dead I2 J1 6 (if kN1 tb n (j + 1) = 5 then vN1 tb n (j + 1) else lN1 tb n (j + 1)) ?_ (mBl_t hf1 (mBl_b hb2))
          obtain ⟨f', rfl⟩ : ∃ f', f = f' + 1 := ⟨f - 1, by omega⟩
          show (if kN1 tb n (j + 1) = 0 then _ else if c + 1 = 60 then _ else _) = _
          rw [if_neg nn.2, if_pos (by omega)]
        · refine dead I2 J1 1 (lN1 tb n j) ?_ (mBl_t hf1 (mBl_b hb2))
          have ge : gEnd (kN1 tb n) (vN1 tb n) (j, V', F') = Sum.inl (1, j) := by unfold gEnd; rw [if_neg a]
          rw [ge]
      · rw [es, gK_r]
        have nk : ¬ (kN1 tb n j = 4 ∧ vN1 tb n j = 59) := fun q => by omega
        have ge : gEnd (kN1 tb n) (vN1 tb n) (j, V', F') = Sum.inl (1, j) := by unfold gEnd; rw [if_neg nk]
        rw [ge]
/-- what the reading of a land may change, from its start on -/
abbrev mKl (j : Int) : Prop := j ≤ 0 ∨ j = 7 ∨ j = 10 ∨ j = 11 ∨ (13 ≤ j ∧ j ≤ 30) ∨ (34 ≤ j ∧ j ≤ 38) ∨ j = 41 ∨ 44 ≤ j
def mFl (b : Int) (I I' J J' : mI) : Prop := (∀ z, z ≠ 159 → ¬ (161 ≤ z ∧ z ≤ 176) → ¬ (178 ≤ z ∧ z ≤ 183) → I' z = I z) ∧ (∀ j, mKl j → I' 159 j = I 159 j) ∧ (∀ z, 161 ≤ z → z ≤ 176 → ∀ j, ¬ (bsz z * b ≤ j ∧ j < bsz z * b + bsz z) → I' z j = I z j) ∧ (∀ z, z ≠ 159 → z ≠ 177 → J' z = J z) ∧ (∀ j, j ≠ 7 → J' 159 j = J 159 j) ∧ (∀ j, ¬ (18 * b ≤ j ∧ j < 18 * b + 18) → J' 177 j = J 177 j) ∧ I' 159 1 = 0
theorem m_land {bk : Int} {V0 : mI} {Q : Int → mI → mI → Prop} (hc : ctD tb n m) (hn : 0 ≤ n ∧ n ≤ 1600) (h1 : I 159 1 = n) (ht : ∀ j, 0 ≤ j → j < n → I 160 j = tb j ∧ 0 ≤ tb j ∧ tb j ≤ 255) (hbk : I 159 13 = bk) (b01 : bk = 0 ∨ bk = 1) (w0 : WF V0 (fun _ => [])) (v0 : V00 V0)
    (k1 : ∀ (I' J' : mI) (c' : Nat) (V' : mI) (F' : mF), gRd (kN1 tb n) (vN1 tb n) (lN1 tb n) 62 0 V0 (fun _ => []) 0 = Sum.inr (c', V', F') → WF V' F' → mFl (1 - bk) I I' J J' → I' 159 8 = 0 → I' 159 9 = -1 → I' 159 32 = 1 - bk → mM (1 - bk) V' F' I' J' → p12_land_b170 c' I' J' Q)
    (k0 : ∀ (I' J' : mI) (r k pl : Int), gRd (kN1 tb n) (vN1 tb n) (lN1 tb n) 62 0 V0 (fun _ => []) 0 = Sum.inl (k, pl) → mFl (1 - bk) I I' J J' → (I' 159 8 = k ∧ 0 < k) → I' 159 9 = pl → p12_land_b170 r I' J' Q) : p12_land I J Q := by
  have b3 := bsz_3
  unfold p12_land
  rw [h1]
  refine m_putK (fun I1 q1 g1 f1 => m_putK (fun I2 q2 g2 f2 => m_putK (fun I3 q3 g3 f3 => m_putK (fun I4 q4 g4 f4 => m_putK (fun I5 q5 g5 f5 => ?_)))))
  have x13 : I5 159 13 = bk := by rw [g5 13 (by decide), g4 13 (by decide), g3 13 (by decide), g2 13 (by decide), g1 13 (by decide)]; exact hbk
  rw [x13]
  refine ⟨by omega, m_putK (fun I6 q6 g6 f6 => ?_)⟩
  have ez : ∀ z, z ≠ 159 → I6 z = I z := fun z hz => by rw [f6 z hz, f5 z hz, f4 z hz, f3 z hz, f2 z hz, f1 z hz]
  have ej : ∀ j, j ≠ 1 → j ≠ 2 → j ≠ 5 → j ≠ 8 → j ≠ 9 → j ≠ 32 → I6 159 j = I 159 j := fun j a c d e g k => by rw [g6 j k, g5 j g, g4 j e, g3 j d, g2 j a, g1 j c]
  have c1 : I6 159 1 = 0 := by rw [g6 1 (by decide), g5 1 (by decide), g4 1 (by decide), g3 1 (by decide)]; exact q2
  have c2 : I6 159 2 = n := by rw [g6 2 (by decide), g5 2 (by decide), g4 2 (by decide), g3 2 (by decide), g2 2 (by decide)]; exact q1
  have c5 : I6 159 5 = 0 := by rw [g6 5 (by decide), g5 5 (by decide), g4 5 (by decide)]; exact q3
  have c8 : I6 159 8 = 0 := by rw [g6 8 (by decide), g5 8 (by decide)]; exact q4
  have c9 : I6 159 9 = -1 := by rw [g6 9 (by decide)]; exact q5
  clear g1 f1 g2 f2 g3 f3 g4 f4 g5 f5 g6 f6 q1 q2 q3 q4 q5
  generalize hb : 1 - bk = b at *
  rw [q6]
  refine ⟨by omega, m_putK (fun I7 q7 g7 f7 => ?_)⟩
  rw [f7 159 (by decide), q6]
  refine ⟨by omega, m_putK (fun I8 q8 g8 f8 => ?_)⟩
  rw [f8 159 (by decide), f7 159 (by decide), q6]
  refine ⟨by omega, m_putK (fun I9 q9 g9 f9 => ?_)⟩
  rw [f9 159 (by decide), f8 159 (by decide), f7 159 (by decide), q6]
  refine ⟨by omega, m_putK (fun I10 q10 g10 f10 => ?_)⟩
  rw [f10 159 (by decide), f9 159 (by decide), f8 159 (by decide), f7 159 (by decide), q6]
  refine ⟨by omega, m_putK (fun I11 q11 g11 f11 => ?_)⟩
  rw [f11 159 (by decide), f10 159 (by decide), f9 159 (by decide), f8 159 (by decide), f7 159 (by decide), q6]
  refine ⟨by omega, m_putK (fun I12 q12 g12 f12 => ?_)⟩
  have e159 : I12 159 = I6 159 := by rw [f12 159 (by decide), f11 159 (by decide), f10 159 (by decide), f9 159 (by decide), f8 159 (by decide), f7 159 (by decide)]
  have r161 : I12 161 b = 0 := by rw [f12 161 (by decide), f11 161 (by decide), f10 161 (by decide), f9 161 (by decide), f8 161 (by decide)]; exact q7
  have r163 : I12 163 b = 0 := by rw [f12 163 (by decide), f11 163 (by decide), f10 163 (by decide), f9 163 (by decide)]; exact q8
  have r164 : I12 164 b = 0 := by rw [f12 164 (by decide), f11 164 (by decide), f10 164 (by decide)]; exact q9
  have r167 : I12 167 b = 0 := by rw [f12 167 (by decide), f11 167 (by decide)]; exact q10
  have r171 : I12 171 b = 0 := by rw [f12 171 (by decide)]; exact q11
  have fr12 : mFm b I6 I12 J J := mFm_t (mFm_row (z0 := 161) (by decide) f7 (fun j hj => g7 j (fun q => by rw [b3.2.2.2.1] at hj; omega))) (mFm_t (mFm_row (z0 := 163) (by decide) f8 (fun j hj => g8 j (fun q => by rw [b3.2.2.2.2.2.2.2.2.2.1] at hj; omega))) (mFm_t (mFm_row (z0 := 164) (by decide) f9 (fun j hj => g9 j (fun q => by rw [b3.2.2.2.2.1] at hj; omega))) (mFm_t (mFm_row (z0 := 167) (by decide) f10 (fun j hj => g10 j (fun q => by rw [b3.2.2.2.2.2.1] at hj; omega))) (mFm_t (mFm_row (z0 := 171) (by decide) f11 (fun j hj => g11 j (fun q => by rw [b3.2.2.2.2.2.2.2.2.2.2.1] at hj; omega))) (mFm_row (z0 := 172) (by decide) f12 (fun j hj => g12 j (fun q => by rw [b3.2.2.2.2.2.2.2.2.2.2.2.1] at hj; omega)))))))
  have z12 : ∀ z, z ≠ 161 → z ≠ 163 → z ≠ 164 → z ≠ 167 → z ≠ 171 → z ≠ 172 → I12 z = I6 z := fun z a1 a2 a3 a4 a5 a6 => by rw [f12 z a6, f11 z a5, f10 z a4, f9 z a3, f8 z a2, f7 z a1]
  clear g7 f7 g8 f8 g9 f9 g10 f10 g11 f11 g12 f12 q7 q8 q9 q10 q11
  rw [e159, q6]
  refine ⟨by omega, 4, ?_⟩
  -- the formulas are forgotten
  have b105 : ∀ (f : Nat) (l : Int) (I : mI), p12_land_b105 J Q (f + 1) l I = p12_land_b105_body J Q (p12_land_b105 J Q f) l I := fun _ _ _ => rfl
  rw [b105]
  unfold p12_land_b105_body
  rw [e159, q6]
  refine ⟨by omega, by omega, zf (by omega) ⟨by omega, m_putK (fun I13 q13 g13 f13 => ⟨by omega, ?_⟩)⟩⟩
  rw [b105]
  unfold p12_land_b105_body
  rw [f13 159 (by decide), e159, q6]
  refine ⟨by omega, by omega, zf (by omega) ⟨by omega, m_putK (fun I14 q14 g14 f14 => ⟨by omega, ?_⟩)⟩⟩
  rw [b105]
  unfold p12_land_b105_body
  rw [f14 159 (by decide), f13 159 (by decide), e159, q6]
  refine ⟨by omega, by omega, zf (by omega) ⟨by omega, m_putK (fun I15 q15 g15 f15 => ⟨by omega, ?_⟩)⟩⟩
  rw [b105]
  unfold p12_land_b105_body
  have e15 : I15 159 = I6 159 := by rw [f15 159 (by decide), f14 159 (by decide), f13 159 (by decide), e159]
  rw [e15, q6]
  refine ⟨by omega, by omega, zt (by omega) (m_putK (fun I16 q16 g16 f16 => ?_))⟩
  have n0 : I16 173 (3 * b + 0) = -1 := by rw [f16 173 (by decide), g15 _ (by omega), g14 _ (by omega), show 3 * b + 0 = 3 * b by omega]; exact q13
  have n1 : I16 173 (3 * b + 1) = -1 := by rw [f16 173 (by decide), g15 _ (by omega)]; exact q14
  have n2 : I16 173 (3 * b + 2) = -1 := by rw [f16 173 (by decide), show 3 * b + 2 = 3 * b + 1 + 1 by omega]; exact q15
  have z16 : ∀ z, z ≠ 159 → z ≠ 173 → I16 z = I12 z := fun z a c => by rw [f16 z a, f15 z c, f14 z c, f13 z c]
  have j16 : ∀ j, j ≠ 31 → I16 159 j = I6 159 j := fun j hj => by rw [g16 j hj, e15]
  have rw173 : ∀ {A B : mI} {k : Int}, (∀ z, z ≠ 173 → B z = A z) → (∀ j, j ≠ k → B 173 j = A 173 j) → (3 * b ≤ k ∧ k < 3 * b + 3) → mFm b A B J J := fun fz gz hk => mFm_row (z0 := 173) (by decide) fz (fun j hj => gz j (fun q => by rw [b3.2.2.2.2.2.2.2.2.2.2.2.2.1] at hj; omega))
  have fr16 : mFm b I6 I16 J J := mFm_t fr12 (mFm_t (rw173 f13 g13 (by omega)) (mFm_t (rw173 f14 g14 (by omega)) (mFm_t (rw173 f15 g15 (by omega)) ⟨fun z a _ _ => f16 z a, fun j a => g16 j (by omega), fun z a c j _ => by rw [f16 z (by omega)], fun _ _ _ => rfl, fun _ _ => rfl, fun _ _ => rfl, fun e => ⟨by rw [← g16 8 (by decide)]; exact e, g16 9 (by decide)⟩⟩)))
  have ht16 : mTp tb n I16 := by
    refine ⟨(j16 2 (by decide)).trans c2, hn, fun j j0 j1 => ?_⟩
    rw [z16 160 (by decide) (by decide), z12 160 (by decide) (by decide) (by decide) (by decide) (by decide) (by decide), ez 160 (by decide)]
    exact ht j j0 j1
  have hM16 : mM b V0 (fun _ => []) I16 J := by
    obtain ⟨⟨a0, a1, a2⟩, a8, a9, a10, a11⟩ := v0
    refine ⟨⟨?_, ?_, ?_⟩, fun w j x y _ _ => by omega, fun w j x y _ _ => by omega, fun w j x y _ _ => by omega, fun c x y => by omega, ?_, fun t x y => by omega, ⟨?_, ?_⟩, fun w x y => ⟨Or.inl ⟨rfl, ?_⟩, fun e => absurd rfl e⟩, ?_, fun kd w x y z u => ?_⟩
    · rw [z16 161 (by decide) (by decide), r161, a0]
    · rw [z16 164 (by decide) (by decide), r164, a1]
    · rw [z16 167 (by decide) (by decide), r167, a2]
    · rw [z16 163 (by decide) (by decide), r163, a9]
    · rw [z16 171 (by decide) (by decide), r171, a10]
    · rw [z16 172 (by decide) (by decide), q12, a11]
    · have : w = 0 ∨ w = 1 ∨ w = 2 := by omega
      rcases this with q | q | q <;> rw [q]
      · exact n0
      · exact n1
      · exact n2
    · rw [q16, a8]
    · have : kd = 0 ∨ kd = 1 ∨ kd = 2 := by omega
      rcases this with q | q | q <;> rw [q] at u <;> omega
  have fl : ∀ {I' J' : mI}, mFm b I6 I' J J' → mFl b I I' J J' := fun h => by
    obtain ⟨h1, h2, h3, h4, h5, h6, h7⟩ := h
    exact ⟨fun z a c d => (h1 z a c d).trans (ez z a), fun j a => (h2 j (by omega)).trans (ej j (by omega) (by omega) (by omega) (by omega) (by omega) (by omega)), fun z a c j d => (h3 z a c j d).trans (by rw [ez z (by omega)]), h4, h5, h6, (h2 1 (by omega)).trans c1⟩
  refine m_lookA ht16 ((j16 5 (by decide)).trans c5) (Int.le_refl 0) hn.1 (fun I17 J17 hf17 hk17 => ⟨62, ?_⟩)
  have f17 : mFm b I6 I17 J J17 := mFm_t fr16 (mFm_fr hf17)
  have hq17 : mQ tb n m b 0 I17 J17 := by
    refine ⟨⟨mTp_f (hf17.1 160 (by decide)) (hf17.2.1 2 (by decide) (by decide) (by decide) (by decide) (by decide)) ht16, hk17⟩, Nat.zero_le m, ?_, ?_⟩
    · rw [hf17.2.1 8 (by decide) (by decide) (by decide) (by decide) (by decide), j16 8 (by decide)]; exact c8
    · rw [hf17.2.1 32 (by decide) (by decide) (by decide) (by decide) (by decide), j16 32 (by decide), q6]
      exact ⟨rfl, by omega⟩
  refine m_landGo hc 62 0 V0 (fun _ => []) 0 I17 J17 (by decide) (by decide) (fun q => absurd q (by decide)) w0 (Int.le_of_eq v0.2.1) hq17 (mM_fr hM16 hf17) (fun I' J' c' V' F' e w' hf' e8 e32 hM' => ?_) (fun I' J' r k pl e hb => k0 I' J' r k pl e (fl (mFm_t f17 hb.1)) hb.2.1 hb.2.2)
  have ft := mFm_t f17 hf'
  exact k1 I' J' c' V' F' e w' (fl ft) e8 ((ft.2.2.2.2.2.2 e8).2.trans c9) e32 hM'
end
