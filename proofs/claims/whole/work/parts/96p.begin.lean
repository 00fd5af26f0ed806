/-! THE READERS: where a land begins -/
theorem gRd_ok {K T P : Nat → Int} {m : Nat} (hT : tkM K T m) (hT1 : ∀ j, j ≤ m → K j = 1 → 0 ≤ T j) : ∀ (f c : Nat) (V : mI) (F : mF) (i c' : Nat) (V' : mI) (F' : mF), gRd K T P f c V F i = Sum.inr (c', V', F') → i ≤ m → WF V F → V 0 8 ≤ (i : Int) → V' 0 8 ≤ (m : Int)
  | 0, c, V, F, i, c', V', F', e, _, _, _ => by cases e
  | f + 1, c, V, F, i, c', V', F', e, hi, hw, h8 => by
    unfold gRd at e
    by_cases e0 : K i = 0
    · rw [if_pos e0] at e
      have e' := Sum.inr.inj e
      rw [← (Prod.mk.inj (Prod.mk.inj e').2).1]; omega
    · rw [if_neg e0] at e
      by_cases c6 : c = 60
      · rw [if_pos c6] at e; cases e
      · rw [if_neg c6] at e
        match hg : gSt K T V F i, e with
        | Sum.inr (j, V2, F2), e =>
          have g := gSt_ok hT (hT1 i hi) hi hw h8 hg
          exact gRd_ok hT hT1 f (c + 1) V2 F2 j c' V' F' e g.2.2.1 g.1 g.2.2.2
theorem c_beGo2 {sp : Nat} {I0 : mI} {Q : mI → Prop} (hsp : isLd sp) (kk : ∀ I' : mI, (∀ z, z ≠ 8 → z ≠ 9 → z ≠ 10 → I' z = I0 z) → (∀ k : Int, 0 ≤ k → k < 6 → I' 8 k = k ∧ I' 9 k = 5 ∧ I' 10 k = I0 (sp + 5) k) → Q I') : ∀ (d : Nat) (k : Int) (I : mI), k + d = 6 → 0 ≤ k → (∀ z, z ≠ 8 → z ≠ 9 → z ≠ 10 → I z = I0 z) → (∀ x : Int, 0 ≤ x → x < k → I 8 x = x ∧ I 9 x = 5 ∧ I 10 x = I0 (sp + 5) x) → p7_begin_b20 7 sp Q (d + 1) k I
  | 0, k, I, hk, h0, fz, fx => by
    show p7_begin_b20_body 7 sp Q (p7_begin_b20 7 sp Q 0) k I
    unfold p7_begin_b20_body
    exact zt (by omega) (kk I fz (fun x a c => fx x a (by omega)))
  | d + 1, k, I, hk, h0, fz, fx => by
    have hsp' := hsp
    unfold isLd at hsp'
    show p7_begin_b20_body 7 sp Q (p7_begin_b20 7 sp Q (d + 1)) k I
    unfold p7_begin_b20_body
    refine zf (by omega) ⟨by omega, m_putK (fun I1 q1 g1 f1 => ⟨by omega, m_putK (fun I2 q2 g2 f2 => ⟨by omega, by omega, m_putK (fun I3 q3 g3 f3 => ⟨by omega, ?_⟩)⟩)⟩)⟩
    have e5 : I2 (sp + 5) k = I0 (sp + 5) k := by rw [f2 (sp + 5) (by omega), f1 (sp + 5) (by omega), fz (sp + 5) (by omega) (by omega) (by omega)]
    refine c_beGo2 hsp kk d (k + 1) I3 (by omega) (by omega) (fun z a c e => by rw [f3 z (by omega), f2 z (by omega), f1 z (by omega), fz z a c e]) (fun x a c => ?_)
    have a8 : I3 8 x = I1 8 x := by rw [f3 8 (by decide), f2 8 (by decide)]
    have a9 : I3 9 x = I2 9 x := by rw [f3 9 (by decide)]
    by_cases q : x = k
    · subst q
      refine ⟨a8.trans q1, a9.trans q2, ?_⟩
      exact q3.trans e5
    · have y := fx x a (by omega)
      refine ⟨a8.trans ((g1 x q).trans y.1), a9.trans ((g2 x q).trans ?_), (g3 x q).trans ?_⟩
      · rw [f1 9 (by decide)]; exact y.2.1
      · have e10 : I2 10 = I 10 := by rw [f2 10 (by decide), f1 10 (by decide)]
        show I2 10 x = _
        rw [e10]; exact y.2.2
theorem c_beg {sp : Nat} {I : mI} {Q : mI → Prop} (hsp : isLd sp) (kk : ∀ I' : mI, (∀ z, ¬ (7 ≤ z ∧ z ≤ 10) → I' z = I z) → I' 7 0 = 0 → I' 7 1 = I sp 10 → I' 7 2 = 0 → (∀ k : Int, 0 ≤ k → k < 6 → I' 8 k = k ∧ I' 9 k = 5 ∧ I' 10 k = I (sp + 5) k) → Q I') : p7_begin 7 sp I Q := by
  have hsp' := hsp
  unfold isLd at hsp'
  unfold p7_begin
  refine m_putK (fun I1 q1 g1 f1 => m_putK (fun I2 q2 g2 f2 => m_putK (fun I3 q3 g3 f3 => ⟨7, ?_⟩)))
  refine c_beGo2 (I0 := I3) hsp (fun I' fz fx => kk I' (fun z a => by rw [fz z (by omega) (by omega) (by omega), f3 z (by omega), f2 z (by omega), f1 z (by omega)]) ?_ ?_ ?_ (fun k a c => ?_)) 6 0 I3 (by decide) (by decide) (fun _ _ _ _ => rfl) (fun x a c => by omega)
  · rw [fz 7 (by decide) (by decide) (by decide), g3 0 (by decide), g2 0 (by decide)]; exact q1
  · rw [fz 7 (by decide) (by decide) (by decide), g3 1 (by decide), q2, f1 sp (by omega)]
  · rw [fz 7 (by decide) (by decide) (by decide)]; exact q3
  · have y := fx k a c
    rw [f3 (sp + 5) (by omega), f2 (sp + 5) (by omega), f1 (sp + 5) (by omega)] at y
    exact y
theorem m_beg2 {bk : Int} {I0 : mI} {Q : mI → Prop} (hb : I0 159 13 = bk) (b01 : bk = 0 ∨ bk = 1) (kk : ∀ I' : mI, (∀ z, z ≠ 159 → z ≠ 190 → z ≠ 192 → I' z = I0 z) → (∀ j, j ≠ 53 → j ≠ 62 → I' 159 j = I0 159 j) → I' 159 53 = 0 → I' 159 62 = 0 → I' 190 0 = 0 → (∀ l : Int, 0 ≤ l → l < 18 → I' 192 l = I0 162 (18 * bk + l)) → Q I') : ∀ (d : Nat) (l : Int) (I : mI), l + d = 18 → 0 ≤ l → (∀ z, z ≠ 192 → I z = I0 z) → (∀ x : Int, 0 ≤ x → x < l → I 192 x = I0 162 (18 * bk + x)) → p12_begin_b89 Q (d + 1) l I
  | 0, l, I, hl, h0, fz, fx => by
    show p12_begin_b89_body Q (p12_begin_b89 Q 0) l I
    unfold p12_begin_b89_body
    refine zt (by omega) (m_putK (fun I1 q1 g1 f1 => m_putK (fun I2 q2 g2 f2 => m_putK (fun I3 q3 g3 f3 => kk I3 (fun z a c e => by rw [f3 z a, f2 z a, f1 z c, fz z e]) (fun j a c => by rw [g3 j c, g2 j a, f1 159 (by decide), fz 159 (by decide)]) (by rw [g3 53 (by decide)]; exact q2) q3 (by rw [f3 190 (by decide), f2 190 (by decide)]; exact q1) (fun x a c => by rw [f3 192 (by decide), f2 192 (by decide), f1 192 (by decide)]; exact fx x a (by omega))))))
  | d + 1, l, I, hl, h0, fz, fx => by
    show p12_begin_b89_body Q (p12_begin_b89 Q (d + 1)) l I
    unfold p12_begin_b89_body
    rw [fz 159 (by decide), hb, fz 162 (by decide)]
    refine zf (by omega) ⟨by omega, by omega, by omega, by omega, m_putK (fun I1 q1 g1 f1 => ⟨by omega, ?_⟩)⟩
    refine m_beg2 hb b01 kk d (l + 1) I1 (by omega) (by omega) (fun z a => (f1 z a).trans (fz z a)) (fun x a c => ?_)
    by_cases q : x = l
    · rw [q]; exact q1
    · rw [g1 x q]; exact fx x a (by omega)
theorem m_beg1 {bk : Int} {I0 : mI} {Q : mI → Prop} (hb : I0 159 13 = bk) (b01 : bk = 0 ∨ bk = 1) (kk : ∀ I' : mI, (∀ z, z ≠ 159 → ¬ (187 ≤ z ∧ z ≤ 190) → z ≠ 192 → I' z = I0 z) → (∀ j, j ≠ 53 → j ≠ 62 → I' 159 j = I0 159 j) → I' 159 53 = 0 → I' 159 62 = 0 → I' 190 0 = 0 → (∀ k : Int, 0 ≤ k → k < 6 → I' 187 k = k ∧ I' 188 k = 5 ∧ I' 189 k = (if I0 167 bk ≤ k then -1 else I0 170 (6 * bk + k))) → (∀ l : Int, 0 ≤ l → l < 18 → I' 192 l = I0 162 (18 * bk + l)) → Q I') : ∀ (d : Nat) (k : Int) (I : mI), k + d = 6 → 0 ≤ k → (∀ z, z ≠ 187 → z ≠ 188 → z ≠ 189 → I z = I0 z) → (∀ x : Int, 0 ≤ x → x < k → I 187 x = x ∧ I 188 x = 5 ∧ I 189 x = (if I0 167 bk ≤ x then -1 else I0 170 (6 * bk + x))) → p12_begin_b24 Q (d + 1) k I
  | 0, k, I, hk, h0, fz, fx => by
    show p12_begin_b24_body Q (p12_begin_b24 Q 0) k I
    unfold p12_begin_b24_body
    refine zt (by omega) ⟨19, m_beg2 (I0 := I) (bk := bk) (by rw [fz 159 (by decide) (by decide) (by decide)]; exact hb) b01 (fun I' z1 z2 z3 z4 z5 z6 => kk I' (fun z a c e => (z1 z a (by omega) e).trans (fz z (by omega) (by omega) (by omega))) (fun j a c => by rw [z2 j a c, fz 159 (by decide) (by decide) (by decide)]) z3 z4 z5 (fun x a c => ?_) (fun l a c => by rw [z6 l a c, fz 162 (by decide) (by decide) (by decide)])) 18 0 I (by decide) (by decide) (fun _ _ => rfl) (fun x a c => by omega)⟩
    rw [z1 187 (by decide) (by decide) (by decide), z1 188 (by decide) (by decide) (by decide), z1 189 (by decide) (by decide) (by decide)]
    exact fx x a (by omega)
  | d + 1, k, I, hk, h0, fz, fx => by
    show p12_begin_b24_body Q (p12_begin_b24 Q (d + 1)) k I
    unfold p12_begin_b24_body
    refine zf (by omega) ⟨by omega, m_putK (fun I1 q1 g1 f1 => ⟨by omega, m_putK (fun I2 q2 g2 f2 => ?_)⟩)⟩
    have e2 : ∀ z, z ≠ 187 → z ≠ 188 → z ≠ 189 → I2 z = I0 z := fun z a c e => by rw [f2 z c, f1 z a, fz z a c e]
    have nxt : ∀ (I3 : mI) (v : Int), v = (if I0 167 bk ≤ k then -1 else I0 170 (6 * bk + k)) → I3 189 k = v → (∀ j, j ≠ k → I3 189 j = I2 189 j) → (∀ z, z ≠ 189 → I3 z = I2 z) → rg (k + 1) ∧ p12_begin_b24 Q (d + 1) (k + 1) I3 := fun I3 v hv q3 g3 f3 => by
      refine ⟨by omega, m_beg1 hb b01 kk d (k + 1) I3 (by omega) (by omega) (fun z a c e => (f3 z e).trans (e2 z a c e)) (fun x a c => ?_)⟩
      rw [f3 187 (by decide), f3 188 (by decide), f2 187 (by decide)]
      by_cases q : x = k
      · rw [q]; exact ⟨q1, q2, q3.trans hv⟩
      · have y := fx x a (by omega)
        rw [g1 x q, g2 x q, g3 x q, f2 189 (by decide), f1 189 (by decide), f1 188 (by decide)]
        exact y
    rw [e2 159 (by decide) (by decide) (by decide), hb, e2 167 (by decide) (by decide) (by decide), e2 170 (by decide) (by decide) (by decide)]
    refine ⟨by omega, zs (fun c => ⟨by omega, m_putK (fun I3 q3 g3 f3 => nxt I3 (-1) (by rw [if_pos c]) q3 g3 f3)⟩) (fun c => ⟨by omega, by omega, by omega, by omega, m_putK (fun I3 q3 g3 f3 => nxt I3 _ (by rw [if_neg c]) q3 g3 f3)⟩)⟩
theorem m_beg {bk : Int} {I : mI} {Q : mI → Prop} (hb : I 159 13 = bk) (b01 : bk = 0 ∨ bk = 1) (kk : ∀ I' : mI, (∀ z, z ≠ 159 → ¬ (185 ≤ z ∧ z ≤ 190) → z ≠ 192 → I' z = I z) → (∀ j, j ≠ 53 → j ≠ 62 → I' 159 j = I 159 j) → I' 159 53 = 0 → I' 159 62 = 0 → I' 185 0 = 0 → I' 186 0 = I 171 bk → I' 190 0 = 0 → (∀ k : Int, 0 ≤ k → k < 6 → I' 187 k = k ∧ I' 188 k = 5 ∧ I' 189 k = (if I 167 bk ≤ k then -1 else I 170 (6 * bk + k))) → (∀ l : Int, 0 ≤ l → l < 18 → I' 192 l = I 162 (18 * bk + l)) → Q I') : p12_begin I Q := by
  unfold p12_begin
  refine m_putK (fun I1 q1 g1 f1 => ?_)
  rw [f1 159 (by decide), hb, f1 171 (by decide)]
  refine ⟨by omega, m_putK (fun I2 q2 g2 f2 => ⟨7, ?_⟩)⟩
  have e2 : ∀ z, z ≠ 185 → z ≠ 186 → I2 z = I z := fun z a c => (f2 z c).trans (f1 z a)
  refine m_beg1 (I0 := I2) (bk := bk) (by rw [e2 159 (by decide) (by decide)]; exact hb) b01 (fun I' z1 z2 z3 z4 z5 z6 z7 => kk I' (fun z a c e => (z1 z a (by omega) e).trans (e2 z (by omega) (by omega))) (fun j a c => by rw [z2 j a c, e2 159 (by decide) (by decide)]) z3 z4 ?_ ?_ z5 (fun k a c => ?_) (fun l a c => by rw [z7 l a c, e2 162 (by decide) (by decide)])) 6 0 I2 (by decide) (by decide) (fun _ _ _ _ => rfl) (fun x a c => by omega)
  · rw [z1 185 (by decide) (by decide) (by decide), f2 185 (by decide)]; exact q1
  · rw [z1 186 (by decide) (by decide) (by decide)]; exact q2
  · have y := z6 k a c
    rw [e2 167 (by decide) (by decide), e2 170 (by decide) (by decide)] at y
    exact y
