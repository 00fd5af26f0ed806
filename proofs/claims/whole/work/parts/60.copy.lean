/-! STATES ARE COPIED -/
theorem c_take {I : mI} {a b : Nat} {S : mI} {Q : mI → Prop} (hab : a + 4 < b ∨ b + 4 < a) (hS : stC I b S) (h2 : S 0 2 ≤ 40)
    (k : ∀ I' : mI, (∀ z, ¬ (a ≤ z ∧ z ≤ a + 4) → I' z = I z) → stC I' a S → Q I') : p7_take a b I Q := by
  obtain ⟨c0, c1, c2, c3, c4⟩ := hS
  unfold p7_take
  refine m_putK (fun I1 q1 g1 f1 => m_putK (fun I2 q2 g2 f2 => m_putK (fun I3 q3 g3 f3 => wLet_r (wLet_r (wLet_r (wLet_r ?_))))))
  have eb : ∀ z, z ≠ a → I3 z = I z := fun z hz => by rw [f3 z hz, f2 z hz, f1 z hz]
  refine k _ (fun z hz => ?_) ⟨?_, ?_, ?_, fun j j0 j6 => ⟨?_, ?_, ?_⟩, fun j j0 j1 => ?_⟩
  · rw [cpy_ne (by omega), cpy_ne (by omega), cpy_ne (by omega), cpy_ne (by omega)]; exact eb z (by omega)
  · rw [cpy_ne (by omega), cpy_ne (by omega), cpy_ne (by omega), cpy_ne (by omega), g3 0 (by decide), g2 0 (by decide), q1]; exact c0
  · rw [cpy_ne (by omega), cpy_ne (by omega), cpy_ne (by omega), cpy_ne (by omega), g3 1 (by decide), q2, f1 b (by omega)]; exact c1
  · rw [cpy_ne (by omega), cpy_ne (by omega), cpy_ne (by omega), cpy_ne (by omega), q3, f2 b (by omega), f1 b (by omega)]; exact c2
  · rw [cpy_ne (by omega), cpy_ne (by omega), cpy_ne (by omega), cpy_in j0 (by omega), show (0 : Int) + (j - 0) = j by omega, eb _ (by omega)]; exact (c3 j j0 j6).1
  · rw [cpy_ne (by omega), cpy_ne (by omega), cpy_in j0 (by omega), show (0 : Int) + (j - 0) = j by omega, cpy_ne (by omega), eb _ (by omega)]; exact (c3 j j0 j6).2.1
  · rw [cpy_ne (by omega), cpy_in j0 (by omega), show (0 : Int) + (j - 0) = j by omega, cpy_ne (by omega), cpy_ne (by omega), eb _ (by omega)]; exact (c3 j j0 j6).2.2
  · rw [cpy_in j0 (by omega), show (0 : Int) + (j - 0) = j by omega, cpy_ne (by omega), cpy_ne (by omega), cpy_ne (by omega), eb _ (by omega)]; exact c4 j j0 j1
def gfr (v : Int) (I I' : mI) : Prop := (∀ z, (z < 185 ∨ z = 192 ∨ z = 193 ∨ 197 < z) → I' z = I z) ∧ (∀ j, j ≠ v → I' 185 j = I 185 j ∧ I' 186 j = I 186 j ∧ I' 190 j = I 190 j) ∧ (∀ j, ¬ (6 * v ≤ j ∧ j < 6 * v + 6) → I' 187 j = I 187 j ∧ I' 188 j = I 188 j ∧ I' 189 j = I 189 j) ∧ (∀ j, ¬ (120 * v ≤ j ∧ j < 120 * v + 120) → I' 191 j = I 191 j)
theorem lfr_g {v : Int} {I I' : mI} (h : lfr v I I') : gfr v I I' := ⟨fun z hz => h.1 z (by omega), h.2.1, fun j hj => ⟨by rw [h.1 187 (by omega)], (h.2.2.1 j hj).1, (h.2.2.1 j hj).2⟩, h.2.2.2⟩
theorem gfr_r (v : Int) (I : mI) : gfr v I I := lfr_g (lfr_r v I)
theorem gfr_t {v : Int} {I1 I2 I3 : mI} (h1 : gfr v I1 I2) (h2 : gfr v I2 I3) : gfr v I1 I3 :=
  ⟨fun z hz => (h2.1 z hz).trans (h1.1 z hz), fun j hj => ⟨(h2.2.1 j hj).1.trans (h1.2.1 j hj).1, (h2.2.1 j hj).2.1.trans (h1.2.1 j hj).2.1, (h2.2.1 j hj).2.2.trans (h1.2.1 j hj).2.2⟩, fun j hj => ⟨(h2.2.2.1 j hj).1.trans (h1.2.2.1 j hj).1, (h2.2.2.1 j hj).2.1.trans (h1.2.2.1 j hj).2.1, (h2.2.2.1 j hj).2.2.trans (h1.2.2.1 j hj).2.2⟩, fun j hj => (h2.2.2.2 j hj).trans (h1.2.2.2 j hj)⟩
theorem stM_g {V : mI} {I I' : mI} {v w : Int} {S : mI} (hf : gfr v I I') (hw : w ≠ v) (h2 : S 0 2 ≤ 40) (h : stM V I w S) : stM V I' w S := by
  obtain ⟨c0, c1, c2, c3, c4⟩ := h
  obtain ⟨f1, f2, f3, f4⟩ := hf
  refine ⟨(f2 w hw).1.trans c0, (f2 w hw).2.1.trans c1, (f2 w hw).2.2.trans c2, fun j j0 j6 => ?_, fun j j0 j1 => ?_⟩
  · have h3 := f3 (6 * w + j) (by omega)
    exact ⟨h3.1.trans (c3 j j0 j6).1, h3.2.1.trans (c3 j j0 j6).2.1, h3.2.2.trans (c3 j j0 j6).2.2⟩
  · exact (f4 (120 * w + j) (by omega)).trans (c4 j j0 j1)
theorem ldM_g {I I' : mI} {bk v : Int} {V : mI} {F : Int → List (Int × Int)} (hf : gfr v I I') (h : ldM I bk V F) : ldM I' bk V F :=
  ldM_fr (by rw [hf.1 159 (by omega)]) (fun a _ ha => hf.1 a (by omega)) h
theorem twM_g {I I' V : mI} {v : Int} {tw : Int → Int} (hf : gfr v I I') (h : twM I V tw) : twM I' V tw := by
  unfold twM; rw [hf.1 192 (by omega)]; exact h
theorem m_copyGo {to v n : Int} {Q : mI → Prop} {I0 : mI} (hto : 0 ≤ to ∧ to < 22) (hv : 0 ≤ v ∧ v < 22) (hne : to ≠ v) (h0 : I0 190 v = n) (hn : 0 ≤ n ∧ n ≤ 40)
    (k : ∀ I' : mI, (∀ z, z ≠ 191 → I' z = I0 z) → (∀ j, ¬ (120 * to ≤ j ∧ j < 120 * to + 120) → I' 191 j = I0 191 j) → (∀ j, 0 ≤ j → j < 3 * n → I' 191 (120 * to + j) = I0 191 (120 * v + j)) → Q I') :
    ∀ (d : Nat) (l : Int) (I : mI), 0 ≤ l → l + d = 3 * n → (∀ z, z ≠ 191 → I z = I0 z) → (∀ j, ¬ (120 * to ≤ j ∧ j < 120 * to + 120) → I 191 j = I0 191 j) → (∀ j, 0 ≤ j → j < l → I 191 (120 * to + j) = I0 191 (120 * v + j)) → p12_copies_b118 to v Q (d + 1) l I
  | 0, l, I, hl0, hl, hf, hg, hr => by
    show p12_copies_b118_body to v Q (p12_copies_b118 to v Q 0) l I
    unfold p12_copies_b118_body
    rw [hf 190 (by decide), h0]
    exact ⟨hv, by omega, zt (by omega) (k I hf hg (fun j j0 j1 => hr j j0 (by omega)))⟩
  | d + 1, l, I, hl0, hl, hf, hg, hr => by
    show p12_copies_b118_body to v Q (p12_copies_b118 to v Q (d + 1)) l I
    unfold p12_copies_b118_body
    rw [hf 190 (by decide), h0]
    refine ⟨hv, by omega, zf (by omega) ⟨by omega, by omega, by omega, by omega, by omega, by omega,  m_putK (fun I1 q1 g1 f1 => ⟨by omega, m_copyGo hto hv hne h0 hn k d (l + 1) I1 (by omega) (by omega) (fun z hz => (f1 z hz).trans (hf z hz)) (fun j hj => ?_) (fun j j0 j1 => ?_)⟩)⟩⟩
    · rw [g1 j (by omega)]; exact hg j hj
    · by_cases e : j = l
      · rw [e, q1]; exact hg _ (by omega)
      · rw [g1 _ (by omega)]; exact hr j j0 (by omega)
theorem m_copy6 {to v : Int} {Q : mI → Prop} {I0 : mI} (hto : 0 ≤ to ∧ to < 22) (hv : 0 ≤ v ∧ v < 22) (hne : to ≠ v)
    (k : ∀ I' : mI, (∀ z, z ≠ 187 → z ≠ 188 → z ≠ 189 → I' z = I0 z) → (∀ j, ¬ (6 * to ≤ j ∧ j < 6 * to + 6) → I' 187 j = I0 187 j ∧ I' 188 j = I0 188 j ∧ I' 189 j = I0 189 j) → (∀ j, 0 ≤ j → j < 6 → I' 187 (6 * to + j) = I0 187 (6 * v + j) ∧ I' 188 (6 * to + j) = I0 188 (6 * v + j) ∧ I' 189 (6 * to + j) = I0 189 (6 * v + j)) → wLet (up I' 190 to (I' 190 v)) (fun I3 => ∃ f, p12_copies_b118 to v Q f 0 I3)) :
    ∀ (d : Nat) (l : Int) (I : mI), 0 ≤ l → l + d = 6 → (∀ z, z ≠ 187 → z ≠ 188 → z ≠ 189 → I z = I0 z) → (∀ j, ¬ (6 * to ≤ j ∧ j < 6 * to + 6) → I 187 j = I0 187 j ∧ I 188 j = I0 188 j ∧ I 189 j = I0 189 j) → (∀ j, 0 ≤ j → j < l → I 187 (6 * to + j) = I0 187 (6 * v + j) ∧ I 188 (6 * to + j) = I0 188 (6 * v + j) ∧ I 189 (6 * to + j) = I0 189 (6 * v + j)) → p12_copies_b26 to v Q (d + 1) l I
  | 0, l, I, hl0, hl, hf, hg, hr => by
    show p12_copies_b26_body to v Q (p12_copies_b26 to v Q 0) l I
    unfold p12_copies_b26_body
    exact zt (by omega) ⟨hv, hto, k I hf hg (fun j j0 j1 => hr j j0 (by omega))⟩
  | d + 1, l, I, hl0, hl, hf, hg, hr => by
    show p12_copies_b26_body to v Q (p12_copies_b26 to v Q (d + 1)) l I
    unfold p12_copies_b26_body
    refine zf (by omega) ⟨by omega, by omega, by omega, by omega, by omega, by omega,  m_putK (fun I1 q1 g1 f1 => ⟨by omega, by omega, by omega, by omega, by omega, by omega,  m_putK (fun I2 q2 g2 f2 => ⟨by omega, by omega, by omega, by omega, by omega, by omega,  m_putK (fun I3 q3 g3 f3 => ⟨by omega, m_copy6 hto hv hne k d (l + 1) I3 (by omega) (by omega) (fun z h7 h8 h9 => ?_) (fun j hj => ⟨?_, ?_, ?_⟩) (fun j j0 j1 => ?_)⟩)⟩)⟩)⟩
    · rw [f3 z h9, f2 z h8, f1 z h7]; exact hf z h7 h8 h9
    · rw [f3 187 (by decide), f2 187 (by decide), g1 j (by omega)]; exact (hg j hj).1
    · rw [f3 188 (by decide), g2 j (by omega), f1 188 (by decide)]; exact (hg j hj).2.1
    · rw [g3 j (by omega), f2 189 (by decide), f1 189 (by decide)]; exact (hg j hj).2.2
    · have hs := hg (6 * v + l) (by omega)
      by_cases e : j = l
      · subst e
        refine ⟨?_, ?_, ?_⟩
        · rw [f3 187 (by decide), f2 187 (by decide), q1]; exact hs.1
        · rw [f3 188 (by decide), q2, f1 188 (by decide)]; exact hs.2.1
        · rw [q3, f2 189 (by decide), f1 189 (by decide)]; exact hs.2.2
      · have h := hr j j0 (by omega)
        refine ⟨?_, ?_, ?_⟩
        · rw [f3 187 (by decide), f2 187 (by decide), g1 _ (by omega)]; exact h.1
        · rw [f3 188 (by decide), g2 _ (by omega), f1 188 (by decide)]; exact h.2.1
        · rw [g3 _ (by omega), f2 189 (by decide), f1 189 (by decide)]; exact h.2.2
theorem m_copy {V : mI} {I : mI} {to v : Int} {S : mI} {Q : mI → Prop} (hto : 0 ≤ to ∧ to < 22) (hv : 0 ≤ v ∧ v < 22) (hne : to ≠ v) (hS : stM V I v S) (h2 : 0 ≤ S 0 2 ∧ S 0 2 ≤ 40)
    (k : ∀ I' : mI, gfr to I I' → (∀ z, 191 < z → I' z = I z) → stM V I' to S → Q I') : p12_copies to v I Q := by
  obtain ⟨c0, c1, c2, c3, c4⟩ := hS
  unfold p12_copies
  rw [c0]
  refine ⟨by omega, by omega,  m_putK (fun I1 q1 g1 f1 => ⟨by omega, by omega, ?_⟩)⟩
  rw [f1 186 (by decide), c1]
  refine m_putK (fun I2 q2 g2 f2 => ⟨7, m_copy6 hto hv hne (fun I3 f3 g3 h3 => ?_) 6 0 I2 (by omega) (by omega) (fun _ _ _ _ => rfl) (fun _ _ => ⟨rfl, rfl, rfl⟩) (fun j j0 j1 => by omega)⟩)
  have F2 : ∀ z, z ≠ 185 → z ≠ 186 → I2 z = I z := fun z h5 h6 => by rw [f2 z h6, f1 z h5]
  have e3 : I3 190 v = S 0 2 := by rw [f3 190 (by decide) (by decide) (by decide), F2 190 (by decide) (by decide)]; exact c2
  rw [e3]
  refine m_putK (fun I4 q4 g4 f4 => ⟨(3 * S 0 2).toNat + 1, ?_⟩)
  refine m_copyGo (I0 := I4) (n := S 0 2) hto hv hne (by rw [g4 v (by omega)]; exact e3) h2 (fun I5 f5 g5 h5 => ?_) _ 0 I4 (by omega) (by omega) (fun _ _ => rfl) (fun _ _ => rfl) (fun j j0 j1 => by omega)
  have F4 : ∀ z, z ≠ 185 → z ≠ 186 → z ≠ 187 → z ≠ 188 → z ≠ 189 → z ≠ 190 → I4 z = I z := fun z h5 h6 h7 h8 h9 h0 => by rw [f4 z h0, f3 z h7 h8 h9, F2 z h5 h6]
  refine k I5 ⟨fun z hz => ?_, fun j hj => ⟨?_, ?_, ?_⟩, fun j hj => ⟨?_, ?_, ?_⟩, fun j hj => ?_⟩ (fun z hz => ?_) ⟨?_, ?_, ?_, fun j j0 j6 => ?_, fun j j0 j1 => ?_⟩
  · rw [f5 z (by omega), F4 z (by omega) (by omega) (by omega) (by omega) (by omega) (by omega)]
  · rw [f5 185 (by decide), f4 185 (by decide), f3 185 (by decide) (by decide) (by decide), f2 185 (by decide), g1 j hj]
  · rw [f5 186 (by decide), f4 186 (by decide), f3 186 (by decide) (by decide) (by decide), g2 j hj, f1 186 (by decide)]
  · rw [f5 190 (by decide), g4 j hj, f3 190 (by decide) (by decide) (by decide), F2 190 (by decide) (by decide)]
  · rw [f5 187 (by decide), f4 187 (by decide), (g3 j hj).1, F2 187 (by decide) (by decide)]
  · rw [f5 188 (by decide), f4 188 (by decide), (g3 j hj).2.1, F2 188 (by decide) (by decide)]
  · rw [f5 189 (by decide), f4 189 (by decide), (g3 j hj).2.2, F2 189 (by decide) (by decide)]
  · rw [g5 j hj, F4 191 (by decide) (by decide) (by decide) (by decide) (by decide) (by decide)]
  · rw [f5 z (by omega), F4 z (by omega) (by omega) (by omega) (by omega) (by omega) (by omega)]
  · rw [f5 185 (by decide), f4 185 (by decide), f3 185 (by decide) (by decide) (by decide), f2 185 (by decide)]; exact q1
  · rw [f5 186 (by decide), f4 186 (by decide), f3 186 (by decide) (by decide) (by decide)]; exact q2
  · rw [f5 190 (by decide)]; exact q4
  · have h := h3 j j0 j6.1
    have c := c3 j j0 j6
    rw [f5 187 (by decide), f4 187 (by decide), f5 188 (by decide), f4 188 (by decide), f5 189 (by decide), f4 189 (by decide)]
    refine ⟨?_, ?_, ?_⟩
    · refine h.1.trans ?_; rw [F2 187 (by decide) (by decide)]; exact c.1
    · refine h.2.1.trans ?_; rw [F2 188 (by decide) (by decide)]; exact c.2.1
    · refine h.2.2.trans ?_; rw [F2 189 (by decide) (by decide)]; exact c.2.2
  · show I5 191 (120 * to + j) = _
    rw [h5 j j0 j1, F4 191 (by decide) (by decide) (by decide) (by decide) (by decide) (by decide)]; exact c4 j j0 j1
