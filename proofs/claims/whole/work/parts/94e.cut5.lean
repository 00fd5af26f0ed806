/-! THE READERS: the class cuts its tape -/
theorem c_isBl {b : Int} {Q : Int → Prop} (k1 : b = 32 ∨ b = 10 → Q 1) (k0 : ¬ (b = 32 ∨ b = 10) → Q 0) : p10_isBlank b Q := by
  unfold p10_isBlank
  exact zs (fun e => k1 (Or.inl e)) (fun e => zs (fun e2 => k1 (Or.inr e2)) (fun e2 => k0 (fun q => q.elim e e2)))
theorem c_skGo {I0 : mI} {n : Int} {tb : Int → Int} {l2 l3 l4 : Int} {k19 : Int → Int → mI → Prop} {Q : mI → Prop} (ht : tpC I0 n tb) :
    ∀ (d : Nat) (p : Int) (I : mI), f4r I0 I → I 142 4 = p → 0 ≤ p → n ≤ p + d → (∀ I', f4r I0 I' → I' 142 4 = skF tb n d p → p10_cut_b81 l2 l3 l4 I' k19 Q) → p10_cut_b43 l2 l3 l4 k19 Q (d + 1) I
  | 0, p, I, hf, hp, h0, hn, kk => by
    have htI := tpC_4 hf ht
    show p10_cut_b43_body l2 l3 l4 k19 Q (p10_cut_b43 l2 l3 l4 k19 Q 0) I
    unfold p10_cut_b43_body
    rw [htI.1, hp]
    exact zt (by omega) (kk I hf hp)
  | d + 1, p, I, hf, hp, h0, hn, kk => by
    have htI := tpC_4 hf ht
    have hn2 := ht.2.1
    show p10_cut_b43_body l2 l3 l4 k19 Q (p10_cut_b43 l2 l3 l4 k19 Q (d + 1)) I
    unfold p10_cut_b43_body
    rw [htI.1, hp]
    unfold skF at kk
    refine zs (fun e => ?_) (fun e => ?_)
    · rw [if_pos e] at kk; exact kk I hf hp
    · rw [if_neg e] at kk
      refine c_at htI h0 (fun a => absurd a e) (fun a => c_isBl (fun q => zf (by decide) ⟨by omega, m_putK (fun I1 q1 g1 f1 => ?_)⟩) (fun q => zt rfl ?_))
      · rw [if_pos q] at kk
        exact c_skGo ht d (p + 1) I1 ⟨fun z hz => (f1 z hz).trans (hf.1 z hz), fun j hj => (g1 j hj).trans (hf.2 j hj)⟩ q1 (by omega) (by omega) kk
      · rw [if_neg q] at kk
        exact kk I hf hp
/-- the tokens up to i are kept -/
def ctK (tb : Int → Int) (n : Int) (I0 I : mI) (i : Nat) : Prop := (∀ z, z ≠ 142 → z ≠ 143 → z ≠ 144 → z ≠ 145 → I z = I0 z) ∧ (∀ j, j ≠ 3 → j ≠ 4 → I 142 j = I0 142 j) ∧ I 142 3 = (i : Int) ∧ I 142 4 = eN tb n i ∧
  ∀ j : Nat, j < i → I 143 j = kN1 tb n j ∧ I 144 j = tVl tb n (pN tb n j) ∧ I 145 j = tPl tb n (pN tb n j)
theorem ctK_s {tb : Int → Int} {n : Int} {I0 I I' : mI} {i : Nat} (h : ctK tb n I0 I i) (ht : tkF I I' i (kN1 tb n i) (tVl tb n (pN tb n i)) (tPl tb n (pN tb n i)) (eN tb n (i + 1))) : ctK tb n I0 I' (i + 1) := by
  obtain ⟨h1, h2, h3, h4, h5⟩ := h
  obtain ⟨t1, t2, t3, t4, ⟨t5, t6, t7⟩, t8⟩ := ht
  refine ⟨fun z a b c d => (t1 z a b c d).trans (h1 z a b c d), fun j a b => (t2 j a b).trans (h2 j a b), by rw [t3]; omega, t4, fun j hj => ?_⟩
  by_cases e : j = i
  · subst e; exact ⟨t5, t6, t7⟩
  · have x := t8 j (by omega)
    rw [x.1, x.2.1, x.2.2]
    exact h5 j (by omega)
theorem skP_rg {tb : Int → Int} {n p : Int} (h0 : 0 ≤ p) (hn : n ≤ 1600) (h1 : p ≤ n) : p ≤ skP tb n p ∧ skP tb n p ≤ n := by
  have s := skF_rg (tb := tb) (n := n) 1601 p
  exact ⟨s.1, s.2 h1⟩
theorem eN_rg {tb : Int → Int} {n : Int} (h0 : 0 ≤ n) (hn : n ≤ 1600) : ∀ i : Nat, (∀ j : Nat, j < i → kN1 tb n j ≠ 0 ∧ kN1 tb n j ≠ 5) → (i : Int) ≤ eN tb n i ∧ eN tb n i ≤ n
  | 0, _ => ⟨Int.le_refl 0, h0⟩
  | i + 1, h => by
    have ih := eN_rg h0 hn i (fun j hj => h j (by omega))
    have s := skP_rg (tb := tb) (n := n) (p := eN tb n i) (by omega) hn ih.2
    have t := tEn_rg (tb := tb) (n := n) (p := pN tb n i) (by unfold pN; omega) hn s.2
    have k := h i (by omega)
    have u := (t.2 k.1 k.2).1
    have e : eN tb n (i + 1) = tEn tb n (pN tb n i) := rfl
    have e2 : pN tb n i = skP tb n (eN tb n i) := rfl
    rw [e]
    refine ⟨by omega, t.1.2⟩
theorem pN_rg {tb : Int → Int} {n : Int} (h0 : 0 ≤ n) (hn : n ≤ 1600) {i : Nat} (h : ∀ j : Nat, j < i → kN1 tb n j ≠ 0 ∧ kN1 tb n j ≠ 5) : (i : Int) ≤ pN tb n i ∧ eN tb n i ≤ pN tb n i ∧ pN tb n i ≤ n := by
  have e := eN_rg h0 hn i h
  have s := skP_rg (tb := tb) (n := n) (p := eN tb n i) (by omega) hn e.2
  have e2 : pN tb n i = skP tb n (eN tb n i) := rfl
  omega
/-- what stands ahead of a token -/
theorem tch_iff {tb : Int → Int} {n : Int} (h0 : 0 ≤ n) (hn : n ≤ 1600) (hb : ∀ j, 0 ≤ j → j < n → 0 ≤ tb j ∧ tb j ≤ 255) {i : Nat} (h : ∀ j : Nat, j < i → kN1 tb n j ≠ 0 ∧ kN1 tb n j ≠ 5) : tch tb (pN tb n i) ↔ (pN tb n i = eN tb n i ∧ 0 < i ∧ kN1 tb n (i - 1) ≠ 4) := by
  have p := pN_rg h0 hn h
  have e := eN_rg h0 hn i h
  have bl : pN tb n i ≠ eN tb n i → ¬ alB (tb (pN tb n i - 1)) := fun q a => by
    have x := skF_bl (tb := tb) (n := n) 1601 (eN tb n i) (pN tb n i - 1) (by omega) (by show pN tb n i - 1 < pN tb n i; omega)
    unfold alB at a
    omega
  rcases Nat.eq_zero_or_pos i with rfl | hi
  · refine ⟨fun q => ?_, fun q => absurd q.2.1 (by omega)⟩
    by_cases e2 : pN tb n 0 = eN tb n 0
    · have e3 : eN tb n 0 = 0 := rfl
      unfold tch at q
      omega
    · exact absurd q.2 (bl e2)
  · obtain ⟨k, rfl⟩ : ∃ k, i = k + 1 := ⟨i - 1, by omega⟩
    have hk := h k (by omega)
    have pk := pN_rg h0 hn (i := k) (fun j hj => h j (by omega))
    have t := (tEn_rg (tb := tb) (n := n) (p := pN tb n k) (by omega) hn pk.2.2).2 hk.1 hk.2
    have ee : eN tb n (k + 1) = tEn tb n (pN tb n k) := rfl
    rw [← ee] at t
    have e5 : k + 1 - 1 = k := by omega
    rw [e5]
    refine ⟨fun q => ?_, fun q => ⟨by omega, ?_⟩⟩
    · by_cases e2 : pN tb n (k + 1) = eN tb n (k + 1)
      · refine ⟨e2, by omega, fun q4 => ?_⟩
        have x := t.2.1 q4
        have y := hb (pN tb n k) (by omega) (by omega)
        have z := (sg_al y.1 y.2).2
        have e6 : pN tb n (k + 1) - 1 = pN tb n k := by omega
        have q2 := q.2
        rw [e6] at q2
        exact absurd (z q2) (by omega)
      · exact absurd q.2 (bl e2)
    · rw [q.1]; exact t.2.2 q.2.2
/-- the cut is done: m is the last token -/
def ctD (tb : Int → Int) (n : Int) (m : Nat) : Prop := m ≤ 1600 ∧ (∀ j : Nat, j < m → kN1 tb n j ≠ 0 ∧ kN1 tb n j ≠ 5) ∧ (kN1 tb n m = 0 ∨ kN1 tb n m = 5)
theorem c_cutGo {I0 : mI} {n : Int} {tb : Int → Int} {Q : mI → Prop} (ht : tpC I0 n tb) (kk : ∀ (m : Nat) (I' : mI), ctD tb n m → ctK tb n I0 I' (m + 1) → Q I') :
    ∀ (f i : Nat) (I : mI) (l2 : Int), f + i = 1602 → ctK tb n I0 I i → (∀ j : Nat, j + 1 < i → kN1 tb n j ≠ 0 ∧ kN1 tb n j ≠ 5) → l2 = (if i = 0 then 4 else kN1 tb n (i - 1)) → p10_cut_b19 Q (f + 1) l2 i I := by
  have hn := ht.2.1
  have hb : ∀ j, 0 ≤ j → j < n → 0 ≤ tb j ∧ tb j ≤ 255 := fun j a b => (ht.2.2 j a b).2
  intro f
  induction f with
  | zero =>
    intro i I l2 hf hc hj hl
    obtain ⟨k, rfl⟩ : ∃ k, i = k + 1 := ⟨i - 1, by omega⟩
    -- never reached: as many tokens as bytes and two more
    exfalso
    obtain ⟨k2, rfl⟩ : ∃ k2, k = k2 + 1 := ⟨k - 1, by omega⟩
    have e := eN_rg hn.1 hn.2 (k2 + 1) (fun j q => hj j (by omega))
    omega
  | succ f ih =>
    intro i I l2 hf hc hj hl
    have end' : i ≠ 0 → (kN1 tb n (i - 1) = 0 ∨ kN1 tb n (i - 1) = 5) → Q I := fun q a => by
      obtain ⟨k, rfl⟩ : ∃ k, i = k + 1 := ⟨i - 1, by omega⟩
      have e5 : k + 1 - 1 = k := by omega
      rw [e5] at a
      have e := eN_rg hn.1 hn.2 k (fun j q => hj j (by omega))
      exact kk k I ⟨by omega, fun j q => hj j (by omega), a⟩ hc
    show p10_cut_b19_body Q (p10_cut_b19 Q (f + 1)) l2 i I
    unfold p10_cut_b19_body
    have hcase : (i ≠ 0 ∧ (kN1 tb n (i - 1) = 0 ∨ kN1 tb n (i - 1) = 5)) ∨ (∀ j : Nat, j < i → kN1 tb n j ≠ 0 ∧ kN1 tb n j ≠ 5) := by
      rcases Nat.eq_zero_or_pos i with rfl | hi
      · exact Or.inr (fun j q => absurd q (by omega))
      · by_cases a : kN1 tb n (i - 1) = 0 ∨ kN1 tb n (i - 1) = 5
        · exact Or.inl ⟨by omega, a⟩
        · refine Or.inr (fun j q => ?_)
          by_cases e : j = i - 1
          · rw [e]; exact ⟨fun x => a (Or.inl x), fun x => a (Or.inr x)⟩
          · exact hj j (by omega)
    rcases hcase with ⟨a, b⟩ | hall
    · rw [if_neg a] at hl
      refine zs (fun _ => end' a b) (fun _ => zs (fun _ => end' a b) (fun q5 => zs (fun _ => end' a b) (fun q0 => ?_)))
      rw [hl] at q5 q0
      exact absurd b (fun x => x.elim q0 q5)
    · have e := eN_rg hn.1 hn.2 i hall
      have p := pN_rg hn.1 hn.2 hall
      have tc := tch_iff hn.1 hn.2 hb hall
      have l2n : l2 ≠ 5 ∧ l2 ≠ 0 := by
        by_cases z : i = 0
        · rw [if_pos z] at hl; omega
        · rw [if_neg z] at hl
          have := hall (i - 1) (by omega)
          omega
      refine zf (by omega) (zf l2n.1 (zf l2n.2 ⟨1602, ?_⟩))
      obtain ⟨c1, c2, c3, c4, c5⟩ := hc
      have htI : tpC I n tb := by
        unfold tpC; rw [c1 2 (by decide) (by decide) (by decide) (by decide), c1 3 (by decide) (by decide) (by decide) (by decide)]; exact ht
      rw [c4]
      refine c_skGo htI 1601 (eN tb n i) I ⟨fun _ _ => rfl, fun _ _ => rfl⟩ c4 (by omega) (by omega) (fun I1 hf1 hp1 => ?_)
      have htI1 := tpC_4 hf1 htI
      have hp1' : I1 142 4 = pN tb n i := hp1
      have hc1 : I1 142 3 = (i : Int) := (hf1.2 3 (by decide)).trans c3
      have nx : ∀ fl : Int, fl = (if tch tb (pN tb n i) then 1 else 0) → p10_cut_b100 (i : Int) fl I1 (p10_cut_b19 Q (f + 1)) Q := fun fl hfl => by
        unfold p10_cut_b100
        refine c_cutOne htI1 hc1 (by omega) hp1' (by omega) hfl (fun I2 h2 => ⟨by omega, ?_⟩)
        have hc2 : ctK tb n I0 I1 i → ctK tb n I0 I2 (i + 1) := fun x => ctK_s x h2
        have i2 := ih (i + 1) I2 (tKd tb n (pN tb n i)) (by omega) ?_ (fun j q => hall j (by omega)) ?_
        · rw [show ((i + 1 : Nat) : Int) = (i : Int) + 1 by omega] at i2
          exact i2
        · have h2' : tkF I I2 i (kN1 tb n i) (tVl tb n (pN tb n i)) (tPl tb n (pN tb n i)) (eN tb n (i + 1)) := by
            obtain ⟨t1, t2, t3, t4, t5, t8⟩ := h2
            refine ⟨fun z a b c d => (t1 z a b c d).trans (hf1.1 z a), fun j a b => (t2 j a b).trans (hf1.2 j b), t3, t4, t5, fun j hj => ?_⟩
            have x := t8 j hj
            rw [hf1.1 143 (by decide), hf1.1 144 (by decide), hf1.1 145 (by decide)] at x
            exact x
          exact ctK_s ⟨c1, c2, c3, c4, c5⟩ h2'
        · rw [if_neg (by omega), show i + 1 - 1 = i by omega]; rfl
      unfold p10_cut_b81
      rw [hp1']
      have n0 : ∀ {x : Prop}, ¬ x → (0 : Int) = (if tch tb (pN tb n i) then 1 else 0) ∨ tch tb (pN tb n i) := fun _ => by
        by_cases t : tch tb (pN tb n i)
        · exact Or.inr t
        · rw [if_neg t]; exact Or.inl rfl
      refine zs (fun a => zs (fun b => ?_) (fun b => ?_)) (fun a => ?_)
      · unfold p10_cut_b99
        refine nx 0 ?_
        rw [if_neg (fun t => ?_)]
        have u := tc.mp t
        rw [if_neg (by omega)] at hl
        omega
      · refine nx 1 ?_
        rw [if_pos]
        have i0 : i ≠ 0 := fun z => by rw [if_pos z] at hl; exact b hl
        rw [if_neg i0] at hl
        exact tc.mpr ⟨a, by omega, by omega⟩
      · unfold p10_cut_b99
        refine nx 0 ?_
        rw [if_neg (fun t => a (tc.mp t).1)]
theorem c_cut {I : mI} {n : Int} {tb : Int → Int} {Q : mI → Prop} (ht : tpC I n tb) (kk : ∀ (m : Nat) (I' : mI), ctD tb n m → (∀ z, z ≠ 142 → z ≠ 143 → z ≠ 144 → z ≠ 145 → I' z = I z) → I' 142 5 = 0 → I' 142 3 = (m : Int) + 1 → (∀ j : Nat, j ≤ m → I' 143 j = kN1 tb n j ∧ I' 144 j = tVl tb n (pN tb n j) ∧ I' 145 j = tPl tb n (pN tb n j)) → Q I') : p10_cut I Q := by
  unfold p10_cut
  refine m_putK (fun I1 q1 g1 f1 => m_putK (fun I2 q2 g2 f2 => m_putK (fun I3 q3 g3 f3 => ⟨1603, ?_⟩)))
  have e : ∀ z, z ≠ 142 → I3 z = I z := fun z hz => (f3 z hz).trans ((f2 z hz).trans (f1 z hz))
  have ht3 : tpC I3 n tb := by unfold tpC; rw [e 2 (by decide), e 3 (by decide)]; exact ht
  refine c_cutGo (I0 := I3) ht3 (fun m I' hd hk => ?_) 1602 0 I3 4 (by omega) ⟨fun _ _ _ _ _ => rfl, fun _ _ _ => rfl, ?_, q3, fun j hj => absurd hj (by omega)⟩ (fun j hj => absurd hj (by omega)) rfl
  · obtain ⟨k1, k2, k3, k4, k5⟩ := hk
    refine kk m I' hd (fun z a b c d => (k1 z a b c d).trans (e z a)) ?_ (by rw [k3]; omega) (fun j hj => k5 j (by omega))
    rw [k2 5 (by decide) (by decide), g3 5 (by decide), g2 5 (by decide)]; exact q1
  · rw [g3 3 (by decide)]; exact q2
