/-! TELLING -/
def wnF (V : mI) (F : Int → List (Int × Int)) (S : mI) (b t n i : Int) : Int := ruF V F (twS V b t) n.toNat S 3 i
def vlP (S : mI) (n : Int) : Prop := 1 ≤ n ∧ n ≤ 30 ∧ S 0 0 + n ≤ 999
theorem wn_rg {V : mI} {F : Int → List (Int × Int)} {S : mI} {b t n i : Int} (hV : ldOK V) (hSt : stOK V S) (hn : vlP S n) (hi : 0 ≤ i ∧ i < 6) : -1 ≤ wnF V F S b t n i ∧ wnF V F S b t n i ≤ 5 := by
  obtain ⟨n1, n2, n3⟩ := hn
  have ok := (ruF_ok (F := F) (tw := twS V b t) hV n.toNat S hSt (by omega)).1.2.2.2.2.2.2 i hi.1 hi.2
  have := hV.1.2.1
  unfold wnF; omega
/-- the tally: what it was, and this taste's part -/
def tlC (I : mI) (V : mI) (F : Int → List (Int × Int)) (S : mI) (b t : Int) (B : Int → Int → Int → Int) (n l : Int) : Prop := ∀ n' i look, vlP S n' → 0 ≤ i → i < V 1 2 → 0 ≤ look → look < 7 → I 158 ((((n' - 1) * 6) + i) * 7 + look) = B n' i look + (if (n' < n ∨ (n' = n ∧ i < l)) ∧ wnF V F S b t n' i + 1 = look then 1 else 0)
theorem c_t89 {h : Nat} {V : mI} {F : Int → List (Int × Int)} {S : mI} {b t left n : Int} {B : Int → Int → Int → Int} {J : mI} {R : mR} {k11 k52 : Int → mI → mI → mR → Prop} {Q : mI → mI → mR → Prop} {I0 : mI} (hh : isLd h) (hL : ldC I0 h V) (hV : ldOK V) (hSt : stOK V S) (hn : vlP S n) (hS : stC I0 152 (ruF V F (twS V b t) n.toNat S)) (hB : ∀ n' i look, 0 ≤ B n' i look ∧ B n' i look ≤ 20)
    (kk : ∀ I' : mI, (∀ z, z ≠ 158 → I' z = I0 z) → tlC I' V F S b t B (n + 1) 0 → k52 (n + 1) I' J R) :
    ∀ (d : Nat) (l : Int) (I : mI), 0 ≤ l → l + d = V 1 2 → (∀ z, z ≠ 158 → I z = I0 z) → tlC I V F S b t B n l → p2_count_b89 h 7 b left t n J R k11 k52 Q (d + 1) l I
  | 0, l, I, h0, h1, hf, ht => by
    have hlh : h = 123 ∨ h = 132 := hh
    obtain ⟨n1, n2, n3⟩ := id hn
    show p2_count_b89_body h 7 b left t n J R k11 k52 Q (p2_count_b89 h 7 b left t n J R k11 k52 Q 0) l I
    unfold p2_count_b89_body
    rw [hf (h + 1) (by omega), hL.2.1]
    refine zt (by omega) ⟨by omega, kk I hf (fun n' i look a1 a2 a3 a4 a5 => ?_)⟩
    rw [ht n' i look a1 a2 a3 a4 a5]
    by_cases e : (n' < n ∨ (n' = n ∧ i < l)) ∧ wnF V F S b t n' i + 1 = look
    · rw [if_pos e, if_pos ⟨by omega, e.2⟩]
    · rw [if_neg e, if_neg (fun q => e ⟨by omega, q.2⟩)]
  | d + 1, l, I, h0, h1, hf, ht => by
    have hlh : h = 123 ∨ h = 132 := hh
    have nn := hV.1
    obtain ⟨n1, n2, n3⟩ := id hn
    have wr := wn_rg (F := F) (b := b) (t := t) hV hSt hn (show 0 ≤ l ∧ l < 6 by omega)
    have ew : I 155 l = wnF V F S b t n l := by rw [hf 155 (by decide)]; exact (hS.2.2.2.1 l h0 (by omega)).2.2
    have old := ht n l (wnF V F S b t n l + 1) hn h0 (by omega) (by omega) (by omega)
    rw [if_neg (fun q => by omega)] at old
    have hb := hB n l (wnF V F S b t n l + 1)
    show p2_count_b89_body h 7 b left t n J R k11 k52 Q (p2_count_b89 h 7 b left t n J R k11 k52 Q (d + 1)) l I
    unfold p2_count_b89_body p2_slotOf
    rw [hf (h + 1) (by omega), hL.2.1, ew]
    refine zf (by omega) ⟨by omega, by omega, by omega, by omega, by omega, ?_⟩
    rw [show ((((n - 1) * 6) + l) * 7) + wnF V F S b t n l + 1 = (((n - 1) * 6) + l) * 7 + (wnF V F S b t n l + 1) by omega, old]
    refine ⟨by omega, by omega, by omega, by omega, by omega,  m_putK (fun I1 q1 g1 f1 => ⟨by omega, c_t89 hh hL hV hSt hn hS hB kk d (l + 1) I1 (by omega) (by omega) (fun z hz => (f1 z hz).trans (hf z hz)) (fun n' i look a1 a2 a3 a4 a5 => ?_)⟩)⟩
    obtain ⟨v1, v2, v3⟩ := id a1
    by_cases e : (((n' - 1) * 6) + i) * 7 + look = (((n - 1) * 6) + l) * 7 + (wnF V F S b t n l + 1)
    · have e1 : n' = n := by omega
      have e2 : i = l := by omega
      have e3 : look = wnF V F S b t n l + 1 := by omega
      subst e1 e2 e3
      rw [q1, if_pos ⟨by omega, rfl⟩]; omega
    · rw [g1 _ e, ht n' i look a1 a2 a3 a4 a5]
      by_cases e1 : (n' < n ∨ (n' = n ∧ i < l)) ∧ wnF V F S b t n' i + 1 = look
      · rw [if_pos e1, if_pos ⟨by omega, e1.2⟩]
      · rw [if_neg e1, if_neg (fun q => ?_)]
        rcases q.1 with q1' | q1'
        · exact e1 ⟨Or.inl q1', q.2⟩
        · by_cases e4 : i = l
          · apply e
            rw [← q.2, q1'.1, e4]
          · exact e1 ⟨by omega, q.2⟩
def wfr (I I' : mI) : Prop := ∀ z, z ≠ 5 → z ≠ 146 → z ≠ 147 → z ≠ 148 → z ≠ 149 → ¬ (152 ≤ z ∧ z ≤ 156) → z ≠ 158 → I' z = I z
theorem wfr_t {I1 I2 I3 : mI} (h1 : wfr I1 I2) (h2 : wfr I2 I3) : wfr I1 I3 := fun z q1 q2 q3 q4 q5 q6 q7 => (h2 z q1 q2 q3 q4 q5 q6 q7).trans (h1 z q1 q2 q3 q4 q5 q6 q7)
theorem ldC_w {I I' : mI} {h : Nat} {V : mI} (hh : isLd h) (hf : wfr I I') (hL : ldC I h V) : ldC I' h V := by
  obtain ⟨l0, l1, l2, l3, l4, l5, l6, l7, l8⟩ := hL
  have hlh : h = 123 ∨ h = 132 := hh
  have hx : ∀ j, j ≤ 8 → I' (h + j) = I (h + j) := fun j hj => hf _ (by omega) (by omega) (by omega) (by omega) (by omega) (by omega) (by omega)
  exact ⟨(hx 0 (by omega)).trans l0, (hx 1 (by omega)).trans l1, (hx 2 (by omega)).trans l2, (hx 3 (by omega)).trans l3, (hx 4 (by omega)).trans l4, (hx 5 (by omega)).trans l5, (hx 6 (by omega)).trans l6, (hx 7 (by omega)).trans l7, (hx 8 (by omega)).trans l8⟩
theorem stC7_w {I I' S : mI} (hf : wfr I I') (hS : stC I 7 S) : stC I' 7 S := stC_of (fun j hj => hf _ (by omega) (by omega) (by omega) (by omega) (by omega) (by omega) (by omega)) hS
theorem c_t52 {h : Nat} {V : mI} {F : Int → List (Int × Int)} {S : mI} {b t left : Int} {B : Int → Int → Int → Int} {k11 : Int → mI → mI → mR → Prop} {Q : mI → mI → mR → Prop} (hh : isLd h) (hV : ldOK V) (hF : foOK V F) (hSt : stOK V S) (ht9 : 0 ≤ t ∧ t ≤ 9) (hB : ∀ n' i look, 0 ≤ B n' i look ∧ B n' i look ≤ 20) :
    ∀ (d : Nat) (n : Int) (I J : mI) (R : mR), 1 ≤ n → n + d = 31 → S 0 0 + n ≤ 1000 → ldC I h V → twC I V (twS V b t) → stC I 7 S → stC I 152 (ruF V F (twS V b t) (n - 1).toNat S) → tlC I V F S b t B n 0 →
    (∀ (I' J' : mI) (R' : mR), wfr I I' → jfr 6 J J' → rfr R R' → (∀ n' i look, vlP S n' → 0 ≤ i → i < V 1 2 → 0 ≤ look → look < 7 → I' 158 ((((n' - 1) * 6) + i) * 7 + look) = B n' i look + (if wnF V F S b t n' i + 1 = look then 1 else 0)) → k11 (t + 1) I' J' R') → p2_count_b52 h 7 b left t k11 Q (d + 1) n I J R
  | 0, n, I, J, R, h0, h1, hy, hL, hT, hS7, hS, ht, kk => by
    show p2_count_b52_body h 7 b left t k11 Q (p2_count_b52 h 7 b left t k11 Q 0) n I J R
    unfold p2_count_b52_body
    refine zt (by omega) ⟨by omega, kk I J R (fun _ _ _ _ _ _ _ _ => rfl) (jfr_r _ _) (rfr_r _) (fun n' i look a1 a2 a3 a4 a5 => ?_)⟩
    obtain ⟨v1, v2, v3⟩ := id a1
    rw [ht n' i look a1 a2 a3 a4 a5]
    by_cases e : wnF V F S b t n' i + 1 = look
    · rw [if_pos e, if_pos ⟨by omega, e⟩]
    · rw [if_neg e, if_neg (fun q => e q.2)]
  | d + 1, n, I, J, R, h0, h1, hy, hL, hT, hS7, hS, ht, kk => by
    have nn := hV.1
    show p2_count_b52_body h 7 b left t k11 Q (p2_count_b52 h 7 b left t k11 Q (d + 1)) n I J R
    unfold p2_count_b52_body
    rw [hS7.1]
    have s1 := hSt.1
    refine zf (by omega) ⟨by omega, zs (fun e => ⟨by omega, kk I J R (fun _ _ _ _ _ _ _ _ => rfl) (jfr_r _ _) (rfr_r _) (fun n' i look a1 a2 a3 a4 a5 => ?_)⟩) (fun e => ?_)⟩
    · obtain ⟨v1, v2, v3⟩ := id a1
      rw [ht n' i look a1 a2 a3 a4 a5]
      by_cases e2 : wnF V F S b t n' i + 1 = look
      · rw [if_pos e2, if_pos ⟨by omega, e2⟩]
      · rw [if_neg e2, if_neg (fun q => e2 q.2)]
    · have ok := ruF_ok (F := F) (tw := twS V b t) hV (n - 1).toNat S hSt (by omega)
      refine c_pass hh isSt_152 hL hS hT ⟨hV, hF, ok.1, twS_rg hV ht9⟩ (by omega) (fun I1 J1 R1 pf jf rf hS1 => ⟨(V 1 2).toNat + 1, ?_⟩)
      rw [← ruF_snoc, show (n - 1).toNat + 1 = n.toNat by omega] at hS1
      have w1 : wfr I I1 := fun z z5 z6 z7 z8 z9 za _ => pf.1 z z5 z6 z7 z8 z9 (by omega)
      have hL1 := ldC_w hh w1 hL
      refine c_t89 hh hL1 hV hSt ⟨h0, by omega, by omega⟩ hS1 hB (fun I2 f2 t2 => ?_) _ 0 I1 (by omega) (by omega) (fun _ _ => rfl) (fun n' i look a1 a2 a3 a4 a5 => by rw [pf.1 158 (by decide) (by decide) (by decide) (by decide) (by decide) (by decide)]; exact ht n' i look a1 a2 a3 a4 a5)
      have w2 : wfr I1 I2 := fun z _ _ _ _ _ _ z8 => f2 z z8
      have w12 := wfr_t w1 w2
      refine c_t52 hh hV hF hSt ht9 hB d (n + 1) I2 J1 R1 (by omega) (by omega) (by omega) (ldC_w hh w12 hL) (by unfold twC; rw [f2 146 (by decide)]; exact twC_p pf hT) (stC7_w w12 hS7) ?_ t2 (fun I3 J3 R3 w3 j3 r3 t3 => kk I3 J3 R3 (wfr_t w12 w3) (jfr_t jf j3) (rfr_t rf r3) t3)
      rw [show n + 1 - 1 = n by omega]
      exact stC_of (fun j hj => f2 _ (by omega)) hS1
def inT (V : mI) (F : Int → List (Int × Int)) (S : mI) (b left n i look t : Int) : Int := if has1 left t = 1 ∧ wnF V F S b t n i + 1 = look then 1 else 0
theorem inT_rg (V : mI) (F : Int → List (Int × Int)) (S : mI) (b left n i look t : Int) : 0 ≤ inT V F S b left n i look t ∧ inT V F S b left n i look t ≤ 1 := by unfold inT; split <;> omega
theorem c_t11 {h : Nat} {V : mI} {F : Int → List (Int × Int)} {S : mI} {b left : Int} {Q : mI → mI → mR → Prop} (hh : isLd h) (hV : ldOK V) (hF : foOK V F) (hSt : stOK V S) (hy : S 0 0 < 999) :
    ∀ (d : Nat) (t : Int) (I J : mI) (R : mR), 0 ≤ t → t + d = 10 → ldC I h V → stC I 7 S → (∀ n' i look, vlP S n' → 0 ≤ i → i < V 1 2 → 0 ≤ look → look < 7 → I 158 ((((n' - 1) * 6) + i) * 7 + look) = smR (inT V F S b left n' i look) t.toNat 0) →
    (∀ (I' J' : mI) (R' : mR), wfr I I' → I' 146 8 = -1 → jfr 6 J J' → rfr R R' → (∀ n' i look, vlP S n' → 0 ≤ i → i < V 1 2 → 0 ≤ look → look < 7 → I' 158 ((((n' - 1) * 6) + i) * 7 + look) = smR (inT V F S b left n' i look) 10 0) → Q I' J' R') → p2_count_b11 h 7 b left Q (d + 1) t I J R
  | 0, t, I, J, R, h0, h1, hL, hS7, ht, kk => by
    show p2_count_b11_body h 7 b left Q (p2_count_b11 h 7 b left Q 0) t I J R
    unfold p2_count_b11_body p1_suppose
    refine zt (by omega) (m_putK (fun I1 q1 g1 f1 => m_putK (fun I2 q2 g2 f2 => kk I2 J R (fun z _ z6 _ _ _ _ _ => (f2 z z6).trans (f1 z z6)) (by rw [g2 8 (by decide)]; exact q1) (jfr_r _ _) (rfr_r _) (fun n' i look a1 a2 a3 a4 a5 => ?_))))
    rw [f2 158 (by decide), f1 158 (by decide), ht n' i look a1 a2 a3 a4 a5, show t.toNat = 10 by omega]
  | d + 1, t, I, J, R, h0, h1, hL, hS7, ht, kk => by
    have s2 := hSt.2.2.1
    have sn : ∀ n' i look, smR (inT V F S b left n' i look) (t + 1).toNat 0 = smR (inT V F S b left n' i look) t.toNat 0 + inT V F S b left n' i look t := fun n' i look => by
      rw [show (t + 1).toNat = t.toNat + 1 by omega, smR_snoc, show (0 : Int) + (t.toNat : Int) = t by omega]
    show p2_count_b11_body h 7 b left Q (p2_count_b11 h 7 b left Q (d + 1)) t I J R
    unfold p2_count_b11_body p1_suppose
    refine zf (by omega) ?_
    by_cases e : has1 left t = 0
    · refine zt e ⟨by omega, c_t11 hh hV hF hSt hy d (t + 1) I J R (by omega) (by omega) hL hS7 (fun n' i look a1 a2 a3 a4 a5 => ?_) kk⟩
      rw [ht n' i look a1 a2 a3 a4 a5, sn]
      unfold inT
      rw [if_neg (fun q => by omega), Int.add_zero]
    · have e1 : has1 left t = 1 := (has1_01 left t).resolve_left e
      refine zf e (m_putK (fun I1 q1 g1 f1 => m_putK (fun I2 q2 g2 f2 => ?_)))
      have F2 : ∀ z, z ≠ 146 → I2 z = I z := fun z hz => (f2 z hz).trans (f1 z hz)
      refine c_take (by omega) (stC_of (fun j hj => F2 _ (by omega)) hS7) s2.2 (fun I3 f3 hS3 => ⟨31, ?_⟩)
      have w3 : wfr I I3 := fun z _ z6 _ _ _ za _ => by rw [f3 z (by omega), F2 z z6]
      have e8 : I3 146 8 = b := by rw [f3 146 (by omega), g2 8 (by decide)]; exact q1
      have e9 : I3 146 9 = t := by rw [f3 146 (by omega)]; exact q2
      have hT3 : twC I3 V (twS V b t) := fun x x0 x1 => by
        rw [e8, e9]
        unfold twS tw0
        by_cases ex : x = b
        · rw [if_pos ex, if_pos ex]
        · rw [if_neg ex, if_neg ex, if_pos ⟨x0, x1⟩]
      refine c_t52 (B := fun n' i look => smR (inT V F S b left n' i look) t.toNat 0) hh hV hF hSt ⟨h0, by omega⟩ (fun n' i look => by have := smR_rg (m := 1) (inT_rg V F S b left n' i look) t.toNat 0; omega) 30 1 I3 J R (by omega) (by omega) (by omega) (ldC_w hh w3 hL) hT3 (stC7_w w3 hS7) hS3 (fun n' i look a1 a2 a3 a4 a5 => ?_) (fun I4 J4 R4 w4 j4 r4 t4 => ?_)
      · obtain ⟨v1, v2, v3⟩ := id a1
        rw [if_neg (fun q => by omega), f3 158 (by omega), F2 158 (by decide), Int.add_zero]
        exact ht n' i look a1 a2 a3 a4 a5
      · refine c_t11 hh hV hF hSt hy d (t + 1) I4 J4 R4 (by omega) (by omega) (ldC_w hh (wfr_t w3 w4) hL) (stC7_w (wfr_t w3 w4) hS7) (fun n' i look a1 a2 a3 a4 a5 => ?_) (fun I5 J5 R5 w5 g5 j5 r5 t5 => kk I5 J5 R5 (wfr_t w3 (wfr_t w4 w5)) g5 (jfr_t j4 j5) (rfr_t r4 r5) t5)
        rw [t4 n' i look a1 a2 a3 a4 a5, sn]
        unfold inT
        by_cases ew : wnF V F S b t n' i + 1 = look
        · rw [if_pos ew, if_pos ⟨e1, ew⟩]
        · rw [if_neg ew, if_neg (fun q => ew q.2)]
/-- the greatest of some numbers, and of what was -/
def mxR (f : Int → Int) : Nat → Int → Int → Int
  | 0, acc, _ => acc
  | d + 1, acc, k => if f k ≤ acc then mxR f d acc (k + 1) else mxR f d (f k) (k + 1)
theorem mxR_spec {f : Int → Int} : ∀ (d : Nat) (acc k : Int), acc ≤ mxR f d acc k ∧ (∀ j, k ≤ j → j < k + d → f j ≤ mxR f d acc k) ∧ (mxR f d acc k = acc ∨ ∃ j, k ≤ j ∧ j < k + d ∧ mxR f d acc k = f j)
  | 0, acc, k => ⟨Int.le_refl _, fun j a b => by omega, Or.inl rfl⟩
  | d + 1, acc, k => by
    unfold mxR
    by_cases e : f k ≤ acc
    · rw [if_pos e]
      obtain ⟨i1, i2, i3⟩ := mxR_spec (f := f) d acc (k + 1)
      refine ⟨i1, fun j a b => ?_, ?_⟩
      · by_cases ej : j = k
        · rw [ej]; omega
        · exact i2 j (by omega) (by omega)
      · rcases i3 with q | ⟨j, a, b, c⟩
        · exact Or.inl q
        · exact Or.inr ⟨j, by omega, by omega, c⟩
    · rw [if_neg e]
      obtain ⟨i1, i2, i3⟩ := mxR_spec (f := f) d (f k) (k + 1)
      refine ⟨by omega, fun j a b => ?_, ?_⟩
      · by_cases ej : j = k
        · rw [ej]; exact i1
        · exact i2 j (by omega) (by omega)
      · rcases i3 with q | ⟨j, a, b, c⟩
        · exact Or.inr ⟨k, by omega, by omega, q⟩
        · exact Or.inr ⟨j, by omega, by omega, c⟩
theorem smR_pos {f : Int → Int} : ∀ (d : Nat) (k : Int), 0 < smR f d k → ∃ j, k ≤ j ∧ j < k + d ∧ 0 < f j
  | 0, k, h => absurd h (by show ¬ (0 : Int) < 0; decide)
  | d + 1, k, h => by
    have h' : 0 < f k + smR f d (k + 1) := h
    by_cases e : 0 < f k
    · exact ⟨k, by omega, by omega, e⟩
    · obtain ⟨j, a, b, c⟩ := smR_pos (f := f) d (k + 1) (by omega)
      exact ⟨j, by omega, by omega, c⟩
def c2F (V : mI) (F : Int → List (Int × Int)) (S : mI) (b left n i a : Int) : Int := if has1 left a = 1 then smR (fun t => if has1 left t = 1 ∧ wnF V F S b a n i = wnF V F S b t n i then 1 else 0) 10 0 else 0
def msF (V : mI) (F : Int → List (Int × Int)) (S : mI) (b left n i : Int) : Int := mxR (c2F V F S b left n i) 10 0 0
theorem ms_eq {V : mI} {F : Int → List (Int × Int)} {S : mI} {b left n i : Int} (hV : ldOK V) (hSt : stOK V S) (hn : vlP S n) (hi : 0 ≤ i ∧ i < 6) : mxR (fun look => smR (inT V F S b left n i look) 10 0) 7 0 0 = msF V F S b left n i := by
  have s1 := mxR_spec (f := fun look => smR (inT V F S b left n i look) 10 0) 7 0 0
  have s2 := mxR_spec (f := c2F V F S b left n i) 10 0 0
  have link : ∀ a, has1 left a = 1 → c2F V F S b left n i a = smR (inT V F S b left n i (wnF V F S b a n i + 1)) 10 0 := fun a ha => by
    unfold c2F
    rw [if_pos ha]
    refine smR_congr 10 0 (fun t _ _ => ?_)
    unfold inT
    by_cases e : has1 left t = 1 ∧ wnF V F S b a n i = wnF V F S b t n i
    · rw [if_pos e, if_pos ⟨e.1, by omega⟩]
    · rw [if_neg e, if_neg (fun q => e ⟨q.1, by omega⟩)]
  unfold msF
  apply Int.le_antisymm
  · rcases s1.2.2 with q | ⟨look, a0, a1, q⟩
    · rw [q]; exact s2.1
    · by_cases z : 0 < smR (inT V F S b left n i look) 10 0
      · obtain ⟨t, t0, t1, t2⟩ := smR_pos 10 0 z
        unfold inT at t2
        by_cases e : has1 left t = 1 ∧ wnF V F S b t n i + 1 = look
        · have l := link t e.1
          have m := s2.2.1 t t0 t1
          rw [q]
          show smR (inT V F S b left n i look) 10 0 ≤ _
          rw [← e.2, ← l]; exact m
        · rw [if_neg e] at t2; omega
      · have q' : mxR (fun look => smR (inT V F S b left n i look) 10 0) 7 0 0 = smR (inT V F S b left n i look) 10 0 := q
        have := s2.1
        omega
  · rcases s2.2.2 with q | ⟨a, a0, a1, q⟩
    · rw [q]; exact s1.1
    · by_cases e : has1 left a = 1
      · have w := wn_rg (F := F) (b := b) (t := a) hV hSt hn hi
        rw [q, link a e]
        exact s1.2.1 (wnF V F S b a n i + 1) (by omega) (by omega)
      · rw [q]
        unfold c2F
        rw [if_neg e]; exact s1.1
theorem ms_rg (V : mI) (F : Int → List (Int × Int)) (S : mI) (b left n i : Int) : 0 ≤ msF V F S b left n i ∧ msF V F S b left n i ≤ 10 := by
  have s2 := mxR_spec (f := c2F V F S b left n i) 10 0 0
  refine ⟨s2.1, ?_⟩
  unfold msF
  rcases s2.2.2 with q | ⟨a, a0, a1, q⟩
  · omega
  · rw [q]
    unfold c2F
    split
    · have := smR_rg (m := 1) (f := fun t => if has1 left t = 1 ∧ wnF V F S b a n i = wnF V F S b t n i then 1 else 0) (fun j => by show 0 ≤ (if _ then (1 : Int) else 0) ∧ (if _ then (1 : Int) else 0) ≤ 1; split <;> omega) 10 0
      omega
    · omega
/-- the search: years, things -/
def teS (ms : Int → Int → Int) (n i : Int) (s : Int × Int × Int) : Int × Int × Int := if s.2.2 = -1 then (n, i, ms n i) else if s.2.2 ≤ ms n i then s else (n, i, ms n i)
def teI (ms : Int → Int → Int) (n : Int) : Nat → Int → Int × Int × Int → Int × Int × Int
  | 0, _, s => s
  | d + 1, i, s => teI ms n d (i + 1) (teS ms n i s)
def teN (ms : Int → Int → Int) (nt : Int) : Nat → Int → Int × Int × Int → Int × Int × Int
  | 0, _, s => s
  | d + 1, n, s => teN ms nt d (n + 1) (teI ms n nt.toNat 0 s)
