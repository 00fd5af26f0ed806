/-! WHAT HOLDS BETWEEN THE CALLS -/
def tw0 (V : mI) (b : Int) : Int := if 0 ≤ b ∧ b < V 1 0 then tr V 0 b 0 else 0
theorem tw0_rg {V : mI} (hV : ldOK V) (b : Int) : 0 ≤ tw0 V b ∧ tw0 V b ≤ 9 := by
  unfold tw0
  by_cases e : 0 ≤ b ∧ b < V 1 0
  · rw [if_pos e]; exact hV.2.1 0 b 0 (by omega) (by omega) e.1 e.2 (by omega) (by omega)
  · rw [if_neg e]; omega
def naP (m : Int) : List Int → Int
  | [] => 0
  | x :: r => naP m r * m + x
/-- a name: its letters, the last one first -/
def naR (p q : Int) : Prop := ∃ ls : List Int, ls.length ≤ 6 ∧ ls ≠ [] ∧ (∀ x ∈ ls, 1 ≤ x ∧ x ≤ 26) ∧ p = naP 27 ls ∧ q = naP 256 (ls.map (· + 96))
def iNam (V J : mI) (bk : Int) : Prop := ∀ kd w, 0 ≤ kd → kd < 3 → 0 ≤ w → w < V 1 kd → naR (V 2 (kd * 6 + w)) (J 177 (18 * bk + 6 * kd + w))
def nrOK (V : mI) : Prop := ∀ a b, 0 ≤ a → a < V 1 2 → 0 ≤ b → b < V 1 2 → has1 (V 4 a) b = has1 (V 4 b) a
def iTap (I : mI) : Prop := I 159 1 = I 2 1 ∧ 0 ≤ I 2 1 ∧ I 2 1 ≤ 1600 ∧ ∀ k, 0 ≤ k → k < I 2 1 → bAnd (I 3 k) 255 = I 160 k ∧ 0 ≤ I 160 k ∧ I 160 k ≤ 255
def iRef (t : Nat) (I : mI) : Prop := ∀ k, 0 ≤ k → k < 6 → I 122 k = I 184 k ∧ 0 ≤ I 122 k ∧ I 122 k ≤ t
def iFau (I : mI) : Prop := I 1 14 = I 159 10 ∧ I 1 15 = I 159 11
def iDie (I J : mI) : Prop := I 1 16 = J 159 54 ∧ 0 ≤ I 1 16 ∧ I 1 16 < 2147483648
def iPas (I V : mI) (P : Int → mI) : Prop := (0 ≤ I 17 1 ∧ I 17 1 < 20) ∧ I 17 2 = I 159 53 ∧ (0 ≤ I 17 2 ∧ I 17 2 ≤ 20) ∧ (0 ≤ I 159 52 ∧ I 159 52 < 20) ∧
  ∀ j, 0 ≤ j → j < I 17 2 → stC I (19 + 5 * (Int.tmod (I 17 1 + 19 - j) 20).toNat) (P j) ∧ stM V I (2 + Int.tmod (I 159 52 + (I 17 2 - 1 - j)) 20) (P j) ∧ stOK V (P j)
def iPic (I : mI) : Prop := I 119 1 = I 159 68 ∧ 0 ≤ I 119 1 ∧ I 119 1 ≤ 23 ∧ ∀ k, 0 ≤ k → k < I 119 1 → I 120 k = I 203 k
def iMet (I V : mI) : Prop := I 151 5 = I 159 62 ∧ 0 ≤ I 151 5 ∧ I 151 5 ≤ 16 ∧ ∀ i, 0 ≤ i → i < I 151 5 → (I 157 (3 * i) = I 199 i ∧ 0 ≤ I 199 i ∧ I 199 i ≤ 30) ∧ (I 157 (3 * i + 1) = I 200 i ∧ 0 ≤ I 200 i ∧ I 200 i < V 1 2) ∧ ((if I 157 (3 * i + 2) = 255 then -1 else I 157 (3 * i + 2)) = I 201 i ∧ -1 ≤ I 201 i ∧ I 201 i < V 1 1)
def iLan (I J : mI) (R : mR) (h sp : Nat) (bk : Int) (V : mI) (F : Int → List (Int × Int)) : Prop := (R 1 12 = h ∧ R 1 13 = sp ∧ ((h = 123 ∧ sp = 132) ∨ (h = 132 ∧ sp = 123))) ∧ ldC I h V ∧ ldOK V ∧ foOK V F ∧ ldM I bk V F ∧ nrOK V ∧ iNam V J bk ∧ twM I V (tw0 V) ∧ I 146 8 = -1
def iSta (I V S : mI) : Prop := stC I 7 S ∧ stM V I 0 S ∧ stOK V S
def iRest (t : Nat) (I J V : mI) (P : Int → mI) : Prop := iTap I ∧ iRef t I ∧ iFau I ∧ iDie I J ∧ iPas I V P ∧ iPic I ∧ iMet I V
def Inv (t : Nat) (I J : mI) (R : mR) : Prop := ∃ (h sp : Nat) (bk : Int) (V : mI) (F : Int → List (Int × Int)) (S : mI) (P : Int → mI), iLan I J R h sp bk V F ∧ iSta I V S ∧ iRest t I J V P
/-- what a mere question leaves -/
def psO (z : Nat) : Prop := z ≤ 4 ∨ (6 ≤ z ∧ z ≤ 11) ∨ (17 ≤ z ∧ z ≤ 120) ∨ (122 ≤ z ∧ z ≤ 145) ∨ z = 150 ∨ z = 157 ∨ (159 ≤ z ∧ z ≤ 184) ∨ z = 192 ∨ (199 ≤ z ∧ z ≤ 201) ∨ z = 203
def qf (I I' : mI) : Prop := (∀ z, psO z → I' z = I z) ∧ I' 146 8 = I 146 8 ∧ I' 151 5 = I 151 5 ∧ (∀ j, j ≠ 1 → I' 185 j = I 185 j ∧ I' 186 j = I 186 j ∧ I' 190 j = I 190 j) ∧ (∀ j, ¬ (6 ≤ j ∧ j < 12) → I' 187 j = I 187 j ∧ I' 188 j = I 188 j ∧ I' 189 j = I 189 j) ∧ (∀ j, ¬ (120 ≤ j ∧ j < 240) → I' 191 j = I 191 j)
theorem qf_r (I : mI) : qf I I := ⟨fun _ _ => rfl, rfl, rfl, fun _ _ => ⟨rfl, rfl, rfl⟩, fun _ _ => ⟨rfl, rfl, rfl⟩, fun _ _ => rfl⟩
theorem qf_t {I1 I2 I3 : mI} (h1 : qf I1 I2) (h2 : qf I2 I3) : qf I1 I3 :=
  ⟨fun z hz => (h2.1 z hz).trans (h1.1 z hz), h2.2.1.trans h1.2.1, h2.2.2.1.trans h1.2.2.1,
   fun j hj => ⟨(h2.2.2.2.1 j hj).1.trans (h1.2.2.2.1 j hj).1, (h2.2.2.2.1 j hj).2.1.trans (h1.2.2.2.1 j hj).2.1, (h2.2.2.2.1 j hj).2.2.trans (h1.2.2.2.1 j hj).2.2⟩,
   fun j hj => ⟨(h2.2.2.2.2.1 j hj).1.trans (h1.2.2.2.2.1 j hj).1, (h2.2.2.2.2.1 j hj).2.1.trans (h1.2.2.2.2.1 j hj).2.1, (h2.2.2.2.2.1 j hj).2.2.trans (h1.2.2.2.2.1 j hj).2.2⟩,
   fun j hj => (h2.2.2.2.2.2 j hj).trans (h1.2.2.2.2.2 j hj)⟩
theorem stM_q {V : mI} {I I' : mI} {w : Int} {S : mI} (hf : qf I I') (hw : w ≠ 1) (h2 : S 0 2 ≤ 40) (h : stM V I w S) : stM V I' w S := by
  obtain ⟨c0, c1, c2, c3, c4⟩ := h
  obtain ⟨-, -, -, f2, f3, f4⟩ := hf
  refine ⟨(f2 w hw).1.trans c0, (f2 w hw).2.1.trans c1, (f2 w hw).2.2.trans c2, fun j j0 j6 => ?_, fun j j0 j1 => ?_⟩
  · have h3 := f3 (6 * w + j) (by omega)
    exact ⟨h3.1.trans (c3 j j0 j6).1, h3.2.1.trans (c3 j j0 j6).2.1, h3.2.2.trans (c3 j j0 j6).2.2⟩
  · exact (f4 (120 * w + j) (by omega)).trans (c4 j j0 j1)
/-- the class alone has worked -/
theorem qf_c {I I' : mI} (h : ∀ z, z ≠ 5 → z ≠ 121 → z ≠ 146 → z ≠ 147 → z ≠ 148 → z ≠ 149 → z ≠ 151 → ¬ (12 ≤ z ∧ z ≤ 16) → ¬ (152 ≤ z ∧ z ≤ 156) → z ≠ 158 → I' z = I z) (h8 : I' 146 8 = I 146 8) (h5 : I' 151 5 = I 151 5) : qf I I' := by
  have e : ∀ z, (159 ≤ z) → I' z = I z := fun z hz => h z (by omega) (by omega) (by omega) (by omega) (by omega) (by omega) (by omega) (by omega) (by omega) (by omega)
  refine ⟨fun z hz => ?_, h8, h5, fun j _ => ?_, fun j _ => ?_, fun j _ => ?_⟩
  · unfold psO at hz
    exact h z (by omega) (by omega) (by omega) (by omega) (by omega) (by omega) (by omega) (by omega) (by omega) (by omega)
  · rw [e 185 (by decide), e 186 (by decide), e 190 (by decide)]; exact ⟨rfl, rfl, rfl⟩
  · rw [e 187 (by decide), e 188 (by decide), e 189 (by decide)]; exact ⟨rfl, rfl, rfl⟩
  · rw [e 191 (by decide)]
theorem qf_p {I I' : mI} (h : pfr 12 I I') : qf I I' := qf_c (fun z z5 _ z6 z7 z8 z9 _ zc _ _ => h.1 z z5 z6 z7 z8 z9 (by omega)) (h.2 8 (by decide) (by decide)) (by rw [h.1 151 (by decide) (by decide) (by decide) (by decide) (by decide) (by decide)])
theorem qf_si {I I' : mI} (h : sifr I I') : qf I I' := qf_c (fun z z5 _ z6 z7 z8 z9 _ zc _ _ => h.1 z z5 z6 z7 z8) (h.2 8 (by decide) (by decide)) (by rw [h.1 151 (by decide) (by decide) (by decide) (by decide)])
theorem qf_a {I I' : mI} (h : afr I I') : qf I I' := qf_c (fun z z5 _ z6 z7 z8 z9 _ zc _ _ => h z z5 z7 z8 z9) (by rw [h 146 (by decide) (by decide) (by decide) (by decide)]) (by rw [h 151 (by decide) (by decide) (by decide) (by decide)])
/-- the model alone has worked, beside its own layer of tries -/
theorem qf_g {I I' : mI} (h : gfr 1 I I') (hh : ∀ z, 198 < z → z ≠ 202 → I' z = I z) : qf I I' := by
  obtain ⟨h1, h2, h3, h4⟩ := h
  refine ⟨fun z hz => ?_, by rw [h1 146 (by omega)], by rw [h1 151 (by omega)], h2, fun j hj => h3 j (by omega), fun j hj => h4 j (by omega)⟩
  unfold psO at hz
  by_cases e : 198 < z
  · exact hh z e (by omega)
  · exact h1 z (by omega)
theorem qf_g2 {I I' : mI} (h : gfr 1 I I') : qf I I' := qf_g h (fun z hz _ => h.1 z (by omega))
theorem qf_o {I I' : mI} (h : ofr I I') : qf I I' := qf_g2 (lfr_g (ofr_l h))
theorem ldC_q {I I' : mI} {h : Nat} {V : mI} (hh : isLd h) (hf : qf I I') (hL : ldC I h V) : ldC I' h V := by
  obtain ⟨l0, l1, l2, l3, l4, l5, l6, l7, l8⟩ := hL
  have hlh : h = 123 ∨ h = 132 := hh
  have hx : ∀ j, j ≤ 8 → I' (h + j) = I (h + j) := fun j hj => hf.1 _ (by unfold psO; omega)
  exact ⟨(hx 0 (by omega)).trans l0, (hx 1 (by omega)).trans l1, (hx 2 (by omega)).trans l2, (hx 3 (by omega)).trans l3, (hx 4 (by omega)).trans l4, (hx 5 (by omega)).trans l5, (hx 6 (by omega)).trans l6, (hx 7 (by omega)).trans l7, (hx 8 (by omega)).trans l8⟩
theorem ldM_q {I I' : mI} {bk : Int} {V : mI} {F : Int → List (Int × Int)} (hf : qf I I') (h : ldM I bk V F) : ldM I' bk V F :=
  ldM_fr (by rw [hf.1 159 (by unfold psO; omega)]) (fun a _ _ => hf.1 a (by unfold psO; omega)) h
theorem iLan_ld {I J : mI} {R : mR} {h sp : Nat} {bk : Int} {V : mI} {F : Int → List (Int × Int)} (hl : iLan I J R h sp bk V F) : isLd h := by
  have := hl.1.2.2
  unfold isLd; omega
theorem iLan_q {I I' J J' : mI} {R R' : mR} {h sp : Nat} {bk : Int} {V : mI} {F : Int → List (Int × Int)} (hf : qf I I') (hJ : J' 177 = J 177) (hR : rfr R R') (hl : iLan I J R h sp bk V F) : iLan I' J' R' h sp bk V F := by
  have hh := iLan_ld hl
  obtain ⟨a1, a2, a3, a4, a5, a6, a7, a8, a9⟩ := hl
  refine ⟨?_, ldC_q hh hf a2, a3, a4, ldM_q hf a5, a6, ?_, ?_, by rw [hf.2.1]; exact a9⟩
  · rw [hR 1 (by decide)]; exact a1
  · unfold iNam; rw [hJ]; exact a7
  · unfold twM; rw [hf.1 192 (by unfold psO; omega)]; exact a8
theorem iSta_q {I I' V S : mI} (hf : qf I I') (hs : iSta I V S) : iSta I' V S :=
  ⟨stC_of (fun j hj => hf.1 _ (by unfold psO; omega)) hs.1, stM_q hf (by decide) hs.2.2.2.2.1.2 hs.2.1, hs.2.2⟩
theorem iPas_q {I I' V : mI} {P : Int → mI} (hf : qf I I') (h : iPas I V P) : iPas I' V P := by
  obtain ⟨a1, a2, a3, a4, a5⟩ := h
  have e17 := hf.1 17 (by unfold psO; omega)
  have e159 := hf.1 159 (by unfold psO; omega)
  unfold iPas
  rw [e17, e159]
  refine ⟨a1, a2, a3, a4, fun j j0 j1 => ?_⟩
  obtain ⟨b1, b2, b3⟩ := a5 j j0 j1
  have m1 := th_rg (y := I 17 1 + 19 - j) (n := 20) (by omega) (by omega)
  have m2 := th_rg (y := I 159 52 + (I 17 2 - 1 - j)) (n := 20) (by omega) (by omega)
  exact ⟨stC_of (fun i hi => hf.1 _ (by unfold psO; omega)) b1, stM_q hf (by omega) b3.2.2.1.2 b2, b3⟩
theorem iRest_q {t : Nat} {I I' J J' V : mI} {P : Int → mI} (hf : qf I I') (hJ : J' 159 = J 159) (h : iRest t I J V P) : iRest (t + 1) I' J' V P := by
  obtain ⟨a1, a2, a3, a4, a5, a6, a7⟩ := h
  have e : ∀ z, psO z → I' z = I z := hf.1
  refine ⟨?_, ?_, ?_, ?_, iPas_q hf a5, ?_, ?_⟩
  · unfold iTap
    rw [e 159 (by unfold psO; omega), e 2 (by unfold psO; omega), e 3 (by unfold psO; omega), e 160 (by unfold psO; omega)]; exact a1
  · intro k k0 k6
    have := a2 k k0 k6
    rw [e 122 (by unfold psO; omega), e 184 (by unfold psO; omega)]; omega
  · unfold iFau
    rw [e 159 (by unfold psO; omega), e 1 (by unfold psO; omega)]; exact a3
  · unfold iDie
    rw [e 1 (by unfold psO; omega), hJ]; exact a4
  · unfold iPic
    rw [e 159 (by unfold psO; omega), e 119 (by unfold psO; omega), e 120 (by unfold psO; omega), e 203 (by unfold psO; omega)]; exact a6
  · unfold iMet
    rw [hf.2.2.1, e 159 (by unfold psO; omega), e 157 (by unfold psO; omega), e 199 (by unfold psO; omega), e 200 (by unfold psO; omega), e 201 (by unfold psO; omega)]; exact a7
theorem inv_q {t : Nat} {I I' J J' : mI} {R R' : mR} (hI : Inv t I J R) (hf : qf I I') (hJ : J' 159 = J 159 ∧ J' 177 = J 177) (hR : rfr R R') : Inv (t + 1) I' J' R' := by
  obtain ⟨h, sp, bk, V, F, S, P, h1, h2, h3⟩ := hI
  exact ⟨h, sp, bk, V, F, S, P, iLan_q hf hJ.2 hR h1, iSta_q hf h2, iRest_q hf hJ.1 h3⟩
