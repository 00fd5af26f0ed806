/-! WHAT CAN BE UNDONE -/
theorem tm20 {x : Int} (h : 0 ≤ x) : Int.tmod x 20 = x % 20 := Int.tmod_eq_emod_of_nonneg h
def pasC (I : mI) (nx cn : Int) (P : Int → mI) : Prop := I 17 1 = nx ∧ I 17 2 = cn ∧ ∀ j, 0 ≤ j → j < cn → stC I (19 + 5 * (Int.tmod (nx + 19 - j) 20).toNat) (P j)
def pasM (V I : mI) (uf cn : Int) (P : Int → mI) : Prop := I 159 52 = uf ∧ I 159 53 = cn ∧ ∀ j, 0 ≤ j → j < cn → stM V I (2 + Int.tmod (uf + (cn - 1 - j)) 20) (P j)
def puP (S : mI) (P : Int → mI) : Int → mI := fun j => if j = 0 then S else P (j - 1)
theorem iPas_mk {I V : mI} {nx cn uf : Int} {P : Int → mI} (h1 : pasC I nx cn P) (h2 : pasM V I uf cn P) (r1 : 0 ≤ nx ∧ nx < 20) (r2 : 0 ≤ cn ∧ cn ≤ 20) (r3 : 0 ≤ uf ∧ uf < 20) (hok : ∀ j, 0 ≤ j → j < cn → stOK V (P j)) : iPas I V P := by
  obtain ⟨a1, a2, a3⟩ := h1
  obtain ⟨b1, b2, b3⟩ := h2
  unfold iPas
  rw [a1, a2, b1, b2]
  exact ⟨r1, rfl, r2, r3, fun j j0 j1 => ⟨a3 j j0 j1, b3 j j0 j1, hok j j0 j1⟩⟩
theorem iPas_of {I V : mI} {P : Int → mI} (h : iPas I V P) : ∃ nx cn uf, pasC I nx cn P ∧ pasM V I uf cn P ∧ (0 ≤ nx ∧ nx < 20) ∧ (0 ≤ cn ∧ cn ≤ 20) ∧ (0 ≤ uf ∧ uf < 20) ∧ ∀ j, 0 ≤ j → j < cn → stOK V (P j) := by
  obtain ⟨a1, a2, a3, a4, a5⟩ := h
  exact ⟨I 17 1, I 17 2, I 159 52, ⟨rfl, rfl, fun j j0 j1 => (a5 j j0 j1).1⟩, ⟨rfl, a2.symm, fun j j0 j1 => (a5 j j0 j1).2.1⟩, a1, a3, a4, fun j j0 j1 => (a5 j j0 j1).2.2⟩
theorem c_add {I : mI} {nx cn : Int} {P : Int → mI} {S : mI} {Q : mI → Prop} (hp : pasC I nx cn P) (hS : stC I 7 S) (h2 : S 0 2 ≤ 40) (r1 : 0 ≤ nx ∧ nx < 20) (r2 : 0 ≤ cn ∧ cn ≤ 20)
    (k : ∀ I' : mI, (∀ z, z ≠ 17 → ¬ (19 ≤ z ∧ z ≤ 118) → I' z = I z) → pasC I' (Int.tmod (nx + 1) 20) (if cn < 20 then cn + 1 else 20) (puP S P) → Q I') : p4_add 7 I Q := by
  obtain ⟨a1, a2, a3⟩ := hp
  unfold p4_add
  rw [a1]
  refine ⟨by omega, c_take (by omega) hS h2 (fun I1 f1 hS1 => ?_)⟩
  rw [f1 17 (by omega), a1]
  refine ⟨by omega, m_putK (fun I2 q2 g2 f2 => ?_)⟩
  have e2 : I2 17 2 = cn := by rw [g2 2 (by decide), f1 17 (by omega)]; exact a2
  rw [e2]
  have fin : ∀ I3 : mI, (∀ j, j ≠ 2 → I3 17 j = I2 17 j) → (∀ z, z ≠ 17 → I3 z = I2 z) → I3 17 2 = (if cn < 20 then cn + 1 else 20) → Q I3 := fun I3 g3 f3 q3 => by
    refine k I3 (fun z z1 z2 => by rw [f3 z z1, f2 z z1, f1 z (by omega)]) ⟨by rw [g3 1 (by decide)]; exact q2, q3, fun j j0 j1 => ?_⟩
    have hj : j ≤ 19 := by split at j1 <;> omega
    have hF : ∀ z, z ≠ 17 → I3 z = I1 z := fun z hz => (f3 z hz).trans (f2 z hz)
    rw [tm20 (x := nx + 1) (by omega), tm20 (by omega)]
    unfold puP
    by_cases e : j = 0
    · rw [if_pos e]
      refine stC_of (fun i hi => hF _ (by omega)) ?_
      rw [show ((nx + 1) % 20 + 19 - j) % 20 = nx by omega]
      exact hS1
    · rw [if_neg e]
      have h3 := a3 (j - 1) (by omega) (by split at j1 <;> omega)
      rw [tm20 (by omega)] at h3
      rw [show ((nx + 1) % 20 + 19 - j) % 20 = (nx + 19 - (j - 1)) % 20 by omega]
      refine stC_of (fun i hi => ?_) h3
      rw [hF _ (by omega), f1 _ (by omega)]
  by_cases e : cn < 20
  · rw [if_pos e] at fin
    exact zf (by omega) ⟨by omega, m_putK (fun I3 q3 g3 f3 => fin I3 g3 f3 q3)⟩
  · rw [if_neg e] at fin
    exact zt (by omega) (m_putK (fun I3 q3 g3 f3 => fin I3 g3 f3 q3))
/-- what keeping writes in the model -/
def kfr (I I' : mI) : Prop := (∀ z, (z < 159 ∨ (159 < z ∧ z < 185) ∨ 191 < z) → I' z = I z) ∧ (∀ j, j ≠ 52 → j ≠ 53 → I' 159 j = I 159 j) ∧ (∀ j, j < 2 → I' 185 j = I 185 j ∧ I' 186 j = I 186 j ∧ I' 190 j = I 190 j) ∧ (∀ j, j < 12 → I' 187 j = I 187 j ∧ I' 188 j = I 188 j ∧ I' 189 j = I 189 j) ∧ (∀ j, j < 240 → I' 191 j = I 191 j)
theorem stM_k {V : mI} {I I' : mI} {w : Int} {S : mI} (hf : kfr I I') (hw : w = 0 ∨ w = 1) (h2 : S 0 2 ≤ 40) (h : stM V I w S) : stM V I' w S := by
  obtain ⟨c0, c1, c2, c3, c4⟩ := h
  obtain ⟨-, -, f2, f3, f4⟩ := hf
  refine ⟨(f2 w (by omega)).1.trans c0, (f2 w (by omega)).2.1.trans c1, (f2 w (by omega)).2.2.trans c2, fun j j0 j6 => ?_, fun j j0 j1 => ?_⟩
  · have h3 := f3 (6 * w + j) (by omega)
    exact ⟨h3.1.trans (c3 j j0 j6).1, h3.2.1.trans (c3 j j0 j6).2.1, h3.2.2.trans (c3 j j0 j6).2.2⟩
  · exact (f4 (120 * w + j) (by omega)).trans (c4 j j0 j1)
theorem m_keep32 {V : mI} {I : mI} {uf cn : Int} {P : Int → mI} {S : mI} {Q : mI → Prop} (h52 : I 159 52 = uf) (h53 : I 159 53 = cn) (hP : ∀ j, 0 ≤ j → j < cn → stM V I (2 + Int.tmod (uf + (cn - 1 - j)) 20) (P j)) (hok : ∀ j, 0 ≤ j → j < cn → P j 0 2 ≤ 40) (hS : stM V I 0 S) (h2 : 0 ≤ S 0 2 ∧ S 0 2 ≤ 40) (r2 : 0 ≤ cn ∧ cn ≤ 19) (r3 : 0 ≤ uf ∧ uf < 20)
    (k : ∀ I' : mI, kfr I I' → I' 159 52 = uf → pasM V I' uf (cn + 1) (puP S P) → Q I') : p12_keeps_b32 I Q := by
  unfold p12_keeps_b32 p12_slot
  rw [h52, h53]
  have m2 := th_rg (y := uf + cn) (n := 20) (by omega) (by omega)
  refine ⟨by omega, by omega, m_copy (by omega) (by omega) (by omega) hS h2 (fun I1 g1 f1 hS1 => ?_)⟩
  have e159 : I1 159 = I 159 := g1.1 159 (by omega)
  rw [e159, h53]
  refine ⟨by omega, m_putK (fun I2 q2 g2 f2 => k I2 ⟨fun z hz => ?_, fun j _ j53 => ?_, fun j hj => ?_, fun j hj => ?_, fun j hj => ?_⟩ ?_ ⟨?_, q2, fun j j0 j1 => ?_⟩)⟩
  · rw [f2 z (by omega)]
    by_cases e : z < 185
    · exact g1.1 z (by omega)
    · exact f1 z (by omega)
  · rw [g2 j j53, e159]
  · rw [f2 185 (by decide), f2 186 (by decide), f2 190 (by decide)]; exact g1.2.1 j (by omega)
  · rw [f2 187 (by decide), f2 188 (by decide), f2 189 (by decide)]; exact g1.2.2.1 j (by omega)
  · rw [f2 191 (by decide)]; exact g1.2.2.2 j (by omega)
  · rw [g2 52 (by decide), e159]; exact h52
  · rw [g2 52 (by decide), e159]; exact h52
  · refine stM_fr (fun z z0 z1 => f2 z (by omega)) ?_
    unfold puP
    by_cases e : j = 0
    · rw [if_pos e, show uf + (cn + 1 - 1 - j) = uf + cn by omega]; exact hS1
    · rw [if_neg e]
      have h3 := hP (j - 1) (by omega) (by omega)
      rw [show uf + (cn - 1 - (j - 1)) = uf + (cn + 1 - 1 - j) by omega] at h3
      refine stM_g g1 ?_ (hok (j - 1) (by omega) (by omega)) h3
      rw [tm20 (by omega), tm20 (by omega)]; omega
theorem m_keep {V : mI} {I : mI} {uf cn : Int} {P : Int → mI} {S : mI} {Q : mI → Prop} (hp : pasM V I uf cn P) (hok : ∀ j, 0 ≤ j → j < cn → P j 0 2 ≤ 40) (hS : stM V I 0 S) (h2 : 0 ≤ S 0 2 ∧ S 0 2 ≤ 40) (r2 : 0 ≤ cn ∧ cn ≤ 20) (r3 : 0 ≤ uf ∧ uf < 20)
    (k : ∀ I' uf', kfr I I' → (0 ≤ uf' ∧ uf' < 20) → pasM V I' uf' (if cn < 20 then cn + 1 else 20) (puP S P) → Q I') : p12_keeps I Q := by
  obtain ⟨a1, a2, a3⟩ := hp
  unfold p12_keeps
  rw [a2, a1]
  by_cases e : cn < 20
  · rw [if_pos e] at k
    exact zf (by omega) (m_keep32 a1 a2 a3 hok hS h2 (by omega) r3 (fun I' f _ p => k I' uf f r3 p))
  · rw [if_neg e] at k
    have ec : cn = 20 := by omega
    refine zt ec ⟨by omega, m_putK (fun I1 q1 g1 f1 => ?_)⟩
    have e53 : I1 159 53 = 20 := by rw [g1 53 (by decide), a2]; exact ec
    rw [e53]
    refine ⟨by omega, m_putK (fun I2 q2 g2 f2 => ?_)⟩
    have hF : ∀ z, z ≠ 159 → I2 z = I z := fun z hz => (f2 z hz).trans (f1 z hz)
    have m1 := th_rg (y := uf + 1) (n := 20) (by omega) (by omega)
    refine m_keep32 (uf := Int.tmod (uf + 1) 20) (cn := 19) (P := P) (by rw [g2 52 (by decide)]; exact q1) q2 (fun j j0 j1 => ?_) (fun j j0 j1 => hok j j0 (by omega)) (stM_fr (fun z z0 z1 => hF z (by omega)) hS) h2 (by omega) m1 (fun I' f _ p => k I' _ ⟨fun z hz => ?_, fun j j2 j3 => ?_, fun j hj => ?_, fun j hj => ?_, fun j hj => ?_⟩ m1 p)
    · have h3 := a3 j j0 (by omega)
      rw [tm20 (by omega)] at h3
      rw [tm20 (x := uf + 1) (by omega), tm20 (by omega), show ((uf + 1) % 20 + (19 - 1 - j)) % 20 = (uf + (cn - 1 - j)) % 20 by omega]
      exact stM_fr (fun z z0 z1 => hF z (by omega)) h3
    · rw [f.1 z hz, hF z (by omega)]
    · rw [f.2.1 j j2 j3, g2 j j3, g1 j j2]
    · have := f.2.2.1 j hj
      rw [hF 185 (by decide), hF 186 (by decide), hF 190 (by decide)] at this; exact this
    · have := f.2.2.2.1 j hj
      rw [hF 187 (by decide), hF 188 (by decide), hF 189 (by decide)] at this; exact this
    · have := f.2.2.2.2 j hj
      rw [hF 191 (by decide)] at this; exact this
theorem puP_ok {V S : mI} {P : Int → mI} {cn : Int} (hS : stOK V S) (hok : ∀ j, 0 ≤ j → j < cn → stOK V (P j)) : ∀ j, 0 ≤ j → j < (if cn < 20 then cn + 1 else 20) → j ≤ cn → stOK V (puP S P j) := by
  intro j j0 j1 jc
  unfold puP
  by_cases e : j = 0
  · rw [if_pos e]; exact hS
  · rw [if_neg e]; exact hok (j - 1) (by omega) (by omega)
/-- an act: both sides kept what was, then made the new state -/
theorem inv_act {t : Nat} {I I' J J' : mI} {R R' : mR} {h sp : Nat} {bk : Int} {V : mI} {F : Int → List (Int × Int)} {S S' : mI} {P : Int → mI} {cn nx uf : Int} (hl : iLan I J R h sp bk V F) (hSt : stOK V S) (hr : iRest t I J V P) (hc : I 17 2 = cn) (rc : 0 ≤ cn ∧ cn ≤ 20) (rn : 0 ≤ nx ∧ nx < 20) (ru : 0 ≤ uf ∧ uf < 20) (hok : ∀ j, 0 ≤ j → j < cn → stOK V (P j))
    (hpC : pasC I' nx (if cn < 20 then cn + 1 else 20) (puP S P)) (hpM : pasM V I' uf (if cn < 20 then cn + 1 else 20) (puP S P)) (hS' : iSta I' V S')
    (e1 : ∀ z, (z = 2 ∨ z = 3 ∨ z = 119 ∨ z = 120 ∨ (122 ≤ z ∧ z ≤ 140) ∨ z = 157 ∨ (160 ≤ z ∧ z ≤ 176) ∨ z = 184 ∨ z = 192 ∨ (199 ≤ z ∧ z ≤ 203 ∧ z ≠ 202)) → I' z = I z) (e2 : I' 146 8 = I 146 8) (e3 : I' 151 5 = I 151 5) (e4 : ∀ j, j ≠ 52 → j ≠ 53 → I' 159 j = I 159 j) (e5 : I' 1 14 = I 1 14 ∧ I' 1 15 = I 1 15) (e6 : iDie I' J') (hJ : J' 177 = J 177) (hR : R' 1 = R 1) : Inv (t + 1) I' J' R' := by
  obtain ⟨r1, r2, r3, r4, r5, r6, r7⟩ := hr
  have rc' : 0 ≤ (if cn < 20 then cn + 1 else 20) ∧ (if cn < 20 then cn + 1 else 20) ≤ 20 := by split <;> omega
  refine ⟨h, sp, bk, V, F, S', puP S P, fr_lan hl (fun z _ _ => e1 z (by omega)) e2 (e4 13 (by decide) (by decide)) (fun z _ _ => e1 z (by omega)) (e1 192 (by omega)) hJ hR, hS', fr_tap r1 (by rw [e1 2 (by omega)]) (e1 3 (by omega)) (e4 1 (by decide) (by decide)) (e1 160 (by omega)), fr_ref r2 (by omega) (e1 122 (by omega)) (e1 184 (by omega)), fr_fau r3 e5.1 e5.2 (e4 10 (by decide) (by decide)) (e4 11 (by decide) (by decide)), e6, iPas_mk hpC hpM rn rc' ru (fun j j0 j1 => puP_ok hSt hok j j0 j1 (by split at j1 <;> omega)), fr_pic r6 (by rw [e1 119 (by omega)]) (e1 120 (by omega)) (e4 68 (by decide) (by decide)) (e1 203 (by omega)), fr_met r7 e3 (e1 157 (by omega)) (e4 62 (by decide) (by decide)) (fun z _ _ => e1 z (by omega))⟩
