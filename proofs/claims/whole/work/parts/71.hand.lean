/-! BY HAND: fill, swap, paint, undo -/
theorem pasC_fr {I I' : mI} {nx cn : Int} {P : Int → mI} (h : pasC I nx cn P) (rn : 0 ≤ nx ∧ nx < 20) (rc : cn ≤ 20) (e : ∀ z, 17 ≤ z → z ≤ 118 → I' z = I z) : pasC I' nx cn P := by
  obtain ⟨a1, a2, a3⟩ := h
  refine ⟨by rw [e 17 (by omega) (by omega)]; exact a1, by rw [e 17 (by omega) (by omega)]; exact a2, fun j j0 j1 => stC_of (fun i hi => ?_) (a3 j j0 j1)⟩
  have m1 := th_rg (y := nx + 19 - j) (n := 20) (by omega) (by omega)
  exact e _ (by omega) (by omega)
theorem pasM_g {V : mI} {I I' : mI} {uf cn : Int} {P : Int → mI} (h : pasM V I uf cn P) (ru : 0 ≤ uf) (hok : ∀ j, 0 ≤ j → j < cn → P j 0 2 ≤ 40) (e : gfr 0 I I') : pasM V I' uf cn P := by
  obtain ⟨a1, a2, a3⟩ := h
  have e159 := e.1 159 (by omega)
  refine ⟨by rw [e159]; exact a1, by rw [e159]; exact a2, fun j j0 j1 => ?_⟩
  have m1 := th_rg (y := uf + (cn - 1 - j)) (n := 20) (by omega) (by omega)
  exact stM_g e (by omega) (hok j j0 j1) (a3 j j0 j1)
theorem pasM_e {V : mI} {I I' : mI} {uf cn : Int} {P : Int → mI} (h : pasM V I uf cn P) (e1 : I' 159 = I 159) (e : ∀ z, 185 ≤ z → z ≤ 191 → I' z = I z) : pasM V I' uf cn P := by
  obtain ⟨a1, a2, a3⟩ := h
  exact ⟨by rw [e1]; exact a1, by rw [e1]; exact a2, fun j j0 j1 => stM_fr e (a3 j j0 j1)⟩
theorem ok40 {V : mI} {P : Int → mI} {cn : Int} (hok : ∀ j, 0 ≤ j → j < cn → stOK V (P j)) : ∀ j, 0 ≤ j → j < cn → P j 0 2 ≤ 40 := fun j j0 j1 => (hok j j0 j1).2.2.1.2
theorem puP40 {V S : mI} {P : Int → mI} {cn : Int} (hS : stOK V S) (hok : ∀ j, 0 ≤ j → j < cn → stOK V (P j)) (rc : 0 ≤ cn ∧ cn ≤ 20) : ∀ j, 0 ≤ j → j < (if cn < 20 then cn + 1 else 20) → puP S P j 0 2 ≤ 40 := fun j j0 j1 => (puP_ok hS hok j j0 j1 (by split at j1 <;> omega)).2.2.1.2
/-- the start of an act: the class keeps, changes its own state (rows 7 to 11); the model keeps; then it changes its layer 0 -/
theorem la_act {L t : Nat} {X : Int → Int} {i : Int} {I J : mI} {R : mR} {K : mI → mI → mR → Prop} (H : LaH L t X i I J R K) {h sp : Nat} {bk : Int} {V : mI} {F : Int → List (Int × Int)} {S S' : mI} {P : Int → mI} (hl : iLan I J R h sp bk V F) (hs : iSta I V S) (hr : iRest t I J V P) (hS' : stOK V S') {Q : mI → Prop}
    (k : ∀ I1 : mI, (∀ z, z ≠ 17 → ¬ (19 ≤ z ∧ z ≤ 118) → I1 z = I z) → stC I1 7 S →
      (∀ I2 : mI, (∀ z, ¬ (7 ≤ z ∧ z ≤ 11) → I2 z = I1 z) → stC I2 7 S' → ∀ Q2 : mI → Prop, (∀ I3 : mI, kfr I2 I3 → stM V I3 0 S → (∀ I4 : mI, gfr 0 I3 I4 → (∀ z, 191 < z → I4 z = I3 z) → stM V I4 0 S' → K I4 J R) → Q2 I3) → p12_keeps I2 Q2) → Q I1) : p4_add 7 I Q := by
  obtain ⟨hC, hM, hSt⟩ := id hs
  obtain ⟨nx, cn, uf, p1, p2, rn, rc, ru, hok⟩ := iPas_of hr.2.2.2.2.1
  have s2 := hSt.2.2.1
  have rn' := th_rg (y := nx + 1) (n := 20) (by omega) (by omega)
  have rc' : (if cn < 20 then cn + 1 else 20) ≤ 20 := by split <;> omega
  refine c_add p1 hC s2.2 rn rc (fun I1 f1 p1' => k I1 f1 (stC_of (fun j hj => f1 _ (by omega) (by omega)) hC) (fun I2 f2 hC2 Q2 k2 => ?_))
  have F2 : ∀ z, 118 < z → I2 z = I z := fun z hz => by rw [f2 z (by omega), f1 z (by omega) (by omega)]
  refine m_keep (pasM_e p2 (F2 159 (by decide)) (fun z _ _ => F2 z (by omega))) (ok40 hok) (stM_fr (fun z _ _ => F2 z (by omega)) hM) s2 rc ru (fun I3 uf' f3 ru' p3 => k2 I3 f3 (stM_k f3 (Or.inl rfl) s2.2 (stM_fr (fun z _ _ => F2 z (by omega)) hM)) (fun I4 g4 h4 hM4 => ?_))
  have e : ∀ z, 118 < z → z < 159 ∨ (159 < z ∧ z < 185) ∨ (191 < z) → I4 z = I z := fun z hz hz2 => by
    by_cases q : z < 185
    · rw [g4.1 z (by omega), f3.1 z (by omega), F2 z hz]
    · rw [h4 z (by omega), f3.1 z (by omega), F2 z hz]
  have el : ∀ z, z ≤ 118 → I4 z = I2 z := fun z hz => by rw [g4.1 z (by omega), f3.1 z (by omega)]
  have el2 : ∀ z, z ≤ 118 → z ≠ 17 → ¬ (7 ≤ z ∧ z ≤ 11) → ¬ (19 ≤ z) → I4 z = I z := fun z hz z1 z2 z3 => by rw [el z hz, f2 z z2, f1 z z1 (by omega)]
  refine H.2.2.2.2.2.2 I4 J R (inv_act hl hSt hr p1.2.1 rc rn' ru' hok (pasC_fr p1' rn' rc' (fun z z0 z1 => by rw [el z z1, f2 z (by omega)])) (pasM_g p3 ru'.1 (puP40 hSt hok rc) g4) ⟨stC_of (fun j hj => el _ (by omega)) hC2, hM4, hS'⟩ (fun z hz => ?_) (by rw [e 146 (by decide) (by omega)]) (by rw [e 151 (by decide) (by omega)]) (fun j j2 j3 => ?_) ⟨by rw [el2 1 (by decide) (by decide) (by decide) (by decide)], by rw [el2 1 (by decide) (by decide) (by decide) (by decide)]⟩ ?_ rfl rfl)
  · by_cases q : z ≤ 118
    · exact el2 z q (by omega) (by omega) (by omega)
    · exact e z (by omega) (by omega)
  · rw [g4.1 159 (by omega), f3.2.1 j j2 j3, F2 159 (by decide)]
  · exact fr_die hr.2.2.2.1 (by rw [el2 1 (by decide) (by decide) (by decide) (by decide)]) rfl
theorem la_27 {L t : Nat} {X : Int → Int} {i : Int} {I J : mI} {R : mR} {K : mI → mI → mR → Prop} (H : LaH L t X i I J R K) : plaw_27 L X i I J R K := by
  have H' := H
  obtain ⟨hL, hX, h0, h1, ht, ⟨h, sp, bk, V, F, S, P, hl, hs, hr⟩, hK⟩ := H
  unfold plaw_27
  refine ⟨by omega, by omega, ?_⟩
  generalize X (i + 1) = x
  obtain ⟨hC, hM, hSt⟩ := id hs
  have c1 : I 7 1 = S 0 1 := hC.2.1
  have m1 : ∀ I1 : mI, (∀ z, z ≠ 122 → I1 z = I z) → I1 186 0 = S 0 1 := fun I1 f1 => by rw [f1 186 (by decide)]; exact hM.2.1
  have no : ¬ (0 ≤ x ∧ x ≤ 9999 ∧ x ≠ S 0 1) → ∀ I1 : mI, (∀ z, z ≠ 122 → I1 z = I z) → (∀ Q2 : Int → mI → Prop, (∀ I2, K I2 J R → Q2 (-1) I2) → p12_refuses 3 I1 Q2) → p12_fill x I1 (fun r2 I2 => if (0 : Int) = r2 then K I2 J R else False) := fun q I1 f1 kk => by
    unfold p12_fill p12_fill_b21
    rw [m1 I1 f1]
    have fin := kk (fun r1 I2 => if r1 < 0 then (if (0 : Int) = 0 then K I2 J R else False) else (if (0 : Int) = 1 then K I2 J R else False)) (fun I2 hk2 => zt (by decide) (zt rfl hk2))
    exact m_is (fun _ => zt rfl fin) (fun q2 => zf (by decide) (zt (by omega) fin))
  unfold p11_fill
  rw [c1]
  refine zs (fun e => laRI H' (by decide) (by decide) (fun I1 f1 kk => ⟨Or.inl rfl, ⟨by omega, by omega,  no (by omega) I1 f1 kk⟩⟩)) (fun e => zs (fun e2 => laRI H' (by decide) (by decide) (fun I1 f1 kk => ⟨Or.inl rfl, ⟨by omega, by omega,  no (by omega) I1 f1 kk⟩⟩)) (fun e2 => zs (fun e3 => laRI H' (by decide) (by decide) (fun I1 f1 kk => ⟨Or.inl rfl, ⟨by omega, by omega,  no (by omega) I1 f1 kk⟩⟩)) (fun e3 => ?_)))
  refine la_act H' hl hs hr (stOK_pu (p := x) (by omega) hSt) (fun I1 f1 hC1 kk => m_putK (fun I2 q2 g2 f2 => ⟨by omega, by omega, ?_⟩))
  have hC2 : stC I2 7 (puF S x) := by
    refine stC_sc hC1 f2 ?_ ?_ ?_ (pu_n _ _) (fun j hj => if_neg hj)
    · rw [pu_y, g2 0 (by decide)]; exact hC1.1
    · rw [pu_p]; exact q2
    · rw [pu_n, g2 2 (by decide)]; exact hC1.2.2.1
  have e6 : I2 186 0 = S 0 1 := by rw [f2 186 (by decide), f1 186 (by decide) (by decide)]; exact hM.2.1
  unfold p12_fill
  rw [e6]
  refine m_is (fun q => by omega) (fun q => zf (by decide) (zf (by omega) (kk I2 (fun z hz => f2 z (by omega)) hC2 _ (fun I3 f3 hM3 k3 => ?_))))
  refine m_putK (fun I4 q4 g4 f4 => zt rfl (k3 I4 (lfr_g (lfr_s (fun z _ z6 => f4 z z6) (fun j _ => by rw [f4 185 (by decide)]) g4)) (fun z hz => f4 z (by omega)) ?_))
  refine stM_sc hM3 (fun z _ z6 => f4 z z6) ?_ ?_ (pu_n _ _) (fun j hj => if_neg hj)
  · rw [pu_y, f4 185 (by decide)]; exact hM3.1
  · rw [pu_p]; exact q4
theorem la_25 {L t : Nat} {X : Int → Int} {i : Int} {I J : mI} {R : mR} {K : mI → mI → mR → Prop} (H : LaH L t X i I J R K) : plaw_25 L X i I J R K := by
  have H' := H
  obtain ⟨hL, hX, h0, h1, ht, ⟨h, sp, bk, V, F, S, P, hl, hs, hr⟩, hK⟩ := H
  have hh := iLan_ld hl
  obtain ⟨⟨r12, -, -⟩, hLd, hV, hF, hLM, -⟩ := id hl
  have n := hV.1
  unfold plaw_25
  refine ⟨by omega, by omega, by omega, by omega, ?_⟩
  generalize X (i + 1) = x
  generalize X (i + 2) = c
  obtain ⟨hC, hM, hSt⟩ := id hs
  have no : ¬ ((0 ≤ x ∧ x < V 1 2) ∧ (c = -1 ∨ (0 ≤ c ∧ c < V 1 1)) ∧ S 3 x ≠ c) → ∀ I1 : mI, (∀ z, z ≠ 122 → I1 z = I z) → (∀ Q2 : Int → mI → Prop, (∀ I2, K I2 J R → Q2 (-1) I2) → p12_refuses 3 I1 Q2) → p12_paint x c I1 (fun r2 I2 => if (0 : Int) = r2 then K I2 J R else False) := fun q I1 f1 kk => by
    have hLM1 : ldM I1 bk V F := ldM_fr (by rw [f1 159 (by decide)]) (fun z _ _ => f1 z (by omega)) hLM
    unfold p12_paint p12_paint_b21 p12_paint_b31
    have fin := kk (fun r1 I2 => if r1 < 0 then (if (0 : Int) = 0 then K I2 J R else False) else (if (0 : Int) = 1 then K I2 J R else False)) (fun I2 hk2 => zt (by decide) (zt rfl hk2))
    refine m_isThing hLM1 (fun _ => zt rfl fin) (fun q1 => zf (by decide) ?_)
    have e9 : I1 189 x = S 3 x := by rw [f1 189 (by decide)]; exact ((stM0 hM).1 x q1.1 (by omega)).2.2
    rw [e9]
    refine zs (fun e => ⟨by omega, zt ?_ fin⟩) (fun e => m_isColour hLM1 (fun _ => zt rfl fin) (fun q2 => zf (by decide) ⟨by omega, zt ?_ fin⟩))
    · by_cases e2 : S 3 x = c
      · exact e2
      · exact absurd ⟨q1, Or.inl e, e2⟩ q
    · by_cases e2 : S 3 x = c
      · exact e2
      · exact absurd ⟨q1, Or.inr q2, e2⟩ q
  have yes : (0 ≤ x ∧ x < V 1 2) → (c = -1 ∨ (0 ≤ c ∧ c < V 1 1)) → p11_paint_b29 x c I R (fun r1 I1 => rg (i + 1) ∧ (0 ≤ i + 1 ∧ i + 1 < (L : Int)) ∧ rg (i + 2) ∧ (0 ≤ i + 2 ∧ i + 2 < (L : Int)) ∧ p12_paint x c I1 (fun r2 I2 => if r1 = r2 then K I2 J R else False)) := fun qx qc => by
    have c3 : I 10 x = S 3 x := (hC.2.2.2.1 x qx.1 (by omega)).2.2
    unfold p11_paint_b29
    rw [c3]
    refine ⟨by omega, zs (fun e => laRI H' (by decide) (by decide) (fun I1 f1 kk => ⟨Or.inl rfl, ⟨by omega, by omega, by omega, by omega,  no (fun q => q.2.2 e) I1 f1 kk⟩⟩)) (fun e => ?_)⟩
    have hS' : stOK V (fun j => if j = 3 then zfn (S 3) x c else S j) := by
      obtain ⟨s1, s2, s3, s4, s5, s6, s7⟩ := hSt
      refine ⟨s1, s2, s3, s4, s5, s6, fun k k0 k6 => ?_⟩
      show -1 ≤ zfn (S 3) x c k ∧ zfn (S 3) x c k < V 1 1
      by_cases ek : k = x
      · rw [ek, zfn_s]; omega
      · rw [zfn_o ek]; exact s7 k k0 k6
    refine la_act H' hl hs hr hS' (fun I1 f1 hC1 kk => ⟨by omega, m_putK (fun I2 q2 g2 f2 => ⟨by omega, by omega, by omega, by omega, ?_⟩)⟩)
    have hC2 : stC I2 7 (fun j => if j = 3 then zfn (S 3) x c else S j) := by
      obtain ⟨d0, d1, d2, d3, d4⟩ := hC1
      refine ⟨by rw [f2 7 (by decide)]; exact d0, by rw [f2 7 (by decide)]; exact d1, by rw [f2 7 (by decide)]; exact d2, fun j j0 j6 => ?_, fun j j0 j1 => ?_⟩
      · have h3 := d3 j j0 j6
        show I2 8 j = S 1 j ∧ I2 9 j = S 2 j ∧ I2 10 j = zfn (S 3) x c j
        rw [f2 8 (by decide), f2 9 (by decide)]
        refine ⟨h3.1, h3.2.1, ?_⟩
        by_cases ej : j = x
        · rw [ej, zfn_s]; exact q2
        · rw [zfn_o ej, g2 j ej]; exact h3.2.2
      · show I2 11 j = S 4 j
        rw [f2 11 (by decide)]; exact d4 j j0 j1
    have hLM2 : ldM I2 bk V F := ldM_fr (by rw [f2 159 (by decide), f1 159 (by decide) (by decide)]) (fun z _ _ => by rw [f2 z (by omega), f1 z (by omega) (by omega)]) hLM
    have e9 : I2 189 x = S 3 x := by rw [f2 189 (by decide), f1 189 (by decide) (by decide)]; exact ((stM0 hM).1 x qx.1 (by omega)).2.2
    have go : p12_paint_b21 x c I2 (fun r2 I2 => if (1 : Int) = r2 then K I2 J R else False) := by
      unfold p12_paint_b21
      rw [e9]
      refine ⟨by omega, zf e (kk I2 (fun z hz => f2 z (by omega)) hC2 _ (fun I3 f3 hM3 k3 => ⟨by omega, m_putK (fun I4 q4 g4 f4 => zt rfl (k3 I4 ⟨fun z hz => f4 z (by omega), fun j _ => ?_, fun j hj => ⟨?_, ?_, g4 j (by omega)⟩, fun j _ => ?_⟩ (fun z hz => f4 z (by omega)) ?_))⟩))⟩
      · rw [f4 185 (by decide), f4 186 (by decide), f4 190 (by decide)]; exact ⟨rfl, rfl, rfl⟩
      · rw [f4 187 (by decide)]
      · rw [f4 188 (by decide)]
      · rw [f4 191 (by decide)]
      · have a := stM0 hM3
        obtain ⟨d0, d1, d2, -, d4⟩ := hM3
        refine ⟨by rw [f4 185 (by decide)]; exact d0, by rw [f4 186 (by decide)]; exact d1, by rw [f4 190 (by decide)]; exact d2, fun j j0 j6 => ?_, fun j j0 j1 => ?_⟩
        · have h3 := a.1 j j0 j6
          show I4 187 (6 * 0 + j) = S 1 j ∧ I4 188 (6 * 0 + j) = S 2 j ∧ I4 189 (6 * 0 + j) = zfn (S 3) x c j
          rw [show (6 : Int) * 0 + j = j by omega, f4 187 (by decide), f4 188 (by decide)]
          refine ⟨h3.1, h3.2.1, ?_⟩
          by_cases ej : j = x
          · rw [ej, zfn_s]; exact q4
          · rw [zfn_o ej, g4 j ej]; exact h3.2.2
        · show I4 191 (120 * 0 + j) = S 4 j
          rw [f4 191 (by decide)]; exact d4 j j0 j1
    unfold p12_paint
    refine m_isThing hLM2 (fun q => absurd qx q) (fun _ => zf (by decide) ?_)
    rcases qc with ec | ec
    · exact zt ec go
    · exact zf (by omega) (m_isColour hLM2 (fun q => absurd ec q) (fun _ => zf (by decide) go))
  unfold p11_paint
  rw [r12]
  refine ⟨hh, c_there hLd (fun q => zt rfl (laRI H' (by decide) (by decide) (fun I1 f1 kk => ⟨Or.inl rfl, ⟨by omega, by omega, by omega, by omega,  no (by omega) I1 f1 kk⟩⟩))) (fun q => zf (by decide) (zs (fun e => yes (by omega) (Or.inl e)) (fun e => ⟨hh, c_there hLd (fun q2 => zt rfl (laRI H' (by decide) (by decide) (fun I1 f1 kk => ⟨Or.inl rfl, ⟨by omega, by omega, by omega, by omega,  no (by omega) I1 f1 kk⟩⟩))) (fun q2 => zf (by decide) (yes (by omega) (Or.inr (by omega))))⟩)))⟩
