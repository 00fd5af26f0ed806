/-! on: the call -/
/-- the tape is empty, something may have been refused; else only a question's rows have changed -/
theorem inv_t5 {t : Nat} {I I' J : mI} {R : mR} {dl : Int → Int} (hI : Inv t I J R) (e : ∀ z, psO z → z ≠ 2 → z ≠ 122 → z ≠ 159 → z ≠ 184 → I' z = I z) (e9 : ∀ j, j ≠ 1 → I' 159 j = I 159 j) (h2 : I' 2 1 = 0) (h159 : I' 159 1 = 0) (hr : ∀ j, I' 122 j = I 122 j + dl j ∧ I' 184 j = I 184 j + dl j ∧ 0 ≤ dl j ∧ dl j ≤ 1) (e8 : I' 146 8 = I 146 8) (e5 : I' 151 5 = I 151 5) (hM : ∀ V w S, w ≠ 1 → S 0 2 ≤ 40 → stM V I w S → stM V I' w S) : Inv (t + 1) I' J R := by
  obtain ⟨h, sp, bk, V, F, S, P, hl, hs, r1, r2, r3, r4, r5, r6, r7⟩ := hI
  have e1 : I' 1 = I 1 := e 1 (by unfold psO; omega) (by decide) (by decide) (by decide) (by decide)
  refine ⟨h, sp, bk, V, F, S, P, fr_lan hl (fun z _ _ => e z (by unfold psO; omega) (by omega) (by omega) (by omega) (by omega)) e8 (e9 13 (by decide)) (fun z _ _ => e z (by unfold psO; omega) (by omega) (by omega) (by omega) (by omega)) (e 192 (by unfold psO; omega) (by decide) (by decide) (by decide) (by decide)) rfl rfl, ⟨stC_of (fun j hj => e _ (by unfold psO; omega) (by omega) (by omega) (by omega) (by omega)) hs.1, hM V 0 S (by decide) hs.2.2.2.2.1.2 hs.2.1, hs.2.2⟩, ⟨h159.trans h2.symm, by omega, by omega, fun k k0 k1 => by omega⟩, fun j j0 j6 => ?_, fr_fau r3 (by rw [e1]) (by rw [e1]) (e9 10 (by decide)) (e9 11 (by decide)), fr_die r4 (by rw [e1]) rfl, fr_pas r5 (fun z _ _ => e z (by unfold psO; omega) (by omega) (by omega) (by omega) (by omega)) (e9 52 (by decide)) (e9 53 (by decide)) (fun w S' w2 s2 hst => hM V w S' (by omega) s2 hst), fr_pic r6 (by rw [e 119 (by unfold psO; omega) (by decide) (by decide) (by decide) (by decide)]) (e 120 (by unfold psO; omega) (by decide) (by decide) (by decide) (by decide)) (e9 68 (by decide)) (e 203 (by unfold psO; omega) (by decide) (by decide) (by decide) (by decide)), fr_met r7 e5 (e 157 (by unfold psO; omega) (by decide) (by decide) (by decide) (by decide)) (e9 62 (by decide)) (fun z _ _ => e z (by unfold psO; omega) (by omega) (by omega) (by omega) (by omega))⟩
  have a := r2 j j0 j6
  have b := hr j
  omega
theorem la_33 {L t : Nat} {X : Int → Int} {i : Int} {I J : mI} {R : mR} {K : mI → mI → mR → Prop} (H : LaH L t X i I J R K) : plaw_33 L X i I J R K := by
  obtain ⟨hL, hX, h0, h1, ht, hI, hK⟩ := H
  obtain ⟨h, sp, bk, V, F, S, P, hl, hs, hr⟩ := id hI
  obtain ⟨r1, r2, r3, r4, r5, r6, r7⟩ := hr
  have hh := iLan_ld hl
  obtain ⟨⟨r12, -, -⟩, hLd, hV, hF, hLM, -⟩ := id hl
  obtain ⟨hC, hSM, hSt⟩ := id hs
  obtain ⟨t1, t2, t3, t4⟩ := id r1
  have htC : tbC I (I 2 1) (I 160) := ⟨rfl, ⟨t2, t3⟩, fun j j0 j1 => t4 j j0 j1⟩
  have hlh : h = 123 ∨ h = 132 := hh
  unfold plaw_33 p11_on
  rw [r12]
  refine ⟨hh, c_fits htC hLd hV (fun q => zf (by decide) ⟨hh, ?_⟩) (fun q => zt rfl ?_)⟩
  · have en := q.1
    refine c_show hh htC hLd hV en hC (fun I1 f1 hC1 => m_putK (fun I2 q2 g2 f2 => ?_))
    show p11_on_b39 1 I2 R _
    unfold p11_on_b39
    refine m_putK (fun I3 q3 g3 f3 => zf (by decide) ?_)
    have F3 : ∀ z, ¬ (7 ≤ z ∧ z ≤ 11) → z ≠ 17 → z ≠ 2 → I3 z = I z := fun z a b c => by rw [f3 z c, f2 z b, f1 z a]
    show p12_on I3 (fun r2 I2 => if (1 : Int) = r2 then K I2 J R else False)
    unfold p12_on
    have e9 : I3 159 = I 159 := F3 159 (by omega) (by decide) (by decide)
    rw [e9, t1]
    refine m_putK (fun I4 q4 g4 f4 => ?_)
    have F4 : ∀ z, ¬ (7 ≤ z ∧ z ≤ 11) → z ≠ 17 → z ≠ 2 → z ≠ 159 → I4 z = I z := fun z a b c d => by rw [f4 z d, F3 z a b c]
    have hLM4 : ldM I4 bk V F := ldM_fr (by rw [g4 13 (by decide), e9]) (fun z _ _ => F4 z (by omega) (by omega) (by omega) (by omega)) hLM
    have hSM4 : stM V I4 0 S := stM_fr (fun z _ _ => F4 z (by omega) (by omega) (by omega) (by omega)) hSM
    have htM4 : tbM I4 (I 2 1) (I 160) := fun j j0 j1 => by rw [F4 160 (by omega) (by decide) (by decide) (by decide)]; exact ⟨rfl, (t4 j j0 j1).2⟩
    have hts := tsF_ok (S := S) hV hSt (fun j j0 j1 => (t4 j j0 j1).2) q
    refine m_comesOn htM4 hLM4 hV hSM4 hSt (fun _ I5 g5 hS5 => zf (by decide) ?_) (fun q2 => absurd q q2)
    refine m_copy (by omega) (by omega) (by omega) hS5 hts.2.2.1 (fun I6 g6 f6 hS6 => m_putK (fun I7 q7 g7 f7 => zt rfl (hK I7 J R ?_)))
    have e : ∀ z, ¬ (7 ≤ z ∧ z ≤ 11) → z ≠ 17 → z ≠ 2 → z ≠ 159 → (z < 185 ∨ z = 192 ∨ 197 < z) → I7 z = I z := fun z a b c d z2 => by
      rw [f7 z d]
      by_cases x : z < 185
      · rw [g6.1 z (by omega), g5.1 z (by omega), F4 z a b c d]
      · rw [f6 z (by omega), g5.1 z (by omega), F4 z a b c d]
    have e99 : ∀ j, j ≠ 1 → j ≠ 53 → I7 159 j = I 159 j := fun j ja jb => by rw [g7 j jb, g6.1 159 (by omega), g5.1 159 (by omega), g4 j ja, e9]
    have el : ∀ z, z < 159 → I7 z = I3 z := fun z hz => by rw [f7 z (by omega), g6.1 z (by omega), g5.1 z (by omega), f4 z (by omega)]
    have e1 : I7 1 = I 1 := e 1 (by omega) (by decide) (by decide) (by decide) (by omega)
    have e17 : ∀ j, j ≠ 2 → I7 17 j = I 17 j := fun j hj => by rw [el 17 (by decide), f3 17 (by decide), g2 j hj, f1 17 (by omega)]
    refine ⟨h, sp, bk, V, F, tsF V S (I 160), P, fr_lan hl (fun z _ _ => e z (by omega) (by omega) (by omega) (by omega) (by omega)) (by rw [e 146 (by omega) (by decide) (by decide) (by decide) (by omega)]) (e99 13 (by decide) (by decide)) (fun z _ _ => e z (by omega) (by omega) (by omega) (by omega) (by omega)) (e 192 (by omega) (by decide) (by decide) (by decide) (by omega)) rfl rfl, ⟨stC_of (fun j hj => by rw [el _ (by omega), f3 _ (by omega), f2 _ (by omega)]) hC1, stM_fr (fun z z0 z1 => f7 z (by omega)) hS6, hts⟩, ⟨?_, ?_, ?_, fun k k0 k1 => ?_⟩, fr_ref r2 (by omega) (e 122 (by omega) (by decide) (by decide) (by decide) (by omega)) (e 184 (by omega) (by decide) (by decide) (by decide) (by omega)), fr_fau r3 (by rw [e1]) (by rw [e1]) (e99 10 (by decide) (by decide)) (e99 11 (by decide) (by decide)), fr_die r4 (by rw [e1]) rfl, ?_, fr_pic r6 (by rw [e 119 (by omega) (by decide) (by decide) (by decide) (by omega)]) (e 120 (by omega) (by decide) (by decide) (by decide) (by omega)) (e99 68 (by decide) (by decide)) (e 203 (by omega) (by decide) (by decide) (by decide) (by omega)), fr_met r7 (by rw [e 151 (by omega) (by decide) (by decide) (by decide) (by omega)]) (e 157 (by omega) (by decide) (by decide) (by decide) (by omega)) (e99 62 (by decide) (by decide)) (fun z _ _ => e z (by omega) (by omega) (by omega) (by omega) (by omega))⟩
    · rw [g7 1 (by decide), g6.1 159 (by omega), g5.1 159 (by omega), q4, el 2 (by decide)]; exact q3.symm
    · rw [el 2 (by decide), q3]; omega
    · rw [el 2 (by decide), q3]; omega
    · rw [el 2 (by decide), q3] at k1; omega
    · have c2 : I7 17 2 = 0 := by rw [el 17 (by decide), f3 17 (by decide)]; exact q2
      obtain ⟨a1, a2, a3, a4, a5⟩ := r5
      refine ⟨by rw [e17 1 (by decide)]; exact a1, by rw [c2, q7], by rw [c2]; omega, by rw [e99 52 (by decide) (by decide)]; exact a4, fun j j0 j1 => by rw [c2] at j1; omega⟩
  · show p11_on_b39 0 I R _
    unfold p11_on_b39
    refine m_putK (fun I1 q1 g1 f1 => zt rfl ?_)
    have hrf := r2 5 (by decide) (by decide)
    unfold p11_refuseIt
    refine c_refuse (by decide) (by decide) (by rw [f1 122 (by decide)]; omega) (fun I2 a1 a2 a3 => ?_)
    show (if (0 : Int) = 0 then p12_on I2 (fun r2 I2 => if (0 : Int) = r2 then K I2 J R else False) else p12_on I2 (fun r2 I2 => if (1 : Int) = r2 then K I2 J R else False))
    refine zt rfl ?_
    unfold p12_on
    have F2 : ∀ z, z ≠ 2 → z ≠ 122 → I2 z = I z := fun z a b => by rw [a3 z b, f1 z a]
    have e9 : I2 159 = I 159 := F2 159 (by decide) (by decide)
    rw [e9, t1]
    refine m_putK (fun I4 q4 g4 f4 => ?_)
    have F4 : ∀ z, z ≠ 2 → z ≠ 122 → z ≠ 159 → I4 z = I z := fun z a b c => by rw [f4 z c, F2 z a b]
    have hLM4 : ldM I4 bk V F := ldM_fr (by rw [g4 13 (by decide), e9]) (fun z _ _ => F4 z (by omega) (by omega) (by omega)) hLM
    have hSM4 : stM V I4 0 S := stM_fr (fun z _ _ => F4 z (by omega) (by omega) (by omega)) hSM
    have htM4 : tbM I4 (I 2 1) (I 160) := fun j j0 j1 => by rw [F4 160 (by decide) (by decide) (by decide)]; exact ⟨rfl, (t4 j j0 j1).2⟩
    refine m_comesOn htM4 hLM4 hV hSM4 hSt (fun q2 => absurd q2 q) (fun _ I5 g5 => zt rfl ?_)
    refine m_refuse (by decide) (by decide) (by rw [g5.1 184 (by omega), F4 184 (by decide) (by decide) (by decide)]; omega) (fun I6 b1 b2 b3 => zt (by decide) (zt rfl (hK I6 J R ?_)))
    have hM6 : ∀ {V : mI} w S', w ≠ 1 → S' 0 2 ≤ 40 → stM V I w S' → stM V I6 w S' := fun w S' w1 s2 hst => stM_fr (fun z z0 z1 => b3 z (by omega)) (stM_g g5 w1 s2 (stM_fr (fun z z0 z1 => F4 z (by omega) (by omega) (by omega)) hst))
    refine inv_t5 (dl := fun j => if j = 5 then 1 else 0) hI (fun z hz a b c d => ?_) (fun j hj => ?_) ?_ ?_ (fun j => ?_) ?_ ?_ (fun _ => hM6)
    · unfold psO at hz
      rw [b3 z d, g5.1 z (by omega), F4 z a b c]
    · rw [b3 159 (by decide), g5.1 159 (by omega), g4 j hj, e9]
    · rw [b3 2 (by decide), g5.1 2 (by omega), f4 2 (by decide), a3 2 (by decide)]; exact q1
    · rw [b3 159 (by decide), g5.1 159 (by omega)]; exact q4
    · have x1 : I6 122 = I2 122 := by rw [b3 122 (by decide), g5.1 122 (by omega), f4 122 (by decide)]
      have x2 : I5 184 = I 184 := by rw [g5.1 184 (by omega), F4 184 (by decide) (by decide) (by decide)]
      rw [x1]
      by_cases ej : j = 5
      · subst ej
        rw [a1, b1, x2, f1 122 (by decide)]
        show I 122 5 + 1 = I 122 5 + (if (5 : Int) = 5 then 1 else 0) ∧ I 184 5 + 1 = I 184 5 + (if (5 : Int) = 5 then 1 else 0) ∧ 0 ≤ (if (5 : Int) = 5 then (1 : Int) else 0) ∧ (if (5 : Int) = 5 then (1 : Int) else 0) ≤ 1
        rw [if_pos rfl]; omega
      · rw [a2 j ej, b2 j ej, x2, f1 122 (by decide)]
        show I 122 j = I 122 j + (if j = 5 then 1 else 0) ∧ I 184 j = I 184 j + (if j = 5 then 1 else 0) ∧ 0 ≤ (if j = 5 then (1 : Int) else 0) ∧ (if j = 5 then (1 : Int) else 0) ≤ 1
        rw [if_neg ej]; omega
    · rw [b3 146 (by decide), g5.1 146 (by omega), F4 146 (by decide) (by decide) (by decide)]
    · rw [b3 151 (by decide), g5.1 151 (by omega), F4 151 (by decide) (by decide) (by decide)]
