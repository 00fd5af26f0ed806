/-! later, mood, purse -/
theorem la_12 {L t : Nat} {X : Int → Int} {i : Int} {I J : mI} {R : mR} {K : mI → mI → mR → Prop} (H : LaH L t X i I J R K) : plaw_12 L X i I J R K := by
  have hk := laK H
  have H' := H
  obtain ⟨hL, hX, h0, h1, ht, ⟨h, sp, bk, V, F, S, P, hl, hs, hr⟩, -⟩ := H
  have hh := iLan_ld hl
  have hw := iWfs hl hs
  have hCM := iCtM hl hs
  have hT := iTwC hl
  obtain ⟨⟨r12, -, -⟩, hLd, hV, hF, hM, hN, hNam, hTw, hSup⟩ := hl
  obtain ⟨hC, hSM, hSt⟩ := hs
  have n := hV.1
  unfold plaw_12
  refine ⟨by omega, by omega, by omega, by omega, ?_⟩
  generalize X (i + 1) = x
  generalize X (i + 2) = y
  have no : ¬ ((0 ≤ x ∧ x < V 1 2) ∧ 0 ≤ y ∧ y ≤ 40 ∧ S 0 0 + y ≤ 999) → p12_later x y I J (fun r2 I2 J2 => if (-1 : Int) = r2 then K I2 J2 R else False) := fun q => by
    unfold p12_later
    exact m_isThing hM (fun _ => zt rfl (zt rfl hk)) (fun q1 => zf (by decide) (m_isAhead hSM.1 hSt.1 (by decide) (by decide) (fun _ => zt rfl (zt rfl hk)) (fun q2 => absurd ⟨q1, q2⟩ q)))
  unfold p11_later
  rw [r12]
  refine ⟨hh, c_there hLd (fun q => zt rfl ⟨by omega, by omega, by omega, by omega,  no (by omega)⟩) (fun q => zf (by decide) (c_canPass hC.1 hSt.1 (fun q2 => zt rfl ⟨by omega, by omega, by omega, by omega,  no (by omega)⟩) (fun q2 => zf (by decide) ?_)))⟩
  refine c_ahead hh hV hF (tw0_rg hV) ⟨q2.1, q2.2.1⟩ r12 hLd hT hC hSt q2.2.2 (fun I1 J1 R1 f1 j1 rr hS1 => ⟨by omega, ⟨by omega, by omega, by omega, by omega, ?_⟩⟩)
  have q1 := qf_p f1
  have hCM1 := ctM_q q1 (by decide) hSt.2.2.1.2 hCM
  unfold p12_later
  refine m_isThing hCM1.1 (fun q3 => by omega) (fun _ => zf (by decide) (m_isAhead hCM1.2.1.1 hSt.1 (by decide) (by decide) (fun q3 => absurd q2 q3) (fun _ => zf (by decide) ?_)))
  refine m_ahead hV hF (tw0_rg hV) ⟨q2.1, q2.2.1⟩ hCM1 hSt q2.2.2 (fun I2 J2 g2 j2 hS2 => ⟨by omega, by omega,  zt ?_ ?_⟩)
  · exact (hS1.2.2.2.1 x (by omega) (by omega)).2.2.trans ((stM1 hS2).1 x (by omega) (by omega)).2.2.symm
  · exact laQ H' (qf_t q1 (qf_g2 g2)) (jqt (jq6 j1) (jq193 j2)) rr
theorem la_13 {L t : Nat} {X : Int → Int} {i : Int} {I J : mI} {R : mR} {K : mI → mI → mR → Prop} (H : LaH L t X i I J R K) : plaw_13 L X i I J R K := by
  have hk := laK H
  have H' := H
  obtain ⟨hL, hX, h0, h1, ht, ⟨h, sp, bk, V, F, S, P, hl, hs, hr⟩, -⟩ := H
  have hh := iLan_ld hl
  have hw := iWfs hl hs
  have hCM := iCtM hl hs
  have hT := iTwC hl
  obtain ⟨⟨r12, -, -⟩, hLd, hV, hF, hM, hN, hNam, hTw, hSup⟩ := hl
  obtain ⟨hC, hSM, hSt⟩ := hs
  have n := hV.1
  unfold plaw_13
  refine ⟨by omega, by omega, by omega, by omega, ?_⟩
  generalize X (i + 1) = x
  generalize X (i + 2) = y
  have no : ¬ ((0 ≤ x ∧ x < V 1 0) ∧ 0 ≤ y ∧ y ≤ 40 ∧ S 0 0 + y ≤ 999) → p12_mood x y I J (fun r2 I2 J2 => if (-1 : Int) = r2 then K I2 J2 R else False) := fun q => by
    unfold p12_mood
    exact m_isBlind hM (fun _ => zt rfl (zt rfl hk)) (fun q1 => zf (by decide) (m_isAhead hSM.1 hSt.1 (by decide) (by decide) (fun _ => zt rfl (zt rfl hk)) (fun q2 => absurd ⟨q1, q2⟩ q)))
  unfold p11_mood
  rw [r12]
  refine ⟨hh, c_there hLd (fun q => zt rfl ⟨by omega, by omega, by omega, by omega,  no (by omega)⟩) (fun q => zf (by decide) (c_canPass hC.1 hSt.1 (fun q2 => zt rfl ⟨by omega, by omega, by omega, by omega,  no (by omega)⟩) (fun q2 => zf (by decide) ?_)))⟩
  refine c_ahead hh hV hF (tw0_rg hV) ⟨q2.1, q2.2.1⟩ r12 hLd hT hC hSt q2.2.2 (fun I1 J1 R1 f1 j1 rr hS1 => ⟨by omega, ⟨by omega, by omega, by omega, by omega, ?_⟩⟩)
  have q1 := qf_p f1
  have hCM1 := ctM_q q1 (by decide) hSt.2.2.1.2 hCM
  unfold p12_mood
  refine m_isBlind hCM1.1 (fun q3 => by omega) (fun _ => zf (by decide) (m_isAhead hCM1.2.1.1 hSt.1 (by decide) (by decide) (fun q3 => absurd q2 q3) (fun _ => zf (by decide) ?_)))
  refine m_ahead hV hF (tw0_rg hV) ⟨q2.1, q2.2.1⟩ hCM1 hSt q2.2.2 (fun I2 J2 g2 j2 hS2 => ⟨by omega, by omega,  zt ?_ ?_⟩)
  · exact (hS1.2.2.2.1 x (by omega) (by omega)).2.1.trans ((stM1 hS2).1 x (by omega) (by omega)).2.1.symm
  · exact laQ H' (qf_t q1 (qf_g2 g2)) (jqt (jq6 j1) (jq193 j2)) rr
theorem la_14 {L t : Nat} {X : Int → Int} {i : Int} {I J : mI} {R : mR} {K : mI → mI → mR → Prop} (H : LaH L t X i I J R K) : plaw_14 L X i I J R K := by
  have hk := laK H
  have H' := H
  obtain ⟨hL, hX, h0, h1, ht, ⟨h, sp, bk, V, F, S, P, hl, hs, hr⟩, -⟩ := H
  have hh := iLan_ld hl
  have hw := iWfs hl hs
  have hCM := iCtM hl hs
  have hT := iTwC hl
  obtain ⟨⟨r12, -, -⟩, hLd, hV, hF, hM, hN, hNam, hTw, hSup⟩ := hl
  obtain ⟨hC, hSM, hSt⟩ := hs
  unfold plaw_14
  refine ⟨by omega, by omega, ?_⟩
  generalize X (i + 1) = y
  unfold p11_purse
  refine c_canPass hC.1 hSt.1 (fun q2 => zt rfl ⟨by omega, by omega, ?_⟩) (fun q2 => zf (by decide) ?_)
  · unfold p12_purse
    exact m_isAhead hSM.1 hSt.1 (by decide) (by decide) (fun _ => zt rfl (zt rfl hk)) (fun q3 => absurd q3 q2)
  refine c_ahead hh hV hF (tw0_rg hV) ⟨q2.1, q2.2.1⟩ r12 hLd hT hC hSt q2.2.2 (fun I1 J1 R1 f1 j1 rr hS1 => ⟨by omega, by omega, ?_⟩)
  have q1 := qf_p f1
  have hCM1 := ctM_q q1 (by decide) hSt.2.2.1.2 hCM
  unfold p12_purse
  refine m_isAhead hCM1.2.1.1 hSt.1 (by decide) (by decide) (fun q3 => absurd q2 q3) (fun _ => zf (by decide) ?_)
  refine m_ahead hV hF (tw0_rg hV) ⟨q2.1, q2.2.1⟩ hCM1 hSt q2.2.2 (fun I2 J2 g2 j2 hS2 => zt ?_ ?_)
  · exact hS1.2.1.trans hS2.2.1.symm
  · exact laQ H' (qf_t q1 (qf_g2 g2)) (jqt (jq6 j1) (jq193 j2)) rr
