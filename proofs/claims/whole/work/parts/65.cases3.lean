/-! blind, score, word, choice -/
theorem la_6 {L t : Nat} {X : Int → Int} {i : Int} {I J : mI} {R : mR} {K : mI → mI → mR → Prop} (H : LaH L t X i I J R K) : plaw_6 L X i I J R K := by
  have hk := laK H
  have H' := H
  obtain ⟨hL, hX, h0, h1, ht, ⟨h, sp, bk, V, F, S, P, hl, hs, hr⟩, -⟩ := H
  have hh := iLan_ld hl
  have hw := iWfs hl hs
  have hCM := iCtM hl hs
  have hT := iTwC hl
  obtain ⟨⟨r12, -, -⟩, hLd, hV, hF, hM, hN, hNam, hTw, hSup⟩ := hl
  obtain ⟨hC, hSM, hSt⟩ := hs
  have n := hV.1
  unfold plaw_6
  refine ⟨by omega, by omega, by omega, by omega, ?_⟩
  generalize X (i + 1) = x
  generalize X (i + 2) = y
  unfold p11_blind
  rw [r12]
  have hbk := hM.2.1
  obtain ⟨m1, m2, m3, m4, m5, m6, m7, m8, m9, m10, m11, -⟩ := id hM
  refine ⟨hh, c_there hLd (fun q => zt rfl ⟨by omega, by omega, by omega, by omega, ?_⟩) (fun q => zf (by decide) ?_)⟩
  · unfold p12_blind
    exact m_isBlind hM (fun _ => zt rfl (zt rfl hk)) (fun q2 => by omega)
  by_cases e0 : y = 0
  · subst e0
    refine zt rfl ⟨hh, c_trait hLd (by omega) (by omega) (by omega) ⟨by omega, by omega, by omega, by omega, ?_⟩⟩
    unfold p12_blind
    refine m_isBlind hM (fun q2 => by omega) (fun q2 => zf (by decide) (zt rfl ?_))
    rw [m1, m6 x 0 (by omega) (by omega) (by omega) (by omega)]
    exact ⟨by omega, by omega, by omega, by omega, by omega,  zt rfl hk⟩
  refine zf e0 ?_
  by_cases e1 : y = 1
  · subst e1
    refine zt rfl ⟨hh, c_trait hLd (by omega) (by omega) (by omega) ⟨by omega, by omega, by omega, by omega, ?_⟩⟩
    unfold p12_blind
    refine m_isBlind hM (fun q2 => by omega) (fun q2 => zf (by decide) (zf (by decide) (zt rfl ?_)))
    rw [m1, m6 x 1 (by omega) (by omega) (by omega) (by omega)]
    exact ⟨by omega, by omega, by omega, by omega, by omega,  zt rfl hk⟩
  refine zf e1 ?_
  by_cases e2 : y = 2
  · subst e2
    refine zt rfl ⟨hh, c_trait hLd (by omega) (by omega) (by omega) ⟨by omega, by omega, by omega, by omega, ?_⟩⟩
    unfold p12_blind
    refine m_isBlind hM (fun q2 => by omega) (fun q2 => zf (by decide) (zf (by decide) (zf (by decide) (zt rfl ?_))))
    rw [m1, m6 x 2 (by omega) (by omega) (by omega) (by omega)]
    exact ⟨by omega, by omega, by omega, by omega, by omega,  zt rfl hk⟩
  refine zf e2 ?_
  by_cases e3 : y = 3
  · refine zt e3 ⟨hh, ?_⟩
    unfold p3_isLate
    rw [hLd.1]
    refine ⟨by omega, by omega, by omega, by omega, ?_⟩
    unfold p12_blind
    refine m_isBlind hM (fun q2 => by omega) (fun q2 => zf (by decide) (zf e0 (zf e1 (zf e2 (zt e3 ?_)))))
    rw [m1, m10]
    refine ⟨by omega, ?_⟩
    unfold p12_has2
    have b01 := has1_01 (V 0 9) x
    by_cases e : has1 (V 0 9) x = 1
    · exact zt e (zf (by decide) (zt e hk))
    · exact zf e (zt rfl (zt (b01.resolve_right e) hk))
  refine zf e3 ?_
  by_cases e4 : y = 4
  · refine zt e4 ⟨by omega, ⟨by omega, by omega, by omega, by omega, ?_⟩⟩
    unfold p12_blind
    refine m_isBlind hM (fun q2 => by omega) (fun q2 => zf (by decide) (zf e0 (zf e1 (zf e2 (zf e3 (zt e4 ⟨by omega, zt ?_ hk⟩))))))
    have a1 : I 9 x = S 2 x := (hC.2.2.2.1 x (by omega) (by omega)).2.1
    have a2 := ((stM0 hSM).1 x (by omega) (by omega)).2.1
    exact a1.trans a2.symm
  refine zf e4 ?_
  by_cases e5 : y = 5
  · refine zt e5 ⟨hh, ?_⟩
    rw [hLd.2.1]
    have o1 : ∀ k, 0 ≤ k → k < 6 → I 8 k = S 1 k := fun k k0 k6 => (hC.2.2.2.1 k k0 k6).1
    have o2 : ∀ k, 0 ≤ k → k < V 1 0 → I 187 k = S 1 k := fun k k0 k6 => ((stM0 hSM).1 k k0 ⟨by omega, Or.inl k6⟩).1
    refine ⟨(V 1 0).toNat + 1, (c_placeGo o1 n.1.2 (fun _ => True) I m1 m2 m3 o2 (V 1 0).toNat 0 (by omega) (by omega)).1 ⟨by omega, by omega, by omega, by omega, ?_⟩⟩
    unfold p12_blind
    refine m_isBlind hM (fun q2 => by omega) (fun q2 => zf (by decide) (zf e0 (zf e1 (zf e2 (zf e3 (zf e4 (zt e5 ?_)))))))
    exact ⟨(V 1 0).toNat + 1, (c_placeGo (Q := fun _ => True) o1 n.1.2 _ I m1 m2 m3 o2 (V 1 0).toNat 0 (by omega) (by omega)).2 (zt rfl hk)⟩
  refine zf e5 ?_
  by_cases e6 : y = 6
  · refine zt e6 ⟨hh, c_sit hh isSt_7 hLd hC hT hw (fun I1 J1 f1 j1 hC1 hK1 hN1 _ => ?_)⟩
    have q1 := qf_si f1
    have hM1 := ldM_q q1 hM
    have hCM1 : ctM I1 bk 0 V F S (tw0 V) := ⟨hM1, stM_q q1 (by decide) hSt.2.2.1.2 hSM, by unfold twM; rw [q1.1 192 (by unfold psO; omega)]; exact hTw, by omega, by omega⟩
    have rr : rfr R (up (up R 146 4 h) 146 5 7) := fun z hz => by
      funext j; rw [up_o _ _ _ _ hz, up_o _ _ _ _ hz]
    have hc := hN1 x (by omega) (by omega)
    have go : ∀ r : Int, r = cnF V F S x → p12_blind x y I1 J1 (fun r2 I2 J2 => if r = r2 then K I2 J2 (up (up R 146 4 h) 146 5 7) else False) := fun r er => by
      unfold p12_blind
      refine m_isBlind hM1 (fun q2 => by omega) (fun q2 => zf (by decide) (zf e0 (zf e1 (zf e2 (zf e3 (zf e4 (zf e5 (zt e6 ?_))))))))
      refine m_count hCM1 hw (by omega) (fun I2 J2 f2 j2 h01 => ?_)
      have fin := laQ H' (qf_t q1 (qf_o (qfr_o (nfr_q f2)))) (jqt (jq6 j1) (jq193 j2)) rr
      by_cases ec : cnF V F S x = 0
      · exact zt ec (zt (er.trans ec) fin)
      · exact zf ec (zt (er.trans (h01.resolve_left ec)) fin)
    unfold p1_isCounting
    by_cases ec : cnF V F S x = 1
    · refine zt (show has1 (I1 146 7) x = 1 by omega) (zf (by decide) ⟨by omega, by omega, by omega, by omega,  go 1 ec.symm⟩)
    · refine zf (show ¬ has1 (I1 146 7) x = 1 by omega) (zt rfl ⟨by omega, by omega, by omega, by omega,  go 0 (by omega)⟩)
  · refine zf e6 ⟨by omega, by omega, by omega, by omega, ?_⟩
    unfold p12_blind
    exact m_isBlind hM (fun q2 => by omega) (fun q2 => zf (by decide) (zf e0 (zf e1 (zf e2 (zf e3 (zf e4 (zf e5 (zf e6 (zt rfl hk)))))))))
theorem r_sit (R : mR) (h a : Nat) : rfr R (up (up R 146 4 h) 146 5 a) := fun z hz => by
  funext j; rw [up_o _ _ _ _ hz, up_o _ _ _ _ hz]
/-- the model's context behind what the class did -/
theorem ctM_q {I I' : mI} {bk v : Int} {V : mI} {F : Int → List (Int × Int)} {S : mI} {tw : Int → Int} (hf : qf I I') (hv : v ≠ 1) (h2 : S 0 2 ≤ 40) (h : ctM I bk v V F S tw) : ctM I' bk v V F S tw :=
  ⟨ldM_q hf h.1, stM_q hf hv h2 h.2.1, by unfold twM; rw [hf.1 192 (by unfold psO; omega)]; exact h.2.2.1, h.2.2.2⟩
theorem c_areThere {I : mI} {R : mR} {h : Nat} {V : mI} {b th : Int} {Q : Int → Prop} (r12 : R 1 12 = h) (hh : isLd h) (hL : ldC I h V) (h0 : ¬ ((0 ≤ b ∧ b < V 1 0) ∧ 0 ≤ th ∧ th < V 1 2) → Q 0) (h1 : ((0 ≤ b ∧ b < V 1 0) ∧ 0 ≤ th ∧ th < V 1 2) → Q 1) : p11_areThere b th I R Q := by
  unfold p11_areThere
  rw [r12]
  exact ⟨hh, c_there hL (fun q => zt rfl (h0 (by omega))) (fun q => zf (by decide) ⟨hh, c_there hL (fun q2 => zt rfl (h0 (by omega))) (fun q2 => zf (by decide) (h1 (by omega)))⟩)⟩
theorem la_9 {L t : Nat} {X : Int → Int} {i : Int} {I J : mI} {R : mR} {K : mI → mI → mR → Prop} (H : LaH L t X i I J R K) : plaw_9 L X i I J R K := by
  have hk := laK H
  have H' := H
  obtain ⟨hL, hX, h0, h1, ht, ⟨h, sp, bk, V, F, S, P, hl, hs, hr⟩, -⟩ := H
  have hh := iLan_ld hl
  have hw := iWfs hl hs
  have hCM := iCtM hl hs
  have hT := iTwC hl
  obtain ⟨⟨r12, -, -⟩, hLd, hV, hF, hM, hN, hNam, hTw, hSup⟩ := hl
  obtain ⟨hC, hSM, hSt⟩ := hs
  have n := hV.1
  unfold plaw_9
  refine ⟨by omega, by omega, by omega, by omega, by omega, by omega, ?_⟩
  generalize X (i + 1) = x
  generalize X (i + 2) = y
  generalize X (i + 3) = z
  unfold p11_score
  have no : ¬ ((0 ≤ x ∧ x < V 1 0) ∧ (0 ≤ y ∧ y < V 1 2) ∧ 0 ≤ z ∧ z < V 1 1) → p12_score x y z I J (fun r2 I2 J2 => if (-1000000000000000 : Int) = r2 then K I2 J2 R else False) := fun q => by
    unfold p12_score
    exact m_isBlind hM (fun _ => zt rfl (zt rfl hk)) (fun q1 => zf (by decide) (m_isThing hM (fun _ => zt rfl (zt rfl hk)) (fun q2 => zf (by decide) (m_isColour hM (fun _ => zt rfl (zt rfl hk)) (fun q3 => absurd ⟨q1, q2, q3⟩ q)))))
  refine c_areThere r12 hh hLd (fun q => zt rfl ⟨by omega, by omega, by omega, by omega, by omega, by omega,  no (by omega)⟩) (fun q => zf (by decide) ?_)
  rw [r12]
  refine ⟨hh, c_there hLd (fun q2 => zt rfl ⟨by omega, by omega, by omega, by omega, by omega, by omega,  no (by omega)⟩) (fun q2 => zf (by decide) ⟨hh, ?_⟩)⟩
  refine c_sit hh isSt_7 hLd hC hT hw (fun I1 J1 f1 j1 hC1 hK1 hN1 _ => ?_)
  refine c_score hC1 hK1 hw q.2 q.1 (by omega) (by omega) (fun I2 J2 f2 j2 _ => ⟨by omega, by omega, by omega, by omega, by omega, by omega, ?_⟩)
  have q12 := qf_t (qf_si f1) (qf_a (sfr_a f2))
  have hCM2 := ctM_q q12 (by decide) hSt.2.2.1.2 hCM
  unfold p12_score
  refine m_isBlind hCM2.1 (fun q3 => by omega) (fun _ => zf (by decide) (m_isThing hCM2.1 (fun q3 => by omega) (fun _ => zf (by decide) (m_isColour hCM2.1 (fun q3 => by omega) (fun _ => zf (by decide) ?_)))))
  refine m_score hCM2 hw q.2 q.1 (by omega) (by omega) (fun I3 J3 f3 j3 => zt rfl ?_)
  exact laQ H' (qf_t q12 (qf_o (qfr_o (nfr_q f3)))) (jqt (jqt (jq6 j1) (jq6 j2)) (jq193 j3)) (r_sit R h 7)
theorem la_10 {L t : Nat} {X : Int → Int} {i : Int} {I J : mI} {R : mR} {K : mI → mI → mR → Prop} (H : LaH L t X i I J R K) : plaw_10 L X i I J R K := by
  have hk := laK H
  have H' := H
  obtain ⟨hL, hX, h0, h1, ht, ⟨h, sp, bk, V, F, S, P, hl, hs, hr⟩, -⟩ := H
  have hh := iLan_ld hl
  have hw := iWfs hl hs
  have hCM := iCtM hl hs
  have hT := iTwC hl
  obtain ⟨⟨r12, -, -⟩, hLd, hV, hF, hM, hN, hNam, hTw, hSup⟩ := hl
  obtain ⟨hC, hSM, hSt⟩ := hs
  unfold plaw_10
  refine ⟨by omega, by omega, by omega, by omega, ?_⟩
  generalize X (i + 1) = x
  generalize X (i + 2) = y
  unfold p11_word
  refine c_areThere r12 hh hLd (fun q => zt rfl ⟨by omega, by omega, by omega, by omega, ?_⟩) (fun q => zf (by decide) ?_)
  · unfold p12_word
    exact m_isBlind hM (fun _ => zt rfl (zt rfl hk)) (fun q1 => zf (by decide) (m_isThing hM (fun _ => zt rfl (zt rfl hk)) (fun q2 => absurd ⟨q1, q2⟩ q)))
  rw [r12]
  refine ⟨hh, c_sit hh isSt_7 hLd hC hT hw (fun I1 J1 f1 j1 hC1 hK1 hN1 hv1 => ?_)⟩
  refine c_word (v := fun _ => 0) hC1 hK1 hw q.2 q.1 (fun _ _ _ => by omega) hv1 (fun I2 J2 f2 j2 _ => ⟨by omega, by omega, by omega, by omega, ?_⟩)
  have q12 := qf_t (qf_si f1) (qf_a (sfr_a f2))
  have hCM2 := ctM_q q12 (by decide) hSt.2.2.1.2 hCM
  unfold p12_word
  refine m_isBlind hCM2.1 (fun q3 => by omega) (fun _ => zf (by decide) (m_isThing hCM2.1 (fun q3 => by omega) (fun _ => zf (by decide) ?_)))
  refine m_hush (fun I3 f3 z5 z6 => ?_)
  have o3 : ofr I2 I3 := fun z _ z5 z6 _ => f3 z z5 z6
  refine m_word (vt := fun _ => 0) (ctM_o o3 hCM2) hw q.2 q.1 (fun _ _ _ => by omega) z5 (fun I4 J4 f4 j4 => zt rfl ?_)
  exact laQ H' (qf_t q12 (qf_o (ofr_t o3 (qfr_o (nfr_q f4))))) (jqt (jqt (jq6 j1) (jq6 j2)) (jq193 j4)) (r_sit R h 7)
theorem asF_rg {V : mI} {F : Int → List (Int × Int)} {S : mI} {tw : Int → Int} {th : Int} {o : Int → Int} {set : Int} : ∀ (d : Nat) (k : Int) (v s : Int → Int), (∀ c, 0 ≤ v c) → ∀ c, 0 ≤ (asR V F S tw th o set d k v s).1 c
  | 0, _, v, s, h, c => h c
  | d + 1, k, v, s, h, c => by
    unfold asR
    split
    · exact asF_rg d (k + 1) v s h c
    · split
      · exact asF_rg d (k + 1) v _ h c
      · refine asF_rg d (k + 1) _ _ (fun c' => ?_) c
        unfold zfn
        split
        · have := h (woF (fun c => scF V F S tw (o k) th c (v c)) (V 1 1)); omega
        · exact h c'
theorem la_11 {L t : Nat} {X : Int → Int} {i : Int} {I J : mI} {R : mR} {K : mI → mI → mR → Prop} (H : LaH L t X i I J R K) : plaw_11 L X i I J R K := by
  have hk := laK H
  have H' := H
  obtain ⟨hL, hX, h0, h1, ht, ⟨h, sp, bk, V, F, S, P, hl, hs, hr⟩, -⟩ := H
  have hh := iLan_ld hl
  have hw := iWfs hl hs
  have hCM := iCtM hl hs
  have hT := iTwC hl
  obtain ⟨⟨r12, -, -⟩, hLd, hV, hF, hM, hN, hNam, hTw, hSup⟩ := hl
  obtain ⟨hC, hSM, hSt⟩ := hs
  have n := hV.1
  unfold plaw_11
  refine ⟨by omega, by omega, by omega, by omega, ?_⟩
  generalize X (i + 1) = x
  generalize X (i + 2) = y
  have no : ¬ ((0 ≤ x ∧ x < V 1 2) ∧ 0 ≤ y ∧ y ≤ 1) → p12_choice x y I J (fun r2 I2 J2 => if (-1 : Int) = r2 then K I2 J2 R else False) := fun q => by
    unfold p12_choice
    exact m_isThing hM (fun _ => zt rfl (zt rfl hk)) (fun q1 => zf (by decide) (m_is (fun _ => zt rfl (zt rfl hk)) (fun q2 => absurd ⟨q1, q2⟩ q)))
  unfold p11_choice
  rw [r12]
  refine ⟨hh, c_there hLd (fun q => zt rfl ⟨by omega, by omega, by omega, by omega,  no (by omega)⟩) (fun q => zf (by decide) (zs (fun e => ⟨by omega, by omega, by omega, by omega,  no (by omega)⟩) (fun e => zs (fun e2 => ⟨hh, ?_⟩) (fun e2 => ⟨by omega, by omega, by omega, by omega,  no (by omega)⟩))))⟩
  refine c_sit hh isSt_7 hLd hC hT hw (fun I1 J1 f1 j1 hC1 hK1 hN1 hv1 => ?_)
  have r1 : up (up R 146 4 h) 146 5 7 1 12 = h := by rw [r_sit R h 7 1 (by decide)]; exact r12
  rw [r1]
  refine ⟨hh, ?_⟩
  have hev := evb_rg n.1
  unfold p3_everybody
  rw [hC1.2.2.2.2.2.1.2.1]
  refine ⟨by omega, c_ask (o := S 1) hC1 hN1 hK1 hw (by omega) (by omega) (fun j j0 j1 => (hC1.2.2.2.2.2.2.1.2.2.2.1 j j0 (by omega)).1) hSt.2.2.2.1 (fun I2 J2 f2 j2 _ hv2 _ => ?_)⟩
  have q12 := qf_t (qf_si f1) (qf_a f2)
  have hCM2 := ctM_q q12 (by decide) hSt.2.2.1.2 hCM
  have hc := chF_rg (v := (asF V F S (tw0 V) x (S 1) (bShl 1 (V 1 0) - 1)).1) n.2.1.1
  have fin : ∀ r : Int, r = (if y = 0 then chF (asF V F S (tw0 V) x (S 1) (bShl 1 (V 1 0) - 1)).1 (V 1 1) else if chF (asF V F S (tw0 V) x (S 1) (bShl 1 (V 1 0) - 1)).1 (V 1 1) = -1 then -1 else (asF V F S (tw0 V) x (S 1) (bShl 1 (V 1 0) - 1)).1 (chF (asF V F S (tw0 V) x (S 1) (bShl 1 (V 1 0) - 1)).1 (V 1 1))) → p12_choice x y I2 J2 (fun r2 I2 J2 => if r = r2 then K I2 J2 (up (up R 146 4 h) 146 5 7) else False) := fun r er => by
    unfold p12_choice
    refine m_isThing hCM2.1 (fun q3 => by omega) (fun _ => zf (by decide) (m_is (fun q3 => by omega) (fun _ => zf (by decide) ?_)))
    obtain ⟨m1, m2, m3, -⟩ := id hCM2.1
    unfold p12_everybody
    rw [m1, m3]
    refine ⟨by omega, by omega,  m_choice hCM2 hw (by omega) (fun I3 J3 f3 j3 hv3 _ => ?_)⟩
    have kk := laQ H' (qf_t q12 (qf_o f3)) (jqt (jqt (jq6 j1) (jq6 j2)) (jq193 j3)) (r_sit R h 7)
    by_cases ec : chF (asF V F S (tw0 V) x (S 1) (bShl 1 (V 1 0) - 1)).1 (V 1 1) = -1
    · refine zt ec (zt ?_ kk)
      rw [er]
      by_cases ey : y = 0
      · rw [if_pos ey]
      · rw [if_neg ey, if_pos ec]; exact ec.symm
    · refine zf ec ?_
      by_cases ey : y = 0
      · rw [if_pos ey] at er; exact zt ey (zt er kk)
      · rw [if_neg ey, if_neg ec] at er
        refine zf ey ⟨by omega, zt ?_ kk⟩
        rw [er, hv3 _ (by omega) (by omega)]
  by_cases ey : y = 0
  · exact zt ey ⟨by omega, by omega, by omega, by omega,  fin _ (by rw [if_pos ey])⟩
  · refine zf ey ?_
    unfold p1_votesFor
    by_cases ec : chF (asF V F S (tw0 V) x (S 1) (bShl 1 (V 1 0) - 1)).1 (V 1 1) = -1
    · exact zt (by omega) ⟨by omega, by omega, by omega, by omega,  fin _ (by rw [if_neg ey, if_pos ec])⟩
    · refine zf (by omega) (zf (by omega) ⟨by omega, ⟨by omega, by omega, by omega, by omega,  fin _ ?_⟩⟩)
      rw [if_neg ey, if_neg ec, hv2 _ (by omega) (by omega)]
