/-! swap, undo -/
def swF (a b k : Int) : Int := if k = b then a else if k = a then b else k
theorem sw_eq (o : Int → Int) (a b k : Int) : zfn (zfn o a (o b)) b (o a) k = o (swF a b k) := by
  unfold swF
  by_cases e : k = b
  · rw [if_pos e, e, zfn_s]
  · rw [if_neg e, zfn_o e]
    by_cases e2 : k = a
    · rw [if_pos e2, e2, zfn_s]
    · rw [if_neg e2, zfn_o e2]
theorem la_26 {L t : Nat} {X : Int → Int} {i : Int} {I J : mI} {R : mR} {K : mI → mI → mR → Prop} (H : LaH L t X i I J R K) : plaw_26 L X i I J R K := by
  have H' := H
  obtain ⟨hL, hX, h0, h1, ht, ⟨h, sp, bk, V, F, S, P, hl, hs, hr⟩, hK⟩ := H
  have hh := iLan_ld hl
  obtain ⟨⟨r12, -, -⟩, hLd, hV, hF, hLM, -⟩ := id hl
  have n := hV.1
  unfold plaw_26
  refine ⟨by omega, by omega, by omega, by omega, ?_⟩
  generalize X (i + 1) = x
  generalize X (i + 2) = y
  obtain ⟨hC, hM, hSt⟩ := id hs
  have no : ¬ ((0 ≤ x ∧ x < V 1 0) ∧ (0 ≤ y ∧ y < V 1 0) ∧ x ≠ y) → ∀ I1 : mI, (∀ z, z ≠ 122 → I1 z = I z) → (∀ Q2 : Int → mI → Prop, (∀ I2, K I2 J R → Q2 (-1) I2) → p12_refuses 3 I1 Q2) → p12_swap x y I1 (fun r2 I2 => if (0 : Int) = r2 then K I2 J R else False) := fun q I1 f1 kk => by
    have hLM1 : ldM I1 bk V F := ldM_fr (by rw [f1 159 (by decide)]) (fun z _ _ => f1 z (by omega)) hLM
    unfold p12_swap p12_swap_b21
    have fin := kk (fun r1 I2 => if r1 < 0 then (if (0 : Int) = 0 then K I2 J R else False) else (if (0 : Int) = 1 then K I2 J R else False)) (fun I2 hk2 => zt (by decide) (zt rfl hk2))
    refine m_isBlind hLM1 (fun _ => zt rfl fin) (fun q1 => zf (by decide) (m_isBlind hLM1 (fun _ => zt rfl fin) (fun q2 => zf (by decide) (zt ?_ fin))))
    by_cases e : x = y
    · exact e
    · exact absurd ⟨q1, q2, e⟩ q
  unfold p11_swap
  rw [r12]
  refine zs (fun e => laRI H' (by decide) (by decide) (fun I1 f1 kk => ⟨Or.inl rfl, ⟨by omega, by omega, by omega, by omega,  no (by omega) I1 f1 kk⟩⟩)) (fun e => ⟨hh, c_there hLd (fun q => zt rfl (laRI H' (by decide) (by decide) (fun I1 f1 kk => ⟨Or.inl rfl, ⟨by omega, by omega, by omega, by omega,  no (by omega) I1 f1 kk⟩⟩))) (fun q => zf (by decide) ⟨hh, c_there hLd (fun q2 => zt rfl (laRI H' (by decide) (by decide) (fun I1 f1 kk => ⟨Or.inl rfl, ⟨by omega, by omega, by omega, by omega,  no (by omega) I1 f1 kk⟩⟩))) (fun q2 => zf (by decide) ?_)⟩)⟩)
  have hS' : stOK V (fun j => if j = 1 then zfn (zfn (S 1) x (S 1 y)) y (S 1 x) else S j) := by
    obtain ⟨s1, s2, s3, s4, s5, s6, s7⟩ := hSt
    refine ⟨s1, s2, s3, fun k k0 k6 => ?_, fun k l k0 k1 l0 l1 he => ?_, s6, s7⟩
    · show 0 ≤ zfn (zfn (S 1) x (S 1 y)) y (S 1 x) k ∧ zfn (zfn (S 1) x (S 1 y)) y (S 1 x) k < V 1 0
      rw [sw_eq]
      exact s4 _ (by unfold swF; repeat' split
                     all_goals omega) (by unfold swF; repeat' split
                                          all_goals omega)
    · have he' : zfn (zfn (S 1) x (S 1 y)) y (S 1 x) k = zfn (zfn (S 1) x (S 1 y)) y (S 1 x) l := he
      rw [sw_eq, sw_eq] at he'
      have h3 := s5 _ _ (by unfold swF; repeat' split
                            all_goals omega) (by unfold swF; repeat' split
                                                 all_goals omega) (by unfold swF; repeat' split
                                                                      all_goals omega) (by unfold swF; repeat' split
                                                                                           all_goals omega) he'
      unfold swF at h3
      repeat' split at h3
      all_goals omega
  refine la_act H' hl hs hr hS' (fun I1 f1 hC1 kk => ⟨by omega, by omega, by omega,  m_putK (fun I2 q2 g2 f2 => ⟨by omega, m_putK (fun I3 q3 g3 f3 => ⟨by omega, by omega, by omega, by omega, ?_⟩)⟩)⟩)
  have e1x : I1 8 x = S 1 x := (hC1.2.2.2.1 x (by omega) (by omega)).1
  have e1y : I1 8 y = S 1 y := (hC1.2.2.2.1 y (by omega) (by omega)).1
  have hF3 : ∀ z, z ≠ 8 → I3 z = I1 z := fun z hz => (f3 z hz).trans (f2 z hz)
  have hC3 : stC I3 7 (fun j => if j = 1 then zfn (zfn (S 1) x (S 1 y)) y (S 1 x) else S j) := by
    obtain ⟨d0, d1, d2, d3, d4⟩ := hC1
    refine ⟨by rw [hF3 7 (by decide)]; exact d0, by rw [hF3 7 (by decide)]; exact d1, by rw [hF3 7 (by decide)]; exact d2, fun j j0 j6 => ?_, fun j j0 j1 => ?_⟩
    · have h3 := d3 j j0 j6
      show I3 8 j = zfn (zfn (S 1) x (S 1 y)) y (S 1 x) j ∧ I3 9 j = S 2 j ∧ I3 10 j = S 3 j
      rw [hF3 9 (by decide), hF3 10 (by decide)]
      refine ⟨?_, h3.2.1, h3.2.2⟩
      by_cases ej : j = y
      · rw [ej, zfn_s, q3]; exact e1x
      · rw [zfn_o ej, g3 j ej]
        by_cases ej2 : j = x
        · rw [ej2, zfn_s, q2]; exact e1y
        · rw [zfn_o ej2, g2 j ej2]; exact h3.1
    · show I3 11 j = S 4 j
      rw [hF3 11 (by decide)]; exact d4 j j0 j1
  have hLM3 : ldM I3 bk V F := ldM_fr (by rw [hF3 159 (by decide), f1 159 (by decide) (by decide)]) (fun z _ _ => by rw [hF3 z (by omega), f1 z (by omega) (by omega)]) hLM
  unfold p12_swap
  refine m_isBlind hLM3 (fun q3 => by omega) (fun _ => zf (by decide) (m_isBlind hLM3 (fun q3 => by omega) (fun _ => zf (by decide) (zf e ?_))))
  refine kk I3 (fun z hz => hF3 z (by omega)) hC3 _ (fun I4 f4 hM4 k4 => ⟨by omega, by omega, by omega,  m_putK (fun I5 q5 g5 f5 => ⟨by omega, m_putK (fun I6 q6 g6 f6 => zt rfl (k4 I6 ⟨fun z hz => ?_, fun j _ => ?_, fun j hj => ⟨?_, ?_, ?_⟩, fun j _ => ?_⟩ (fun z hz => ?_) ?_))⟩)⟩)
  · rw [f6 z (by omega), f5 z (by omega)]
  · rw [f6 185 (by decide), f6 186 (by decide), f6 190 (by decide), f5 185 (by decide), f5 186 (by decide), f5 190 (by decide)]; exact ⟨rfl, rfl, rfl⟩
  · rw [g6 j (by omega), g5 j (by omega)]
  · rw [f6 188 (by decide), f5 188 (by decide)]
  · rw [f6 189 (by decide), f5 189 (by decide)]
  · rw [f6 191 (by decide), f5 191 (by decide)]
  · rw [f6 z (by omega), f5 z (by omega)]
  · have a := stM0 hM4
    obtain ⟨d0, d1, d2, -, d4⟩ := hM4
    have hF6 : ∀ z, z ≠ 187 → I6 z = I4 z := fun z hz => (f6 z hz).trans (f5 z hz)
    refine ⟨by rw [hF6 185 (by decide)]; exact d0, by rw [hF6 186 (by decide)]; exact d1, by rw [hF6 190 (by decide)]; exact d2, fun j j0 j6 => ?_, fun j j0 j1 => ?_⟩
    · have h3 := a.1 j j0 j6
      show I6 187 (6 * 0 + j) = zfn (zfn (S 1) x (S 1 y)) y (S 1 x) j ∧ I6 188 (6 * 0 + j) = S 2 j ∧ I6 189 (6 * 0 + j) = S 3 j
      rw [show (6 : Int) * 0 + j = j by omega, hF6 188 (by decide), hF6 189 (by decide)]
      refine ⟨?_, h3.2.1, h3.2.2⟩
      by_cases ej : j = y
      · rw [ej, zfn_s, q6]; exact (a.1 x (by omega) (by omega)).1
      · rw [zfn_o ej, g6 j ej]
        by_cases ej2 : j = x
        · rw [ej2, zfn_s, q5]; exact (a.1 y (by omega) (by omega)).1
        · rw [zfn_o ej2, g5 j ej2]; exact h3.1
    · show I6 191 (120 * 0 + j) = S 4 j
      rw [hF6 191 (by decide)]; exact d4 j j0 j1
theorem la_28 {L t : Nat} {X : Int → Int} {i : Int} {I J : mI} {R : mR} {K : mI → mI → mR → Prop} (H : LaH L t X i I J R K) : plaw_28 L X i I J R K := by
  have H' := H
  obtain ⟨hL, hX, h0, h1, ht, ⟨h, sp, bk, V, F, S, P, hl, hs, hr⟩, hK⟩ := H
  unfold plaw_28
  obtain ⟨hC, hM, hSt⟩ := id hs
  obtain ⟨r1, r2, r3, r4, r5, r6, r7⟩ := hr
  obtain ⟨nx, cn, uf, p1, p2, rn, rc, ru, hok⟩ := iPas_of r5
  obtain ⟨a1, a2, a3⟩ := p1
  obtain ⟨b1, b2, b3⟩ := p2
  unfold p11_undo
  rw [a2]
  refine zs (fun e => laRI H' (by decide) (by decide) (fun I1 f1 kk => ⟨Or.inl rfl, ?_⟩)) (fun e => ?_)
  · show p12_undo I1 (fun r2 I2 => if (0 : Int) = r2 then K I2 J R else False)
    unfold p12_undo
    rw [f1 159 (by decide), b2]
    exact zt e (kk _ (fun I2 hk2 => zt (by decide) (zt rfl hk2)))
  · have hok0 := hok 0 (by decide) (by omega)
    unfold p4_takeBack
    rw [a2, a1]
    refine zf (by omega) ⟨by omega, by omega,  m_putK (fun I1 q1 g1 f1 => ?_)⟩
    rw [q1, tm20 (by omega)]
    have st0 := a3 0 (by decide) (by omega)
    rw [tm20 (by omega), show (nx + 19 - 0) % 20 = (nx + 20 - 1) % 20 by omega] at st0
    refine ⟨by omega, c_take (by omega) (stC_of (fun j hj => f1 _ (by omega)) st0) hok0.2.2.1.2 (fun I2 f2 hS2 => ?_)⟩
    have e2 : I2 17 2 = cn := by rw [f2 17 (by omega), g1 2 (by decide)]; exact a2
    rw [e2]
    refine ⟨by omega, m_putK (fun I3 q3 g3 f3 => ?_)⟩
    have F3 : ∀ z, z ≠ 17 → ¬ (7 ≤ z ∧ z ≤ 11) → I3 z = I z := fun z z1 z2 => by rw [f3 z z1, f2 z (by omega), f1 z z1]
    show p12_undo I3 (fun r2 I2 => if (1 : Int) = r2 then K I2 J R else False)
    unfold p12_undo
    rw [F3 159 (by decide) (by decide), b2]
    refine zf e ⟨by omega, m_putK (fun I4 q4 g4 f4 => ?_)⟩
    unfold p12_slot
    rw [q4, g4 52 (by decide), F3 159 (by decide) (by decide), b1]
    have m2 := th_rg (y := uf + (cn - 1)) (n := 20) (by omega) (by omega)
    have sm0 := b3 0 (by decide) (by omega)
    rw [show uf + (cn - 1 - 0) = uf + (cn - 1) by omega] at sm0
    refine ⟨by omega, by omega,  m_copy (by omega) (by omega) (by omega) (stM_fr (fun z z0 z1 => by rw [f4 z (by omega), F3 z (by omega) (by omega)]) sm0) hok0.2.2.1 (fun I5 g5 f5 hM5 => zt rfl (hK I5 J R ?_))⟩
    have e : ∀ z, z ≠ 17 → z ≠ 159 → ¬ (7 ≤ z ∧ z ≤ 11) → (z < 185 ∨ 191 < z) → I5 z = I z := fun z z1 z2 z3 z4 => by
      by_cases q : z < 185
      · rw [g5.1 z (by omega), f4 z z2, F3 z z1 z3]
      · rw [f5 z (by omega), f4 z z2, F3 z z1 z3]
    have e9 : ∀ j, j ≠ 53 → I5 159 j = I 159 j := fun j hj => by rw [g5.1 159 (by omega), g4 j hj, F3 159 (by decide) (by decide)]
    have e53 : I5 159 53 = cn - 1 := by rw [g5.1 159 (by omega)]; exact q4
    have e1 : I5 1 = I 1 := e 1 (by decide) (by decide) (by decide) (by decide)
    have e17 : I5 17 = I3 17 := by rw [g5.1 17 (by omega), f4 17 (by decide)]
    refine ⟨h, sp, bk, V, F, P 0, fun j => P (j + 1), fr_lan hl (fun z _ _ => e z (by omega) (by omega) (by omega) (by omega)) (by rw [e 146 (by decide) (by decide) (by decide) (by decide)]) (e9 13 (by decide)) (fun z _ _ => e z (by omega) (by omega) (by omega) (by omega)) (e 192 (by decide) (by decide) (by decide) (by decide)) rfl rfl, ⟨stC_of (fun j hj => by rw [g5.1 _ (by omega), f4 _ (by omega), f3 _ (by omega)]) hS2, hM5, hok0⟩, fr_tap r1 (by rw [e 2 (by decide) (by decide) (by decide) (by decide)]) (e 3 (by decide) (by decide) (by decide) (by decide)) (e9 1 (by decide)) (e 160 (by decide) (by decide) (by decide) (by decide)), fr_ref r2 (by omega) (e 122 (by decide) (by decide) (by decide) (by decide)) (e 184 (by decide) (by decide) (by decide) (by decide)), fr_fau r3 (by rw [e1]) (by rw [e1]) (e9 10 (by decide)) (e9 11 (by decide)), fr_die r4 (by rw [e1]) rfl, ?_, fr_pic r6 (by rw [e 119 (by decide) (by decide) (by decide) (by decide)]) (e 120 (by decide) (by decide) (by decide) (by decide)) (e9 68 (by decide)) (e 203 (by decide) (by decide) (by decide) (by decide)), fr_met r7 (by rw [e 151 (by decide) (by decide) (by decide) (by decide)]) (e 157 (by decide) (by decide) (by decide) (by decide)) (e9 62 (by decide)) (fun z _ _ => e z (by omega) (by omega) (by omega) (by omega))⟩
    refine iPas_mk (nx := (nx + 20 - 1) % 20) (cn := cn - 1) (uf := uf) ⟨?_, ?_, fun j j0 j1 => ?_⟩ ⟨?_, e53, fun j j0 j1 => ?_⟩ (by omega) (by omega) ru (fun j j0 j1 => hok (j + 1) (by omega) (by omega))
    · rw [e17, g3 1 (by decide), f2 17 (by omega), q1, tm20 (by omega)]
    · rw [e17]; exact q3
    · have h3 := a3 (j + 1) (by omega) (by omega)
      rw [tm20 (by omega)] at h3
      rw [tm20 (by omega), show ((nx + 20 - 1) % 20 + 19 - j) % 20 = (nx + 19 - (j + 1)) % 20 by omega]
      exact stC_of (fun i hi => e _ (by omega) (by omega) (by omega) (by omega)) h3
    · rw [e9 52 (by decide)]; exact b1
    · have h3 := b3 (j + 1) (by omega) (by omega)
      rw [show uf + (cn - 1 - (j + 1)) = uf + (cn - 1 - 1 - j) by omega] at h3
      have m3 := th_rg (y := uf + (cn - 1 - 1 - j)) (n := 20) (by omega) (by omega)
      exact stM_g g5 (by omega) (hok (j + 1) (by omega) (by omega)).2.2.1.2 (stM_fr (fun z z0 z1 => by rw [f4 z (by omega), F3 z (by omega) (by omega)]) h3)
