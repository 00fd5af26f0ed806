/-! years by the seed -/
def hfr (I I' : mI) : Prop := (∀ z, z ≠ 1 → z ≠ 5 → z ≠ 146 → z ≠ 147 → z ≠ 148 → z ≠ 149 → ¬ (7 ≤ z ∧ z ≤ 11) → I' z = I z) ∧ (∀ k, k ≠ 6 → k ≠ 7 → I' 146 k = I 146 k) ∧ (∀ j, j ≠ 16 → I' 1 j = I 1 j)
theorem hfr_t {I1 I2 I3 : mI} (h1 : hfr I1 I2) (h2 : hfr I2 I3) : hfr I1 I3 := ⟨fun z q0 q1 q2 q3 q4 q5 q6 => (h2.1 z q0 q1 q2 q3 q4 q5 q6).trans (h1.1 z q0 q1 q2 q3 q4 q5 q6), fun k k6 k7 => (h2.2.1 k k6 k7).trans (h1.2.1 k k6 k7), fun j hj => (h2.2.2 j hj).trans (h1.2.2 j hj)⟩
theorem hfr_p {I I' : mI} (h : pfr 7 I I') : hfr I I' := ⟨fun z _ q1 q2 q3 q4 q5 q6 => h.1 z q1 q2 q3 q4 q5 q6, h.2, fun j _ => by rw [h.1 1 (by omega) (by omega) (by omega) (by omega) (by omega) (by omega)]⟩
theorem hfr_d {I I' : mI} (g : ∀ j, j ≠ 16 → I' 1 j = I 1 j) (f : ∀ z, z ≠ 1 → I' z = I z) : hfr I I' := ⟨fun z q0 _ _ _ _ _ _ => f z q0, fun k _ _ => by rw [f 146 (by decide)], g⟩
theorem ldC_h {I I' : mI} {h : Nat} {V : mI} (hh : isLd h) (hf : hfr I I') (hL : ldC I h V) : ldC I' h V := by
  obtain ⟨l0, l1, l2, l3, l4, l5, l6, l7, l8⟩ := hL
  have hlh : h = 123 ∨ h = 132 := hh
  have hx : ∀ j, j ≤ 8 → I' (h + j) = I (h + j) := fun j hj => hf.1 _ (by omega) (by omega) (by omega) (by omega) (by omega) (by omega) (by omega)
  exact ⟨(hx 0 (by omega)).trans l0, (hx 1 (by omega)).trans l1, (hx 2 (by omega)).trans l2, (hx 3 (by omega)).trans l3, (hx 4 (by omega)).trans l4, (hx 5 (by omega)).trans l5, (hx 6 (by omega)).trans l6, (hx 7 (by omega)).trans l7, (hx 8 (by omega)).trans l8⟩
theorem twC_h {I I' V : mI} {tw : Int → Int} (hf : hfr I I') (h : twC I V tw) : twC I' V tw := by
  unfold twC; rw [hf.2.1 8 (by decide) (by decide), hf.2.1 9 (by decide) (by decide)]; exact h
theorem c_chanceGo {n : Int} {h : Nat} {V : mI} {F : Int → List (Int × Int)} {tw : Int → Int} {Q : Int → mI → mI → mR → Prop} (hh : isLd h) (hV : ldOK V) (hF : foOK V F) (htw : ∀ b, 0 ≤ tw b ∧ tw b ≤ 9) (hn : n ≤ 40) :
    ∀ (d : Nat) (acc dc l : Int) (S : mI) (I J : mI) (R : mR), 0 ≤ l → l + d = n → 0 ≤ acc → acc ≤ l → I 1 16 = dc → 0 ≤ dc → dc < 2147483648 → R 1 12 = h → ldC I h V → twC I V tw → stC I 7 S → stOK V S → S 0 0 + d ≤ 999 →
    (∀ (I' J' : mI) (R' : mR), hfr I I' → I' 1 16 = (quR V F tw d acc dc S).2.1 → jfr 6 J J' → rfr R R' → stC I' 7 (quR V F tw d acc dc S).2.2 → Q (quR V F tw d acc dc S).1 I' J' R') → p11_chance_b34 n Q (d + 1) acc l I J R
  | 0, acc, dc, l, S, I, J, R, hl0, hl, ha0, ha1, hdc, hd0, hd1, hR, hL, hT, hS, hSt, hy, k => by
    show p11_chance_b34_body n Q (p11_chance_b34 n Q 0) acc l I J R
    unfold p11_chance_b34_body
    exact zt (by omega) (k I J R ⟨fun _ _ _ _ _ _ _ _ => rfl, fun _ _ _ => rfl, fun _ _ => rfl⟩ hdc (jfr_r _ _) (rfr_r _) hS)
  | d + 1, acc, dc, l, S, I, J, R, hl0, hl, ha0, ha1, hdc, hd0, hd1, hR, hL, hT, hS, hSt, hy, k => by
    show p11_chance_b34_body n Q (p11_chance_b34 n Q (d + 1)) acc l I J R
    unfold p11_chance_b34_body
    rw [hR]
    have n0 := hV.1.1
    have r1 := drF_rg hd0
    have r2 := drF_rg r1.1
    refine zf (by omega) (c_draw hdc hd0 hd1 (by decide) (fun I1 q1 g1 f1 => ⟨hh, ?_⟩))
    have h1 : hfr I I1 := hfr_d g1 f1
    have hL1 := ldC_h hh h1 hL
    have hT1 := twC_h h1 hT
    have hS1 : stC I1 7 S := stC_of (fun j hj => f1 _ (by omega)) hS
    rw [hL1.1]
    have pass : ∀ (sil r : Int) (I2 : mI), hfr I I2 → ldC I2 h V → twC I2 V tw → stC I2 7 S → (quR V F tw (d + 1) acc dc S = quR V F tw d (acc + r) (I2 1 16) (paF V F tw sil S).2) → (r = 0 ∨ r = 1) → 0 ≤ I2 1 16 → I2 1 16 < 2147483648 → p11_chance_b86 n l sil acc r I2 J R (p11_chance_b34 n Q (d + 1)) Q := fun sil r I2 h2 hL2 hT2 hS2 eq hr hd20 hd21 => by
      unfold p11_chance_b86
      rw [hR]
      have ok := stOK_pa (F := F) (tw := tw) (sil := sil) hV hSt (by omega)
      have hy1 := pa_year (V := V) (F := F) (tw := tw) (sil := sil) (S := S)
      refine ⟨by omega, hh, c_pass hh isSt_7 hL2 hS2 hT2 ⟨hV, hF, hSt, htw⟩ (by omega) (fun I' J' R' pf jf rf hS' => ⟨by omega, ?_⟩)⟩
      rw [eq] at k
      have e16 : I' 1 16 = I2 1 16 := by rw [pf.1 1 (by omega) (by omega) (by omega) (by omega) (by omega) (by omega)]
      exact c_chanceGo hh hV hF htw hn d (acc + r) (I2 1 16) (l + 1) _ I' J' R' (by omega) (by omega) (by omega) (by omega) e16 hd20 hd21 (by rw [rf 1 (by decide)]; exact hR) (ldC_p hh isSt_7 pf hL2) (twC_p pf hT2) hS' ok.1 (by omega) (fun I3 J3 R3 p3 i3 j3 r3 s3 => k I3 J3 R3 (hfr_t h2 (hfr_t (hfr_p pf) p3)) i3 (jfr_t jf j3) (rfr_t rf r3) s3)
    by_cases e : V 0 11 ≤ dvF (drF dc) 100
    · refine zt e ?_
      unfold p11_chance_b72
      refine zt rfl (pass (-1) 0 I1 h1 hL1 hT1 hS1 ?_ (Or.inl rfl) (by omega) (by omega))
      rw [q1]
      show (if V 0 11 ≤ dvF (drF dc) 100 ∨ V 1 0 ≤ 0 then _ else _) = _
      rw [if_pos (Or.inl e)]
    · refine zf e ⟨hh, ?_⟩
      rw [hL1.2.1]
      by_cases e2 : V 1 0 ≤ 0
      · unfold p11_draw
        refine zf (by omega) ?_
        unfold p11_chance_b72
        refine zt rfl (pass (-1) 0 I1 h1 hL1 hT1 hS1 ?_ (Or.inl rfl) (by omega) (by omega))
        rw [q1]
        show (if V 0 11 ≤ dvF (drF dc) 100 ∨ V 1 0 ≤ 0 then _ else _) = _
        rw [if_pos (Or.inr e2)]
      · have r3 := dv_rg (m := V 1 0) r2.1 (by omega)
        refine c_draw q1 r1.1 r1.2 (by omega) (fun I2 q2 g2 f2 => ?_)
        have h2 : hfr I1 I2 := hfr_d g2 f2
        unfold p11_chance_b72
        refine zf (by omega) (pass _ 1 I2 (hfr_t h1 h2) (ldC_h hh h2 hL1) (twC_h h2 hT1) (stC_of (fun j hj => f2 _ (by omega)) hS1) ?_ (Or.inr rfl) (by omega) (by omega))
        rw [q2]
        show (if V 0 11 ≤ dvF (drF dc) 100 ∨ V 1 0 ≤ 0 then _ else _) = _
        rw [if_neg (fun q => q.elim e e2)]
theorem m_chanceGo {n bk : Int} {V : mI} {F : Int → List (Int × Int)} {tw : Int → Int} {Q : Int → mI → mI → Prop} (hV : ldOK V) (hF : foOK V F) (htw : ∀ b, 0 ≤ tw b ∧ tw b ≤ 9) (hn : n ≤ 40) :
    ∀ (d : Nat) (acc dc l : Int) (S : mI) (I J : mI), 0 ≤ l → l + d = n → 0 ≤ acc → acc ≤ l → J 159 54 = dc → 0 ≤ dc → dc < 2147483648 → ctM I bk 0 V F S tw → stOK V S → S 0 0 + d ≤ 999 →
    (∀ (I' J' : mI), lfr 0 I I' → J' 159 54 = (quR V F tw d acc dc S).2.1 → J' 177 = J 177 → stM V I' 0 (quR V F tw d acc dc S).2.2 → Q (quR V F tw d acc dc S).1 I' J') → p12_chance_b25 n Q (d + 1) acc l I J
  | 0, acc, dc, l, S, I, J, hl0, hl, ha0, ha1, hdc, hd0, hd1, hC, hSt, hy, k => by
    show p12_chance_b25_body n Q (p12_chance_b25 n Q 0) acc l I J
    unfold p12_chance_b25_body
    exact zt (by omega) (k I J (lfr_r _ _) hdc rfl hC.2.1)
  | d + 1, acc, dc, l, S, I, J, hl0, hl, ha0, ha1, hdc, hd0, hd1, hC, hSt, hy, k => by
    obtain ⟨m1, m2, m3, m4, m5, m6, m7, m8, m9, m10, m11, m12, m13, m14⟩ := id hC.1
    show p12_chance_b25_body n Q (p12_chance_b25 n Q (d + 1)) acc l I J
    unfold p12_chance_b25_body
    have n0 := hV.1.1
    have r1 := drF_rg hd0
    have r2 := drF_rg r1.1
    rw [m1, m3, m13]
    refine zf (by omega) (m_draw hdc hd0 hd1 (by decide) (by decide) (fun J1 q1 f1 => ⟨by omega, ?_⟩))
    have tick : ∀ (sil r : Int) (J2 : mI), J2 177 = J 177 → (quR V F tw (d + 1) acc dc S = quR V F tw d (acc + r) (J2 159 54) (paF V F tw sil S).2) → (r = 0 ∨ r = 1) → 0 ≤ J2 159 54 → J2 159 54 < 2147483648 → p12_ticks 0 sil I J2 (fun r6 I4 J4 => rg (l + 1) ∧ p12_chance_b25 n Q (d + 1) (acc + r) (l + 1) I4 J4) := fun sil r J2 h2 eq hr hd20 hd21 => by
      have ok := stOK_pa (F := F) (tw := tw) (sil := sil) hV hSt (by omega)
      have hy1 := pa_year (V := V) (F := F) (tw := tw) (sil := sil) (S := S)
      refine m_tick hC ⟨hV, hF, hSt, htw⟩ (fun I' J' lf jf hS' => ⟨by omega, ?_⟩)
      rw [eq] at k
      have e16 : J' 159 54 = J2 159 54 := by rw [jf 159 (by decide)]
      exact m_chanceGo hV hF htw hn d (acc + r) (J2 159 54) (l + 1) _ I' J' (by omega) (by omega) (by omega) (by omega) e16 hd20 hd21 ⟨ldM_l lf hC.1, hS', twM_l lf hC.2.2.1, hC.2.2.2⟩ ok.1 (by omega) (fun I3 J3 l3 i3 j3 s3 => k I3 J3 (lfr_t lf l3) i3 (j3.trans ((jf 177 (by decide)).trans h2)) s3)
    have none : (V 0 11 ≤ dvF (drF dc) 100 ∨ V 1 0 ≤ 0) → p12_chance_b64 n acc l I J1 (p12_chance_b25 n Q (d + 1)) Q := fun e => by
      unfold p12_chance_b64 p12_chance_b65 p12_chance_b78
      refine zt rfl ⟨by omega, zt rfl (tick (-1) 0 J1 (f1 177 (by decide)) ?_ (Or.inl rfl) (by omega) (by omega))⟩
      rw [q1]
      show (if V 0 11 ≤ dvF (drF dc) 100 ∨ V 1 0 ≤ 0 then _ else _) = _
      rw [if_pos e]
    by_cases e : V 0 11 ≤ dvF (drF dc) 100
    · exact zt e (none (Or.inl e))
    · refine zf e ⟨by omega, ?_⟩
      by_cases e2 : V 1 0 ≤ 0
      · exact zt e2 (none (Or.inr e2))
      · refine zf e2 ?_
        unfold p12_chance_b65 p12_chance_b78
        rw [m1, m3]
        refine zf (by decide) ⟨by omega, zf (by decide) ⟨by omega, m_draw q1 r1.1 r1.2 (by omega) (by omega) (fun J2 q2 f2 => tick _ 1 J2 ((f2 177 (by decide)).trans (f1 177 (by decide))) ?_ (Or.inr rfl) (by omega) (by omega))⟩⟩
        rw [q2]
        show (if V 0 11 ≤ dvF (drF dc) 100 ∨ V 1 0 ≤ 0 then _ else _) = _
        rw [if_neg (fun q => q.elim e e2)]
theorem la_24 {L t : Nat} {X : Int → Int} {i : Int} {I J : mI} {R : mR} {K : mI → mI → mR → Prop} (H : LaH L t X i I J R K) : plaw_24 L X i I J R K := by
  have H' := H
  obtain ⟨hL, hX, h0, h1, ht, ⟨h, sp, bk, V, F, S, P, hl, hs, hr⟩, hK⟩ := H
  have hh := iLan_ld hl
  have hw := iWfs hl hs
  have hCM := iCtM hl hs
  have hT := iTwC hl
  obtain ⟨⟨r12, -, -⟩, hLd, hV, hF, hLM, -⟩ := id hl
  obtain ⟨hC, hM, hSt⟩ := id hs
  obtain ⟨nx, cn, uf, p1, p2, rn, rc, ru, hok⟩ := iPas_of hr.2.2.2.2.1
  obtain ⟨dc1, dc2, dc3⟩ := hr.2.2.2.1
  have s2 := hSt.2.2.1
  unfold plaw_24
  refine ⟨by omega, by omega, ?_⟩
  generalize X (i + 1) = x
  have no : ¬ (1 ≤ x ∧ x ≤ 40 ∧ S 0 0 + x ≤ 999) → ∀ I1 : mI, (∀ z, z ≠ 122 → I1 z = I z) → (∀ Q2 : Int → mI → Prop, (∀ I2, K I2 J R → Q2 (-1) I2) → p12_refuses 2 I1 Q2) → p12_chance x I1 J (fun r2 I2 J2 => if (-1 : Int) = r2 then K I2 J2 R else False) := fun q I1 f1 kk => by
    unfold p12_chance
    exact m_isAhead (by rw [f1 185 (by decide)]; exact hM.1) hSt.1 (by decide) (by decide) (fun _ => zt rfl (kk _ (fun I2 hk2 => zt rfl hk2))) (fun q2 => absurd q2 q)
  unfold p11_chance
  refine zs (fun e => laR H' (by decide) (by decide) (fun I1 f1 kk => ⟨by omega, by omega,  no (by omega) I1 f1 kk⟩)) (fun e => c_canPass hC.1 hSt.1 (fun q => zt rfl (laR H' (by decide) (by decide) (fun I1 f1 kk => ⟨by omega, by omega,  no (by omega) I1 f1 kk⟩))) (fun q => zf (by decide) ?_))
  refine c_add p1 hC s2.2 rn rc (fun I1 f1 p1' => ⟨x.toNat + 1, ?_⟩)
  have F1 : ∀ z, 118 < z → I1 z = I z := fun z hz => f1 z (by omega) (by omega)
  have hL1 : ldC I1 h V := by
    obtain ⟨l0, l1, l2, l3, l4, l5, l6, l7, l8⟩ := hLd
    have hlh : h = 123 ∨ h = 132 := hh
    have hx : ∀ j, j ≤ 8 → I1 (h + j) = I (h + j) := fun j hj => F1 _ (by omega)
    exact ⟨(hx 0 (by omega)).trans l0, (hx 1 (by omega)).trans l1, (hx 2 (by omega)).trans l2, (hx 3 (by omega)).trans l3, (hx 4 (by omega)).trans l4, (hx 5 (by omega)).trans l5, (hx 6 (by omega)).trans l6, (hx 7 (by omega)).trans l7, (hx 8 (by omega)).trans l8⟩
  have hT1 : twC I1 V (tw0 V) := by unfold twC; rw [F1 146 (by decide)]; exact hT
  refine c_chanceGo hh hV hF (tw0_rg hV) (by omega) x.toNat 0 (I 1 16) 0 S I1 J R (by omega) (by omega) (by omega) (by omega) (by rw [f1 1 (by omega) (by omega)]) dc2 dc3 r12 hL1 hT1 (stC_of (fun j hj => f1 _ (by omega) (by omega)) hC) hSt (by omega) (fun I2 J2 R2 pf d2 jf rf hS2 => ⟨by omega, by omega, ?_⟩)
  have F2 : ∀ z, 149 < z → I2 z = I z := fun z hz => by rw [pf.1 z (by omega) (by omega) (by omega) (by omega) (by omega) (by omega) (by omega), F1 z (by omega)]
  have hM2 : stM V I2 0 S := stM_fr (fun z z0 _ => F2 z (by omega)) hM
  unfold p12_chance
  refine m_isAhead hM2.1 hSt.1 (by decide) (by decide) (fun q2 => by omega) (fun _ => zf (by decide) ?_)
  refine m_keep (pasM_e p2 (F2 159 (by decide)) (fun z _ _ => F2 z (by omega))) (ok40 hok) hM2 s2 rc ru (fun I3 uf' f3 ru' p3 => ⟨x.toNat + 1, ?_⟩)
  have hM3 : stM V I3 0 S := stM_k f3 (Or.inl rfl) s2.2 hM2
  have hLM3 : ldM I3 bk V F := ldM_fr (by rw [f3.2.1 13 (by decide) (by decide), F2 159 (by decide)]) (fun z z0 z1 => by rw [f3.1 z (by omega), F2 z (by omega)]) hLM
  have hT3 : twM I3 V (tw0 V) := by unfold twM; rw [f3.1 192 (by omega), F2 192 (by decide)]; exact hCM.2.2.1
  have dJ : J2 159 54 = I 1 16 := by rw [jf 159 (by decide)]; exact dc1.symm
  refine m_chanceGo hV hF (tw0_rg hV) (by omega) x.toNat 0 (I 1 16) 0 S I3 J2 (by omega) (by omega) (by omega) (by omega) dJ dc2 dc3 ⟨hLM3, hM3, hT3, by omega, by omega⟩ hSt (by omega) (fun I4 J4 lf d4 j4 hS4 => zt rfl (hK I4 J4 R2 ?_))
  have rn' := th_rg (y := nx + 1) (n := 20) (by omega) (by omega)
  have rc' : (if cn < 20 then cn + 1 else 20) ≤ 20 := by split <;> omega
  have okq := quR_ok (F := F) (tw := tw0 V) hV x.toNat 0 (I 1 16) S dc2 dc3 hSt (by omega)
  have el : ∀ z, z ≤ 118 → I4 z = I2 z := fun z hz => by rw [lf.1 z (by omega), f3.1 z (by omega)]
  have eh : ∀ z, 149 < z → z ≠ 159 → (z < 185 ∨ z = 192 ∨ 197 < z) → I4 z = I z := fun z hz z9 hz2 => by rw [lf.1 z (by omega), f3.1 z (by omega), F2 z hz]
  have em : ∀ z, z < 150 → z ≠ 1 → z ≠ 5 → z ≠ 146 → z ≠ 147 → z ≠ 148 → z ≠ 149 → z ≠ 17 → ¬ (7 ≤ z ∧ z ≤ 11) → ¬ (19 ≤ z ∧ z ≤ 118) → I4 z = I z := fun z hz z1 z5 z6 z7 z8 z9 z17 za zb => by rw [lf.1 z (by omega), f3.1 z (by omega), pf.1 z z1 z5 z6 z7 z8 z9 za, f1 z z17 zb]
  have e1 : ∀ j, j ≠ 16 → I4 1 j = I 1 j := fun j hj => by rw [el 1 (by omega), pf.2.2 j hj, f1 1 (by omega) (by omega)]
  refine inv_act hl hSt hr p1.2.1 rc rn' ru' hok (pasC_fr p1' rn' rc' (fun z z0 z1 => by rw [el z z1, pf.1 z (by omega) (by omega) (by omega) (by omega) (by omega) (by omega) (by omega)])) (pasM_g p3 ru'.1 (puP40 hSt hok rc) (lfr_g lf)) ⟨stC_of (fun j hj => el _ (by omega)) hS2, hS4, okq.1⟩ (fun z hz => ?_) ?_ (by rw [eh 151 (by decide) (by decide) (by omega)]) (fun j j2 j3 => ?_) ⟨e1 14 (by decide), e1 15 (by decide)⟩ ⟨?_, ?_⟩ (j4.trans (jf 177 (by decide))) (rf 1 (by decide))
  · by_cases q : z < 150
    · exact em z q (by omega) (by omega) (by omega) (by omega) (by omega) (by omega) (by omega) (by omega) (by omega)
    · exact eh z (by omega) (by omega) (by omega)
  · rw [lf.1 146 (by omega), f3.1 146 (by omega), pf.2.1 8 (by decide) (by decide), f1 146 (by decide) (by decide)]
  · rw [lf.1 159 (by omega), f3.2.1 j j2 j3, F2 159 (by decide)]
  · rw [el 1 (by omega), d4]; exact d2
  · rw [el 1 (by omega), d2]; exact okq.2
