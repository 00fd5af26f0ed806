/-! power, odds -/
theorem bO64 : ∀ x : Nat, x < 64 → ∀ b : Nat, b < 6 → 0 ≤ bOr (x : Int) (bShl 1 (b : Int)) := by decide +kernel
/-- how many sets -/
def pwR (V : mI) (F : Int → List (Int × Int)) (S : mI) (tw : Int → Int) (th b : Int) : Nat → Int → Int → Int
  | 0, acc, _ => acc
  | d + 1, acc, set =>
    if has1 set b = 0 then (if chF (asF V F S tw th (S 1) set).1 (V 1 1) = chF (asF V F S tw th (S 1) (bOr set (bShl 1 b))).1 (V 1 1) then pwR V F S tw th b d (acc + 0) (set + 1) else pwR V F S tw th b d (acc + 1) (set + 1))
    else pwR V F S tw th b d acc (set + 1)
theorem c_powerGo {R : mR} {h : Nat} {V : mI} {F : Int → List (Int × Int)} {S : mI} {tw : Int → Int} {th b : Int} {Q : Int → mI → mI → Prop} (hw : wfs V F S tw) (hth : 0 ≤ th ∧ th < V 1 2) (hb : 0 ≤ b ∧ b < V 1 0) :
    ∀ (d : Nat) (acc set : Int) (I J : mI), 0 ≤ set → set + d = bShl 1 (V 1 0) → 0 ≤ acc → acc ≤ set → ctC I R h 7 V S tw th → cntC I V F S → kno I V F S tw th →
    (∀ I' J' : mI, afr I I' → jfr 6 J J' → Q (pwR V F S tw th b d acc set) I' J') → p1_powerOf_b4 b R Q (d + 1) acc set I J
  | 0, acc, set, I, J, h0, h1, h2, h3, hC, hN, hK, k => by
    have hev := evb_rg hw.1.1.1
    show p1_powerOf_b4_body b R Q (p1_powerOf_b4 b R Q 0) acc set I J
    unfold p1_powerOf_b4_body p3_everybody
    rw [hC.1, hC.2.2.2.2.2.1.2.1]
    exact ⟨hC.2.2.1, by omega, zt (by omega) (k I J (afr_r I) (jfr_r _ _))⟩
  | d + 1, acc, set, I, J, h0, h1, h2, h3, hC, hN, hK, k => by
    have hev := evb_rg hw.1.1.1
    have ho := hw.2.2.1.2.2.2.1
    show p1_powerOf_b4_body b R Q (p1_powerOf_b4 b R Q (d + 1)) acc set I J
    unfold p1_powerOf_b4_body p3_everybody
    rw [hC.1, hC.2.1, hC.2.2.2.2.2.1.2.1]
    unfold pwR at k
    refine ⟨hC.2.2.1, by omega, zf (by omega) ?_⟩
    by_cases e : has1 set b = 0
    · rw [if_pos e] at k
      refine zt e ⟨isSt_7, ?_⟩
      refine c_ask (o := S 1) hC hN hK hw hth (by decide) (fun j j0 j1 => (hC.2.2.2.2.2.2.1.2.2.2.1 j j0 (by have := hw.1.1.1; omega)).1) ho (fun I1 J1 f1 j1 k1 _ _ => ⟨isSt_7, ?_⟩)
      have hC1 := ctC_a f1 hC
      have hN1 : cntC I1 V F S := by unfold cntC; rw [f1 146 (by decide) (by decide) (by decide) (by decide)]; exact hN
      refine c_ask (o := S 1) hC1 hN1 k1 hw hth (by decide) (fun j j0 j1 => (hC1.2.2.2.2.2.2.1.2.2.2.1 j j0 (by have := hw.1.1.1; omega)).1) ho (fun I2 J2 f2 j2 k2 _ _ => ?_)
      have hC2 := ctC_a f2 hC1
      have hN2 : cntC I2 V F S := by unfold cntC; rw [f2 146 (by decide) (by decide) (by decide) (by decide)]; exact hN1
      refine zs (fun e2 => ?_) (fun e2 => ?_)
      · rw [if_pos e2] at k
        exact ⟨by omega, by omega,  c_powerGo hw hth hb d (acc + 0) (set + 1) I2 J2 (by omega) (by omega) (by omega) (by omega) hC2 hN2 k2 (fun I3 J3 f3 j3 => k I3 J3 (afr_t f1 (afr_t f2 f3)) (jfr_t j1 (jfr_t j2 j3)))⟩
      · rw [if_neg e2] at k
        exact ⟨by omega, by omega,  c_powerGo hw hth hb d (acc + 1) (set + 1) I2 J2 (by omega) (by omega) (by omega) (by omega) hC2 hN2 k2 (fun I3 J3 f3 j3 => k I3 J3 (afr_t f1 (afr_t f2 f3)) (jfr_t j1 (jfr_t j2 j3)))⟩
    · rw [if_neg e] at k
      exact zf e ⟨by omega, c_powerGo hw hth hb d acc (set + 1) I J (by omega) (by omega) (by omega) (by omega) hC hN hK k⟩
theorem m_powerGo {bk : Int} {V : mI} {F : Int → List (Int × Int)} {S : mI} {tw : Int → Int} {th b : Int} {Q : Int → mI → mI → Prop} (hw : wfs V F S tw) (hth : 0 ≤ th ∧ th < V 1 2) (hb : 0 ≤ b ∧ b < V 1 0) :
    ∀ (d : Nat) (acc set : Int) (I J : mI), 0 ≤ set → set + d = bShl 1 (V 1 0) → 0 ≤ acc → acc ≤ set → ctM I bk 0 V F S tw → (∀ k, 0 ≤ k → k < V 1 0 → I 197 k = S 1 k) →
    (∀ I' J' : mI, qfr I I' → jfr 193 J J' → Q (pwR V F S tw th b d acc set) I' J') → p12_power_b28 b th Q (d + 1) acc set I J
  | 0, acc, set, I, J, h0, h1, h2, h3, hC, hO, k => by
    obtain ⟨m1, m2, m3, -⟩ := id hC.1
    show p12_power_b28_body b th Q (p12_power_b28 b th Q 0) acc set I J
    unfold p12_power_b28_body
    rw [m1, m3]
    exact ⟨by omega, zt (by omega) (k I J (fun _ _ _ _ => rfl) (jfr_r _ _))⟩
  | d + 1, acc, set, I, J, h0, h1, h2, h3, hC, hO, k => by
    obtain ⟨m1, m2, m3, -⟩ := id hC.1
    have hev := evb_rg hw.1.1.1
    have ho := hw.2.2.1.2.2.2.1
    show p12_power_b28_body b th Q (p12_power_b28 b th Q (d + 1)) acc set I J
    unfold p12_power_b28_body p12_has2
    rw [m1, m3]
    unfold pwR at k
    refine ⟨by omega, zf (by omega) ?_⟩
    by_cases e : has1 set b = 0
    · rw [if_pos e] at k
      have e' : ¬ has1 set b = 1 := by omega
      refine zf e' (zt rfl ?_)
      refine m_chosen hC hw hth hO ho (fun I1 J1 f1 j1 _ _ => ?_)
      have hC1 := ctM_o (qfr_o f1) hC
      have hO1 : ∀ k, 0 ≤ k → k < V 1 0 → I1 197 k = S 1 k := by rw [f1 197 (by decide) (by decide) (by decide)]; exact hO
      refine m_chosen hC1 hw hth hO1 ho (fun I2 J2 f2 j2 _ _ => ?_)
      have hC2 := ctM_o (qfr_o f2) hC1
      have hO2 : ∀ k, 0 ≤ k → k < V 1 0 → I2 197 k = S 1 k := by rw [f2 197 (by decide) (by decide) (by decide)]; exact hO1
      refine zs (fun e2 => ?_) (fun e2 => ?_)
      · rw [if_pos e2] at k
        exact ⟨by omega, by omega,  m_powerGo hw hth hb d (acc + 0) (set + 1) I2 J2 (by omega) (by omega) (by omega) (by omega) hC2 hO2 (fun I3 J3 f3 j3 => k I3 J3 (qfr_t f1 (qfr_t f2 f3)) (jfr_t j1 (jfr_t j2 j3)))⟩
      · rw [if_neg e2] at k
        exact ⟨by omega, by omega,  m_powerGo hw hth hb d (acc + 1) (set + 1) I2 J2 (by omega) (by omega) (by omega) (by omega) hC2 hO2 (fun I3 J3 f3 j3 => k I3 J3 (qfr_t f1 (qfr_t f2 f3)) (jfr_t j1 (jfr_t j2 j3)))⟩
    · rw [if_neg e] at k
      have e1 : has1 set b = 1 := (has1_01 set b).resolve_left e
      exact zt e1 (zf (by decide) ⟨by omega, m_powerGo hw hth hb d acc (set + 1) I J (by omega) (by omega) (by omega) (by omega) hC hO k⟩)
theorem la_17 {L t : Nat} {X : Int → Int} {i : Int} {I J : mI} {R : mR} {K : mI → mI → mR → Prop} (H : LaH L t X i I J R K) : plaw_17 L X i I J R K := by
  have hk := laK H
  have H' := H
  obtain ⟨hL, hX, h0, h1, ht, ⟨h, sp, bk, V, F, S, P, hl, hs, hr⟩, -⟩ := H
  have hh := iLan_ld hl
  have hw := iWfs hl hs
  have hCM := iCtM hl hs
  have hT := iTwC hl
  obtain ⟨⟨r12, -, -⟩, hLd, hV, hF, hM, hN, hNam, hTw, hSup⟩ := hl
  obtain ⟨hC, hSM, hSt⟩ := hs
  have n := hV.1
  have hev := evb_rg n.1
  unfold plaw_17
  refine ⟨by omega, by omega, by omega, by omega, ?_⟩
  generalize X (i + 1) = x
  generalize X (i + 2) = y
  unfold p11_power
  refine c_areThere r12 hh hLd (fun q => zt rfl ⟨by omega, by omega, by omega, by omega, ?_⟩) (fun q => zf (by decide) ?_)
  · unfold p12_power
    exact m_isBlind hM (fun _ => zt rfl (zt rfl hk)) (fun q1 => zf (by decide) (m_isThing hM (fun _ => zt rfl (zt rfl hk)) (fun q2 => absurd ⟨q1, q2⟩ q)))
  rw [r12]
  refine ⟨hh, c_sit hh isSt_7 hLd hC hT hw (fun I1 J1 f1 j1 hC1 hK1 hN1 hv1 => ?_)⟩
  refine ⟨(bShl 1 (V 1 0)).toNat + 1, c_powerGo hw q.2 q.1 _ 0 0 I1 J1 (by omega) (by omega) (by omega) (by omega) hC1 hN1 hK1 (fun I2 J2 f2 j2 => ⟨by omega, by omega, by omega, by omega, ?_⟩)⟩
  have q12 := qf_t (qf_si f1) (qf_a f2)
  have hCM2 := ctM_q q12 (by decide) hSt.2.2.1.2 hCM
  unfold p12_power
  refine m_isBlind hCM2.1 (fun q3 => by omega) (fun _ => zf (by decide) (m_isThing hCM2.1 (fun q3 => by omega) (fun _ => zf (by decide) ?_)))
  refine m_lay hCM2 n.1 (fun I3 f3 o3 => ⟨(bShl 1 (V 1 0)).toNat + 1, ?_⟩)
  have g3 : ofr I2 I3 := fun z _ _ _ q => f3 z q
  refine m_powerGo hw q.2 q.1 _ 0 0 I3 J2 (by omega) (by omega) (by omega) (by omega) (ctM_o g3 hCM2) o3 (fun I4 J4 f4 j4 => zt rfl ?_)
  exact laQ H' (qf_t q12 (qf_o (ofr_t g3 (qfr_o f4)))) (jqt (jqt (jq6 j1) (jq6 j2)) (jq193 j4)) (r_sit R h 7)
def odR (V : mI) (F : Int → List (Int × Int)) (S : mI) (tw : Int → Int) (th c : Int) : Nat → Int → Int → Int
  | 0, acc, _ => acc
  | d + 1, acc, l =>
    if chF (asF V F S tw th (S 1) (bAnd (evbF V) (bXor (bShl 1 l) (-1)))).1 (V 1 1) = c then odR V F S tw th c d (acc + V 0 11) (l + 1) else odR V F S tw th c d (acc + 0) (l + 1)
theorem c_oddsGo {R : mR} {h : Nat} {V : mI} {F : Int → List (Int × Int)} {S : mI} {tw : Int → Int} {th c : Int} {Q : Int → mI → mI → Prop} (hw : wfs V F S tw) (hth : 0 ≤ th ∧ th < V 1 2) :
    ∀ (d : Nat) (acc l : Int) (I J : mI), 0 ≤ l → l + d = V 1 0 → 0 ≤ acc → acc ≤ 600 + 100 * l → ctC I R h 7 V S tw th → cntC I V F S → kno I V F S tw th →
    (∀ I' J' : mI, afr I I' → jfr 6 J J' → Q (odR V F S tw th c d acc l) I' J') → p1_oddsOf_b55 c (V 1 0) (evbF V) R Q (d + 1) acc l I J
  | 0, acc, l, I, J, h0, h1, h2, h3, hC, hN, hK, k => by
    show p1_oddsOf_b55_body c (V 1 0) (evbF V) R Q (p1_oddsOf_b55 c (V 1 0) (evbF V) R Q 0) acc l I J
    unfold p1_oddsOf_b55_body
    exact zt (by omega) (k I J (afr_r I) (jfr_r _ _))
  | d + 1, acc, l, I, J, h0, h1, h2, h3, hC, hN, hK, k => by
    have ho := hw.2.2.1.2.2.2.1
    have hrow := hw.1.2.2.2.2.2.1
    have n := hw.1.1.1
    show p1_oddsOf_b55_body c (V 1 0) (evbF V) R Q (p1_oddsOf_b55 c (V 1 0) (evbF V) R Q (d + 1)) acc l I J
    unfold p1_oddsOf_b55_body
    rw [hC.1, hC.2.1]
    unfold odR at k
    refine zf (by omega) ⟨isSt_7, ?_⟩
    refine c_ask (o := S 1) hC hN hK hw hth (by decide) (fun j j0 j1 => (hC.2.2.2.2.2.2.1.2.2.2.1 j j0 (by omega)).1) ho (fun I1 J1 f1 j1 k1 _ _ => ?_)
    have hC1 := ctC_a f1 hC
    have hN1 : cntC I1 V F S := by unfold cntC; rw [f1 146 (by decide) (by decide) (by decide) (by decide)]; exact hN
    refine zs (fun e2 => ?_) (fun e2 => ?_)
    · rw [if_pos e2] at k
      rw [hC1.2.2.2.2.2.1.1]
      exact ⟨hC.2.2.1, by omega, wLet_r ⟨by omega, c_oddsGo hw hth d (acc + V 0 11) (l + 1) I1 J1 (by omega) (by omega) (by omega) (by omega) hC1 hN1 k1 (fun I3 J3 f3 j3 => k I3 J3 (afr_t f1 f3) (jfr_t j1 j3))⟩⟩
    · rw [if_neg e2] at k
      exact ⟨by omega, by omega,  c_oddsGo hw hth d (acc + 0) (l + 1) I1 J1 (by omega) (by omega) (by omega) (by omega) hC1 hN1 k1 (fun I3 J3 f3 j3 => k I3 J3 (afr_t f1 f3) (jfr_t j1 j3))⟩
theorem m_oddsGo {bk : Int} {V : mI} {F : Int → List (Int × Int)} {S : mI} {tw : Int → Int} {th c : Int} {Q : Int → mI → mI → Prop} (hw : wfs V F S tw) (hth : 0 ≤ th ∧ th < V 1 2) :
    ∀ (d : Nat) (acc l : Int) (I J : mI), 0 ≤ l → l + d = V 1 0 → 0 ≤ acc → acc ≤ 600 + 100 * l → ctM I bk 0 V F S tw →
    (∀ I' J' : mI, ofr I I' → jfr 193 J J' → Q (odR V F S tw th c d acc l) I' J') → p12_odds_b128 c th Q (d + 1) acc l I J
  | 0, acc, l, I, J, h0, h1, h2, h3, hC, k => by
    obtain ⟨m1, m2, m3, -⟩ := id hC.1
    show p12_odds_b128_body c th Q (p12_odds_b128 c th Q 0) acc l I J
    unfold p12_odds_b128_body
    rw [m1, m3]
    exact ⟨by omega, zt (by omega) (k I J (fun _ _ _ _ _ => rfl) (jfr_r _ _))⟩
  | d + 1, acc, l, I, J, h0, h1, h2, h3, hC, k => by
    obtain ⟨m1, m2, m3, m4, m5, m6, m7, m8, m9, m10, m11, m12, m13, -⟩ := id hC.1
    have n := hw.1.1.1
    have hev := evb_rg n
    have hrow := hw.1.2.2.2.2.2.1
    show p12_odds_b128_body c th Q (p12_odds_b128 c th Q (d + 1)) acc l I J
    unfold p12_odds_b128_body p12_everybody
    rw [m1, m3]
    unfold odR at k
    refine ⟨by omega, zf (by omega) ⟨by omega, by omega, ?_⟩⟩
    refine m_choice hC hw hth (fun I1 J1 f1 j1 _ _ => ?_)
    have hC1 := ctM_o f1 hC
    refine zs (fun e2 => ?_) (fun e2 => ?_)
    · rw [if_pos (show chF (asF V F S tw th (S 1) (bAnd (evbF V) (bXor (bShl 1 l) (-1)))).1 (V 1 1) = c from e2)] at k
      rw [hC1.1.1, hC1.1.2.2.2.2.2.2.2.2.2.2.2.2.1]
      exact ⟨by omega, by omega,  wLet_r ⟨by omega, m_oddsGo hw hth d (acc + V 0 11) (l + 1) I1 J1 (by omega) (by omega) (by omega) (by omega) hC1 (fun I3 J3 f3 j3 => k I3 J3 (ofr_t f1 f3) (jfr_t j1 j3))⟩⟩
    · rw [if_neg (show ¬ chF (asF V F S tw th (S 1) (bAnd (evbF V) (bXor (bShl 1 l) (-1)))).1 (V 1 1) = c from e2)] at k
      exact ⟨by omega, by omega,  m_oddsGo hw hth d (acc + 0) (l + 1) I1 J1 (by omega) (by omega) (by omega) (by omega) hC1 (fun I3 J3 f3 j3 => k I3 J3 (ofr_t f1 f3) (jfr_t j1 j3))⟩
theorem mulrow {r n : Int} (hr : 0 ≤ r ∧ r ≤ 100) (hn : 0 ≤ n ∧ n ≤ 6) : 0 ≤ (100 - r) * n ∧ (100 - r) * n ≤ 600 := by
  have h1 := Int.mul_nonneg (show 0 ≤ 100 - r by omega) hn.1
  have h2 := Int.mul_le_mul (show 100 - r ≤ 100 by omega) hn.2 hn.1 (by decide : (0 : Int) ≤ 100)
  omega
theorem la_19 {L t : Nat} {X : Int → Int} {i : Int} {I J : mI} {R : mR} {K : mI → mI → mR → Prop} (H : LaH L t X i I J R K) : plaw_19 L X i I J R K := by
  have hk := laK H
  have H' := H
  obtain ⟨hL, hX, h0, h1, ht, ⟨h, sp, bk, V, F, S, P, hl, hs, hr⟩, -⟩ := H
  have hh := iLan_ld hl
  have hw := iWfs hl hs
  have hCM := iCtM hl hs
  have hT := iTwC hl
  obtain ⟨⟨r12, -, -⟩, hLd, hV, hF, hM, hN, hNam, hTw, hSup⟩ := hl
  obtain ⟨hC, hSM, hSt⟩ := hs
  have n := hV.1
  have hrow := hV.2.2.2.2.2.1
  have hev := evb_rg n.1
  have hmr := mulrow hrow n.1
  unfold plaw_19
  refine ⟨by omega, by omega, ?_⟩
  generalize X (i + 1) = c
  obtain ⟨m1, m2, m3, m4, m5, -⟩ := id hM
  -- refused
  have no13 : (V 1 0 = 0 ∨ V 1 2 = 0 ∨ ¬ S 0 0 < 999) → p12_odds_b13 c I J (fun r2 I2 J2 => if (-1 : Int) = r2 then K I2 J2 R else False) := fun q => by
    unfold p12_odds_b13
    rw [m1, m3, m5]
    exact ⟨by omega, zs (fun _ => zt rfl hk) (fun e1 => ⟨by omega, zs (fun _ => zt rfl hk) (fun e2 => m_isAhead hSM.1 hSt.1 (by decide) (by decide) (fun _ => zt rfl (zt rfl hk)) (fun q2 => by omega))⟩)⟩
  have lift : ∀ (I2 J2 : mI) (R2 : mR) (r : Int), ldM I2 bk V F → (c = -1 ∨ (0 ≤ c ∧ c < V 1 1)) → p12_odds_b13 c I2 J2 (fun r2 I2 J2 => if r = r2 then K I2 J2 R2 else False) → p12_odds c I2 J2 (fun r2 I2 J2 => if r = r2 then K I2 J2 R2 else False) := fun I2 J2 R2 r hM2 qc hq => by
    unfold p12_odds
    rcases qc with e | e
    · exact zt e hq
    · exact zf (by omega) (m_isColour hM2 (fun q => absurd e q) (fun _ => zf (by decide) hq))
  have yes : (c = -1 ∨ (0 ≤ c ∧ c < V 1 1)) → p11_odds_b19 c I J R (fun r1 I1 J1 R1 => rg (i + 1) ∧ (0 ≤ i + 1 ∧ i + 1 < (L : Int)) ∧ p12_odds c I1 J1 (fun r2 I2 J2 => if r1 = r2 then K I2 J2 R1 else False)) := fun qc => by
    unfold p11_odds_b19
    rw [r12, hLd.2.1, hC.1]
    refine ⟨hh, hh, zs (fun e => ⟨by omega, by omega,  lift I J R _ hM qc (no13 (Or.inl e))⟩) (fun e => zs (fun e2 => ⟨by omega, by omega,  lift I J R _ hM qc (no13 (Or.inr (Or.inl e2)))⟩) (fun e2 => zs (fun e3 => ?_) (fun e3 => ⟨by omega, by omega,  lift I J R _ hM qc (no13 (Or.inr (Or.inr e3)))⟩)))⟩
    refine zs (fun e4 => ⟨by omega, ⟨by omega, by omega,  lift I J R _ hM qc ?_⟩⟩) (fun e4 => ⟨hh, e2, ?_⟩)
    · unfold p12_odds_b13
      rw [m1, m3, m5]
      exact ⟨by omega, zf e ⟨by omega, zf e2 (m_isAhead hSM.1 hSt.1 (by decide) (by decide) (fun q2 => by omega) (fun _ => zf (by decide) (zt e4 ⟨by omega, by omega,  zt rfl hk⟩)))⟩⟩
    · have hth := th_rg hSt.1.1 (by omega : 0 < V 1 2)
      refine c_sit hh isSt_7 hLd hC hT hw (fun I1 J1 f1 j1 hC1 hK1 hN1 hv1 => ?_)
      unfold p1_oddsOf p3_everybody
      rw [hC1.1, hC1.2.1, hC1.2.2.2.2.2.1.2.1]
      refine ⟨hh, wLet_r ⟨hh, by omega, isSt_7, ?_⟩⟩
      refine c_ask (o := S 1) hC1 hN1 hK1 hw hth (by decide) (fun j j0 j1 => (hC1.2.2.2.2.2.2.1.2.2.2.1 j j0 (by omega)).1) hSt.2.2.2.1 (fun I2 J2 f2 j2 hK2 _ _ => ?_)
      have hC2 := ctC_a f2 hC1
      have hN2 : cntC I2 V F S := by unfold cntC; rw [f2 146 (by decide) (by decide) (by decide) (by decide)]; exact hN1
      have fin : ∀ (a0 : Int) (I3 J3 : mI), afr I2 I3 → jfr 6 J2 J3 → a0 = (if chF (asF V F S (tw0 V) (Int.tmod (S 0 0) (V 1 2)) (S 1) (bShl 1 (V 1 0) - 1)).1 (V 1 1) = c then (100 - V 0 11) * V 1 0 else 0) → p12_odds c I3 J3 (fun r2 I2 J2 => if odR V F S (tw0 V) (Int.tmod (S 0 0) (V 1 2)) c (V 1 0).toNat a0 0 = r2 then K I2 J2 (up (up R 146 4 h) 146 5 7) else False) := fun a0 I3 J3 f3 j3 ea => by
        have q13 := qf_t (qf_si f1) (qf_t (qf_a f2) (qf_a f3))
        have hCM3 := ctM_q q13 (by decide) hSt.2.2.1.2 hCM
        obtain ⟨m1', m2', m3', m4', m5', -⟩ := id hCM3.1
        refine lift I3 J3 _ _ hCM3.1 qc ?_
        unfold p12_odds_b13 p12_everybody
        rw [m1', m3', m5', hCM3.2.1.1]
        refine ⟨by omega, zf e ⟨by omega, zf e2 (m_isAhead hCM3.2.1.1 hSt.1 (by decide) (by decide) (fun q2 => by omega) (fun _ => zf (by decide) (zf e4 ⟨by omega, e2, wLet_r ⟨by omega, by omega, ?_⟩⟩)))⟩⟩
        refine m_choice hCM3 hw hth (fun I4 J4 f4 j4 _ _ => ?_)
        have hCM4 := ctM_o f4 hCM3
        have done : ∀ I5 J5, ofr I4 I5 → jfr 193 J4 J5 → K I5 J5 (up (up R 146 4 h) 146 5 7) := fun I5 J5 f5 j5 => laQ H' (qf_t q13 (qf_o (ofr_t f4 f5))) (jqt (jqt (jq6 j1) (jqt (jq6 j2) (jq6 j3))) (jqt (jq193 j4) (jq193 j5))) (r_sit R h 7)
        refine zs (fun e6 => ?_) (fun e6 => ?_)
        · rw [if_pos e6] at ea
          rw [hCM4.1.1, hCM4.1.2.2.1, hCM4.1.2.2.2.2.2.2.2.2.2.2.2.2.1]
          subst ea
          exact ⟨by omega, by omega, by omega, by omega,  wLet_r ⟨(V 1 0).toNat + 1, m_oddsGo hw hth _ _ 0 I4 J4 (by omega) (by omega) (by omega) (by omega) hCM4 (fun I5 J5 f5 j5 => zt rfl (done I5 J5 f5 j5))⟩⟩
        · rw [if_neg e6] at ea
          subst ea
          exact ⟨(V 1 0).toNat + 1, m_oddsGo hw hth _ 0 0 I4 J4 (by omega) (by omega) (by omega) (by omega) hCM4 (fun I5 J5 f5 j5 => zt rfl (done I5 J5 f5 j5))⟩
      refine zs (fun e5 => ?_) (fun e5 => ?_)
      · rw [if_pos e5] at fin
        rw [hC2.2.2.2.2.2.1.1]
        exact ⟨hh, by omega, by omega, wLet_r ⟨(V 1 0).toNat + 1, c_oddsGo hw hth _ _ 0 I2 J2 (by omega) (by omega) (by omega) (by omega) hC2 hN2 hK2 (fun I3 J3 f3 j3 => ⟨by omega, by omega,  fin _ I3 J3 f3 j3 rfl⟩)⟩⟩
      · rw [if_neg e5] at fin
        exact ⟨(V 1 0).toNat + 1, c_oddsGo hw hth _ 0 0 I2 J2 (by omega) (by omega) (by omega) (by omega) hC2 hN2 hK2 (fun I3 J3 f3 j3 => ⟨by omega, by omega,  fin _ I3 J3 f3 j3 rfl⟩)⟩
  unfold p11_odds
  refine zs (fun e => yes (Or.inl e)) (fun e => ?_)
  rw [r12]
  refine ⟨hh, c_there hLd (fun q => zt rfl ⟨by omega, by omega, ?_⟩) (fun q => zf (by decide) (yes (Or.inr (by omega))))⟩
  unfold p12_odds
  exact zf e (m_isColour hM (fun _ => zt rfl (zt rfl hk)) (fun q2 => by omega))
