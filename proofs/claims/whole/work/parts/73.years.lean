/-! years, chance -/
theorem lAnd31 {x : Int} (h0 : 0 ≤ x) (h1 : x < 9223372036854775808) : lAnd x 2147483647 = Int.tmod x 2147483648 := by
  unfold lAnd
  have h : (Int64.ofInt x &&& Int64.ofInt 2147483647).toBitVec.toNat = x.toNat % 2147483648 := by
    rw [Int64.toBitVec_and, BitVec.toNat_and]
    have e1 : (Int64.ofInt x).toBitVec.toNat = (x % 18446744073709551616).toNat := BitVec.toNat_ofInt x
    have e2 : (Int64.ofInt 2147483647).toBitVec.toNat = 2 ^ 31 - 1 := by decide
    rw [e1, e2, Nat.and_two_pow_sub_one_eq_mod, Int.emod_eq_of_lt h0 (by omega)]
  have h2 : (Int64.ofInt x &&& Int64.ofInt 2147483647).toInt = ((Int64.ofInt x &&& Int64.ofInt 2147483647).toBitVec.toNat : Int) := by
    show (Int64.ofInt x &&& Int64.ofInt 2147483647).toBitVec.toInt = _
    rw [BitVec.toInt_eq_toNat_of_lt (by rw [h]; omega)]
  rw [h2, h, Int.tmod_eq_emod_of_nonneg h0]; omega
def drF (d : Int) : Int := Int.tmod (1103515245 * d + 12345) 2147483648
def dvF (d m : Int) : Int := Int.tmod (Int.tdiv d 64) m
theorem drF_rg {d : Int} (h0 : 0 ≤ d) : 0 ≤ drF d ∧ drF d < 2147483648 := th_rg (by omega) (by omega)
theorem dv_rg {d m : Int} (h0 : 0 ≤ d) (hm : 0 < m) : 0 ≤ dvF d m ∧ dvF d m < m := th_rg (Int.tdiv_nonneg h0 (by omega)) hm
theorem c_draw {I : mI} {d m : Int} {Q : Int → mI → Prop} (hd : I 1 16 = d) (h0 : 0 ≤ d) (h1 : d < 2147483648) (hm : 0 < m) (k : ∀ I' : mI, I' 1 16 = drF d → (∀ j, j ≠ 16 → I' 1 j = I 1 j) → (∀ z, z ≠ 1 → I' z = I z) → Q (dvF (drF d) m) I') : p11_draw m I Q := by
  unfold p11_draw
  rw [hd, lAnd31 (by omega) (by omega)]
  have r := drF_rg h0
  unfold drF at r
  refine zt hm ⟨by omega, by omega, by omega,  m_putK (fun I1 q1 g1 f1 => ⟨by omega, ?_⟩)⟩
  rw [q1]
  exact k I1 q1 g1 f1
theorem m_draw {J : mI} {d m : Int} {Q : Int → mI → Prop} (hd : J 159 54 = d) (h0 : 0 ≤ d) (h1 : d < 2147483648) (hm : 0 < m) (hm2 : m ≤ 100) (k : ∀ J' : mI, J' 159 54 = drF d → (∀ z, z ≠ 159 → J' z = J z) → Q (dvF (drF d) m) J') : p12_draw m J Q := by
  unfold p12_draw
  rw [hd]
  have r := drF_rg h0
  have r2 := dv_rg (m := m) r.1 hm
  refine ⟨by omega, by omega,  m_putK (fun J1 q1 g1 f1 => ⟨by omega, ?_⟩)⟩
  rw [q1]
  unfold dvF drF at r2
  exact ⟨by omega, k J1 q1 f1⟩
/-- many years: how many paintings, the state -/
def yrR (V : mI) (F : Int → List (Int × Int)) (tw : Int → Int) : Nat → Int → mI → Int × mI
  | 0, acc, S => (acc, S)
  | d + 1, acc, S => yrR V F tw d (acc + (paF V F tw (-1) S).1) (paF V F tw (-1) S).2
def quR (V : mI) (F : Int → List (Int × Int)) (tw : Int → Int) : Nat → Int → Int → mI → Int × Int × mI
  | 0, acc, dc, S => (acc, dc, S)
  | d + 1, acc, dc, S =>
    if V 0 11 ≤ dvF (drF dc) 100 ∨ V 1 0 ≤ 0 then quR V F tw d (acc + 0) (drF dc) (paF V F tw (-1) S).2
    else quR V F tw d (acc + 1) (drF (drF dc)) (paF V F tw (dvF (drF (drF dc)) (V 1 0)) S).2
theorem yrR_ok {V : mI} {F : Int → List (Int × Int)} {tw : Int → Int} (hV : ldOK V) : ∀ (d : Nat) (acc : Int) (S : mI), stOK V S → S 0 0 + d ≤ 999 → stOK V (yrR V F tw d acc S).2
  | 0, _, S, h, _ => h
  | d + 1, acc, S, h, hy => by
    have h1 := (stOK_pa (F := F) (tw := tw) (sil := -1) hV h (by omega)).1
    have hy1 := pa_year (V := V) (F := F) (tw := tw) (sil := -1) (S := S)
    exact yrR_ok hV d _ _ h1 (by omega)
theorem quR_ok {V : mI} {F : Int → List (Int × Int)} {tw : Int → Int} (hV : ldOK V) : ∀ (d : Nat) (acc dc : Int) (S : mI), 0 ≤ dc → dc < 2147483648 → stOK V S → S 0 0 + d ≤ 999 → stOK V (quR V F tw d acc dc S).2.2 ∧ 0 ≤ (quR V F tw d acc dc S).2.1 ∧ (quR V F tw d acc dc S).2.1 < 2147483648
  | 0, _, dc, S, h0, h1, h, _ => ⟨h, h0, h1⟩
  | d + 1, acc, dc, S, h0, h1, h, hy => by
    have r1 := drF_rg h0
    have r2 := drF_rg r1.1
    unfold quR
    split
    · have h1 := (stOK_pa (F := F) (tw := tw) (sil := -1) hV h (by omega)).1
      have hy1 := pa_year (V := V) (F := F) (tw := tw) (sil := -1) (S := S)
      exact quR_ok hV d _ _ _ r1.1 r1.2 h1 (by omega)
    · have h1 := (stOK_pa (F := F) (tw := tw) (sil := dvF (drF (drF dc)) (V 1 0)) hV h (by omega)).1
      have hy1 := pa_year (V := V) (F := F) (tw := tw) (sil := dvF (drF (drF dc)) (V 1 0)) (S := S)
      exact quR_ok hV d _ _ _ r2.1 r2.2 h1 (by omega)
theorem c_yearsGo {n : Int} {h : Nat} {V : mI} {F : Int → List (Int × Int)} {tw : Int → Int} {Q : Int → mI → mI → mR → Prop} (hh : isLd h) (hV : ldOK V) (hF : foOK V F) (htw : ∀ b, 0 ≤ tw b ∧ tw b ≤ 9) (hn : n ≤ 40) :
    ∀ (d : Nat) (acc l : Int) (S : mI) (I J : mI) (R : mR), 0 ≤ l → l + d = n → 0 ≤ acc → acc ≤ l → R 1 12 = h → ldC I h V → twC I V tw → stC I 7 S → stOK V S → S 0 0 + d ≤ 999 →
    (∀ (I' J' : mI) (R' : mR), pfr 7 I I' → jfr 6 J J' → rfr R R' → stC I' 7 (yrR V F tw d acc S).2 → Q (yrR V F tw d acc S).1 I' J' R') → p11_years_b34 n Q (d + 1) acc l I J R
  | 0, acc, l, S, I, J, R, hl0, hl, ha0, ha1, hR, hL, hT, hS, hSt, hy, k => by
    show p11_years_b34_body n Q (p11_years_b34 n Q 0) acc l I J R
    unfold p11_years_b34_body
    exact zt (by omega) (k I J R ⟨fun _ _ _ _ _ _ _ => rfl, fun _ _ _ => rfl⟩ (jfr_r _ _) (rfr_r _) hS)
  | d + 1, acc, l, S, I, J, R, hl0, hl, ha0, ha1, hR, hL, hT, hS, hSt, hy, k => by
    show p11_years_b34_body n Q (p11_years_b34 n Q (d + 1)) acc l I J R
    unfold p11_years_b34_body
    rw [hR]
    have ok := stOK_pa (F := F) (tw := tw) (sil := -1) hV hSt (by omega)
    have hy1 := pa_year (V := V) (F := F) (tw := tw) (sil := -1) (S := S)
    refine zf (by omega) ⟨hh, c_pass hh isSt_7 hL hS hT ⟨hV, hF, hSt, htw⟩ (by omega) (fun I' J' R' pf jf rf hS' => ?_)⟩
    have go : ∀ r : Int, r = (paF V F tw (-1) S).1 → p11_years_b34 n Q (d + 1) (acc + r) (l + 1) I' J' R' := fun r er => by
      subst er
      exact c_yearsGo hh hV hF htw hn d (acc + (paF V F tw (-1) S).1) (l + 1) _ I' J' R' (by omega) (by omega) (by omega) (by omega) (by rw [rf 1 (by decide)]; exact hR) (ldC_p hh isSt_7 pf hL) (twC_p pf hT) hS' ok.1 (by omega) (fun I2 J2 R2 p2 j2 r2 s2 => k I2 J2 R2 (pfr_t pf p2) (jfr_t jf j2) (rfr_t rf r2) s2)
    exact zs (fun e => ⟨by omega, by omega,  go 0 e.symm⟩) (fun e => ⟨by omega, by omega,  go 1 (by omega)⟩)
theorem m_yearsGo {n bk : Int} {V : mI} {F : Int → List (Int × Int)} {tw : Int → Int} {Q : Int → mI → mI → Prop} (hV : ldOK V) (hF : foOK V F) (htw : ∀ b, 0 ≤ tw b ∧ tw b ≤ 9) (hn : n ≤ 40) :
    ∀ (d : Nat) (acc l : Int) (S : mI) (I J : mI), 0 ≤ l → l + d = n → 0 ≤ acc → acc ≤ l → ctM I bk 0 V F S tw → stOK V S → S 0 0 + d ≤ 999 →
    (∀ (I' J' : mI), lfr 0 I I' → jfr 193 J J' → stM V I' 0 (yrR V F tw d acc S).2 → Q (yrR V F tw d acc S).1 I' J') → p12_years_b25 n Q (d + 1) acc l I J
  | 0, acc, l, S, I, J, hl0, hl, ha0, ha1, hC, hSt, hy, k => by
    show p12_years_b25_body n Q (p12_years_b25 n Q 0) acc l I J
    unfold p12_years_b25_body
    exact zt (by omega) (k I J (lfr_r _ _) (jfr_r _ _) hC.2.1)
  | d + 1, acc, l, S, I, J, hl0, hl, ha0, ha1, hC, hSt, hy, k => by
    show p12_years_b25_body n Q (p12_years_b25 n Q (d + 1)) acc l I J
    unfold p12_years_b25_body
    have ok := stOK_pa (F := F) (tw := tw) (sil := -1) hV hSt (by omega)
    have hy1 := pa_year (V := V) (F := F) (tw := tw) (sil := -1) (S := S)
    refine zf (by omega) (m_tick hC ⟨hV, hF, hSt, htw⟩ (fun I' J' lf jf hS' => ?_))
    have go : ∀ r : Int, r = (paF V F tw (-1) S).1 → p12_years_b25 n Q (d + 1) (acc + r) (l + 1) I' J' := fun r er => by
      subst er
      exact m_yearsGo hV hF htw hn d (acc + (paF V F tw (-1) S).1) (l + 1) _ I' J' (by omega) (by omega) (by omega) (by omega) ⟨ldM_l lf hC.1, hS', twM_l lf hC.2.2.1, hC.2.2.2⟩ ok.1 (by omega) (fun I2 J2 l2 j2 s2 => k I2 J2 (lfr_t lf l2) (jfr_t jf j2) s2)
    exact zs (fun e => ⟨by omega, by omega,  go 0 e.symm⟩) (fun e => ⟨by omega, by omega,  go 1 (by omega)⟩)
theorem gfr_hi {v : Int} {I I' : mI} (h : gfr v I I') : ∀ z, 197 < z → I' z = I z := fun z hz => h.1 z (by omega)
theorem la_23 {L t : Nat} {X : Int → Int} {i : Int} {I J : mI} {R : mR} {K : mI → mI → mR → Prop} (H : LaH L t X i I J R K) : plaw_23 L X i I J R K := by
  have H' := H
  obtain ⟨hL, hX, h0, h1, ht, ⟨h, sp, bk, V, F, S, P, hl, hs, hr⟩, hK⟩ := H
  have hh := iLan_ld hl
  have hw := iWfs hl hs
  have hCM := iCtM hl hs
  have hT := iTwC hl
  obtain ⟨⟨r12, -, -⟩, hLd, hV, hF, hLM, -⟩ := id hl
  obtain ⟨hC, hM, hSt⟩ := id hs
  obtain ⟨nx, cn, uf, p1, p2, rn, rc, ru, hok⟩ := iPas_of hr.2.2.2.2.1
  have s2 := hSt.2.2.1
  unfold plaw_23
  refine ⟨by omega, by omega, ?_⟩
  generalize X (i + 1) = x
  have no : ¬ (1 ≤ x ∧ x ≤ 40 ∧ S 0 0 + x ≤ 999) → ∀ I1 : mI, (∀ z, z ≠ 122 → I1 z = I z) → (∀ Q2 : Int → mI → Prop, (∀ I2, K I2 J R → Q2 (-1) I2) → p12_refuses 2 I1 Q2) → p12_years x I1 J (fun r2 I2 J2 => if (-1 : Int) = r2 then K I2 J2 R else False) := fun q I1 f1 kk => by
    unfold p12_years
    exact m_isAhead (by rw [f1 185 (by decide)]; exact hM.1) hSt.1 (by decide) (by decide) (fun _ => zt rfl (kk _ (fun I2 hk2 => zt rfl hk2))) (fun q2 => absurd q2 q)
  unfold p11_years
  refine zs (fun e => laR H' (by decide) (by decide) (fun I1 f1 kk => ⟨by omega, by omega,  no (by omega) I1 f1 kk⟩)) (fun e => c_canPass hC.1 hSt.1 (fun q => zt rfl (laR H' (by decide) (by decide) (fun I1 f1 kk => ⟨by omega, by omega,  no (by omega) I1 f1 kk⟩))) (fun q => zf (by decide) ?_))
  refine c_add p1 hC s2.2 rn rc (fun I1 f1 p1' => ⟨x.toNat + 1, ?_⟩)
  have F1 : ∀ z, 118 < z → I1 z = I z := fun z hz => f1 z (by omega) (by omega)
  have hL1 : ldC I1 h V := by
    obtain ⟨l0, l1, l2, l3, l4, l5, l6, l7, l8⟩ := hLd
    have hlh : h = 123 ∨ h = 132 := hh
    have hx : ∀ j, j ≤ 8 → I1 (h + j) = I (h + j) := fun j hj => F1 _ (by omega)
    exact ⟨(hx 0 (by omega)).trans l0, (hx 1 (by omega)).trans l1, (hx 2 (by omega)).trans l2, (hx 3 (by omega)).trans l3, (hx 4 (by omega)).trans l4, (hx 5 (by omega)).trans l5, (hx 6 (by omega)).trans l6, (hx 7 (by omega)).trans l7, (hx 8 (by omega)).trans l8⟩
  have hT1 : twC I1 V (tw0 V) := by unfold twC; rw [F1 146 (by decide)]; exact hT
  refine c_yearsGo hh hV hF (tw0_rg hV) (by omega) x.toNat 0 0 S I1 J R (by omega) (by omega) (by omega) (by omega) r12 hL1 hT1 (stC_of (fun j hj => f1 _ (by omega) (by omega)) hC) hSt (by omega) (fun I2 J2 R2 pf jf rf hS2 => ⟨by omega, by omega, ?_⟩)
  have F2 : ∀ z, 149 < z → I2 z = I z := fun z hz => by rw [pf.1 z (by omega) (by omega) (by omega) (by omega) (by omega) (by omega), F1 z (by omega)]
  have hM2 : stM V I2 0 S := stM_fr (fun z z0 _ => F2 z (by omega)) hM
  unfold p12_years
  refine m_isAhead hM2.1 hSt.1 (by decide) (by decide) (fun q2 => by omega) (fun _ => zf (by decide) ?_)
  refine m_keep (pasM_e p2 (F2 159 (by decide)) (fun z _ _ => F2 z (by omega))) (ok40 hok) hM2 s2 rc ru (fun I3 uf' f3 ru' p3 => ⟨x.toNat + 1, ?_⟩)
  have hM3 : stM V I3 0 S := stM_k f3 (Or.inl rfl) s2.2 hM2
  have hLM3 : ldM I3 bk V F := ldM_fr (by rw [f3.2.1 13 (by decide) (by decide), F2 159 (by decide)]) (fun z z0 z1 => by rw [f3.1 z (by omega), F2 z (by omega)]) hLM
  have hT3 : twM I3 V (tw0 V) := by unfold twM; rw [f3.1 192 (by omega), F2 192 (by decide)]; exact hCM.2.2.1
  refine m_yearsGo hV hF (tw0_rg hV) (by omega) x.toNat 0 0 S I3 J2 (by omega) (by omega) (by omega) (by omega) ⟨hLM3, hM3, hT3, by omega, by omega⟩ hSt (by omega) (fun I4 J4 lf jf4 hS4 => zt rfl (hK I4 J4 R2 ?_))
  have rn' := th_rg (y := nx + 1) (n := 20) (by omega) (by omega)
  have rc' : (if cn < 20 then cn + 1 else 20) ≤ 20 := by split <;> omega
  have el : ∀ z, z ≤ 118 → I4 z = I2 z := fun z hz => by rw [lf.1 z (by omega), f3.1 z (by omega)]
  have eh : ∀ z, 149 < z → z ≠ 159 → (z < 185 ∨ z = 192 ∨ 197 < z) → I4 z = I z := fun z hz z9 hz2 => by rw [lf.1 z (by omega), f3.1 z (by omega), F2 z hz]
  have em : ∀ z, z < 150 → z ≠ 5 → z ≠ 146 → z ≠ 147 → z ≠ 148 → z ≠ 149 → z ≠ 17 → ¬ (7 ≤ z ∧ z ≤ 11) → ¬ (19 ≤ z ∧ z ≤ 118) → I4 z = I z := fun z hz z5 z6 z7 z8 z9 z17 za zb => by rw [lf.1 z (by omega), f3.1 z (by omega), pf.1 z z5 z6 z7 z8 z9 za, f1 z z17 zb]
  have e1 : I4 1 = I 1 := em 1 (by decide) (by decide) (by decide) (by decide) (by decide) (by decide) (by decide) (by decide) (by decide)
  have jj := jqt (jq6 jf) (jq193 jf4)
  refine inv_act hl hSt hr p1.2.1 rc rn' ru' hok (pasC_fr p1' rn' rc' (fun z z0 z1 => by rw [el z z1, pf.1 z (by omega) (by omega) (by omega) (by omega) (by omega) (by omega)])) (pasM_g p3 ru'.1 (puP40 hSt hok rc) (lfr_g lf)) ⟨stC_of (fun j hj => el _ (by omega)) hS2, hS4, yrR_ok hV _ _ _ hSt (by omega)⟩ (fun z hz => ?_) ?_ (by rw [eh 151 (by decide) (by decide) (by omega)]) (fun j j2 j3 => ?_) ⟨by rw [e1], by rw [e1]⟩ (fr_die hr.2.2.2.1 (by rw [e1]) (by rw [jj.1])) jj.2 (rf 1 (by decide))
  · by_cases q : z < 150
    · exact em z q (by omega) (by omega) (by omega) (by omega) (by omega) (by omega) (by omega) (by omega)
    · exact eh z (by omega) (by omega) (by omega)
  · rw [lf.1 146 (by omega), f3.1 146 (by omega), pf.2 8 (by decide) (by decide), f1 146 (by decide) (by decide)]
  · rw [lf.1 159 (by omega), f3.2.1 j j2 j3, F2 159 (by decide)]
