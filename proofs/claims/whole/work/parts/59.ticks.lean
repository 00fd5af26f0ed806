/-! THE MODEL'S YEAR, whole -/
theorem mo_pn (V S : mI) (th c cost : Int) (sd : Int → Int) (ch : Int) : moF V (pnF S th c cost) sd ch = pnF (moF V S sd ch) th c cost := by
  funext i
  by_cases h2 : i = 2
  · subst h2; rfl
  by_cases h0 : i = 0
  · subst h0; rfl
  by_cases h3 : i = 3
  · subst h3; rfl
  by_cases h4 : i = 4
  · subst h4; rfl
  unfold moF pnF ptF keF
  simp only [h0, h2, h3, h4, if_false]
theorem stM_sc {V : mI} {I I' : mI} {v : Int} {S S' : mI} (hS : stM V I v S) (f : ∀ z, z ≠ 185 → z ≠ 186 → I' z = I z) (h0 : I' 185 v = S' 0 0) (h1 : I' 186 v = S' 0 1) (e2 : S' 0 2 = S 0 2) (e : ∀ i, i ≠ 0 → S' i = S i) : stM V I' v S' := by
  obtain ⟨c0, c1, c2, c3, c4⟩ := hS
  refine ⟨h0, h1, ?_, fun j j0 j6 => ?_, fun j j0 j1 => ?_⟩
  · rw [f 190 (by decide) (by decide), e2]; exact c2
  · have h := c3 j j0 j6
    rw [f 187 (by decide) (by decide), f 188 (by decide) (by decide), f 189 (by decide) (by decide), e 1 (by decide), e 2 (by decide), e 3 (by decide)]; exact h
  · show I' 191 (120 * v + j) = _
    rw [f 191 (by decide) (by decide), e 4 (by decide)]; exact c4 j j0 (by omega)
theorem lfr_s {v : Int} {I I' : mI} (f : ∀ z, z ≠ 185 → z ≠ 186 → I' z = I z) (h0 : ∀ j, j ≠ v → I' 185 j = I 185 j) (h1 : ∀ j, j ≠ v → I' 186 j = I 186 j) : lfr v I I' :=
  ⟨fun z hz => f z (by omega) (by omega), fun j hj => ⟨h0 j hj, h1 j hj, by rw [f 190 (by decide) (by decide)]⟩, fun j _ => by rw [f 188 (by decide) (by decide), f 189 (by decide) (by decide)]; exact ⟨rfl, rfl⟩, fun j _ => by rw [f 191 (by decide) (by decide)]⟩
theorem m_year {V : mI} {I J : mI} {v : Int} {S : mI} {p : Int} {Q : Int → mI → mI → Prop} (hv : 0 ≤ v ∧ v < 22) (hS : stM V I v S) (hy : 0 ≤ S 0 0 ∧ S 0 0 ≤ 999) (hp : p = 0 ∨ p = 1)
    (k : ∀ I' : mI, lfr v I I' → stM V I' v (yeF S) → Q p I' J) : p12_ticks_b200 v p I J Q := by
  have c0 : I 185 v = S 0 0 := hS.1
  unfold p12_ticks_b200
  rw [c0]
  refine ⟨by omega, by omega, by omega,  m_putK (fun I1 q1 g1 f1 => ⟨hp, k I1 (lfr_s (fun z z5 _ => f1 z z5) g1 (fun j _ => by rw [f1 186 (by decide)])) (stM_sc hS (fun z z5 _ => f1 z z5) ?_ ?_ ?_ (fun i hi => if_neg hi))⟩)⟩
  · rw [ye_y]; exact q1
  · rw [ye_p, f1 186 (by decide)]; exact hS.2.1
  · rw [ye_n]
theorem m_tick154 {I J : mI} {bk v : Int} {V : mI} {F : Int → List (Int × Int)} {S : mI} {tw : Int → Int} {th ch cost s0 : Int} {sd : Int → Int} {Q : Int → mI → mI → Prop} (hC : ctM I bk v V F S tw) (hV : ldOK V) (hSt : stOK V S) (hth : 0 ≤ th ∧ th < 6) (hs : rgv (I 196) sd) (h0 : s0 = 0 ∨ s0 = 1) (hc : s0 = 1 → 0 ≤ cost ∧ cost ≤ S 0 1) (hy : S 0 0 ≤ 999)
    (k : ∀ I' : mI, lfr v I I' → (s0 = 0 → stM V I' v (yeF (moF V S sd ch))) → (s0 = 1 → stM V I' v (yeF (moF V (pnF S th ch cost) sd ch))) → Q s0 I' J) : p12_ticks_b154 v th ch cost s0 I J Q := by
  have hv := hC.2.2.2
  have s1 := hSt.1
  have s2 := hSt.2.1
  have s3 := hSt.2.2.1
  unfold p12_ticks_b154
  refine m_moods hC hV hSt hs (fun I5 l5 hS5 f5 => ?_)
  by_cases e : s0 = 0
  · refine zt e (m_year hv hS5 ⟨s1.1, hy⟩ h0 (fun I6 l6 hS6 => k I6 (lfr_t l5 l6) (fun _ => hS6) (fun q => by omega)))
  · have e1 := h0.resolve_left e
    have hc := hc e1
    refine zf e ⟨by omega, by omega, by omega,  m_putK (fun I6 q6 g6 f6 => ⟨by omega, ?_⟩)⟩
    have c1 : I6 186 v = S 0 1 := by rw [f6 186 (by decide)]; exact hS5.2.1
    rw [c1]
    refine ⟨by omega, by omega,  m_putK (fun I7 q7 g7 f7 => ?_)⟩
    have l7 : lfr v I5 I7 := by
      refine ⟨fun z hz => (f7 z (by omega)).trans (f6 z (by omega)), fun j hj => ⟨?_, ?_, ?_⟩, fun j hj => ⟨?_, ?_⟩, fun j _ => ?_⟩
      · rw [f7 185 (by decide), f6 185 (by decide)]
      · rw [g7 j hj, f6 186 (by decide)]
      · rw [f7 190 (by decide), f6 190 (by decide)]
      · rw [f7 188 (by decide), f6 188 (by decide)]
      · rw [f7 189 (by decide), g6 j (by omega)]
      · rw [f7 191 (by decide), f6 191 (by decide)]
    have hS7 : stM V I7 v (ptF (moF V S sd ch) th ch cost) := by
      obtain ⟨d0, d1, d2, d3, d4⟩ := hS5
      refine ⟨?_, ?_, ?_, fun j j0 j6 => ?_, fun j j0 j1 => ?_⟩
      · rw [pt_y, f7 185 (by decide), f6 185 (by decide)]; exact d0
      · rw [pt_p]; exact q7
      · rw [pt_n, f7 190 (by decide), f6 190 (by decide)]; exact d2
      · have h := d3 j j0 j6
        show I7 187 (6 * v + j) = _ ∧ I7 188 (6 * v + j) = _ ∧ I7 189 (6 * v + j) = zfn (moF V S sd ch 3) th ch j
        rw [f7 187 (by decide), f7 188 (by decide), f7 189 (by decide), f6 187 (by decide), f6 188 (by decide)]
        refine ⟨h.1, h.2.1, ?_⟩
        by_cases ej : j = th
        · rw [ej, zfn_s]; exact q6
        · rw [zfn_o ej, g6 _ (by omega)]; exact h.2.2
      · have j1' := j1
        rw [pt_n] at j1'
        show I7 191 (120 * v + j) = _
        rw [f7 191 (by decide), f6 191 (by decide)]; exact d4 j j0 j1'
    refine m_down hv hS7 ?_ (fun I8 l8 hS8 f8 => ?_)
    · rw [pt_n]; exact s3
    · have hS8' : stM V I8 v (moF V (pnF S th ch cost) sd ch) := by rw [mo_pn]; exact hS8
      have ey : moF V (pnF S th ch cost) sd ch 0 0 = S 0 0 := pn_y S th ch cost
      refine m_year hv hS8' (by rw [ey]; exact ⟨s1.1, hy⟩) h0 (fun I9 l9 hS9 => k I9 (lfr_t l5 (lfr_t l7 (lfr_t l8 l9))) (fun q => by omega) (fun _ => hS9))
theorem m_tick93 {I J : mI} {bk v : Int} {V : mI} {F : Int → List (Int × Int)} {S : mI} {tw : Int → Int} {th set : Int} {Q : Int → mI → mI → Prop} (hC : ctM I bk v V F S tw) (hw : wfs V F S tw) (hth : 0 ≤ th ∧ th < V 1 2) (hy : S 0 0 ≤ 999)
    (k : ∀ (p : Int) (I' J' : mI) (S' : mI), lfr v I I' → jfr 193 J J' → stM V I' v S' →
      ((chF (asF V F S tw th (S 1) set).1 (V 1 1) = -1 → p = 0 ∧ S' = yeF S) ∧
       (chF (asF V F S tw th (S 1) set).1 (V 1 1) ≠ -1 → (S 0 1 < tr V 1 (chF (asF V F S tw th (S 1) set).1 (V 1 1)) 3 ∨ S 3 th = chF (asF V F S tw th (S 1) set).1 (V 1 1)) → p = 0 ∧ S' = yeF (moF V S (asF V F S tw th (S 1) set).2 (chF (asF V F S tw th (S 1) set).1 (V 1 1)))) ∧
       (chF (asF V F S tw th (S 1) set).1 (V 1 1) ≠ -1 → ¬ (S 0 1 < tr V 1 (chF (asF V F S tw th (S 1) set).1 (V 1 1)) 3 ∨ S 3 th = chF (asF V F S tw th (S 1) set).1 (V 1 1)) → p = 1 ∧ S' = yeF (moF V (pnF S th (chF (asF V F S tw th (S 1) set).1 (V 1 1)) (tr V 1 (chF (asF V F S tw th (S 1) set).1 (V 1 1)) 3)) (asF V F S tw th (S 1) set).2 (chF (asF V F S tw th (S 1) set).1 (V 1 1))))) → Q p I' J') : p12_ticks_b93 v 0 th v th set I J Q := by
  obtain ⟨hV, hF, hSt, htw⟩ := hw
  have hw : wfs V F S tw := ⟨hV, hF, hSt, htw⟩
  have n := hV.1
  have hv := hC.2.2.2
  unfold p12_ticks_b93
  refine m_choice hC hw hth (fun I4 J4 f4 j4 hv4 hs4 => ?_)
  have hC4 := ctM_o f4 hC
  have l4 : lfr v I I4 := ofr_l f4
  have hc := chF_rg (v := (asF V F S tw th (S 1) set).1) n.2.1.1
  revert k hc hv4 hs4
  generalize asF V F S tw th (S 1) set = vs
  generalize chF vs.1 (V 1 1) = ch
  intro k hv4 hs4 hc
  by_cases e : ch = -1
  · refine zt e (m_year hv hC4.2.1 ⟨hSt.1.1, hy⟩ (Or.inl rfl) (fun I5 l5 hS5 => ?_))
    exact k 0 I5 J4 (yeF S) (lfr_t l4 l5) j4 hS5 ⟨fun _ => ⟨rfl, rfl⟩, fun q => absurd e q, fun q => absurd e q⟩
  · have h3 := hV.2.2.1 ch (by omega) hc.2
    obtain ⟨m1, m2, m3, m4, m5, m6, m7, m8, m9, -⟩ := hC4.1
    obtain ⟨c0, c1, c2, c3, c4⟩ := hC4.2.1
    have e9 : I4 189 (6 * v + th) = S 3 th := (c3 th hth.1 (by omega)).2.2
    refine zf e ?_
    rw [m1, m9 ch (by omega) hc.2, c1, e9]
    refine ⟨by omega, by omega, by omega,  wLet_r ⟨by omega, ?_⟩⟩
    have no : (S 0 1 < tr V 1 ch 3 ∨ S 3 th = ch) → p12_ticks_b154 v th ch (tr V 1 ch 3) 0 I4 J4 Q := fun x =>
      m_tick154 hC4 hV hSt (by omega) hs4 (Or.inl rfl) (fun q => by omega) hy (fun I5 l5 a0 a1 => k 0 I5 J4 _ (lfr_t l4 l5) j4 (a0 rfl) ⟨fun q => absurd q e, fun _ _ => ⟨rfl, rfl⟩, fun _ q => absurd x q⟩)
    by_cases x1 : S 0 1 < tr V 1 ch 3
    · exact zt x1 (no (Or.inl x1))
    · refine zf x1 ⟨by omega, by omega, by omega, ?_⟩
      by_cases x2 : S 3 th = ch
      · exact zt x2 (no (Or.inr x2))
      · refine zf x2 (m_tick154 hC4 hV hSt (by omega) hs4 (Or.inr rfl) (fun _ => ⟨h3.1, by omega⟩) hy (fun I5 l5 a0 a1 => k 1 I5 J4 _ (lfr_t l4 l5) j4 (a1 rfl) ⟨fun q => absurd q e, fun _ q => (q.elim x1 x2).elim, fun _ _ => ⟨rfl, rfl⟩⟩))
theorem m_tick {I J : mI} {bk v : Int} {V : mI} {F : Int → List (Int × Int)} {S : mI} {tw : Int → Int} {sil : Int} {Q : Int → mI → mI → Prop} (hC : ctM I bk v V F S tw) (hw : wfs V F S tw)
    (k : ∀ (I' J' : mI), lfr v I I' → jfr 193 J J' → stM V I' v (paF V F tw sil S).2 → Q (paF V F tw sil S).1 I' J') : p12_ticks v sil I J Q := by
  obtain ⟨hV, hF, hSt, htw⟩ := hw
  have n := hV.1
  have hv := hC.2.2.2
  have gr := giF_rg V F S
  have s2 := hSt.2.1
  have hy := hSt.1.2
  have c1 : I 186 v = S 0 1 := hC.2.1.2.1
  unfold p12_ticks
  rw [c1]
  refine ⟨hv, m_gift hC hV hF hSt (fun I1 J1 f1 j1 => ⟨by omega, by omega,  m_putK (fun I2 q2 g2 f2 => ⟨hv, ?_⟩)⟩)⟩
  have hC1 := ctM_o (qfr_o (nfr_q f1)) hC
  have l1 : lfr v I I1 := ofr_l (qfr_o (nfr_q f1))
  rw [q2]
  have key : ∀ I3 : mI, (∀ z, z ≠ 186 → I3 z = I1 z) → (∀ j, j ≠ v → I3 186 j = I1 186 j) → I3 186 v = (if S 0 1 + giF V F S ≤ 9999 then S 0 1 + giF V F S else 9999) → p12_ticks_b35 v sil I3 J1 Q := fun I3 f3 g3 q3 => by
    have l3 : lfr v I1 I3 := lfr_s (fun z _ z6 => f3 z z6) (fun j _ => by rw [f3 185 (by decide)]) g3
    have hG : stOK V (gpF V F S) := stOK_gp hSt
    have ey := gp_y V F S
    have hS3 : stM V I3 v (gpF V F S) := by
      refine stM_sc hC1.2.1 (fun z _ z6 => f3 z z6) ?_ ?_ ?_ (fun i hi => if_neg hi)
      · rw [ey, f3 185 (by decide)]; exact hC1.2.1.1
      · exact q3.trans (pu_p _ _).symm
      · rw [gp_n]
    have hC3 : ctM I3 bk v V F (gpF V F S) tw := ⟨ldM_l l3 hC1.1, hS3, twM_l l3 hC1.2.2.1, hv⟩
    obtain ⟨m1, m2, m3, m4, m5, -⟩ := hC3.1
    have cy : I3 185 v = S 0 0 := by rw [← ey]; exact hS3.1
    have lI := lfr_t l1 l3
    unfold p12_ticks_b35
    rw [m1, m5, cy]
    refine ⟨by omega, ?_⟩
    by_cases e : V 1 2 ≤ 0
    · have ep : paF V F tw sil S = (0, yeF (gpF V F S)) := by unfold paF; rw [if_pos e]
      rw [ep] at k
      exact zt e (m_year hv hS3 (by rw [ey]; exact ⟨hSt.1.1, hy⟩) (Or.inl rfl) (fun I4 l4 hS4 => k I4 J1 (lfr_t lI l4) j1 hS4))
    · refine zf e ⟨by omega, by omega, by omega,  wLet_r ?_⟩
      have hth := th_rg hSt.1.1 (by omega : 0 < V 1 2)
      have hev := evb_rg n.1
      have fin : ∀ set, set = seF V sil → p12_ticks_b93 v 0 (Int.tmod (S 0 0) (V 1 2)) v (Int.tmod (S 0 0) (V 1 2)) set I3 J1 Q := fun set hset => by
        refine m_tick93 hC3 ⟨hV, hF, hG, htw⟩ hth (by rw [ey]; exact hy) (fun p I' J' S' pf jf hS' hc => ?_)
        have evs : asF V F (gpF V F S) tw (Int.tmod (S 0 0) (V 1 2)) (gpF V F S 1) set = vsF V F tw (seF V sil) (gpF V F S) := by
          unfold vsF; rw [ey, hset]
        rw [evs] at hc
        have hp : p = (paF V F tw sil S).1 ∧ S' = (paF V F tw sil S).2 := by
          unfold paF
          rw [if_neg e]
          by_cases e2 : chF (vsF V F tw (seF V sil) (gpF V F S)).1 (V 1 1) = -1
          · rw [if_pos e2]; exact hc.1 e2
          · rw [if_neg e2]
            by_cases e3 : gpF V F S 0 1 < tr V 1 (chF (vsF V F tw (seF V sil) (gpF V F S)).1 (V 1 1)) 3 ∨ gpF V F S 3 (Int.tmod (S 0 0) (V 1 2)) = chF (vsF V F tw (seF V sil) (gpF V F S)).1 (V 1 1)
            · rw [if_pos e3]; exact hc.2.1 e2 e3
            · rw [if_neg e3]; exact hc.2.2 e2 e3
        rw [hp.1]
        rw [hp.2] at hS'
        exact k I' J' (lfr_t lI pf) (jfr_t j1 jf) hS'
      unfold p12_everybody
      rw [m1, m3]
      by_cases es : sil = -1
      · exact zt es ⟨by omega, by omega,  fin _ (by unfold seF evbF; rw [if_pos es])⟩
      · exact zf es ⟨by omega, by omega,  fin _ (by unfold seF evbF; rw [if_neg es])⟩
  by_cases e : S 0 1 + giF V F S ≤ 9999
  · rw [if_pos e] at key
    exact zt e (key I2 f2 g2 q2)
  · rw [if_neg e] at key
    exact zf e ⟨hv, m_putK (fun I3 q3 g3 f3 => key I3 (fun z hz => (f3 z hz).trans (f2 z hz)) (fun j hj => (g3 j hj).trans (g2 j hj)) q3)⟩
