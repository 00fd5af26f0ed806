/-! THE MODEL'S WORD AND CHOICE -/
theorem m_wordGo {bk v : Int} {V : mI} {F : Int → List (Int × Int)} {S : mI} {tw : Int → Int} {th b : Int} {Q : Int → mI → mI → Prop} {vt : Int → Int} {I0 J0 : mI} (hw : wfs V F S tw) (hth : 0 ≤ th ∧ th < V 1 2) (hb : 0 ≤ b ∧ b < V 1 0) (hv : ∀ c, 0 ≤ c → c < V 1 1 → 0 ≤ vt c ∧ vt c < 6) (h0 : ctM I0 bk v V F S tw) (hv0 : rgv (I0 195) vt) :
    ∀ (d : Nat) (best m c : Int) (I J : mI), 0 ≤ c → c + d = V 1 1 → nfr I0 I → jfr 193 J0 J →
    (∀ I' J' : mI, nfr I0 I' → jfr 193 J0 J' → Q (woR (fun c => scF V F S tw b th c (vt c)) d best m c) I' J') → p12_wordBy_b9 v b th Q (d + 1) best m c I J
  | 0, best, m, c, I, J, hc0, hcd, hs, hj, k => by
    have hC := ctM_o (qfr_o (nfr_q hs)) h0
    obtain ⟨m1, m2, m3, m4, m5, -⟩ := hC.1
    show p12_wordBy_b9_body v b th Q (p12_wordBy_b9 v b th Q 0) best m c I J
    unfold p12_wordBy_b9_body
    rw [m1, m4]
    exact ⟨by omega, zt (by omega) (k I J hs hj)⟩
  | d + 1, best, m, c, I, J, hc0, hcd, hs, hj, k => by
    have hC := ctM_o (qfr_o (nfr_q hs)) h0
    obtain ⟨m1, m2, m3, m4, m5, -⟩ := hC.1
    obtain ⟨⟨n0, n1, n2⟩, -⟩ := hw.1
    have e8 : I 195 c = vt c := by rw [hs 195 (by decide)]; exact hv0 c hc0 (by omega)
    show p12_wordBy_b9_body v b th Q (p12_wordBy_b9 v b th Q (d + 1)) best m c I J
    unfold p12_wordBy_b9_body
    rw [m1, m4, e8]
    refine ⟨by omega, zf (by omega) ⟨by omega, ?_⟩⟩
    refine m_score hC hw hth hb (by omega) (hv c hc0 (by omega)) (fun I' J' s1 j1 => ?_)
    unfold woR at k
    have go : ∀ best' m', (∀ I' J' : mI, nfr I0 I' → jfr 193 J0 J' → Q (woR (fun c => scF V F S tw b th c (vt c)) d best' m' (c + 1)) I' J') → p12_wordBy_b9 v b th Q (d + 1) best' m' (c + 1) I' J' := fun best' m' k' =>
      m_wordGo hw hth hb hv h0 hv0 d best' m' (c + 1) I' J' (by omega) (by omega) (nfr_t hs s1) (jfr_t hj j1) k'
    by_cases e : best = -1
    · rw [if_pos e] at k
      exact zt e ⟨by omega, go _ _ k⟩
    · rw [if_neg e] at k
      refine zf e ?_
      by_cases e2 : scF V F S tw b th c (vt c) ≤ m
      · rw [if_pos e2] at k
        exact zf (by omega) ⟨by omega, go _ _ k⟩
      · rw [if_neg e2] at k
        exact zt (by omega) ⟨by omega, go _ _ k⟩
theorem m_word {I J : mI} {bk v : Int} {V : mI} {F : Int → List (Int × Int)} {S : mI} {tw : Int → Int} {th b : Int} {Q : Int → mI → mI → Prop} {vt : Int → Int} (hC : ctM I bk v V F S tw) (hw : wfs V F S tw) (hth : 0 ≤ th ∧ th < V 1 2) (hb : 0 ≤ b ∧ b < V 1 0) (hv : ∀ c, 0 ≤ c → c < V 1 1 → 0 ≤ vt c ∧ vt c < 6) (hv0 : rgv (I 195) vt)
    (k : ∀ I' J' : mI, nfr I I' → jfr 193 J J' → Q (woF (fun c => scF V F S tw b th c (vt c)) (V 1 1)) I' J') : p12_wordBy v b th I J Q := by
  have hn := hw.1.1.2.1
  exact ⟨(V 1 1).toNat + 1, m_wordGo hw hth hb hv hC hv0 (V 1 1).toNat (-1) 0 0 I J (by omega) (by omega) (fun _ _ => rfl) (jfr_r _ J) k⟩
theorem m_hush2 {Q : mI → Prop} {I0 : mI} (k : ∀ I' : mI, (∀ a, a ≠ 196 → I' a = I0 a) → (∀ c, 0 ≤ c → c < 6 → I' 196 c = -1) → Q I') : ∀ (d : Nat) (l : Int) (I : mI), 0 ≤ l → l + d = 6 → (∀ a, a ≠ 196 → I a = I0 a) → (∀ c, 0 ≤ c → c < l → I 196 c = -1) → p12_hushes_b23 Q (d + 1) l I
  | 0, l, I, h0, h1, h2, h3 => by
    show p12_hushes_b23_body Q (p12_hushes_b23 Q 0) l I
    unfold p12_hushes_b23_body
    exact zt (by omega) (k I h2 (fun c c0 c1 => h3 c c0 (by omega)))
  | d + 1, l, I, h0, h1, h2, h3 => by
    show p12_hushes_b23_body Q (p12_hushes_b23 Q (d + 1)) l I
    unfold p12_hushes_b23_body
    refine zf (by omega) ⟨by omega, m_putK (fun I1 q1 g1 f1 => ⟨by omega, m_hush2 k d (l + 1) I1 (by omega) (by omega) (fun a ha => (f1 a ha).trans (h2 a ha)) (fun c c0 c1 => ?_)⟩)⟩
    by_cases e : c = l
    · rw [e]; exact q1
    · rw [g1 c e]; exact h3 c c0 (by omega)
theorem m_hush1 {Q : mI → Prop} {I0 : mI} (k : ∀ I' : mI, (∀ a, a ≠ 195 → a ≠ 196 → I' a = I0 a) → (∀ c, 0 ≤ c → c < 6 → I' 195 c = 0) → (∀ c, 0 ≤ c → c < 6 → I' 196 c = -1) → Q I') : ∀ (d : Nat) (l : Int) (I : mI), 0 ≤ l → l + d = 6 → (∀ a, a ≠ 195 → I a = I0 a) → (∀ c, 0 ≤ c → c < l → I 195 c = 0) → p12_hushes_b2 Q (d + 1) l I
  | 0, l, I, h0, h1, h2, h3 => by
    show p12_hushes_b2_body Q (p12_hushes_b2 Q 0) l I
    unfold p12_hushes_b2_body
    refine zt (by omega) ⟨7, m_hush2 (I0 := I) (fun I' f z => k I' (fun a q1 q2 => (f a q2).trans (h2 a q1)) (fun c c0 c1 => ?_) z) 6 0 I (by omega) (by omega) (fun _ _ => rfl) (fun c c0 c1 => by omega)⟩
    rw [f 195 (by decide)]; exact h3 c c0 (by omega)
  | d + 1, l, I, h0, h1, h2, h3 => by
    show p12_hushes_b2_body Q (p12_hushes_b2 Q (d + 1)) l I
    unfold p12_hushes_b2_body
    refine zf (by omega) ⟨by omega, m_putK (fun I1 q1 g1 f1 => ⟨by omega, m_hush1 k d (l + 1) I1 (by omega) (by omega) (fun a ha => (f1 a ha).trans (h2 a ha)) (fun c c0 c1 => ?_)⟩)⟩
    by_cases e : c = l
    · rw [e]; exact q1
    · rw [g1 c e]; exact h3 c c0 (by omega)
theorem m_hush {I : mI} {Q : mI → Prop} (k : ∀ I' : mI, (∀ a, a ≠ 195 → a ≠ 196 → I' a = I a) → (∀ c, 0 ≤ c → c < 6 → I' 195 c = 0) → (∀ c, 0 ≤ c → c < 6 → I' 196 c = -1) → Q I') : p12_hushes I Q :=
  ⟨7, m_hush1 k 6 0 I (by omega) (by omega) (fun _ _ => rfl) (fun c c0 c1 => by omega)⟩
theorem m_chooseGo {I J : mI} {bk nc : Int} {v : Int → Int} {Q : Int → mI → mI → Prop} (hb : I 159 13 = bk) (hb2 : bk = 0 ∨ bk = 1) (hn : I 164 bk = nc) (hn6 : nc ≤ 6) (hv : rgv (I 195) v) :
    ∀ (d : Nat) (b c : Int), -1 ≤ b → b < c → 0 ≤ c → c + d = nc → (b = -1 ∨ 0 < v b) → Q (chR v d b c) I J → p12_chosen_b106 I J Q (d + 1) b c
  | 0, b, c, h1, h2, h3, h4, h5, hq => by
    show p12_chosen_b106_body I J Q (p12_chosen_b106 I J Q 0) b c
    unfold p12_chosen_b106_body
    rw [hb, hn]
    exact ⟨by omega, zt (by omega) hq⟩
  | d + 1, b, c, h1, h2, h3, h4, h5, hq => by
    show p12_chosen_b106_body I J Q (p12_chosen_b106 I J Q (d + 1)) b c
    unfold p12_chosen_b106_body
    rw [hb, hn, hv c h3 (by omega)]
    unfold chR at hq
    refine ⟨by omega, zf (by omega) ⟨by omega, ?_⟩⟩
    have go : ∀ b', -1 ≤ b' → b' < c + 1 → (b' = -1 ∨ 0 < v b') → Q (chR v d b' (c + 1)) I J → p12_chosen_b106 I J Q (d + 1) b' (c + 1) := fun b' g1 g2 g3 hq' => m_chooseGo hb hb2 hn hn6 hv d b' (c + 1) g1 g2 (by omega) (by omega) g3 hq'
    by_cases e0 : v c ≤ 0
    · refine zt e0 ⟨by omega, go b (by omega) (by omega) h5 ?_⟩
      rw [if_pos (by split <;> omega)] at hq; exact hq
    · refine zf e0 ?_
      by_cases e : b = -1
      · rw [if_pos e, if_neg e0] at hq
        exact zt e ⟨by omega, go c (by omega) (by omega) (Or.inr (by omega)) hq⟩
      · rw [if_neg e] at hq
        refine zf e ⟨by omega, by omega, ?_⟩
        rw [hv b (by omega) (by omega)]
        by_cases e2 : v c ≤ v b
        · rw [if_pos e2] at hq; exact zt e2 ⟨by omega, go b (by omega) (by omega) h5 hq⟩
        · rw [if_neg e2] at hq; exact zf e2 ⟨by omega, go c (by omega) (by omega) (Or.inr (by omega)) hq⟩
theorem m_chosenGo {bk v : Int} {V : mI} {F : Int → List (Int × Int)} {S : mI} {tw : Int → Int} {th set : Int} {o : Int → Int} {Q : Int → mI → mI → Prop} {I0 J0 : mI} (hw : wfs V F S tw) (hth : 0 ≤ th ∧ th < V 1 2) (h0 : ctM I0 bk v V F S tw) (ho : ∀ k, 0 ≤ k → k < V 1 0 → I0 197 k = o k) (hor : ∀ k, 0 ≤ k → k < V 1 0 → 0 ≤ o k ∧ o k < V 1 0) :
    ∀ (d : Nat) (k : Int) (vt s : Int → Int) (I J : mI), 0 ≤ k → k + d = V 1 0 → qfr I0 I → jfr 193 J0 J → rgv (I 195) vt → rgv (I 196) s → (∀ c, 0 ≤ vt c ∧ vt c ≤ k) →
    (∀ I' J' : mI, qfr I0 I' → jfr 193 J0 J' → rgv (I' 195) (asR V F S tw th o set d k vt s).1 → rgv (I' 196) (asR V F S tw th o set d k vt s).2 → Q (chF (asR V F S tw th o set d k vt s).1 (V 1 1)) I' J') → p12_chosen_b7 v th set Q (d + 1) k I J
  | 0, k, vt, s, I, J, hk0, hkd, hf, hj, hv, hs, hvr, kk => by
    have hC := ctM_o (qfr_o hf) h0
    obtain ⟨m1, m2, m3, m4, m5, -⟩ := hC.1
    obtain ⟨⟨n0, n1, n2⟩, -⟩ := hw.1
    show p12_chosen_b7_body v th set Q (p12_chosen_b7 v th set Q 0) k I J
    unfold p12_chosen_b7_body
    rw [m1, m3]
    exact ⟨by omega, zt (by omega) ⟨(V 1 1).toNat + 1, m_chooseGo m1 m2 m4 n1.2 hv _ _ _ (by omega) (by omega) (by omega) (by omega) (Or.inl rfl) (kk I J hf hj hv hs)⟩⟩
  | d + 1, k, vt, s, I, J, hk0, hkd, hf, hj, hv, hs, hvr, kk => by
    have hC := ctM_o (qfr_o hf) h0
    obtain ⟨m1, m2, m3, m4, m5, -⟩ := hC.1
    obtain ⟨⟨n0, n1, n2⟩, -⟩ := hw.1
    have hok := hor k hk0 (by omega)
    have eo : I 197 k = o k := by rw [hf 197 (by decide) (by decide) (by decide)]; exact ho k hk0 (by omega)
    show p12_chosen_b7_body v th set Q (p12_chosen_b7 v th set Q (d + 1)) k I J
    unfold p12_chosen_b7_body
    rw [m1, m3, eo]
    refine ⟨by omega, zf (by omega) ⟨by omega, ?_⟩⟩
    unfold asR at kk
    unfold p12_has2
    by_cases e : has1 set (o k) = 0
    · rw [if_pos e] at kk
      have e' : ¬ has1 set (o k) = 1 := by omega
      exact zf e' (zt rfl ⟨by omega, m_chosenGo hw hth h0 ho hor d (k + 1) vt s I J (by omega) (by omega) hf hj hv hs (fun c => by have := hvr c; omega) kk⟩)
    · rw [if_neg e] at kk
      refine zs (fun (_ : has1 set (o k) = 1) => zf (by decide) ?_) (fun (e1 : ¬ has1 set (o k) = 1) => ?_)
      · refine m_word hC hw hth hok (fun c _ _ => by have := hvr c; omega) hv (fun I1 J1 s1 j1 => ⟨by omega, m_putK (fun I3 q3 g3 f3 => ⟨by omega, ?_⟩)⟩)
        have hwr := woF_rg (sc := fun c => scF V F S tw (o k) th c (vt c)) n1.1
        revert kk hwr q3
        generalize woF (fun c => scF V F S tw (o k) th c (vt c)) (V 1 1) = w
        intro kk q3 hwr
        rw [q3]
        have hf3 : qfr I0 I3 := fun z z4 z5 z6 => by rw [f3 z z6, s1 z z4]; exact hf z z4 z5 z6
        have hv3 : rgv (I3 195) vt := fun c c0 c6 => by rw [f3 195 (by decide), s1 195 (by decide)]; exact hv c c0 c6
        have hs3 : rgv (I3 196) (zfn s (o k) w) := fun c c0 c6 => by
          by_cases e3 : c = o k
          · rw [e3, zfn_s]; exact q3
          · rw [zfn_o e3, g3 c e3, s1 196 (by decide)]; exact hs c c0 c6
        have hC3 := ctM_o (qfr_o hf3) h0
        have go1 : ∀ I' J', nfr I3 I' → jfr 193 J1 J' → (∀ I' J' : mI, qfr I0 I' → jfr 193 J0 J' → rgv (I' 195) (asR V F S tw th o set d (k + 1) vt (zfn s (o k) w)).1 → rgv (I' 196) (asR V F S tw th o set d (k + 1) vt (zfn s (o k) w)).2 → Q (chF (asR V F S tw th o set d (k + 1) vt (zfn s (o k) w)).1 (V 1 1)) I' J') → p12_chosen_b7 v th set Q (d + 1) (k + 1) I' J' := fun I' J' n1 n2 kk' =>
          m_chosenGo hw hth h0 ho hor d (k + 1) vt _ I' J' (by omega) (by omega) (qfr_t hf3 (nfr_q n1)) (jfr_t hj (jfr_t j1 n2)) (by rw [n1 195 (by decide)]; exact hv3) (by rw [n1 196 (by decide)]; exact hs3) (fun c => by have := hvr c; omega) kk'
        by_cases e1 : w = -1
        · rw [if_pos (Or.inl e1)] at kk
          exact zt e1 ⟨by omega, go1 I3 J1 (fun _ _ => rfl) (jfr_r _ _) kk⟩
        · refine zf e1 (m_count hC3 hw hok (fun I4 J4 s4 j4 h01 => ?_))
          by_cases e2 : cnF V F S (o k) = 0
          · rw [if_pos (Or.inr e2)] at kk
            exact zt e2 ⟨by omega, go1 I4 J4 s4 j4 kk⟩
          · rw [if_neg (fun q => q.elim e1 e2)] at kk
            have e6 : I4 196 (o k) = w := by rw [s4 196 (by decide)]; exact q3
            have e5 : I4 195 w = vt w := by rw [s4 195 (by decide)]; exact hv3 w (by omega) (by omega)
            have hvw := hvr w
            rw [e6, e5]
            refine zf e2 ⟨by omega, by omega, by omega, by omega,  m_putK (fun I5 q5 g5 f5 => ⟨by omega, ?_⟩)⟩
            refine m_chosenGo hw hth h0 ho hor d (k + 1) (zfn vt w (vt w + 1)) (zfn s (o k) w) I5 J4 (by omega) (by omega) (fun z z4 z5 z6 => by rw [f5 z z5, s4 z z4]; exact hf3 z z4 z5 z6) (jfr_t hj (jfr_t j1 j4)) (fun c c0 c6 => ?_) (by rw [f5 196 (by decide), s4 196 (by decide)]; exact hs3) (fun c => ?_) kk
            · by_cases e3 : c = w
              · rw [e3, zfn_s]; exact q5
              · rw [zfn_o e3, g5 c e3, s4 195 (by decide)]; exact hv3 c c0 c6
            · have := hvr c
              by_cases e3 : c = w
              · rw [e3, zfn_s]; omega
              · rw [zfn_o e3]; omega
      · exact absurd ((has1_01 set (o k)).resolve_left e) e1
theorem m_chosen {I J : mI} {bk v : Int} {V : mI} {F : Int → List (Int × Int)} {S : mI} {tw : Int → Int} {th set : Int} {o : Int → Int} {Q : Int → mI → mI → Prop} (hC : ctM I bk v V F S tw) (hw : wfs V F S tw) (hth : 0 ≤ th ∧ th < V 1 2) (ho : ∀ k, 0 ≤ k → k < V 1 0 → I 197 k = o k) (hor : ∀ k, 0 ≤ k → k < V 1 0 → 0 ≤ o k ∧ o k < V 1 0)
    (k : ∀ I' J' : mI, qfr I I' → jfr 193 J J' → rgv (I' 195) (asF V F S tw th o set).1 → rgv (I' 196) (asF V F S tw th o set).2 → Q (chF (asF V F S tw th o set).1 (V 1 1)) I' J') : p12_chosen v th set I J Q := by
  obtain ⟨⟨n0, n1, n2⟩, -⟩ := hw.1
  unfold p12_chosen
  refine m_hush (fun I1 f1 z5 z6 => ⟨(V 1 0).toNat + 1, ?_⟩)
  have hf : qfr I I1 := fun z q4 q5 q6 => f1 z q5 q6
  refine m_chosenGo hw hth hC ho hor (V 1 0).toNat 0 (fun _ => 0) (fun _ => -1) I1 J (by omega) (by omega) hf (jfr_r _ J) z5 z6 (fun c => by omega) (fun I' J' f j v s => k I' J' f j v s)
theorem m_laysGo {bk v : Int} {V : mI} {F : Int → List (Int × Int)} {S : mI} {tw : Int → Int} {Q : mI → Prop} {I0 : mI} (h0 : ctM I0 bk v V F S tw) (hn : 0 ≤ V 1 0 ∧ V 1 0 ≤ 6) (k : ∀ I' : mI, (∀ a, a ≠ 197 → I' a = I0 a) → (∀ c, 0 ≤ c → c < V 1 0 → I' 197 c = S 1 c) → Q I') : ∀ (d : Nat) (l : Int) (I : mI), 0 ≤ l → l + d = V 1 0 → (∀ a, a ≠ 197 → I a = I0 a) → (∀ c, 0 ≤ c → c < l → I 197 c = S 1 c) → p12_laysNow_b2 v Q (d + 1) l I
  | 0, l, I, hl0, h1, h2, h3 => by
    have hC := ctM_o (fun z _ _ _ q => h2 z q) h0
    obtain ⟨m1, m2, m3, m4, m5, -⟩ := hC.1
    show p12_laysNow_b2_body v Q (p12_laysNow_b2 v Q 0) l I
    unfold p12_laysNow_b2_body
    rw [m1, m3]
    exact ⟨by omega, zt (by omega) (k I h2 (fun c c0 c1 => h3 c c0 (by omega)))⟩
  | d + 1, l, I, hl0, h1, h2, h3 => by
    have hC := ctM_o (fun z _ _ _ q => h2 z q) h0
    obtain ⟨m1, m2, m3, m4, m5, -⟩ := hC.1
    have hv := hC.2.2.2
    have e : I 187 (6 * v + l) = S 1 l := (hC.2.1.2.2.2.1 l hl0 (by omega)).1
    show p12_laysNow_b2_body v Q (p12_laysNow_b2 v Q (d + 1)) l I
    unfold p12_laysNow_b2_body
    rw [m1, m3, e]
    refine ⟨by omega, zf (by omega) ⟨by omega, by omega, by omega, by omega,  m_putK (fun I1 q1 g1 f1 => ⟨by omega, m_laysGo h0 hn k d (l + 1) I1 (by omega) (by omega) (fun a ha => (f1 a ha).trans (h2 a ha)) (fun c c0 c1 => ?_)⟩)⟩⟩
    by_cases e : c = l
    · rw [e]; exact q1
    · rw [g1 c e]; exact h3 c c0 (by omega)
theorem m_lay {I : mI} {bk v : Int} {V : mI} {F : Int → List (Int × Int)} {S : mI} {tw : Int → Int} {Q : mI → Prop} (hC : ctM I bk v V F S tw) (hn : 0 ≤ V 1 0 ∧ V 1 0 ≤ 6) (k : ∀ I' : mI, (∀ a, a ≠ 197 → I' a = I a) → (∀ c, 0 ≤ c → c < V 1 0 → I' 197 c = S 1 c) → Q I') : p12_laysNow v I Q :=
  ⟨(V 1 0).toNat + 1, m_laysGo hC hn k _ 0 I (by omega) (by omega) (fun _ _ => rfl) (fun c c0 c1 => by omega)⟩
theorem m_choice {I J : mI} {bk v : Int} {V : mI} {F : Int → List (Int × Int)} {S : mI} {tw : Int → Int} {th set : Int} {Q : Int → mI → mI → Prop} (hC : ctM I bk v V F S tw) (hw : wfs V F S tw) (hth : 0 ≤ th ∧ th < V 1 2)
    (k : ∀ I' J' : mI, ofr I I' → jfr 193 J J' → rgv (I' 195) (asF V F S tw th (S 1) set).1 → rgv (I' 196) (asF V F S tw th (S 1) set).2 → Q (chF (asF V F S tw th (S 1) set).1 (V 1 1)) I' J') : p12_choiceOf v th set I J Q := by
  have n := hw.1.1
  unfold p12_choiceOf
  refine m_lay hC n.1 (fun I1 f1 o1 => ?_)
  have hf : ofr I I1 := fun z _ _ _ q => f1 z q
  refine m_chosen (ctM_o hf hC) hw hth o1 hw.2.2.1.2.2.2.1 (fun I' J' f j v s => k I' J' (ofr_t hf (qfr_o f)) j v s)
