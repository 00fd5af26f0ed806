/-! THE CLASS SITS, ASKS ALL -/
theorem c_chooseGo {I J : mI} {R : mR} {h : Nat} {v : Int → Int} {nc : Int} {Q : Int → mI → mI → Prop} (r4 : R 146 4 = h) (hh : isLd h) (hn : I (h + 1) 1 = nc) (hn6 : nc ≤ 6) (hv : ∀ c, 0 ≤ c → c < 6 → I 148 c = v c) :
    ∀ (d : Nat) (b c : Int), -1 ≤ b → b < c → 0 ≤ c → c + d = nc → Q (chR v d b c) I J → p1_ask_b123 I J R Q (d + 1) b c
  | 0, b, c, h1, h2, h3, h4, hq => by
    show p1_ask_b123_body I J R Q (p1_ask_b123 I J R Q 0) b c
    unfold p1_ask_b123_body
    rw [r4, hn]
    exact ⟨hh, zt (by omega) hq⟩
  | d + 1, b, c, h1, h2, h3, h4, hq => by
    show p1_ask_b123_body I J R Q (p1_ask_b123 I J R Q (d + 1)) b c
    unfold p1_ask_b123_body
    rw [r4, hn, hv c h3 (by omega)]
    unfold chR at hq
    refine ⟨hh, zf (by omega) ⟨by omega, ?_⟩⟩
    have go : ∀ b', -1 ≤ b' → b' < c + 1 → Q (chR v d b' (c + 1)) I J → p1_ask_b123 I J R Q (d + 1) b' (c + 1) := fun b' g1 g2 hq' => c_chooseGo r4 hh hn hn6 hv d b' (c + 1) g1 g2 (by omega) (by omega) hq'
    by_cases e : b = -1
    · refine zt e ?_
      unfold p1_ask_b159
      rw [if_pos e] at hq
      by_cases e2 : v c ≤ 0
      · rw [if_pos e2] at hq; exact zt e2 ⟨by omega, go _ (by omega) (by omega) hq⟩
      · rw [if_neg e2] at hq; exact zf e2 ⟨by omega, go _ (by omega) (by omega) hq⟩
    · refine zf e ⟨by omega, ?_⟩
      unfold p1_ask_b159
      rw [hv b (by omega) (by omega)]
      rw [if_neg e] at hq
      by_cases e2 : v c ≤ v b
      · rw [if_pos e2] at hq; exact zt e2 ⟨by omega, go _ (by omega) (by omega) hq⟩
      · rw [if_neg e2] at hq; exact zf e2 ⟨by omega, go _ (by omega) (by omega) hq⟩
def cntC (I V : mI) (F : Int → List (Int × Int)) (S : mI) : Prop := ∀ b, 0 ≤ b → b < V 1 0 → has1 (I 146 7) b = cnF V F S b ∧ (cnF V F S b = 0 ∨ cnF V F S b = 1)
def rgv (f g : Int → Int) : Prop := ∀ c, 0 ≤ c → c < 6 → f c = g c
theorem c_askGo {R : mR} {h a ob : Nat} {V : mI} {F : Int → List (Int × Int)} {S : mI} {tw : Int → Int} {th set : Int} {o : Int → Int} {Q : Int → mI → mI → Prop} {I0 J0 : mI} (hw : wfs V F S tw) (hth : 0 ≤ th ∧ th < V 1 2) (h0 : ctC I0 R h a V S tw th) (hcn : cntC I0 V F S) (hob : ob ≠ 5 ∧ ob ≠ 147 ∧ ob ≠ 148 ∧ ob ≠ 149) (ho : ∀ k, 0 ≤ k → k < V 1 0 → I0 ob k = o k) (hor : ∀ k, 0 ≤ k → k < V 1 0 → 0 ≤ o k ∧ o k < V 1 0) :
    ∀ (d : Nat) (k : Int) (v s : Int → Int) (I J : mI), 0 ≤ k → k + d = V 1 0 → afr I0 I → jfr 6 J0 J → kno I V F S tw th → rgv (I 148) v → rgv (I 149) s → (∀ c, 0 ≤ v c ∧ v c ≤ k) →
    (∀ I' J' : mI, afr I0 I' → jfr 6 J0 J' → kno I' V F S tw th → rgv (I' 148) (asR V F S tw th o set d k v s).1 → rgv (I' 149) (asR V F S tw th o set d k v s).2 → Q (chF (asR V F S tw th o set d k v s).1 (V 1 1)) I' J') → p1_ask_b18 ob set R Q (d + 1) k I J
  | 0, k, v, s, I, J, hk0, hkd, hf, hj, hK, hv, hs, hvr, kk => by
    have hC := ctC_a hf h0
    obtain ⟨⟨n0, n1, n2⟩, -⟩ := hw.1
    show p1_ask_b18_body ob set R Q (p1_ask_b18 ob set R Q 0) k I J
    unfold p1_ask_b18_body
    rw [hC.1, hC.2.2.2.2.2.1.2.1]
    refine ⟨hC.2.2.1, zt (by omega) ⟨(V 1 1).toNat + 1, ?_⟩⟩
    exact c_chooseGo hC.1 hC.2.2.1 (by rw [hC.2.2.2.2.2.1.2.1]) n1.2 hv _ _ _ (by omega) (by omega) (by omega) (by omega) (kk I J hf hj hK hv hs)
  | d + 1, k, v, s, I, J, hk0, hkd, hf, hj, hK, hv, hs, hvr, kk => by
    have hC := ctC_a hf h0
    obtain ⟨⟨n0, n1, n2⟩, -⟩ := hw.1
    have hok := hor k hk0 (by omega)
    have eo : I ob k = o k := by rw [hf ob hob.1 hob.2.1 hob.2.2.1 hob.2.2.2]; exact ho k hk0 (by omega)
    show p1_ask_b18_body ob set R Q (p1_ask_b18 ob set R Q (d + 1)) k I J
    unfold p1_ask_b18_body
    rw [hC.1, hC.2.2.2.2.2.1.2.1, eo]
    refine ⟨hC.2.2.1, zf (by omega) (zf (by omega) ⟨by omega, zf (by omega) (zf (by omega) ?_)⟩)⟩
    unfold asR at kk
    by_cases e : has1 set (o k) = 0
    · rw [if_pos e] at kk
      exact zt e ⟨by omega, c_askGo hw hth h0 hcn hob ho hor d (k + 1) v s I J (by omega) (by omega) hf hj hK hv hs (fun c => by have := hvr c; omega) kk⟩
    · rw [if_neg e] at kk
      refine zf e ?_
      refine c_word hC hK hw hth hok (fun c _ _ => by have := hvr c; omega) hv (fun I1 J1 s1 j1 k1 => ⟨by omega, wLet_r ?_⟩)
      have hwr := woF_rg (sc := fun c => scF V F S tw (o k) th c (v c)) n1.1
      revert kk hwr
      generalize woF (fun c => scF V F S tw (o k) th c (v c)) (V 1 1) = w
      intro kk hwr
      have hf1 : afr I0 (up I1 149 (o k) w) := fun z z5 z7 z8 z9 => by rw [up_ne z9, s1 z z5 z7]; exact hf z z5 z7 z8 z9
      have hv1 : rgv (up I1 149 (o k) w 148) v := fun c c0 c6 => by rw [up_ne (by decide), s1 148 (by decide) (by decide)]; exact hv c c0 c6
      have hs1 : rgv (up I1 149 (o k) w 149) (zfn s (o k) w) := fun c c0 c6 => by
        rw [up_eq]
        by_cases e3 : c = o k
        · rw [e3, zfn_s, zfn_s]
        · rw [zfn_o e3, zfn_o e3, s1 149 (by decide) (by decide)]; exact hs c c0 c6
      have hk1 : kno (up I1 149 (o k) w) V F S tw th := kno_eq (up_ne (by decide)) k1
      have h7 : up I1 149 (o k) w 146 7 = I0 146 7 := by rw [hf1 146 (by decide) (by decide) (by decide) (by decide)]
      have hc1 := hcn (o k) hok.1 hok.2
      have go1 : (∀ I' J' : mI, afr I0 I' → jfr 6 J0 J' → kno I' V F S tw th → rgv (I' 148) (asR V F S tw th o set d (k + 1) v (zfn s (o k) w)).1 → rgv (I' 149) (asR V F S tw th o set d (k + 1) v (zfn s (o k) w)).2 → Q (chF (asR V F S tw th o set d (k + 1) v (zfn s (o k) w)).1 (V 1 1)) I' J') → p1_ask_b18 ob set R Q (d + 1) (k + 1) (up I1 149 (o k) w) J1 := fun kk' =>
        c_askGo hw hth h0 hcn hob ho hor d (k + 1) v _ _ J1 (by omega) (by omega) hf1 (jfr_t hj j1) hk1 hv1 hs1 (fun c => by have := hvr c; omega) kk'
      by_cases e1 : w = -1
      · rw [if_pos (Or.inl e1)] at kk
        exact zt e1 ⟨by omega, go1 kk⟩
      · refine zf e1 ?_
        unfold p1_isCounting
        rw [h7]
        by_cases e2 : cnF V F S (o k) = 0
        · rw [if_pos (Or.inr e2)] at kk
          refine zf (fun q => ?_) (zt rfl ⟨by omega, go1 kk⟩)
          have q2 : has1 (I0 146 7) (o k) = 1 := q
          omega
        · rw [if_neg (fun q => q.elim e1 e2)] at kk
          have q1 : has1 (I0 146 7) (o k) = 1 := by omega
          refine zt q1 (zf (by decide) ⟨by omega, ?_⟩)
          have ev : up I1 149 (o k) w 148 w = v w := hv1 w (by omega) (by omega)
          have hvw := hvr w
          rw [ev]
          refine ⟨by omega, by omega, wLet_r ⟨by omega, ?_⟩⟩
          refine c_askGo hw hth h0 hcn hob ho hor d (k + 1) (zfn v w (v w + 1)) (zfn s (o k) w) _ J1 (by omega) (by omega) (fun z z5 z7 z8 z9 => by rw [up_ne z8]; exact hf1 z z5 z7 z8 z9) (jfr_t hj j1) (kno_eq (up_ne (by decide)) hk1) (fun c c0 c6 => ?_) (fun c c0 c6 => by rw [up_ne (by decide)]; exact hs1 c c0 c6) (fun c => ?_) kk
          · rw [up_eq]
            by_cases e3 : c = w
            · rw [e3, zfn_s, zfn_s]
            · rw [zfn_o e3, zfn_o e3]; exact hv1 c c0 c6
          · have := hvr c
            by_cases e3 : c = w
            · rw [e3, zfn_s]; omega
            · rw [zfn_o e3]; omega
theorem c_ask {I J : mI} {R : mR} {h a ob : Nat} {V : mI} {F : Int → List (Int × Int)} {S : mI} {tw : Int → Int} {th set : Int} {o : Int → Int} {Q : Int → mI → mI → Prop} (hC : ctC I R h a V S tw th) (hcn : cntC I V F S) (hK : kno I V F S tw th) (hw : wfs V F S tw) (hth : 0 ≤ th ∧ th < V 1 2) (hob : ob ≠ 5 ∧ ob ≠ 147 ∧ ob ≠ 148 ∧ ob ≠ 149) (ho : ∀ k, 0 ≤ k → k < V 1 0 → I ob k = o k) (hor : ∀ k, 0 ≤ k → k < V 1 0 → 0 ≤ o k ∧ o k < V 1 0)
    (k : ∀ I' J' : mI, afr I I' → jfr 6 J J' → kno I' V F S tw th → rgv (I' 148) (asF V F S tw th o set).1 → rgv (I' 149) (asF V F S tw th o set).2 → Q (chF (asF V F S tw th o set).1 (V 1 1)) I' J') : p1_ask ob set I J R Q := by
  obtain ⟨⟨n0, n1, n2⟩, -⟩ := hw.1
  unfold p1_ask
  refine wLet_r (wLet_r ⟨(V 1 0).toNat + 1, ?_⟩)
  have hf : afr I (fil (fil I 148 6 0) 149 6 (-1)) := fun z z5 z7 z8 z9 => by rw [fil_ne z9, fil_ne z8]
  refine c_askGo hw hth hC hcn hob ho hor (V 1 0).toNat 0 (fun _ => 0) (fun _ => -1) _ J (by omega) (by omega) hf (jfr_r 6 J) (kno_eq (by rw [fil_ne (by decide), fil_ne (by decide)]) hK) (fun c c0 c6 => ?_) (fun c c0 c6 => fil_in c0 c6) (fun c => by omega) (fun I' J' f j k1 v s => k I' J' f j k1 v s)
  rw [fil_ne (by decide)]; exact fil_in c0 c6
/-! sit -/
def tfr (I I' : mI) : Prop := (∀ a, a ≠ 5 → a ≠ 146 → I' a = I a) ∧ (∀ k, k ≠ 7 → I' 146 k = I 146 k)
theorem c_sitGo {R : mR} {h a : Nat} {V : mI} {F : Int → List (Int × Int)} {S : mI} {tw : Int → Int} {th : Int} {Q : mI → mI → mR → Prop} {I0 J0 : mI} (hw : wfs V F S tw) (h0 : ctC I0 R h a V S tw th) :
    ∀ (d : Nat) (l : Int) (I J : mI), 0 ≤ l → l + d = V 1 0 → tfr I0 I → jfr 6 J0 J → (0 ≤ I 146 7 ∧ I 146 7 < 64) → (∀ b, 0 ≤ b → b < 6 → has1 (I 146 7) b = if b < l then cnF V F S b else 0) → (∀ b, 0 ≤ b → b < l → cnF V F S b = 0 ∨ cnF V F S b = 1) →
    (∀ I' J' : mI, tfr I0 I' → jfr 6 J0 J' → cntC I' V F S → Q I' J' R) → p1_sit_b40 R Q (d + 1) l I J
  | 0, l, I, J, hl0, hld, hf, hj, hr, hb, hb2, k => by
    obtain ⟨r4, r5, hh, ha, e6, hL, hS, hT⟩ := h0
    have hb' : bfr I0 I := fun z q1 q2 _ _ _ => hf.1 z q1 q2
    have hL1 := ldC_b hh hb' hL
    show p1_sit_b40_body R Q (p1_sit_b40 R Q 0) l I J
    unfold p1_sit_b40_body
    rw [r4, hL1.2.1]
    refine ⟨hh, zt (by omega) (k I J hf hj (fun b b0 b1 => ?_))⟩
    have n := hw.1.1
    have := hb b b0 (by omega)
    rw [if_pos (by omega)] at this
    exact ⟨this, hb2 b b0 (by omega)⟩
  | d + 1, l, I, J, hl0, hld, hf, hj, hr, hb, hb2, k => by
    have h0' := h0
    obtain ⟨r4, r5, hh, ha, e6, hL, hS, hT⟩ := h0'
    have hb' : bfr I0 I := fun z q1 q2 _ _ _ => hf.1 z q1 q2
    have hL1 := ldC_b hh hb' hL
    have hS1 := stC_b ha hb' hS
    have n := hw.1.1
    show p1_sit_b40_body R Q (p1_sit_b40 R Q (d + 1)) l I J
    unfold p1_sit_b40_body
    rw [r4, hL1.2.1]
    refine ⟨hh, zf (by omega) ?_⟩
    refine c_person r4 r5 hh ha hL1 hS1 (by omega) (fun I2 p0 p1 p2 f2 => ⟨hh, ?_⟩)
    have hL2 : ldC I2 h V := ldC_b hh (fun z q _ _ _ _ => f2 z q) hL1
    have f7 : I2 146 = I 146 := f2 146 (by decide)
    have hf2 : tfr I0 I2 := ⟨fun z z1 z2 => by rw [f2 z z1]; exact hf.1 z z1 z2, fun j hj => by rw [f7]; exact hf.2 j hj⟩
    -- the bit is set
    have one : ∀ J2, jfr 6 J0 J2 → cnF V F S l = 1 → p1_sit_b86 l I2 J2 R (p1_sit_b40 R Q (d + 1)) Q := fun J2 hj2 e1 => by
      unfold p1_sit_b86
      rw [f7]
      have hbo := bit_or hr.1 hr.2 hl0 (by omega : l < 6)
      refine wLet_r ⟨by omega, ?_⟩
      refine c_sitGo hw h0 d (l + 1) _ J2 (by omega) (by omega) ⟨fun z z1 z2 => by rw [up_ne z2]; exact hf2.1 z z1 z2, fun j hj => by rw [up_eq, zfn_o hj]; exact hf2.2 j hj⟩ hj2 (by rw [up_s]; exact hbo.1) (fun b b0 b1 => ?_) (fun b b0 b1 => ?_) k
      · rw [up_s, hbo.2 b b0 b1]
        by_cases eb : b = l
        · rw [if_pos eb, if_pos (by omega), eb, e1]
        · rw [if_neg eb, hb b b0 b1]
          by_cases eb2 : b < l
          · rw [if_pos eb2, if_pos (by omega)]
          · rw [if_neg eb2, if_neg (by omega)]
      · by_cases eb : b = l
        · rw [eb]; exact Or.inr e1
        · exact hb2 b b0 (by omega)
    refine c_hasCode hL2 (by omega) hw.2.1 (fun e => ?_) (fun e => ?_)
    · exact zt rfl (one J hj (by unfold cnF; rw [if_pos e]))
    · refine zf (by decide) ⟨hh, ?_⟩
      have hev : cnF V F S l = evF (envS V S l 0 0 0) (F 1) := by unfold cnF; rw [if_neg e]
      refine c_work (env := envS V S l 0 0 0) hL2 (by omega) hw.2.1 e (fun v v1 v2 hv => ⟨?_, envC_in hw.1 hw.2.2.1 (by omega) (by omega) v1⟩) (fun J1 j1 hin h01 => ?_)
      · have hv3 : v = 1 ∨ v = 2 ∨ v = 3 := by omega
        rcases hv3 with rfl | rfl | rfl
        · exact p0
        · exact p1
        · exact p2
      · rw [← hev] at h01 ⊢
        have h01 := h01 rfl
        refine zs (fun e0 => ?_) (fun e0 => one J1 (jfr_t hj j1) (h01.resolve_left e0))
        refine ⟨by omega, ?_⟩
        refine c_sitGo hw h0 d (l + 1) _ J1 (by omega) (by omega) hf2 (jfr_t hj j1) (by rw [f7]; exact hr) (fun b b0 b1 => ?_) (fun b b0 b1 => ?_) k
        · rw [f7, hb b b0 b1]
          by_cases eb : b = l
          · rw [if_neg (by omega), if_pos (by omega), eb, e0]
          · by_cases eb2 : b < l
            · rw [if_pos eb2, if_pos (by omega)]
            · rw [if_neg eb2, if_neg (by omega)]
        · by_cases eb : b = l
          · rw [eb]; exact Or.inl e0
          · exact hb2 b b0 (by omega)
/-- what sitting writes -/
def sifr (I I' : mI) : Prop := (∀ a, a ≠ 5 → a ≠ 146 → a ≠ 147 → a ≠ 148 → I' a = I a) ∧ (∀ k, k ≠ 6 → k ≠ 7 → I' 146 k = I 146 k)
theorem has0 : ∀ b : Nat, b < 6 → has1 0 (b : Int) = 0 := by decide +kernel
theorem c_sit {I J : mI} {R : mR} {h a : Nat} {V : mI} {F : Int → List (Int × Int)} {S : mI} {tw : Int → Int} {th : Int} {Q : mI → mI → mR → Prop} (hh : isLd h) (ha : isSt a) (hL : ldC I h V) (hS : stC I a S) (hT : ∀ b, 0 ≤ b → b < V 1 0 → (if b = I 146 8 then I 146 9 else tr V 0 b 0) = tw b) (hw : wfs V F S tw)
    (k : ∀ (I' J' : mI), sifr I I' → jfr 6 J J' → ctC I' (up (up R 146 4 h) 146 5 a) h a V S tw th → kno I' V F S tw th → cntC I' V F S → (∀ c, 0 ≤ c → c < 6 → I' 148 c = 0) → Q I' J' (up (up R 146 4 h) 146 5 a)) : p1_sit h a th I J R Q := by
  unfold p1_sit
  refine wLet_r (wLet_r (wLet_r (wLet_r (wLet_r (wLet_r ⟨(V 1 0).toNat + 1, ?_⟩)))))
  have n := hw.1.1
  have hf : bfr I (up (fil (fil (up I 146 6 th) 147 216 (-2000000)) 148 6 0) 146 7 0) := fun z z5 z6 z7 z8 z9 => by rw [up_ne z6, fil_ne z8, fil_ne z7, up_ne z6]
  have h146 : ∀ j, j ≠ 7 → up (fil (fil (up I 146 6 th) 147 216 (-2000000)) 148 6 0) 146 7 0 146 j = up I 146 6 th 146 j := fun j hj => by rw [up_eq, zfn_o hj, fil_ne (by decide), fil_ne (by decide)]
  have hC : ctC (up (fil (fil (up I 146 6 th) 147 216 (-2000000)) 148 6 0) 146 7 0) (up (up R 146 4 h) 146 5 a) h a V S tw th := by
    refine ⟨by rw [up_k _ _ _ (by decide), up_s], by rw [up_s], hh, ha, by rw [h146 6 (by decide), up_s], ldC_b hh hf hL, stC_b ha hf hS, ?_⟩
    rw [h146 8 (by decide), h146 9 (by decide), up_k _ _ _ (by decide), up_k _ _ _ (by decide)]
    exact hT
  have h147 : ∀ j, 0 ≤ j → j < 216 → up (fil (fil (up I 146 6 th) 147 216 (-2000000)) 148 6 0) 146 7 0 147 j = -2000000 := fun j j0 j1 => by rw [up_ne (by decide), fil_ne (by decide)]; exact fil_in j0 j1
  refine c_sitGo hw hC (V 1 0).toNat 0 _ J (by omega) (by omega) ⟨fun _ _ _ => rfl, fun _ _ => rfl⟩ (jfr_r 6 J) (by rw [up_s]; omega) (fun b b0 b1 => ?_) (fun b b0 b1 => by omega) (fun I' J' f j c => ?_)
  · rw [up_s, if_neg (by omega)]
    obtain ⟨b', rfl⟩ : ∃ k : Nat, b = k := ⟨b.toNat, by omega⟩
    exact has0 b' (by omega)
  · have hb' : bfr _ I' := fun z q1 q2 _ _ _ => f.1 z q1 q2
    obtain ⟨r4, r5, hh, ha, e6, hL, hS, hT⟩ := hC
    refine k I' J' ⟨fun z z5 z6 z7 z8 => ?_, fun j j6 j7 => ?_⟩ j ⟨r4, r5, hh, ha, ?_, ldC_b hh hb' hL, stC_b ha hb' hS, ?_⟩ (fun b c hd b0 b1 c0 c1 d0 d1 => Or.inl ?_) c (fun c c0 c6 => ?_)
    · rw [f.1 z z5 z6, up_ne z6, fil_ne z8, fil_ne z7, up_ne z6]
    · rw [f.2 j j7, h146 j j7, up_k _ _ _ j6]
    · rw [f.2 6 (by decide)]; exact e6
    · rw [f.2 8 (by decide), f.2 9 (by decide)]; exact hT
    · rw [f.1 147 (by decide) (by decide)]; exact h147 _ (by omega) (by omega)
    · rw [f.1 148 (by decide) (by decide), up_ne (by decide)]; exact fil_in c0 c6
