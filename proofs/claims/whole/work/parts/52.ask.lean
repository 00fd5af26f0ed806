/-! THE CLASS ASKS -/
def ctC (I : mI) (R : mR) (h a : Nat) (V S : mI) (tw : Int → Int) (th : Int) : Prop := R 146 4 = h ∧ R 146 5 = a ∧ isLd h ∧ isSt a ∧ I 146 6 = th ∧ ldC I h V ∧ stC I a S ∧ (∀ b, 0 ≤ b → b < V 1 0 → (if b = I 146 8 then I 146 9 else tr V 0 b 0) = tw b)
def kno (I V : mI) (F : Int → List (Int × Int)) (S : mI) (tw : Int → Int) (th : Int) : Prop := ∀ b c hd, 0 ≤ b → b < V 1 0 → 0 ≤ c → c < V 1 1 → 0 ≤ hd → hd < 6 → I 147 (((b * 6) + c) * 6 + hd) = -2000000 ∨ I 147 (((b * 6) + c) * 6 + hd) = scF V F S tw b th c hd
theorem zfn_2 (f : Int → Int) (k v w : Int) : zfn (zfn f k v) k w = zfn f k w := by
  funext j; unfold zfn; by_cases h : j = k
  · rw [if_pos h, if_pos h]
  · rw [if_neg h, if_neg h, if_neg h]
theorem kno_up {I I' V : mI} {F : Int → List (Int × Int)} {S : mI} {tw : Int → Int} {th b c hd : Int} (hK : kno I V F S tw th) (hn : V 1 0 ≤ 6 ∧ V 1 1 ≤ 6) (hb : 0 ≤ b ∧ b < V 1 0) (hc : 0 ≤ c ∧ c < V 1 1) (hh : 0 ≤ hd ∧ hd < 6) (hI : I' 147 = zfn (I 147) (((b * 6) + c) * 6 + hd) (scF V F S tw b th c hd)) : kno I' V F S tw th := by
  intro b' c' hd' h1 h2 h3 h4 h5 h6
  rw [hI]
  by_cases e : ((b' * 6) + c') * 6 + hd' = ((b * 6) + c) * 6 + hd
  · have e1 : hd' = hd := by omega
    have e2 : c' = c := by omega
    have e3 : b' = b := by omega
    subst e1 e2 e3
    exact Or.inr (zfn_s _ _ _)
  · rw [zfn_o e]; exact hK b' c' hd' h1 h2 h3 h4 h5 h6
theorem kno_eq {I I' V : mI} {F : Int → List (Int × Int)} {S : mI} {tw : Int → Int} {th : Int} (h : I' 147 = I 147) (hK : kno I V F S tw th) : kno I' V F S tw th := by
  intro b c hd; rw [h]; exact hK b c hd
def afr (I I' : mI) : Prop := ∀ a, a ≠ 5 → a ≠ 147 → a ≠ 148 → a ≠ 149 → I' a = I a
theorem afr_r (I : mI) : afr I I := fun _ _ _ _ _ => rfl
theorem afr_t {I1 I2 I3 : mI} (h1 : afr I1 I2) (h2 : afr I2 I3) : afr I1 I3 := fun a q1 q2 q3 q4 => (h2 a q1 q2 q3 q4).trans (h1 a q1 q2 q3 q4)
theorem afr_b {I I' : mI} (h : afr I I') : bfr I I' := fun a q1 _ q3 q4 q5 => h a q1 q3 q4 q5
theorem sfr_a {I I' : mI} (h : sfr I I') : afr I I' := fun a q1 q2 _ _ => h a q1 q2
theorem ctC_a {I I' : mI} {R : mR} {h a : Nat} {V S : mI} {tw : Int → Int} {th : Int} (hf : afr I I') (hC : ctC I R h a V S tw th) : ctC I' R h a V S tw th := by
  obtain ⟨r4, r5, hh, ha, e6, hL, hS, hT⟩ := hC
  have e : I' 146 = I 146 := hf 146 (by decide) (by decide) (by decide) (by decide)
  exact ⟨r4, r5, hh, ha, by rw [e]; exact e6, ldC_b hh (afr_b hf) hL, stC_b ha (afr_b hf) hS, by rw [e]; exact hT⟩
/-- a variable is put -/
theorem c_putK {I : mI} {v x i : Int} {Q : mI → Prop} (hi : -1 - v = i) (h0 : 0 ≤ i) (h1 : i < 9) (k : ∀ I' : mI, I' 5 i = x → (∀ j, j ≠ i → I' 5 j = I 5 j) → (∀ b, b ≠ 5 → I' b = I b) → Q I') : p8_put v x I Q :=
  c_put hi h0 h1 (k _ (up_s _ _ _ _) (fun j hj => up_k _ _ _ hj) (fun b hb => up_ne hb))
theorem c_person {I : mI} {R : mR} {h a : Nat} {V S : mI} {b : Int} {Q : mI → Prop} (r4 : R 146 4 = h) (r5 : R 146 5 = a) (hh : isLd h) (ha : isSt a) (hL : ldC I h V) (hS : stC I a S) (hb : 0 ≤ b ∧ b < 6)
    (k : ∀ I' : mI, I' 5 0 = S 0 0 → I' 5 1 = S 2 b → I' 5 2 = has1 (V 0 9) b → (∀ b, b ≠ 5 → I' b = I b) → Q I') : p1_putPerson b I R Q := by
  have f0 := st_far ha 0 (by omega)
  have f2 := st_far ha 2 (by omega)
  have e0 : I a 0 = S 0 0 := hS.1
  have e2 : I (a + 2) b = S 2 b := (hS.2.2.2.1 b hb.1 hb.2).2.1
  have eh : h ≠ 5 := by unfold isLd at hh; omega
  unfold p1_putPerson
  rw [r4, r5, e0]
  refine ⟨ha, c_putK (i := 0) rfl (by omega) (by omega) (fun I1 q1 g1 f1 => ⟨ha, hb, ?_⟩)⟩
  rw [f1 _ (by omega : a + 2 ≠ 5), e2]
  refine c_putK (i := 1) rfl (by omega) (by omega) (fun I2 q2 g2 f3 => ⟨hh, ?_⟩)
  unfold p3_isLate
  rw [f3 _ eh, f1 _ eh, hL.1]
  refine c_putK (i := 2) rfl (by omega) (by omega) (fun I3 q3 g3 f4 => ?_)
  refine k I3 ?_ ?_ q3 (fun b hb => (f4 b hb).trans ((f3 b hb).trans (f1 b hb)))
  · rw [g3 _ (by decide), g2 _ (by decide)]; exact q1
  · rw [g3 _ (by decide)]; exact q2
theorem c_score {I J : mI} {R : mR} {h a : Nat} {V : mI} {F : Int → List (Int × Int)} {S : mI} {tw : Int → Int} {th b c hd : Int} {Q : Int → mI → mI → Prop} (hC : ctC I R h a V S tw th) (hK : kno I V F S tw th) (hw : wfs V F S tw) (hth : 0 ≤ th ∧ th < V 1 2) (hb : 0 ≤ b ∧ b < V 1 0) (hc : 0 ≤ c ∧ c < V 1 1) (hh : 0 ≤ hd ∧ hd < 6)
    (k : ∀ I' J' : mI, sfr I I' → jfr 6 J J' → kno I' V F S tw th → Q (scF V F S tw b th c hd) I' J') : p1_scoreOf b c hd I J R Q := by
  obtain ⟨r4, r5, hld, ha, e6, hL, hS, hT⟩ := hC
  obtain ⟨hV, hF, hSt, htw⟩ := hw
  have hV' := hV
  obtain ⟨⟨n0, n1, n2⟩, -, h3, -⟩ := hV'
  have hm := mtF_rg hV (htw b) hb hth hc
  have main : p1_scoreOf_b25 b c hd (tw b) I J R Q := by
    unfold p1_scoreOf_b25
    rw [r4, r5]
    refine ⟨by omega, by omega, by omega, by omega, wLet_r (zf (by omega) (zf (by omega) (zf (by omega) (zt (by omega) ⟨by omega, ?_⟩))))⟩
    by_cases hu : I 147 (((b * 6) + c) * 6 + hd) = -2000000
    · refine zt hu ⟨hld, ?_⟩
      rw [e6]
      refine c_match hL hV hb hth hc (htw b) ⟨by omega, wLet_r ⟨hld, ?_⟩⟩
      have f0 : sfr I (up I 147 (((b * 6) + c) * 6 + hd) (mtF V tw b th c)) := fun z _ h7 => up_ne h7
      have hL1 := ldC_b hld (sfr_b f0) hL
      have hS1 := stC_b ha (sfr_b f0) hS
      refine c_hasCode hL1 (by omega) hF (fun e => ?_) (fun e => ?_)
      · refine zt rfl ⟨by omega, ?_⟩
        have es : scF V F S tw b th c hd = mtF V tw b th c := by unfold scF; rw [if_pos e]
        rw [up_s, ← es]
        rw [← es] at f0
        exact k _ J f0 (jfr_r 6 J) (kno_up hK ⟨n0.2, n1.2⟩ hb hc hh (up_eq _ _ _ _))
      · have es : scF V F S tw b th c hd = evF (envS V S b c (mtF V tw b th c) hd) (F 0) := by unfold scF; rw [if_neg e]
        refine zf (by decide) ?_
        refine c_person r4 r5 hld ha hL1 hS1 (by omega) (fun I2 p0 p1 p2 f2 => ⟨by omega, ?_⟩)
        have e7 : I2 147 (((b * 6) + c) * 6 + hd) = mtF V tw b th c := by rw [f2 147 (by decide), up_s]
        rw [e7]
        refine c_putK (i := 3) rfl (by omega) (by omega) (fun I3 q3 g3 f3 => ⟨ha, hld, ?_⟩)
        have F3 : ∀ z, z ≠ 5 → I3 z = up I 147 (((b * 6) + c) * 6 + hd) (mtF V tw b th c) z := fun z hz => (f3 z hz).trans (f2 z hz)
        have hL3 : ldC I3 h V := ldC_b hld (fun z q _ _ _ _ => F3 z q) hL1
        have hS3 : stC I3 a S := stC_b ha (fun z q _ _ _ _ => F3 z q) hS1
        refine c_worn hS3 (by rw [hL3.2.1]) n2 ?_
        refine c_putK (i := 4) rfl (by omega) (by omega) (fun I4 q4 g4 f4 => ?_)
        refine c_putK (i := 5) rfl (by omega) (by omega) (fun I5 q5 g5 f5 => ⟨hld, ?_⟩)
        have F5 : ∀ z, z ≠ 5 → I5 z = up I 147 (((b * 6) + c) * 6 + hd) (mtF V tw b th c) z := fun z hz => (f5 z hz).trans ((f4 z hz).trans (F3 z hz))
        have hL5 : ldC I5 h V := ldC_b hld (fun z q _ _ _ _ => F5 z q) hL1
        refine c_trait hL5 (by omega) (by omega) (by omega) ?_
        refine c_putK (i := 6) rfl (by omega) (by omega) (fun I6 q6 g6 f6 => ⟨hld, ?_⟩)
        have F6 : ∀ z, z ≠ 5 → I6 z = up I 147 (((b * 6) + c) * 6 + hd) (mtF V tw b th c) z := fun z hz => (f6 z hz).trans (F5 z hz)
        have hL6 : ldC I6 h V := ldC_b hld (fun z q _ _ _ _ => F6 z q) hL1
        refine c_work (env := envS V S b c (mtF V tw b th c) hd) hL6 (by omega) hF e (fun v v1 v2 hv => ⟨?_, envS_in hV hSt hb hc hm hh v⟩) (fun J1 j1 hin _ => ?_)
        · have hv7 : v = 1 ∨ v = 2 ∨ v = 3 ∨ v = 4 ∨ v = 5 ∨ v = 6 ∨ v = 7 := by omega
          rcases hv7 with rfl | rfl | rfl | rfl | rfl | rfl | rfl
          · show I6 5 0 = S 0 0
            rw [g6 _ (by decide), g5 _ (by decide), g4 _ (by decide), g3 _ (by decide)]; exact p0
          · show I6 5 1 = S 2 b
            rw [g6 _ (by decide), g5 _ (by decide), g4 _ (by decide), g3 _ (by decide)]; exact p1
          · show I6 5 2 = has1 (V 0 9) b
            rw [g6 _ (by decide), g5 _ (by decide), g4 _ (by decide), g3 _ (by decide)]; exact p2
          · show I6 5 3 = mtF V tw b th c
            rw [g6 _ (by decide), g5 _ (by decide), g4 _ (by decide)]; exact q3
          · show I6 5 4 = wornF V S c
            rw [g6 _ (by decide), g5 _ (by decide)]; exact q4
          · show I6 5 5 = hd
            rw [g6 _ (by decide)]; exact q5
          · exact q6
        · refine ⟨by omega, wLet_r ⟨by omega, ?_⟩⟩
          rw [up_s, ← es]
          refine k _ J1 (fun z z5 z7 => ?_) j1 (kno_up hK ⟨n0.2, n1.2⟩ hb hc hh ?_)
          · rw [up_ne z7, F6 z z5, up_ne z7]
          · rw [up_eq, F6 147 (by decide), up_eq, zfn_2]
    · have hk := (hK b c hd hb.1 hb.2 hc.1 hc.2 hh.1 hh.2).resolve_left hu
      refine zf hu ⟨by omega, ?_⟩
      rw [hk]
      exact k I J (sfr_r I) (jfr_r 6 J) hK
  have t := hT b hb.1 hb.2
  unfold p1_scoreOf
  by_cases e : b = I 146 8
  · rw [if_pos e] at t
    refine zt e ?_
    rw [t]; exact main
  · rw [if_neg e] at t
    refine zf e ?_
    rw [r4]
    exact ⟨hld, c_trait hL (by omega) (by omega) (by omega) (by rw [t]; exact main)⟩
/-- the word: the loop over the colours -/
theorem c_wordGo {R : mR} {h a : Nat} {V : mI} {F : Int → List (Int × Int)} {S : mI} {tw : Int → Int} {th b : Int} {Q : Int → mI → mI → Prop} {v : Int → Int} {I0 J0 : mI} (hw : wfs V F S tw) (hth : 0 ≤ th ∧ th < V 1 2) (hb : 0 ≤ b ∧ b < V 1 0) (hv : ∀ c, 0 ≤ c → c < V 1 1 → 0 ≤ v c ∧ v c < 6) (h0 : ctC I0 R h a V S tw th) (hv0 : ∀ c, 0 ≤ c → c < 6 → I0 148 c = v c) :
    ∀ (d : Nat) (best m c : Int) (I J : mI), 0 ≤ c → c + d = V 1 1 → sfr I0 I → jfr 6 J0 J → kno I V F S tw th →
    (∀ I' J' : mI, sfr I0 I' → jfr 6 J0 J' → kno I' V F S tw th → Q (woR (fun c => scF V F S tw b th c (v c)) d best m c) I' J') → p1_wordOf_b7 b R Q (d + 1) best m c I J
  | 0, best, m, c, I, J, hc0, hcd, hs, hj, hK, k => by
    have hC := ctC_a (sfr_a hs) h0
    have hV := hw.1
    obtain ⟨⟨n0, n1, n2⟩, -⟩ := hV
    show p1_wordOf_b7_body b R Q (p1_wordOf_b7 b R Q 0) best m c I J
    unfold p1_wordOf_b7_body
    rw [hC.1, hC.2.2.2.2.2.1.2.1]
    exact ⟨hC.2.2.1, zt (by omega) (k I J hs hj hK)⟩
  | d + 1, best, m, c, I, J, hc0, hcd, hs, hj, hK, k => by
    have hC := ctC_a (sfr_a hs) h0
    have hV := hw.1
    obtain ⟨⟨n0, n1, n2⟩, -⟩ := hV
    show p1_wordOf_b7_body b R Q (p1_wordOf_b7 b R Q (d + 1)) best m c I J
    unfold p1_wordOf_b7_body
    rw [hC.1, hC.2.2.2.2.2.1.2.1]
    have e8 : I 148 c = v c := by rw [hs 148 (by decide) (by decide)]; exact hv0 c hc0 (by omega)
    refine ⟨hC.2.2.1, zf (by omega) ⟨by omega, ?_⟩⟩
    rw [e8]
    refine c_score hC hK hw hth hb (by omega) (hv c hc0 (by omega)) (fun I' J' s1 j1 k1 => ?_)
    unfold woR at k
    have go : ∀ best' m', (∀ I' J' : mI, sfr I0 I' → jfr 6 J0 J' → kno I' V F S tw th → Q (woR (fun c => scF V F S tw b th c (v c)) d best' m' (c + 1)) I' J') → p1_wordOf_b7 b R Q (d + 1) best' m' (c + 1) I' J' := fun best' m' k' =>
      c_wordGo hw hth hb hv h0 hv0 d best' m' (c + 1) I' J' (by omega) (by omega) (sfr_t hs s1) (jfr_t hj j1) k1 k'
    by_cases e : best = -1
    · refine zt e ⟨by omega, go _ _ ?_⟩
      rw [if_pos e] at k; exact k
    · rw [if_neg e] at k
      refine zf e ?_
      by_cases e2 : scF V F S tw b th c (v c) ≤ m
      · rw [if_pos e2] at k
        exact zt e2 ⟨by omega, go _ _ k⟩
      · rw [if_neg e2] at k
        exact zf e2 ⟨by omega, go _ _ k⟩
theorem c_word {I J : mI} {R : mR} {h a : Nat} {V : mI} {F : Int → List (Int × Int)} {S : mI} {tw : Int → Int} {th b : Int} {Q : Int → mI → mI → Prop} {v : Int → Int} (hC : ctC I R h a V S tw th) (hK : kno I V F S tw th) (hw : wfs V F S tw) (hth : 0 ≤ th ∧ th < V 1 2) (hb : 0 ≤ b ∧ b < V 1 0) (hv : ∀ c, 0 ≤ c → c < V 1 1 → 0 ≤ v c ∧ v c < 6) (hv0 : ∀ c, 0 ≤ c → c < 6 → I 148 c = v c)
    (k : ∀ I' J' : mI, sfr I I' → jfr 6 J J' → kno I' V F S tw th → Q (woF (fun c => scF V F S tw b th c (v c)) (V 1 1)) I' J') : p1_wordOf b I J R Q := by
  have hn := hw.1.1.2.1
  exact ⟨(V 1 1).toNat + 1, c_wordGo hw hth hb hv hC hv0 (V 1 1).toNat (-1) 0 0 I J (by omega) (by omega) (sfr_r I) (jfr_r 6 J) hK k⟩
