/-! THE CLASS LETS A YEAR PASS -/
theorem c_paintIf {I : mI} {h a : Nat} {V : mI} {S : mI} {th c : Int} {Q : Int → mI → Prop} (hL : ldC I h V) (hS : stC I a S) (hV : ldOK V) (hSt : stOK V S) (hth : 0 ≤ th ∧ th < 6) (hc : 0 ≤ c ∧ c < V 1 1)
    (k0 : (S 0 1 < tr V 1 c 3 ∨ S 3 th = c) → Q 0 I) (k1 : ¬ (S 0 1 < tr V 1 c 3 ∨ S 3 th = c) → ∀ I' : mI, (∀ z, ¬ (a ≤ z ∧ z ≤ a + 4) → I' z = I z) → stC I' a (pnF S th c (tr V 1 c 3)) → Q 1 I') : p0_paintIfPaid h a th c I Q := by
  have n1 := hV.1.2.1
  have h3 := hV.2.2.1 c hc.1 hc.2
  obtain ⟨s1, s2, s3, -⟩ := hSt
  unfold p0_paintIfPaid
  refine c_trait hL (by omega) (by omega) (by omega) ?_
  have hS' := hS
  obtain ⟨c0, c1, c2, c3, c4⟩ := hS'
  rw [c1, (c3 th hth.1 hth.2).2.2]
  by_cases e : S 0 1 < tr V 1 c 3
  · exact zt e (k0 (Or.inl e))
  · refine zf e ⟨by omega, ?_⟩
    by_cases e2 : S 3 th = c
    · exact zt e2 (k0 (Or.inr e2))
    · refine zf e2 ⟨by omega, m_putK (fun I1 q1 g1 f1 => ?_)⟩
      rw [f1 a (by omega), c1]
      refine ⟨by omega, m_putK (fun I2 q2 g2 f2 => ?_)⟩
      have hS2 : stC I2 a (ptF S th c (tr V 1 c 3)) := by
        refine ⟨?_, ?_, ?_, fun j j0 j6 => ?_, fun j j0 j1 => ?_⟩
        · rw [pt_y, g2 0 (by decide), f1 a (by omega)]; exact c0
        · rw [pt_p]; exact q2
        · rw [pt_n, g2 2 (by decide), f1 a (by omega)]; exact c2
        · show I2 (a + 1) j = S 1 j ∧ I2 (a + 2) j = S 2 j ∧ I2 (a + 3) j = zfn (S 3) th c j
          rw [f2 (a + 1) (by omega), f2 (a + 2) (by omega), f2 (a + 3) (by omega), f1 (a + 1) (by omega), f1 (a + 2) (by omega)]
          refine ⟨(c3 j j0 j6).1, (c3 j j0 j6).2.1, ?_⟩
          by_cases ej : j = th
          · rw [ej, zfn_s]; exact q1
          · rw [zfn_o ej, g1 j ej]; exact (c3 j j0 j6).2.2
        · have j1' := j1
          rw [pt_n] at j1'
          show I2 (a + 4) j = S 4 j
          rw [f2 (a + 4) (by omega), f1 (a + 4) (by omega)]; exact c4 j j0 j1'
      refine c_keep hS2 ?_ (fun I3 f3 hS3 => k1 (fun q => q.elim e e2) I3 (fun z hz => ?_) hS3)
      · rw [pt_n]; exact s3
      · rw [f3 z (by omega) (by omega), f2 z (by omega), f1 z (by omega)]
theorem c_moodsGo {h a : Nat} {V S : mI} {sd : Int → Int} {ch : Int} {Q : mI → Prop} {I0 : mI} (hh : isLd h) (ha : isSt a) (hL : ldC I0 h V) (hn : 0 ≤ V 1 0 ∧ V 1 0 ≤ 6) (hs : rgv (I0 149) sd) (hm : ∀ k, 0 ≤ k → k < 6 → I0 (a + 2) k = S 2 k ∧ 0 ≤ S 2 k ∧ S 2 k ≤ 9)
    (k : ∀ I' : mI, (∀ z, z ≠ a + 2 → I' z = I0 z) → (∀ j, 0 ≤ j → j < 6 → I' (a + 2) j = moF V S sd ch 2 j) → Q I') :
    ∀ (d : Nat) (l : Int) (I : mI), 0 ≤ l → l + d = V 1 0 → (∀ z, z ≠ a + 2 → I z = I0 z) → (∀ j, 0 ≤ j → j < l → I (a + 2) j = moF V S sd ch 2 j) → (∀ j, l ≤ j → I (a + 2) j = I0 (a + 2) j) → p0_changeMoods_b3 h a ch Q (d + 1) l I
  | 0, l, I, hl0, hl, hf, hd, hr => by
    have hne := st_far ha 2 (by omega)
    have eh : I (h + 1) = V 1 := by rw [hf (h + 1) (by unfold isLd at hh; omega)]; exact hL.2.1
    show p0_changeMoods_b3_body h a ch Q (p0_changeMoods_b3 h a ch Q 0) l I
    unfold p0_changeMoods_b3_body
    rw [eh]
    refine zt (by omega) (k I hf (fun j j0 j6 => ?_))
    by_cases e : j < l
    · exact hd j j0 e
    · rw [hr j (by omega), (hm j j0 j6).1]
      show S 2 j = if 0 ≤ j ∧ j < V 1 0 then _ else S 2 j
      rw [if_neg (by omega)]
  | d + 1, l, I, hl0, hl, hf, hd, hr => by
    have hne := st_far ha 2 (by omega)
    have eh : I (h + 1) = V 1 := by rw [hf (h + 1) (by unfold isLd at hh; omega)]; exact hL.2.1
    have e9 : I 149 l = sd l := by rw [hf 149 (by omega)]; exact hs l hl0 (by omega)
    have em : I (a + 2) l = S 2 l := by rw [hr l (by omega)]; exact (hm l hl0 (by omega)).1
    have hmr := (hm l hl0 (by omega)).2
    have emo : moF V S sd ch 2 l = if sd l = ch then (if 9 ≤ S 2 l then 9 else S 2 l + 1) else (if S 2 l ≤ 0 then 0 else S 2 l - 1) := by
      show (if 0 ≤ l ∧ l < V 1 0 then _ else S 2 l) = _
      rw [if_pos (by omega)]
    have go : ∀ (x : Int) (k3 : wLet (up I (a + 2) l x) (fun I1 => rg (l + 1) ∧ p0_changeMoods_b3 h a ch Q (d + 1) (l + 1) I1) → p0_changeMoods_b3_body h a ch Q (p0_changeMoods_b3 h a ch Q (d + 1)) l I), x = moF V S sd ch 2 l → p0_changeMoods_b3_body h a ch Q (p0_changeMoods_b3 h a ch Q (d + 1)) l I := fun x k3 hx => by
      refine k3 (m_putK (fun I1 q1 g1 f1 => ⟨by omega, c_moodsGo hh ha hL hn hs hm k d (l + 1) I1 (by omega) (by omega) (fun z hz => (f1 z hz).trans (hf z hz)) (fun j j0 j1 => ?_) (fun j hj => by rw [g1 j (by omega)]; exact hr j (by omega))⟩))
      by_cases e : j = l
      · rw [e, q1]; exact hx
      · rw [g1 j e]; exact hd j j0 (by omega)
    show p0_changeMoods_b3_body h a ch Q (p0_changeMoods_b3 h a ch Q (d + 1)) l I
    by_cases e : sd l = ch
    · rw [if_pos e] at emo
      by_cases e2 : 9 ≤ S 2 l
      · rw [if_pos e2] at emo
        refine go 9 (fun hw => ?_) emo.symm
        unfold p0_changeMoods_b3_body p1_saidBy p0_changeMoods_b39
        rw [eh, e9, em]
        exact zf (by omega) ⟨by omega, zf (by omega) (zf (by omega) ⟨by omega, zt e ⟨by omega, zt (by omega) (zf (by omega) ⟨by omega, hw⟩)⟩⟩)⟩
      · rw [if_neg e2] at emo
        refine go (S 2 l + 1) (fun hw => ?_) emo.symm
        unfold p0_changeMoods_b3_body p1_saidBy p0_changeMoods_b39
        rw [eh, e9, em]
        exact zf (by omega) ⟨by omega, zf (by omega) (zf (by omega) ⟨by omega, zt e ⟨by omega, zt (by omega) (zt (by omega) ⟨by omega, hw⟩)⟩⟩)⟩
    · rw [if_neg e] at emo
      by_cases e2 : S 2 l ≤ 0
      · rw [if_pos e2] at emo
        refine go 0 (fun hw => ?_) emo.symm
        unfold p0_changeMoods_b3_body p1_saidBy p0_changeMoods_b39
        rw [eh, e9, em]
        exact zf (by omega) ⟨by omega, zf (by omega) (zf (by omega) ⟨by omega, zf e ⟨by omega, zf (by omega) ⟨by omega, hw⟩⟩⟩)⟩
      · rw [if_neg e2] at emo
        refine go (S 2 l + -1) (fun hw => ?_) (by rw [emo]; omega)
        unfold p0_changeMoods_b3_body p1_saidBy p0_changeMoods_b39
        rw [eh, e9, em]
        exact zf (by omega) ⟨by omega, zf (by omega) (zf (by omega) ⟨by omega, zf e ⟨by omega, zt (by omega) (zt (by omega) ⟨by omega, hw⟩)⟩⟩)⟩
theorem c_moods {I : mI} {h a : Nat} {V S : mI} {sd : Int → Int} {ch : Int} {Q : mI → Prop} (hh : isLd h) (ha : isSt a) (hL : ldC I h V) (hS : stC I a S) (hV : ldOK V) (hSt : stOK V S) (hs : rgv (I 149) sd)
    (k : ∀ I' : mI, (∀ z, z ≠ a + 2 → I' z = I z) → stC I' a (moF V S sd ch) → Q I') : p0_changeMoods h a ch I Q := by
  have n0 := hV.1.1
  refine ⟨(V 1 0).toNat + 1, c_moodsGo hh ha hL n0 hs (fun j j0 j6 => ⟨(hS.2.2.2.1 j j0 j6).2.1, hSt.2.2.2.2.2.1 j j0 j6⟩) (fun I' f m => k I' f ?_) _ 0 I (by omega) (by omega) (fun _ _ => rfl) (fun j j0 j1 => by omega) (fun _ _ => rfl)⟩
  obtain ⟨c0, c1, c2, c3, c4⟩ := hS
  refine ⟨by rw [f a (by omega)]; exact c0, by rw [f a (by omega)]; exact c1, by rw [f a (by omega)]; exact c2, fun j j0 j6 => ⟨?_, m j j0 j6, ?_⟩, fun j j0 j1 => ?_⟩
  · rw [f (a + 1) (by omega)]; exact (c3 j j0 j6).1
  · rw [f (a + 3) (by omega)]; exact (c3 j j0 j6).2.2
  · rw [f (a + 4) (by omega)]; exact c4 j j0 j1
theorem stC_sc {I I' : mI} {a : Nat} {S S' : mI} (hS : stC I a S) (f : ∀ z, z ≠ a → I' z = I z) (h0 : I' a 0 = S' 0 0) (h1 : I' a 1 = S' 0 1) (h2 : I' a 2 = S' 0 2) (e2 : S' 0 2 = S 0 2) (e : ∀ i, i ≠ 0 → S' i = S i) : stC I' a S' := by
  obtain ⟨c0, c1, c2, c3, c4⟩ := hS
  refine ⟨h0, h1, h2, fun j j0 j6 => ?_, fun j j0 j1 => ?_⟩
  · rw [f (a + 1) (by omega), f (a + 2) (by omega), f (a + 3) (by omega), e 1 (by decide), e 2 (by decide), e 3 (by decide)]; exact c3 j j0 j6
  · rw [f (a + 4) (by omega), e 4 (by decide)]; exact c4 j j0 (by omega)
theorem c_year {I J : mI} {R : mR} {a : Nat} {V S : mI} {p : Int} {Q : Int → mI → mI → mR → Prop} (hS : stC I a S) (hy : 0 ≤ S 0 0 ∧ S 0 0 ≤ 998) (hp : p = 0 ∨ p = 1)
    (k : ∀ I' : mI, (∀ z, z ≠ a → I' z = I z) → stC I' a (yeF S) → Q p I' J R) : p0_pass_b138 a p I J R Q := by
  have c0 := hS.1
  unfold p0_pass_b138
  rw [c0]
  refine zf (by omega) ⟨by omega, m_putK (fun I1 q1 g1 f1 => ⟨hp, k I1 f1 (stC_sc hS f1 ?_ ?_ ?_ ?_ (fun i hi => if_neg hi))⟩)⟩
  · rw [ye_y]; exact q1
  · rw [ye_p, g1 1 (by decide)]; exact hS.2.1
  · rw [ye_n, g1 2 (by decide)]; exact hS.2.2.1
  · rw [ye_n]
def rfr (R R' : mR) : Prop := ∀ a, a ≠ 146 → R' a = R a
theorem c_pass85 {I J : mI} {R : mR} {h a : Nat} {V : mI} {F : Int → List (Int × Int)} {S : mI} {tw : Int → Int} {th set : Int} {Q : Int → mI → mI → mR → Prop} (hh : isLd h) (ha : isSt a) (hL : ldC I h V) (hS : stC I a S) (hT : ∀ b, 0 ≤ b → b < V 1 0 → (if b = I 146 8 then I 146 9 else tr V 0 b 0) = tw b) (hw : wfs V F S tw) (hth : 0 ≤ th ∧ th < V 1 2) (hy : S 0 0 ≤ 998)
    (k : ∀ (p : Int) (I' J' : mI) (R' : mR) (S' : mI), pfr a I I' → jfr 6 J J' → rfr R R' → stC I' a S' →
      ((chF (asF V F S tw th (S 1) set).1 (V 1 1) = -1 → p = 0 ∧ S' = yeF S) ∧
       (chF (asF V F S tw th (S 1) set).1 (V 1 1) ≠ -1 → (S 0 1 < tr V 1 (chF (asF V F S tw th (S 1) set).1 (V 1 1)) 3 ∨ S 3 th = chF (asF V F S tw th (S 1) set).1 (V 1 1)) → p = 0 ∧ S' = yeF (moF V S (asF V F S tw th (S 1) set).2 (chF (asF V F S tw th (S 1) set).1 (V 1 1)))) ∧
       (chF (asF V F S tw th (S 1) set).1 (V 1 1) ≠ -1 → ¬ (S 0 1 < tr V 1 (chF (asF V F S tw th (S 1) set).1 (V 1 1)) 3 ∨ S 3 th = chF (asF V F S tw th (S 1) set).1 (V 1 1)) → p = 1 ∧ S' = yeF (moF V (pnF S th (chF (asF V F S tw th (S 1) set).1 (V 1 1)) (tr V 1 (chF (asF V F S tw th (S 1) set).1 (V 1 1)) 3)) (asF V F S tw th (S 1) set).2 (chF (asF V F S tw th (S 1) set).1 (V 1 1))))) → Q p I' J' R') : p0_pass_b85 h a 0 th set I J R Q := by
  obtain ⟨hV, hF, hSt, htw⟩ := hw
  have hw : wfs V F S tw := ⟨hV, hF, hSt, htw⟩
  have n := hV.1
  have far0 := st_far ha 0 (by omega)
  have far1 := st_far ha 1 (by omega)
  have far2 := st_far ha 2 (by omega)
  have far3 := st_far ha 3 (by omega)
  have far4 := st_far ha 4 (by omega)
  have hlh : h = 123 ∨ h = 132 := hh
  unfold p0_pass_b85
  refine c_sit hh ha hL hS hT hw (fun I3 J3 f3 j3 hC3 hK3 hN3 _ => ?_)
  refine c_ask (o := S 1) hC3 hN3 hK3 hw hth (by omega) (fun j j0 j1 => (hC3.2.2.2.2.2.2.1.2.2.2.1 j j0 (by omega)).1) hSt.2.2.2.1 (fun I4 J4 f4 j4 hK4 hv4 hs4 => ?_)
  have hC4 := ctC_a f4 hC3
  obtain ⟨-, -, -, -, -, hL4, hS4, hT4⟩ := hC4
  have hr4 : rfr R (up (up R 146 4 h) 146 5 a) := fun z hz => by
    funext j; rw [up_o _ _ _ _ hz, up_o _ _ _ _ hz]
  have F4 : ∀ z, z ≠ 5 → z ≠ 146 → z ≠ 147 → z ≠ 148 → z ≠ 149 → I4 z = I z := fun z z5 z6 z7 z8 z9 => by rw [f4 z z5 z7 z8 z9, f3.1 z z5 z6 z7 z8]
  have G4 : ∀ j, j ≠ 6 → j ≠ 7 → I4 146 j = I 146 j := fun j j6 j7 => by rw [f4 146 (by decide) (by decide) (by decide) (by decide)]; exact f3.2 j j6 j7
  have hc := chF_rg (v := (asF V F S tw th (S 1) set).1) n.2.1.1
  revert k hc hv4 hs4
  generalize asF V F S tw th (S 1) set = vs
  generalize chF vs.1 (V 1 1) = ch
  intro k hv4 hs4 hc
  have jj := jfr_t j3 j4
  have fin : ∀ I6 : mI, (∀ z, ¬ (a ≤ z ∧ z ≤ a + 4) → I6 z = I4 z) → pfr a I I6 := fun I6 f6 => ⟨fun z z5 z6 z7 z8 z9 za => by rw [f6 z za, F4 z z5 z6 z7 z8 z9], fun j j6 j7 => by rw [f6 146 (by omega)]; exact G4 j j6 j7⟩
  by_cases e : ch = -1
  · refine zt e (c_year (V := V) hS4 ⟨hSt.1.1, hy⟩ (Or.inl rfl) (fun I5 f5 hS5 => ?_))
    exact k 0 I5 J4 _ (yeF S) (fin I5 (fun z hz => f5 z (by omega))) jj hr4 hS5 ⟨fun _ => ⟨rfl, rfl⟩, fun q => absurd e q, fun q => absurd e q⟩
  · refine zf e (c_paintIf hL4 hS4 hV hSt (by omega) ⟨by omega, hc.2⟩ (fun x => ?_) (fun x I5 f5 hS5 => ?_))
    · refine c_moods hh ha hL4 hS4 hV hSt hs4 (fun I6 f6 hS6 => ?_)
      refine c_year (V := V) hS6 ⟨hSt.1.1, hy⟩ (Or.inl rfl) (fun I7 f7 hS7 => ?_)
      exact k 0 I7 J4 _ _ (fin I7 (fun z hz => by rw [f7 z (by omega), f6 z (by omega)])) jj hr4 hS7 ⟨fun q => absurd q e, fun _ _ => ⟨rfl, rfl⟩, fun _ q => absurd x q⟩
    · have hL5 : ldC I5 h V := by
        obtain ⟨l0, l1, l2, l3, l4, l5, l6, l7, l8⟩ := hL4
        have hx : ∀ j, j ≤ 8 → I5 (h + j) = I4 (h + j) := fun j hj => f5 _ (by omega)
        exact ⟨(hx 0 (by omega)).trans l0, (hx 1 (by omega)).trans l1, (hx 2 (by omega)).trans l2, (hx 3 (by omega)).trans l3, (hx 4 (by omega)).trans l4, (hx 5 (by omega)).trans l5, (hx 6 (by omega)).trans l6, (hx 7 (by omega)).trans l7, (hx 8 (by omega)).trans l8⟩
      have h3 := hV.2.2.1 ch (by omega) hc.2
      have hSt5 : stOK V (pnF S th ch (tr V 1 ch 3)) := stOK_pn hSt ⟨by omega, hc.2⟩ h3.1 (by omega)
      refine c_moods hh ha hL5 hS5 hV hSt5 (by rw [f5 149 (by omega)]; exact hs4) (fun I6 f6 hS6 => ?_)
      have ey := pn_y S th ch (tr V 1 ch 3)
      refine c_year (V := V) hS6 (by show 0 ≤ pnF S th ch (tr V 1 ch 3) 0 0 ∧ pnF S th ch (tr V 1 ch 3) 0 0 ≤ 998; rw [ey]; exact ⟨hSt.1.1, hy⟩) (Or.inr rfl) (fun I7 f7 hS7 => ?_)
      exact k 1 I7 J4 _ _ (fin I7 (fun z hz => by rw [f7 z (by omega), f6 z (by omega), f5 z hz])) jj hr4 hS7 ⟨fun q => absurd q e, fun _ q => absurd q x, fun _ _ => ⟨rfl, rfl⟩⟩
theorem c_pass {I J : mI} {R : mR} {h a : Nat} {V : mI} {F : Int → List (Int × Int)} {S : mI} {tw : Int → Int} {sil : Int} {Q : Int → mI → mI → mR → Prop} (hh : isLd h) (ha : isSt a) (hL : ldC I h V) (hS : stC I a S) (hT : ∀ b, 0 ≤ b → b < V 1 0 → (if b = I 146 8 then I 146 9 else tr V 0 b 0) = tw b) (hw : wfs V F S tw) (hy : S 0 0 ≤ 998)
    (k : ∀ (I' J' : mI) (R' : mR), pfr a I I' → jfr 6 J J' → rfr R R' → stC I' a (paF V F tw sil S).2 → Q (paF V F tw sil S).1 I' J' R') : p0_pass h a sil I J R Q := by
  obtain ⟨hV, hF, hSt, htw⟩ := hw
  have n := hV.1
  have gr := giF_rg V F S
  have s2 := hSt.2.1
  have far0 := st_far ha 0 (by omega)
  have hlh : h = 123 ∨ h = 132 := hh
  unfold p0_pass
  refine c_gift hh ha hL hS hV hF hSt (fun I1 J1 f1 j1 => ?_)
  have hS1 : stC I1 a S := stC_b ha (fun z q _ _ _ _ => f1 z q) hS
  have hL1 : ldC I1 h V := ldC_b hh (fun z q _ _ _ _ => f1 z q) hL
  rw [hS1.2.1]
  have key : p0_pass_b35 h a sil a (if S 0 1 + giF V F S ≤ 9999 then S 0 1 + giF V F S else 9999) I1 J1 R Q := by
    unfold p0_pass_b35
    refine m_putK (fun I2 q2 g2 f2 => ?_)
    have hG : stOK V (gpF V F S) := stOK_gp hSt
    have hS2 : stC I2 a (gpF V F S) := by
      refine stC_sc hS1 f2 ?_ ?_ ?_ ?_ (fun i hi => if_neg hi)
      · rw [gp_y, g2 0 (by decide)]; exact hS1.1
      · exact q2.trans (pu_p _ _).symm
      · rw [gp_n, g2 2 (by decide)]; exact hS1.2.2.1
      · rw [gp_n]
    have hL2 : ldC I2 h V := by
      obtain ⟨l0, l1, l2, l3, l4, l5, l6, l7, l8⟩ := hL1
      have hx : ∀ j, j ≤ 8 → I2 (h + j) = I1 (h + j) := fun j hj => f2 _ (by omega)
      exact ⟨(hx 0 (by omega)).trans l0, (hx 1 (by omega)).trans l1, (hx 2 (by omega)).trans l2, (hx 3 (by omega)).trans l3, (hx 4 (by omega)).trans l4, (hx 5 (by omega)).trans l5, (hx 6 (by omega)).trans l6, (hx 7 (by omega)).trans l7, (hx 8 (by omega)).trans l8⟩
    have F2 : pfr a I I2 := ⟨fun z z5 _ _ _ _ za => by rw [f2 z (by omega), f1 z z5], fun j _ _ => by rw [f2 146 (by omega), f1 146 (by decide)]⟩
    have hT2 : ∀ b, 0 ≤ b → b < V 1 0 → (if b = I2 146 8 then I2 146 9 else tr V 0 b 0) = tw b := by
      rw [F2.2 8 (by decide) (by decide), F2.2 9 (by decide) (by decide)]; exact hT
    have ey := gp_y V F S
    have e1 : gpF V F S 1 = S 1 := rfl
    rw [hL2.2.1, hS2.1, ey]
    by_cases e : V 1 2 ≤ 0
    · have ep : paF V F tw sil S = (0, yeF (gpF V F S)) := by unfold paF; rw [if_pos e]
      rw [ep] at k
      refine zt e (c_year (V := V) hS2 (by rw [ey]; exact ⟨hSt.1.1, hy⟩) (Or.inl rfl) (fun I3 f3 hS3 => k I3 J1 R ?_ j1 (fun _ _ => rfl) hS3))
      exact ⟨fun z z5 z6 z7 z8 z9 za => by rw [f3 z (by omega)]; exact F2.1 z z5 z6 z7 z8 z9 za, fun j j6 j7 => by rw [f3 146 (by omega)]; exact F2.2 j j6 j7⟩
    · refine zf e ⟨by omega, wLet_r ?_⟩
      have hth := th_rg hSt.1.1 (by omega : 0 < V 1 2)
      have hev := evb_rg n.1
      have fin : ∀ set, set = seF V sil → p0_pass_b85 h a 0 (Int.tmod (S 0 0) (V 1 2)) set I2 J1 R Q := fun set hset => by
        refine c_pass85 hh ha hL2 hS2 hT2 ⟨hV, hF, hG, htw⟩ hth (by rw [ey]; exact hy) (fun p I' J' R' S' pf jf rf hS' hc => ?_)
        have evs : asF V F (gpF V F S) tw (Int.tmod (S 0 0) (V 1 2)) (gpF V F S 1) set = vsF V F tw (seF V sil) (gpF V F S) := by
          unfold vsF; rw [ey, hset]
        rw [evs] at hc
        have hp : p = (paF V F tw sil S).1 ∧ S' = (paF V F tw sil S).2 := by
          unfold paF
          rw [if_neg e]
          by_cases e2 : chF (vsF V F tw (seF V sil) (gpF V F S)).1 (V 1 1) = -1
          · rw [if_pos e2]; exact hc.1 e2
          · rw [if_neg e2]
            by_cases e3 : gpF V F S 0 1 < tr V 1 (chF (vsF V F tw (seF V sil) (gpF V F S)).1 (V 1 1)) 3 ∨ gpF V F S 3 (Int.tmod (S 0 0) (V 1 2)) = chF (vsF V F tw (seF V sil) (gpF V F S)).1 (V 1 1)
            · rw [if_pos e3]; exact hc.2.1 e2 e3
            · rw [if_neg e3]; exact hc.2.2 e2 e3
        rw [hp.1]
        rw [hp.2] at hS'
        exact k I' J' R' ⟨fun z z5 z6 z7 z8 z9 za => by rw [pf.1 z z5 z6 z7 z8 z9 za]; exact F2.1 z z5 z6 z7 z8 z9 za, fun j j6 j7 => by rw [pf.2 j j6 j7]; exact F2.2 j j6 j7⟩ (jfr_t j1 jf) rf hS'
      unfold p3_everybody
      rw [hL2.2.1]
      by_cases es : sil = -1
      · exact zt es ⟨by omega, fin _ (by unfold seF evbF; rw [if_pos es])⟩
      · exact zf es ⟨by omega, fin _ (by unfold seF evbF; rw [if_neg es])⟩
  refine ⟨by omega, ?_⟩
  by_cases e : S 0 1 + giF V F S ≤ 9999
  · rw [if_pos e] at key; exact zt e ⟨by omega, key⟩
  · rw [if_neg e] at key; exact zf e key
