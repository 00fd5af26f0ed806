/-! THE MODEL LETS A YEAR PASS -/
def lfr (v : Int) (I I' : mI) : Prop := (∀ z, (z < 185 ∨ z = 187 ∨ z = 192 ∨ z = 193 ∨ 197 < z) → I' z = I z) ∧ (∀ j, j ≠ v → I' 185 j = I 185 j ∧ I' 186 j = I 186 j ∧ I' 190 j = I 190 j) ∧ (∀ j, ¬ (6 * v ≤ j ∧ j < 6 * v + 6) → I' 188 j = I 188 j ∧ I' 189 j = I 189 j) ∧ (∀ j, ¬ (120 * v ≤ j ∧ j < 120 * v + 120) → I' 191 j = I 191 j)
theorem lfr_t {v : Int} {I1 I2 I3 : mI} (h1 : lfr v I1 I2) (h2 : lfr v I2 I3) : lfr v I1 I3 :=
  ⟨fun z hz => (h2.1 z hz).trans (h1.1 z hz), fun j hj => ⟨(h2.2.1 j hj).1.trans (h1.2.1 j hj).1, (h2.2.1 j hj).2.1.trans (h1.2.1 j hj).2.1, (h2.2.1 j hj).2.2.trans (h1.2.1 j hj).2.2⟩, fun j hj => ⟨(h2.2.2.1 j hj).1.trans (h1.2.2.1 j hj).1, (h2.2.2.1 j hj).2.trans (h1.2.2.1 j hj).2⟩, fun j hj => (h2.2.2.2 j hj).trans (h1.2.2.2 j hj)⟩
theorem ofr_l {v : Int} {I I' : mI} (h : ofr I I') : lfr v I I' := by
  have e : ∀ a, (a ≤ 193 ∨ 197 < a) → I' a = I a := fun a ha => h a (by omega) (by omega) (by omega) (by omega)
  refine ⟨fun z hz => e z (by omega), fun j _ => ?_, fun j _ => ?_, fun j _ => ?_⟩
  · rw [e 185 (by decide), e 186 (by decide), e 190 (by decide)]; exact ⟨rfl, rfl, rfl⟩
  · rw [e 188 (by decide), e 189 (by decide)]; exact ⟨rfl, rfl⟩
  · rw [e 191 (by decide)]
theorem lfr_r (v : Int) (I : mI) : lfr v I I := ofr_l (fun _ _ _ _ _ => rfl)
theorem ldM_l {I I' : mI} {bk v : Int} {V : mI} {F : Int → List (Int × Int)} (hf : lfr v I I') (h : ldM I bk V F) : ldM I' bk V F :=
  ldM_fr (by rw [hf.1 159 (by omega)]) (fun a _ ha => hf.1 a (by omega)) h
theorem twM_l {I I' V : mI} {v : Int} {tw : Int → Int} (hf : lfr v I I') (h : twM I V tw) : twM I' V tw := by
  unfold twM; rw [hf.1 192 (by omega)]; exact h
theorem stM_l {V : mI} {I I' : mI} {v w : Int} {S : mI} (hf : lfr v I I') (hw : w ≠ v) (h2 : S 0 2 ≤ 40) (h : stM V I w S) : stM V I' w S := by
  obtain ⟨c0, c1, c2, c3, c4⟩ := h
  obtain ⟨f1, f2, f3, f4⟩ := hf
  refine ⟨(f2 w hw).1.trans c0, (f2 w hw).2.1.trans c1, (f2 w hw).2.2.trans c2, fun j j0 j6 => ?_, fun j j0 j1 => ?_⟩
  · have h3 := f3 (6 * w + j) (by omega)
    have e7 : I' 187 = I 187 := f1 187 (by omega)
    exact ⟨by show I' 187 (6 * w + j) = _; rw [e7]; exact (c3 j j0 j6).1, h3.1.trans (c3 j j0 j6).2.1, h3.2.trans (c3 j j0 j6).2.2⟩
  · exact (f4 (120 * w + j) (by omega)).trans (c4 j j0 j1)
theorem m_gift {I J : mI} {bk v : Int} {V : mI} {F : Int → List (Int × Int)} {S : mI} {tw : Int → Int} {Q : Int → mI → mI → Prop} (hC : ctM I bk v V F S tw) (hV : ldOK V) (hF : foOK V F) (hSt : stOK V S)
    (k : ∀ I' J' : mI, nfr I I' → jfr 193 J J' → Q (giF V F S) I' J') : p12_gift v I J Q := by
  have n2 := hV.1.2.2
  have hv := hC.2.2.2
  have e0 : I 185 v = S 0 0 := hC.2.1.1
  have e1 : I 186 v = S 0 1 := hC.2.1.2.1
  unfold p12_gift
  refine m_told hC.1 (by omega) (fun e => ?_) (fun e => ?_)
  · have es : giF V F S = 9 := by unfold giF; rw [if_pos e]
    rw [es] at k
    exact zt rfl (k I J (fun _ _ => rfl) (jfr_r _ J))
  · refine zf (by decide) ⟨hv, ?_⟩
    rw [e0]
    refine m_putK (fun I1 q1 g1 f1 => ⟨hv, ?_⟩)
    rw [f1 186 (by decide), e1]
    refine m_putK (fun I2 q2 g2 f2 => ?_)
    have F2 : nfr I I2 := nfr_t f1 f2
    have hC2 := ctM_o (qfr_o (nfr_q F2)) hC
    refine m_worn hC2.1 hC2.2.1 hv n2 (m_putK (fun I3 q3 g3 f3 => ?_))
    have F3 : nfr I I3 := nfr_t F2 f3
    have hC3 := ctM_o (qfr_o (nfr_q F3)) hC
    refine m_reckon (env := envG V S) hC3.1 (by omega) hF e (fun v v1 v2 hv => ⟨?_, envG_in hV hSt v⟩) (fun J1 j1 hin _ => ?_)
    · have hv3 : v = 1 ∨ v = 8 ∨ v = 9 := by omega
      rcases hv3 with rfl | rfl | rfl
      · rw [g3 _ (by decide), g2 _ (by decide)]; exact q1
      · rw [g3 _ (by decide)]; exact q2
      · exact q3
    · have k' := k I3 J1 F3 j1
      unfold giF at k'
      rw [if_neg e] at k'
      by_cases x0 : 0 ≤ evF (envG V S) (F 2)
      · rw [if_pos x0] at k'
        refine zt x0 ?_
        by_cases x1 : evF (envG V S) (F 2) ≤ 99
        · rw [if_pos x1] at k'; exact zt x1 ⟨by omega, k'⟩
        · rw [if_neg x1] at k'; exact zf x1 k'
      · rw [if_neg x0] at k'; exact zf x0 k'
theorem m_moodsGo {bk v : Int} {V S : mI} {sd : Int → Int} {ch : Int} {Q : mI → Prop} {I0 : mI} (hb : I0 159 13 = bk) (hb2 : bk = 0 ∨ bk = 1) (h1 : I0 161 bk = V 1 0) (hv : 0 ≤ v ∧ v < 22) (hn : 0 ≤ V 1 0 ∧ V 1 0 ≤ 6) (hs : rgv (I0 196) sd) (hm : ∀ k, 0 ≤ k → (k < 6 ∧ (k < V 1 0 ∨ k < V 1 2)) → I0 188 (6 * v + k) = S 2 k ∧ 0 ≤ S 2 k ∧ S 2 k ≤ 9)
    (k : ∀ I' : mI, (∀ z, z ≠ 188 → I' z = I0 z) → (∀ j, ¬ (6 * v ≤ j ∧ j < 6 * v + 6) → I' 188 j = I0 188 j) → (∀ j, 0 ≤ j → (j < 6 ∧ (j < V 1 0 ∨ j < V 1 2)) → I' 188 (6 * v + j) = moF V S sd ch 2 j) → Q I') :
    ∀ (d : Nat) (l : Int) (I : mI), 0 ≤ l → l + d = V 1 0 → (∀ z, z ≠ 188 → I z = I0 z) → (∀ j, 0 ≤ j → j < l → I 188 (6 * v + j) = moF V S sd ch 2 j) → (∀ j, ¬ (6 * v ≤ j ∧ j < 6 * v + l) → I 188 j = I0 188 j) → p12_moods_b2 v ch Q (d + 1) l I
  | 0, l, I, hl0, hl, hf, hd, hr => by
    show p12_moods_b2_body v ch Q (p12_moods_b2 v ch Q 0) l I
    unfold p12_moods_b2_body
    rw [hf 159 (by decide), hf 161 (by decide), hb, h1]
    refine ⟨by omega, zt (by omega) (k I hf (fun j hj => hr j (by omega)) (fun j j0 j6 => ?_))⟩
    by_cases e : j < l
    · exact hd j j0 e
    · rw [hr _ (by omega), (hm j j0 j6).1]
      show S 2 j = if 0 ≤ j ∧ j < V 1 0 then _ else S 2 j
      rw [if_neg (by omega)]
  | d + 1, l, I, hl0, hl, hf, hd, hr => by
    have e9 : I 196 l = sd l := by rw [hf 196 (by decide)]; exact hs l hl0 (by omega)
    have em : I 188 (6 * v + l) = S 2 l := by rw [hr _ (by omega)]; exact (hm l hl0 (by omega)).1
    have hmr := (hm l hl0 (by omega)).2
    have emo : moF V S sd ch 2 l = if sd l = ch then (if 9 ≤ S 2 l then 9 else S 2 l + 1) else (if S 2 l ≤ 0 then 0 else S 2 l - 1) := by
      show (if 0 ≤ l ∧ l < V 1 0 then _ else S 2 l) = _
      rw [if_pos (by omega)]
    have go : ∀ (x : Int) (k3 : wLet (up I 188 (6 * v + l) x) (fun I1 => rg (l + 1) ∧ p12_moods_b2 v ch Q (d + 1) (l + 1) I1) → p12_moods_b2_body v ch Q (p12_moods_b2 v ch Q (d + 1)) l I), x = moF V S sd ch 2 l → p12_moods_b2_body v ch Q (p12_moods_b2 v ch Q (d + 1)) l I := fun x k3 hx => by
      refine k3 (m_putK (fun I1 q1 g1 f1 => ⟨by omega, m_moodsGo hb hb2 h1 hv hn hs hm k d (l + 1) I1 (by omega) (by omega) (fun z hz => (f1 z hz).trans (hf z hz)) (fun j j0 j1 => ?_) (fun j hj => by rw [g1 j (by omega)]; exact hr j (by omega))⟩))
      by_cases e : j = l
      · rw [e, q1]; exact hx
      · rw [g1 _ (by omega)]; exact hd j j0 (by omega)
    show p12_moods_b2_body v ch Q (p12_moods_b2 v ch Q (d + 1)) l I
    by_cases e : sd l = ch
    · rw [if_pos e] at emo
      by_cases e2 : 9 ≤ S 2 l
      · rw [if_pos e2] at emo
        refine go 9 (fun hw => ?_) emo.symm
        unfold p12_moods_b2_body
        rw [hf 159 (by decide), hf 161 (by decide), hb, h1, e9, em]
        exact ⟨by omega, zf (by omega) ⟨by omega, by omega, by omega,  zt e ⟨by omega, zt e2 ⟨by omega, hw⟩⟩⟩⟩
      · rw [if_neg e2] at emo
        refine go (S 2 l + 1) (fun hw => ?_) emo.symm
        unfold p12_moods_b2_body
        rw [hf 159 (by decide), hf 161 (by decide), hb, h1, e9, em]
        exact ⟨by omega, zf (by omega) ⟨by omega, by omega, by omega,  zt e ⟨by omega, zf e2 ⟨by omega, by omega, by omega,  hw⟩⟩⟩⟩
    · rw [if_neg e] at emo
      by_cases e2 : S 2 l ≤ 0
      · rw [if_pos e2] at emo
        refine go 0 (fun hw => ?_) emo.symm
        unfold p12_moods_b2_body
        rw [hf 159 (by decide), hf 161 (by decide), hb, h1, e9, em]
        exact ⟨by omega, zf (by omega) ⟨by omega, by omega, by omega,  zf e ⟨by omega, zt e2 ⟨by omega, hw⟩⟩⟩⟩
      · rw [if_neg e2] at emo
        refine go (S 2 l - 1) (fun hw => ?_) emo.symm
        unfold p12_moods_b2_body
        rw [hf 159 (by decide), hf 161 (by decide), hb, h1, e9, em]
        exact ⟨by omega, zf (by omega) ⟨by omega, by omega, by omega,  zf e ⟨by omega, zf e2 ⟨by omega, by omega, by omega,  hw⟩⟩⟩⟩
theorem m_moods {I : mI} {bk v : Int} {V : mI} {F : Int → List (Int × Int)} {S : mI} {tw : Int → Int} {sd : Int → Int} {ch : Int} {Q : mI → Prop} (hC : ctM I bk v V F S tw) (hV : ldOK V) (hSt : stOK V S) (hs : rgv (I 196) sd)
    (k : ∀ I' : mI, lfr v I I' → stM V I' v (moF V S sd ch) → (∀ z, z ≠ 188 → I' z = I z) → Q I') : p12_moods v ch I Q := by
  have n0 := hV.1.1
  obtain ⟨⟨m1, m2, m3, -⟩, ⟨c0, c1, c2, c3, c4⟩, -, hv⟩ := hC
  refine ⟨(V 1 0).toNat + 1, m_moodsGo m1 m2 m3 hv n0 hs (fun j j0 j6 => ⟨(c3 j j0 j6).2.1, hSt.2.2.2.2.2.1 j j0 j6.1⟩) (fun I' f g m => k I' ⟨fun z hz => f z (by omega), fun j hj => ?_, fun j hj => ⟨g j hj, ?_⟩, fun j hj => ?_⟩ ⟨?_, ?_, ?_, fun j j0 j6 => ⟨?_, m j j0 j6, ?_⟩, fun j j0 j1 => ?_⟩ f) _ 0 I (by omega) (by omega) (fun _ _ => rfl) (fun j j0 j1 => by omega) (fun _ _ => rfl)⟩
  · rw [f 185 (by decide), f 186 (by decide), f 190 (by decide)]; exact ⟨rfl, rfl, rfl⟩
  · rw [f 189 (by decide)]
  · rw [f 191 (by decide)]
  · rw [f 185 (by decide)]; exact c0
  · rw [f 186 (by decide)]; exact c1
  · rw [f 190 (by decide)]; exact c2
  · show I' 187 (6 * v + j) = _
    rw [f 187 (by decide)]; exact (c3 j j0 j6).1
  · show I' 189 (6 * v + j) = _
    rw [f 189 (by decide)]; exact (c3 j j0 j6).2.2
  · show I' 191 (120 * v + j) = _
    rw [f 191 (by decide)]; exact c4 j j0 j1
theorem m_down63 {I : mI} {v th c n : Int} {Q : mI → Prop} (hv : 0 ≤ v ∧ v < 22) (h0 : I 190 v = n) (hn : 0 ≤ n ∧ n ≤ 39)
    (k : ∀ I' : mI, (∀ z, z ≠ 190 → z ≠ 191 → I' z = I z) → (∀ j, j ≠ v → I' 190 j = I 190 j) → I' 190 v = n + 1 → (∀ j, I' 191 j = if j = 120 * v + 3 * n then I 185 v else if j = 120 * v + 3 * n + 1 then th else if j = 120 * v + 3 * n + 2 then c else I 191 j) → Q I') : p12_writesDown_b63 v th c I Q := by
  unfold p12_writesDown_b63
  rw [h0]
  refine ⟨by omega, by omega, by omega, by omega,  wLet_r ⟨by omega, by omega,  m_putK (fun I3 q3 g3 f3 => ⟨by omega, by omega,  m_putK (fun I4 q4 g4 f4 => ⟨by omega, by omega,  m_putK (fun I5 q5 g5 f5 => ?_)⟩)⟩)⟩⟩
  rw [f5 190 (by decide), f4 190 (by decide), f3 190 (by decide), h0]
  refine ⟨by omega, by omega, by omega,  m_putK (fun I6 q6 g6 f6 => ?_)⟩
  refine k I6 (fun z z0 z1 => by rw [f6 z z0, f5 z z1, f4 z z1, f3 z z1]) (fun j hj => by rw [g6 j hj, f5 190 (by decide), f4 190 (by decide), f3 190 (by decide)]) q6 (fun j => ?_)
  rw [f6 191 (by decide)]
  by_cases e2 : j = 120 * v + 3 * n + 2
  · rw [if_neg (by omega), if_neg (by omega), if_pos e2, show j = 3 * (40 * v + n) + 2 by omega]; exact q5
  rw [g5 j (by omega)]
  by_cases e1 : j = 120 * v + 3 * n + 1
  · rw [if_neg (by omega), if_pos e1, show j = 3 * (40 * v + n) + 1 by omega]; exact q4
  rw [g4 j (by omega)]
  by_cases e0 : j = 120 * v + 3 * n
  · rw [if_pos e0, show j = 3 * (40 * v + n) by omega]; exact q3
  rw [g3 j (by omega), if_neg e0, if_neg e1, if_neg e2]
theorem m_downGo {v th c : Int} {Q : mI → Prop} {I0 : mI} (hv : 0 ≤ v ∧ v < 22) (h40 : I0 190 v = 40)
    (k : ∀ I' : mI, (∀ z, z ≠ 190 → z ≠ 191 → I' z = I0 z) → (∀ j, j ≠ v → I' 190 j = I0 190 j) → I' 190 v = 39 → (∀ j, I' 191 j = if 120 * v ≤ j ∧ j < 120 * v + 117 then I0 191 (j + 3) else I0 191 j) → p12_writesDown_b63 v th c I' Q) :
    ∀ (d : Nat) (l : Int) (I : mI), 120 * v ≤ l → l + d = 120 * v + 117 → (∀ z, z ≠ 191 → I z = I0 z) → (∀ j, I 191 j = if 120 * v ≤ j ∧ j < l then I0 191 (j + 3) else I0 191 j) → p12_writesDown_b17 v th c Q (d + 1) l I
  | 0, l, I, hl0, hl, hf, hr => by
    show p12_writesDown_b17_body v th c Q (p12_writesDown_b17 v th c Q 0) l I
    unfold p12_writesDown_b17_body
    have el : l = 120 * v + 117 := by omega
    rw [hf 190 (by decide), h40]
    refine ⟨by omega, by omega, by omega,  zt (by omega) ⟨by omega, by omega, by omega,  m_putK (fun I1 q1 g1 f1 => ?_)⟩⟩
    refine k I1 (fun z z0 z1 => by rw [f1 z z0]; exact hf z z1) (fun j hj => by rw [g1 j hj, hf 190 (by decide)]) q1 (fun j => ?_)
    rw [f1 191 (by decide), hr j, el]
  | d + 1, l, I, hl0, hl, hf, hr => by
    show p12_writesDown_b17_body v th c Q (p12_writesDown_b17 v th c Q (d + 1)) l I
    unfold p12_writesDown_b17_body
    refine ⟨by omega, by omega, by omega,  zf (by omega) ⟨by omega, by omega, by omega,  m_putK (fun I1 q1 g1 f1 => ⟨by omega, m_downGo hv h40 k d (l + 1) I1 (by omega) (by omega) (fun z hz => (f1 z hz).trans (hf z hz)) (fun j => ?_)⟩)⟩⟩
    by_cases e : j = l
    · rw [e, q1, hr, if_neg (by omega), if_pos (by omega)]
    · rw [g1 j e, hr j]
      by_cases e2 : 120 * v ≤ j ∧ j < l
      · rw [if_pos e2, if_pos (by omega)]
      · rw [if_neg e2, if_neg (by omega)]
theorem m_down {V : mI} {I : mI} {v : Int} {S : mI} {th c : Int} {Q : mI → Prop} (hv : 0 ≤ v ∧ v < 22) (hS : stM V I v S) (h2 : 0 ≤ S 0 2 ∧ S 0 2 ≤ 40)
    (k : ∀ I' : mI, lfr v I I' → stM V I' v (keF S th c) → (∀ z, z ≠ 190 → z ≠ 191 → I' z = I z) → Q I') : p12_writesDown v th c I Q := by
  obtain ⟨c0, c1, c2, c3, c4⟩ := hS
  have kn := knF_rg h2
  unfold p12_writesDown
  rw [c2]
  refine ⟨hv, ?_⟩
  have fin : ∀ I' : mI, (∀ z, z ≠ 190 → z ≠ 191 → I' z = I z) → (∀ j, j ≠ v → I' 190 j = I 190 j) → I' 190 v = knF S + 1 → (∀ j, ¬ (120 * v ≤ j ∧ j < 120 * v + 120) → I' 191 j = I 191 j) → (∀ j, 0 ≤ j → j < 3 * (knF S + 1) → I' 191 (120 * v + j) = keF S th c 4 j) → Q I' := fun I' f g q w1 w2 => by
    refine k I' ⟨fun z hz => f z (by omega) (by omega), fun j hj => ⟨?_, ?_, g j hj⟩, fun j _ => ⟨?_, ?_⟩, w1⟩ ⟨?_, ?_, ?_, fun j j0 j6 => ?_, fun j j0 j1 => ?_⟩ f
    · rw [f 185 (by decide) (by decide)]
    · rw [f 186 (by decide) (by decide)]
    · rw [f 188 (by decide) (by decide)]
    · rw [f 189 (by decide) (by decide)]
    · rw [f 185 (by decide) (by decide)]; rw [ke_y]; exact c0
    · rw [f 186 (by decide) (by decide)]; rw [ke_p]; exact c1
    · rw [ke_n]; exact q
    · have h := c3 j j0 j6
      rw [f 187 (by decide) (by decide), f 188 (by decide) (by decide), f 189 (by decide) (by decide)]; exact h
    · have j1' := j1
      rw [ke_n] at j1'
      exact w2 j j0 j1'
  by_cases e : S 0 2 = 40
  · have ek : knF S = 39 := by unfold knF; rw [if_neg (by omega)]
    refine zt e ⟨by omega, 118, m_downGo hv (c2.trans e) (fun I1 f1 g1 q1 w1 => ?_) 117 (120 * v) I (by omega) (by omega) (fun _ _ => rfl) (fun j => by rw [if_neg (by omega)])⟩
    refine m_down63 hv q1 (by omega) (fun I2 f2 g2 q2 w2 => fin I2 (fun z z0 z1 => (f2 z z0 z1).trans (f1 z z0 z1)) (fun j hj => (g2 j hj).trans (g1 j hj)) (by rw [ek]; exact q2) (fun j hj => ?_) (fun j j0 j1 => ?_))
    · rw [w2 j, if_neg (by omega), if_neg (by omega), if_neg (by omega), w1 j, if_neg (by omega)]
    · rw [ek] at j1
      show _ = if j = 3 * knF S then S 0 0 else if j = 3 * knF S + 1 then th else if j = 3 * knF S + 2 then c else if S 0 2 < 40 then S 4 j else S 4 (j + 3)
      rw [w2, f1 185 (by decide) (by decide), c0, ek]
      by_cases e0 : j = 3 * 39
      · rw [if_pos (by omega), if_pos e0]
      rw [if_neg (by omega), if_neg e0]
      by_cases e1 : j = 3 * 39 + 1
      · rw [if_pos (by omega), if_pos e1]
      rw [if_neg (by omega), if_neg e1]
      by_cases e2 : j = 3 * 39 + 2
      · rw [if_pos (by omega), if_pos e2]
      rw [if_neg (by omega), if_neg e2, if_neg (by omega), w1, if_pos (by omega), show 120 * v + j + 3 = 120 * v + (j + 3) by omega]
      exact c4 (j + 3) (by omega) (by omega)
  · have ek : knF S = S 0 2 := by unfold knF; rw [if_pos (by omega)]
    refine zf e (m_down63 hv c2 (by omega) (fun I2 f2 g2 q2 w2 => fin I2 f2 g2 (by rw [ek]; exact q2) (fun j hj => ?_) (fun j j0 j1 => ?_)))
    · rw [w2 j, if_neg (by omega), if_neg (by omega), if_neg (by omega)]
    · rw [ek] at j1
      show _ = if j = 3 * knF S then S 0 0 else if j = 3 * knF S + 1 then th else if j = 3 * knF S + 2 then c else if S 0 2 < 40 then S 4 j else S 4 (j + 3)
      rw [w2, c0, ek]
      by_cases e0 : j = 3 * S 0 2
      · rw [if_pos (by omega), if_pos e0]
      rw [if_neg (by omega), if_neg e0]
      by_cases e1 : j = 3 * S 0 2 + 1
      · rw [if_pos (by omega), if_pos e1]
      rw [if_neg (by omega), if_neg e1]
      by_cases e2 : j = 3 * S 0 2 + 2
      · rw [if_pos (by omega), if_pos e2]
      rw [if_neg (by omega), if_neg e2, if_pos (by omega)]
      exact c4 j j0 (by omega)
