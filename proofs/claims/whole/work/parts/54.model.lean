/-! THE MODEL ASKS -/
def foM (I : mI) (bk w : Int) (c : List (Int × Int)) : Prop := (c = [] ∧ I 173 (3 * bk + w) = -1) ∨ (c ≠ [] ∧ 0 ≤ I 173 (3 * bk + w) ∧ I 173 (3 * bk + w) + (c.length : Int) = I 174 (3 * bk + w) ∧ I 174 (3 * bk + w) ≤ 1600 ∧ segM I (1600 * bk + I 173 (3 * bk + w)) c)
def ldM (I : mI) (bk : Int) (V : mI) (F : Int → List (Int × Int)) : Prop :=
  I 159 13 = bk ∧ (bk = 0 ∨ bk = 1) ∧ I 161 bk = V 1 0 ∧ I 164 bk = V 1 1 ∧ I 167 bk = V 1 2 ∧
  (∀ b j, 0 ≤ b → b < V 1 0 → 0 ≤ j → j < 3 → I 162 (18 * bk + 3 * b + j) = tr V 0 b j) ∧
  (∀ b j, 0 ≤ b → b < V 1 1 → 0 ≤ j → j < 3 → I 165 (18 * bk + 3 * b + j) = tr V 1 b j) ∧
  (∀ b j, 0 ≤ b → b < V 1 2 → 0 ≤ j → j < 3 → I 168 (18 * bk + 3 * b + j) = tr V 2 b j) ∧
  (∀ c, 0 ≤ c → c < V 1 1 → I 166 (6 * bk + c) = tr V 1 c 3) ∧ I 163 bk = V 0 9 ∧
  (∀ t, 0 ≤ t → t < V 1 2 → I 169 (6 * bk + t) = V 4 t ∧ I 170 (6 * bk + t) = V 5 t) ∧ I 171 bk = V 0 10 ∧ I 172 bk = V 0 11 ∧ ∀ w, 0 ≤ w → w < 3 → foM I bk w (F w)
theorem segM_fr {I I' : mI} (h1 : I' 175 = I 175) (h2 : I' 176 = I 176) : ∀ {c : List (Int × Int)} {i : Int}, segM I i c → segM I' i c
  | [], _, _ => trivial
  | q :: r, i, hs => ⟨by rw [h1, h2]; exact hs.1, segM_fr h1 h2 hs.2⟩
theorem foM_fr {I I' : mI} {bk w : Int} {c : List (Int × Int)} (h3 : I' 173 = I 173) (h4 : I' 174 = I 174) (h1 : I' 175 = I 175) (h2 : I' 176 = I 176) (h : foM I bk w c) : foM I' bk w c := by
  unfold foM at h ⊢
  rw [h3, h4]
  rcases h with h | ⟨e, a1, a2, a3, a4⟩
  · exact Or.inl h
  · exact Or.inr ⟨e, a1, a2, a3, segM_fr h1 h2 a4⟩
theorem ldM_fr {I I' : mI} {bk : Int} {V : mI} {F : Int → List (Int × Int)} (h13 : I' 159 13 = I 159 13) (hf : ∀ a, 161 ≤ a → a ≤ 176 → I' a = I a) (h : ldM I bk V F) : ldM I' bk V F := by
  obtain ⟨m1, m2, m3, m4, m5, m6, m7, m8, m9, m10, m11, m12, m13, m14⟩ := h
  refine ⟨h13.trans m1, m2, ?_, ?_, ?_, ?_, ?_, ?_, ?_, ?_, ?_, ?_, ?_, fun w w0 w1 => foM_fr (hf _ (by decide) (by decide)) (hf _ (by decide) (by decide)) (hf _ (by decide) (by decide)) (hf _ (by decide) (by decide)) (m14 w w0 w1)⟩
  · rw [hf 161 (by decide) (by decide)]; exact m3
  · rw [hf 164 (by decide) (by decide)]; exact m4
  · rw [hf 167 (by decide) (by decide)]; exact m5
  · rw [hf 162 (by decide) (by decide)]; exact m6
  · rw [hf 165 (by decide) (by decide)]; exact m7
  · rw [hf 168 (by decide) (by decide)]; exact m8
  · rw [hf 166 (by decide) (by decide)]; exact m9
  · rw [hf 163 (by decide) (by decide)]; exact m10
  · rw [hf 169 (by decide) (by decide), hf 170 (by decide) (by decide)]; exact m11
  · rw [hf 171 (by decide) (by decide)]; exact m12
  · rw [hf 172 (by decide) (by decide)]; exact m13
theorem stM_fr {V : mI} {I I' : mI} {v : Int} {S : mI} (hf : ∀ a, 185 ≤ a → a ≤ 191 → I' a = I a) (h : stM V I v S) : stM V I' v S := by
  unfold stM at h ⊢
  rw [hf 185 (by decide) (by decide), hf 186 (by decide) (by decide), hf 187 (by decide) (by decide), hf 188 (by decide) (by decide), hf 189 (by decide) (by decide), hf 190 (by decide) (by decide), hf 191 (by decide) (by decide)]; exact h
def twM (I V : mI) (tw : Int → Int) : Prop := ∀ b, 0 ≤ b → b < V 1 0 → I 192 (3 * b + 0) = tw b ∧ I 192 (3 * b + 1) = tr V 0 b 1 ∧ I 192 (3 * b + 2) = tr V 0 b 2
def ctM (I : mI) (bk v : Int) (V : mI) (F : Int → List (Int × Int)) (S : mI) (tw : Int → Int) : Prop := ldM I bk V F ∧ stM V I v S ∧ twM I V tw ∧ 0 ≤ v ∧ v < 22
/-- what the model's asking writes over -/
def nfr (I I' : mI) : Prop := ∀ a, a ≠ 194 → I' a = I a
def qfr (I I' : mI) : Prop := ∀ a, a ≠ 194 → a ≠ 195 → a ≠ 196 → I' a = I a
def ofr (I I' : mI) : Prop := ∀ a, a ≠ 194 → a ≠ 195 → a ≠ 196 → a ≠ 197 → I' a = I a
theorem nfr_t {I1 I2 I3 : mI} (h1 : nfr I1 I2) (h2 : nfr I2 I3) : nfr I1 I3 := fun a q1 => (h2 a q1).trans (h1 a q1)
theorem qfr_t {I1 I2 I3 : mI} (h1 : qfr I1 I2) (h2 : qfr I2 I3) : qfr I1 I3 := fun a q1 q2 q3 => (h2 a q1 q2 q3).trans (h1 a q1 q2 q3)
theorem ofr_t {I1 I2 I3 : mI} (h1 : ofr I1 I2) (h2 : ofr I2 I3) : ofr I1 I3 := fun a q1 q2 q3 q4 => (h2 a q1 q2 q3 q4).trans (h1 a q1 q2 q3 q4)
theorem nfr_q {I I' : mI} (h : nfr I I') : qfr I I' := fun a q1 _ _ => h a q1
theorem qfr_o {I I' : mI} (h : qfr I I') : ofr I I' := fun a q1 q2 q3 _ => h a q1 q2 q3
theorem ctM_o {I I' : mI} {bk v : Int} {V : mI} {F : Int → List (Int × Int)} {S : mI} {tw : Int → Int} (hf : ofr I I') (h : ctM I bk v V F S tw) : ctM I' bk v V F S tw := by
  obtain ⟨h1, h2, h3, h4⟩ := h
  have e : ∀ a, a ≤ 193 → I' a = I a := fun a ha => hf a (by omega) (by omega) (by omega) (by omega)
  refine ⟨ldM_fr (by rw [e _ (by decide)]) (fun a _ ha => e a (by omega)) h1, stM_fr (fun a _ ha => e a (by omega)) h2, ?_, h4⟩
  unfold twM
  rw [e 192 (by decide)]; exact h3
theorem m_told {I : mI} {bk w : Int} {V : mI} {F : Int → List (Int × Int)} {Q : Int → Prop} (hM : ldM I bk V F) (hw : 0 ≤ w ∧ w < 3) (h0 : F w = [] → Q 0) (h1 : F w ≠ [] → Q 1) : p12_isTold w I Q := by
  obtain ⟨m1, m2, -, -, -, -, -, -, -, -, -, -, -, m14⟩ := hM
  unfold p12_isTold
  rw [m1]
  refine ⟨by omega, by omega, by omega, ?_⟩
  rcases m14 w hw.1 hw.2 with ⟨e, h⟩ | ⟨e, h, -⟩
  · exact zt h (h0 e)
  · exact zf (by omega) (h1 e)
theorem m_reckon {I J : mI} {bk w : Int} {V : mI} {F : Int → List (Int × Int)} {env : Int → Int} {Q : Int → mI → Prop} (hM : ldM I bk V F) (hw : 0 ≤ w ∧ w < 3) (hF : foOK V F) (he : F w ≠ []) (hvar : ∀ v, 1 ≤ v → v ≤ 9 → (v = 1 ∨ (w = 2 ∧ 8 ≤ v) ∨ (w ≠ 2 ∧ v ≤ 3) ∨ (w = 0 ∧ v ≤ 7)) → I 194 v = env v ∧ vIn (env v))
    (k : ∀ J' : mI, jfr 193 J J' → vIn (evF env (F w)) → (w = 1 → vT01 (evF env (F w))) → Q (evF env (F w)) J') : p12_reckons w I J Q := by
  obtain ⟨m1, m2, -, -, -, -, -, -, -, -, -, -, -, m14⟩ := hM
  obtain ⟨ht, hv⟩ := (hF w hw.1 hw.2).2 he
  rcases m14 w hw.1 hw.2 with ⟨e, -⟩ | ⟨-, h1, h2, h3, h4⟩
  · exact absurd e he
  · exact ro_formula (env := env) (c := F w) (t := decide (w = 1)) (en := 1600 * bk + I 174 (3 * bk + w)) (i := 1600 * bk + I 173 (3 * bk + w)) (by omega) hw (by rw [m1]) (by omega) (by rw [m1]) (fun q hq a b => hvar q.1 a b (hv q hq a b)) h4 (by omega) (by omega) ht (fun J' hJ h6 h7 => k J' hJ h6 (fun e => h7 (by rw [e]; rfl)))
theorem m_wornGo {I : mI} {bk v c : Int} {f : Int → Int} {n : Int} {Q : Int → Prop} (hv : 0 ≤ v ∧ v < 22) (hb : I 159 13 = bk) (hb2 : bk = 0 ∨ bk = 1) (h7 : I 167 bk = n) (hf : ∀ k, 0 ≤ k → k < n → I 189 (6 * v + k) = f k) (hn : n ≤ 6) : ∀ (d : Nat) (acc k : Int), 0 ≤ k → k + d = n → 0 ≤ acc → acc ≤ k → Q (wornR f c d acc k) → p12_wornOf_b5 v c I Q (d + 1) acc k
  | 0, acc, k, h0, h1, h2, h3, hq => by
    show p12_wornOf_b5_body v c I Q (p12_wornOf_b5 v c I Q 0) acc k
    unfold p12_wornOf_b5_body
    rw [hb, h7]
    exact ⟨by omega, zt (by omega) hq⟩
  | d + 1, acc, k, h0, h1, h2, h3, hq => by
    show p12_wornOf_b5_body v c I Q (p12_wornOf_b5 v c I Q (d + 1)) acc k
    unfold p12_wornOf_b5_body
    rw [hb, h7, hf k h0 (by omega)]
    refine ⟨by omega, zf (by omega) ⟨by omega, by omega, by omega, ?_⟩⟩
    unfold wornR at hq
    by_cases e : f k = c
    · rw [if_pos e] at hq ⊢
      exact ⟨by omega, by omega, m_wornGo hv hb hb2 h7 hf hn d _ _ (by omega) (by omega) (by omega) (by omega) hq⟩
    · rw [if_neg e] at hq ⊢
      exact ⟨by omega, by omega, m_wornGo hv hb hb2 h7 hf hn d _ _ (by omega) (by omega) (by omega) (by omega) hq⟩
theorem m_worn {I : mI} {bk v c : Int} {V : mI} {F : Int → List (Int × Int)} {S : mI} {Q : Int → Prop} (hM : ldM I bk V F) (hS : stM V I v S) (hv : 0 ≤ v ∧ v < 22) (h2 : 0 ≤ V 1 2 ∧ V 1 2 ≤ 6) (hq : Q (wornF V S c)) : p12_wornOf v c I Q := by
  obtain ⟨m1, m2, m3, m4, m5, -⟩ := hM
  exact ⟨(V 1 2).toNat + 1, m_wornGo hv m1 m2 m5 (fun k h0 h1 => (hS.2.2.2.1 k h0 ⟨by omega, Or.inr h1⟩).2.2) h2.2 _ _ _ (by omega) (by omega) (by omega) (by omega) hq⟩
theorem m_match1 {I : mI} {bk : Int} {V : mI} {F : Int → List (Int × Int)} {b th c acc j s0 : Int} {f : Nat} {Q : Int → Prop} (hM : ldM I bk V F) (hV : ldOK V) (hb : 0 ≤ b ∧ b < V 1 0) (hth : 0 ≤ th ∧ th < V 1 2) (hc : 0 ≤ c ∧ c < V 1 1) (e0 : I 192 (3 * b + j) = s0) (hs : 0 ≤ s0 ∧ s0 ≤ 9) (hj : 0 ≤ j ∧ j < 3) (ha : 0 ≤ acc ∧ acc ≤ 162) (k : (0 ≤ acc + s0 * (9 - gapF (tr V 2 th j) (tr V 1 c j)) ∧ acc + s0 * (9 - gapF (tr V 2 th j) (tr V 1 c j)) ≤ acc + 81) → p12_matchOf_b6 b th c I Q f (acc + s0 * (9 - gapF (tr V 2 th j) (tr V 1 c j))) (j + 1)) : p12_matchOf_b6 b th c I Q (f + 1) acc j := by
  obtain ⟨m1, m2, m3, m4, m5, m6, m7, m8, m9, -⟩ := hM
  obtain ⟨⟨n0, n1, n2⟩, h2, -⟩ := hV
  have t1 := h2 2 th j (by omega) (by omega) hth.1 hth.2 hj.1 hj.2
  have t2 := h2 1 c j (by omega) (by omega) hc.1 hc.2 hj.1 hj.2
  have g := gapF_rg t1 t2
  have m := mul9 hs (show 0 ≤ 9 - gapF (tr V 2 th j) (tr V 1 c j) ∧ 9 - gapF (tr V 2 th j) (tr V 1 c j) ≤ 9 by omega)
  replace k := k (by omega)
  show p12_matchOf_b6_body b th c I Q (p12_matchOf_b6 b th c I Q f) acc j
  unfold p12_matchOf_b6_body
  rw [m1, m8 th j hth.1 hth.2 hj.1 hj.2, m7 c j hc.1 hc.2 hj.1 hj.2, e0]
  refine zf (by omega) ⟨by omega, by omega, by omega, by omega, by omega, by omega, by omega, by omega, by omega, by omega, by omega, by omega, by omega, ?_⟩
  unfold p12_gap
  by_cases e : tr V 2 th j ≤ tr V 1 c j
  · have e2 : gapF (tr V 2 th j) (tr V 1 c j) = tr V 1 c j - tr V 2 th j := by unfold gapF; rw [if_pos e]
    rw [e2] at k m
    exact zt e ⟨by omega, by omega, by omega, by omega,  wLet_r ⟨by omega, k⟩⟩
  · have e2 : gapF (tr V 2 th j) (tr V 1 c j) = tr V 2 th j - tr V 1 c j := by unfold gapF; rw [if_neg e]
    rw [e2] at k m
    exact zf e ⟨by omega, by omega, by omega, by omega,  wLet_r ⟨by omega, k⟩⟩
theorem m_match {I : mI} {bk : Int} {V : mI} {F : Int → List (Int × Int)} {tw : Int → Int} {b th c : Int} {Q : Int → Prop} (hM : ldM I bk V F) (hT : twM I V tw) (hV : ldOK V) (hb : 0 ≤ b ∧ b < V 1 0) (hth : 0 ≤ th ∧ th < V 1 2) (hc : 0 ≤ c ∧ c < V 1 1) (ht : 0 ≤ tw b ∧ tw b ≤ 9) (hq : Q (mtF V tw b th c)) : p12_matchOf b th c I Q := by
  have hV' := hV
  obtain ⟨⟨n0, n1, n2⟩, h2, -⟩ := hV'
  obtain ⟨w0, w1, w2⟩ := hT b hb.1 hb.2
  refine ⟨4, ?_⟩
  refine m_match1 hM hV hb hth hc w0 ht (by omega) (by omega) (fun r0 => ?_)
  refine m_match1 (j := 1) hM hV hb hth hc w1 (h2 0 b 1 (by omega) (by omega) hb.1 hb.2 (by omega) (by omega)) (by omega) (by omega) (fun r1 => ?_)
  refine m_match1 (j := 2) hM hV hb hth hc w2 (h2 0 b 2 (by omega) (by omega) hb.1 hb.2 (by omega) (by omega)) (by omega) (by omega) (fun r2 => ?_)
  show p12_matchOf_b6_body b th c I Q (p12_matchOf_b6 b th c I Q 0) _ 3
  unfold p12_matchOf_b6_body
  exact zt (by omega) hq
theorem m_putK {I : mI} {o : Nat} {i x : Int} {P : mI → Prop} (k : ∀ I' : mI, I' o i = x → (∀ j, j ≠ i → I' o j = I o j) → (∀ b, b ≠ o → I' b = I b) → P I') : wLet (up I o i x) P :=
  k _ (up_s _ _ _ _) (fun j hj => up_k _ _ _ hj) (fun b hb => up_ne hb)
theorem m_lays {I : mI} {bk v : Int} {V : mI} {F : Int → List (Int × Int)} {S : mI} {tw : Int → Int} {b : Int} {Q : mI → Prop} (hC : ctM I bk v V F S tw) (hV : ldOK V) (hb : 0 ≤ b ∧ b < V 1 0)
    (k : ∀ I' : mI, I' 194 1 = S 0 0 → I' 194 2 = S 2 b → I' 194 3 = has1 (V 0 9) b → nfr I I' → Q I') : p12_lays v b I Q := by
  obtain ⟨⟨m1, m2, -, -, -, -, -, -, -, m10, -⟩, hS, -, hv0, hv1⟩ := hC
  obtain ⟨⟨n0, n1, n2⟩, -, -, h4, -⟩ := hV
  have e0 : I 185 v = S 0 0 := hS.1
  have e2 : I 188 (6 * v + b) = S 2 b := (hS.2.2.2.1 b hb.1 (by omega)).2.1
  unfold p12_lays
  rw [e0]
  refine ⟨by omega, m_putK (fun I1 q1 g1 f1 => ⟨by omega, by omega, by omega, ?_⟩)⟩
  rw [f1 188 (by decide), e2]
  refine m_putK (fun I2 q2 g2 f2 => ?_)
  have f : nfr I I2 := fun z hz => (f2 z hz).trans (f1 z hz)
  rw [f 159 (by decide), m1, f 163 (by decide), m10]
  refine ⟨by omega, ?_⟩
  unfold p12_has2
  have h01 := bit_01 h4.1 h4.2 hb.1 (by omega : b < 6)
  by_cases e : has1 (V 0 9) b = 1
  · refine zt e (zf (by decide) (m_putK (fun I3 q3 g3 f3 => k I3 ?_ ?_ (q3.trans e.symm) (fun z hz => (f3 z hz).trans (f z hz)))))
    · rw [g3 1 (by decide), g2 1 (by decide)]; exact q1
    · rw [g3 2 (by decide)]; exact q2
  · refine zf e (zt rfl (m_putK (fun I3 q3 g3 f3 => k I3 ?_ ?_ (q3.trans (h01.resolve_right e).symm) (fun z hz => (f3 z hz).trans (f z hz)))))
    · rw [g3 1 (by decide), g2 1 (by decide)]; exact q1
    · rw [g3 2 (by decide)]; exact q2
theorem m_count {I J : mI} {bk v : Int} {V : mI} {F : Int → List (Int × Int)} {S : mI} {tw : Int → Int} {b : Int} {Q : Int → mI → mI → Prop} (hC : ctM I bk v V F S tw) (hw : wfs V F S tw) (hb : 0 ≤ b ∧ b < V 1 0)
    (k : ∀ I' J' : mI, nfr I I' → jfr 193 J J' → (cnF V F S b = 0 ∨ cnF V F S b = 1) → Q (cnF V F S b) I' J') : p12_isCounting v b I J Q := by
  unfold p12_isCounting
  refine m_told hC.1 (by omega) (fun e => ?_) (fun e => ?_)
  · have ec : cnF V F S b = 1 := by unfold cnF; rw [if_pos e]
    rw [ec] at k
    exact zt rfl (k I J (fun _ _ => rfl) (jfr_r _ J) (Or.inr rfl))
  · have ec : cnF V F S b = evF (envS V S b 0 0 0) (F 1) := by unfold cnF; rw [if_neg e]
    refine zf (by decide) (m_lays hC hw.1 hb (fun I1 q1 q2 q3 f1 => ?_))
    have hC1 := ctM_o (qfr_o (nfr_q f1)) hC
    refine m_reckon (env := envS V S b 0 0 0) hC1.1 (by omega) hw.2.1 e (fun v v1 v2 hv => ⟨?_, envC_in hw.1 hw.2.2.1 hb (by omega) v1⟩) (fun J1 j1 hin h01 => ?_)
    · have hv3 : v = 1 ∨ v = 2 ∨ v = 3 := by omega
      rcases hv3 with rfl | rfl | rfl
      · exact q1
      · exact q2
      · exact q3
    · rw [← ec] at h01 ⊢
      have h01 := h01 rfl
      by_cases e1 : cnF V F S b = 1
      · rw [e1] at k ⊢
        exact zt rfl (k I1 J1 f1 j1 (Or.inr rfl))
      · have e0 := h01.resolve_right e1
        rw [e0] at k ⊢
        exact zf (by decide) (k I1 J1 f1 j1 (Or.inl rfl))
theorem m_score {I J : mI} {bk v : Int} {V : mI} {F : Int → List (Int × Int)} {S : mI} {tw : Int → Int} {b th c hd : Int} {Q : Int → mI → mI → Prop} (hC : ctM I bk v V F S tw) (hw : wfs V F S tw) (hth : 0 ≤ th ∧ th < V 1 2) (hb : 0 ≤ b ∧ b < V 1 0) (hc : 0 ≤ c ∧ c < V 1 1) (hh : 0 ≤ hd ∧ hd < 6)
    (k : ∀ I' J' : mI, nfr I I' → jfr 193 J J' → Q (scF V F S tw b th c hd) I' J') : p12_scoreOf v b th c hd I J Q := by
  obtain ⟨hV, hF, hSt, htw⟩ := hw
  have hm := mtF_rg hV (htw b) hb hth hc
  have hV' := hV
  obtain ⟨⟨n0, n1, n2⟩, -⟩ := hV'
  unfold p12_scoreOf
  refine m_match hC.1 hC.2.2.1 hV hb hth hc (htw b) (m_told hC.1 (by omega) (fun e => ?_) (fun e => ?_))
  · have es : scF V F S tw b th c hd = mtF V tw b th c := by unfold scF; rw [if_pos e]
    rw [es] at k
    exact zt rfl (k I J (fun _ _ => rfl) (jfr_r _ J))
  · have es : scF V F S tw b th c hd = evF (envS V S b c (mtF V tw b th c) hd) (F 0) := by unfold scF; rw [if_neg e]
    refine zf (by decide) (m_lays hC hV hb (fun I1 q1 q2 q3 f1 => ?_))
    refine m_putK (fun I2 q4 g2 f2 => ?_)
    have F2 : nfr I I2 := nfr_t f1 f2
    have hC2 := ctM_o (qfr_o (nfr_q F2)) hC
    refine m_worn hC2.1 hC2.2.1 hC.2.2.2 n2 ?_
    refine m_putK (fun I3 q5 g3 f3 => m_putK (fun I4 q6 g4 f4 => ?_))
    have F4 : nfr I I4 := nfr_t F2 (nfr_t f3 f4)
    have hC4 := ctM_o (qfr_o (nfr_q F4)) hC
    have hbk := hC.1.2.1
    rw [hC4.1.1, hC4.1.2.2.2.2.2.2.2.2.1 c hc.1 hc.2]
    refine ⟨by omega, by omega, by omega,  m_putK (fun I5 q7 g5 f5 => ?_)⟩
    have F5 : nfr I I5 := nfr_t F4 f5
    have hC5 := ctM_o (qfr_o (nfr_q F5)) hC
    refine m_reckon (env := envS V S b c (mtF V tw b th c) hd) hC5.1 (by omega) hF e (fun v v1 v2 hv => ⟨?_, envS_in hV hSt hb hc hm hh v⟩) (fun J1 j1 hin _ => ?_)
    · have hv7 : v = 1 ∨ v = 2 ∨ v = 3 ∨ v = 4 ∨ v = 5 ∨ v = 6 ∨ v = 7 := by omega
      rcases hv7 with rfl | rfl | rfl | rfl | rfl | rfl | rfl
      · rw [g5 _ (by decide), g4 _ (by decide), g3 _ (by decide), g2 _ (by decide)]; exact q1
      · rw [g5 _ (by decide), g4 _ (by decide), g3 _ (by decide), g2 _ (by decide)]; exact q2
      · rw [g5 _ (by decide), g4 _ (by decide), g3 _ (by decide), g2 _ (by decide)]; exact q3
      · rw [g5 _ (by decide), g4 _ (by decide), g3 _ (by decide)]; exact q4
      · rw [g5 _ (by decide), g4 _ (by decide)]; exact q5
      · rw [g5 _ (by decide)]; exact q6
      · exact q7
    · rw [← es]
      exact k I5 J1 F5 j1
