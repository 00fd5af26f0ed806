/-! THE READERS: the model reads statement by statement -/
def gStB (K T : Nat → Int) (V : mI) (F : mF) (i : Nat) : Rt := if K i = 1 ∧ T i ≤ 10 then (if gFull V F (T i) then Sum.inl (6, i) else gBody K T V F (T i) (i + 1)) else Sum.inl (1, i)
theorem gSt_eq (K T : Nat → Int) (V : mI) (F : mF) (i : Nat) : gSt K T V F i = gK (gStB K T V F i) (gEnd K T) := by
  unfold gSt gStB
  by_cases a : K i = 1 ∧ T i ≤ 10
  · rw [if_pos a, if_pos a]
    by_cases f : gFull V F (T i)
    · rw [if_pos f, if_pos f]; rfl
    · rw [if_neg f, if_neg f]
  · rw [if_neg a, if_neg a]; rfl
section
variable {tb : Int → Int} {n : Int} {m : Nat} {b : Int} {i : Nat} {I J : mI} {V : mI} {F : mF}
theorem m_stmt {Q : mI → mI → Prop} (hc : ctD tb n m) (hq : mQ tb n m b i I J) (hM : mM b V F I J) (hw : WF V F) (h8 : V 0 8 ≤ (i : Int))
    (k1 : ∀ (I' J' : mI) (j : Nat) (V' : mI) (F' : mF), gStB (kN1 tb n) (vN1 tb n) V F i = Sum.inr (j, V', F') → mFm b I I' J J' → mQ tb n m b j I' J' → mM b V' F' I' J' → Q I' J')
    (k5 : ∀ (I' J' : mI) (j : Nat) (V' : mI) (F' : mF), gStB (kN1 tb n) (vN1 tb n) V F i = Sum.inr (j, V', F') → kN1 tb n j = 5 → mBl b I I' J J' 1 (lN1 tb n j) → Q I' J')
    (k0 : ∀ (I' J' : mI) (k : Int) (i' : Nat), gStB (kN1 tb n) (vN1 tb n) V F i = Sum.inl (k, i') → mBl b I I' J J' k (lN1 tb n i') → Q I' J') : p12_statement I J Q := by
  have him := hq.2.1
  have hn := hq.1.1.2.1
  unfold gStB at k1 k5 k0
  unfold p12_statement
  refine q_lex hq (fun h12 => zt (by have := hq.2.2.1; omega) ?_) (fun I' h5 hb => zf (by have := hb.2.2.1; omega) (k0 I' J 1 i (by rw [if_neg (by omega)]) (mBl_b hb)))
  have bad : ¬ (kN1 tb n i = 1 ∧ vN1 tb n i ≤ 10) → p12_blame 1 (I 159 4) I (fun I2 => Q I2 J) := fun a => by
    rw [if_neg a] at k0
    exact q_bl hq h12 (by decide) (fun I' hb => k0 I' J 1 i rfl (mBl_b hb))
  -- the statement kd begins here
  have yes : ∀ kd : Nat, kd ≤ 10 → kN1 tb n i = 1 ∧ vN1 tb n i = (kd : Int) → (i < m ∧ (gFull V F kd → ∀ I', blR I I' 6 (lN1 tb n i) → Q I' J) ∧
      (¬ gFull V F kd → ∀ (I' J' : mI) (j : Nat) (V' : mI) (F' : mF), gBody (kN1 tb n) (vN1 tb n) V F kd (i + 1) = Sum.inr (j, V', F') → mFm b I I' J J' → mQ tb n m b j I' J' → mM b V' F' I' J' → Q I' J') ∧
      (¬ gFull V F kd → ∀ (I' J' : mI) (j : Nat) (V' : mI) (F' : mF), gBody (kN1 tb n) (vN1 tb n) V F kd (i + 1) = Sum.inr (j, V', F') → kN1 tb n j = 5 → mBl b I I' J J' 1 (lN1 tb n j) → Q I' J') ∧
      (¬ gFull V F kd → ∀ (I' J' : mI) (k : Int) (i' : Nat), gBody (kN1 tb n) (vN1 tb n) V F kd (i + 1) = Sum.inl (k, i') → mBl b I I' J J' k (lN1 tb n i') → Q I' J')) := fun kd hkd a => by
    have c : kN1 tb n i = 1 ∧ vN1 tb n i ≤ 10 := ⟨a.1, by omega⟩
    rw [if_pos c, a.2] at k1 k5 k0
    refine ⟨tkM_lt (tkM_of hc) him (by rw [a.1]; decide), fun f I' hb => ?_, fun f => ?_, fun f => ?_, fun f => ?_⟩
    · rw [if_pos f] at k0; exact k0 I' J 6 i rfl (mBl_b hb)
    · rw [if_neg f] at k1; exact k1
    · rw [if_neg f] at k5; exact k5
    · rw [if_neg f] at k0; exact k0
  have wk : ∀ {k : Nat} {w : Int} {Qw : Int → Prop}, w = ownM.getD k 0 → k < 28 → (kN1 tb n i = 1 ∧ vN1 tb n i = (k : Int) → Qw 1) → (¬ (kN1 tb n i = 1 ∧ vN1 tb n i = (k : Int)) → Qw 0) → p12_isWord w I J Qw := fun a c d e => m_isWk hc him hq.1 h12 a c d e
  have V6 : ∀ kd : Int, (kd = 0 ∨ kd = 1 ∨ kd = 2) → (V 1 kd = 6 → gFull V F kd) ∧ (V 1 kd ≠ 6 → ¬ gFull V F kd) := fun kd hkd => by
    have ck := cnt_k hw hkd
    exact ⟨fun e => Or.inl ⟨by omega, by omega⟩, fun e q => by rcases q with q | q <;> omega⟩
  have nf : ∀ kd : Int, 3 ≤ kd → kd ≤ 7 → ¬ gFull V F kd := fun kd a c q => by rcases q with q | q <;> omega
  refine wk (k := 0) (by rw [ownM_all]; rfl) (by decide) (fun a => zf (by decide) ?_) (fun n0 => zt rfl ?_)
  · obtain ⟨im, y1, y2, y3, y4⟩ := yes 0 (by decide) a
    have v := V6 0 (Or.inl rfl)
    exact m_b0 hc im hq h12 hM hw (fun e I' hb => y1 (v.1 e) I' hb) (fun e I' J' j V' eg => y2 (v.2 e) I' J' j V' F eg) (fun e I' J' k i' eg => y4 (v.2 e) I' J' k i' eg)
  refine wk (k := 1) (by rw [ownM_all]; rfl) (by decide) (fun a => zf (by decide) ?_) (fun n1 => zt rfl ?_)
  · obtain ⟨im, y1, y2, y3, y4⟩ := yes 1 (by decide) a
    have v := V6 1 (Or.inr (Or.inl rfl))
    exact m_b1 hc im hq h12 hM hw (fun e I' hb => y1 (v.1 e) I' hb) (fun e I' J' j V' eg => y2 (v.2 e) I' J' j V' F eg) (fun e I' J' k i' eg => y4 (v.2 e) I' J' k i' eg)
  refine wk (k := 2) (by rw [ownM_all]; rfl) (by decide) (fun a => zf (by decide) ?_) (fun n2 => zt rfl ?_)
  · obtain ⟨im, y1, y2, y3, y4⟩ := yes 2 (by decide) a
    have v := V6 2 (Or.inr (Or.inr rfl))
    exact m_b2 hc im hq h12 hM hw (fun e I' hb => y1 (v.1 e) I' hb) (fun e I' J' j V' eg => y2 (v.2 e) I' J' j V' F eg) (fun e I' J' k i' eg => y4 (v.2 e) I' J' k i' eg)
  refine wk (k := 3) (by rw [ownM_all]; rfl) (by decide) (fun a => zf (by decide) ?_) (fun n3 => zt rfl ?_)
  · obtain ⟨im, y1, y2, y3, y4⟩ := yes 3 (by decide) a
    have f := nf 3 (by decide) (by decide)
    exact m_lateS hc im hq h12 hM hw (fun I' J' j V' eg => y2 f I' J' j V' F eg) (fun I' J' k i' eg => y4 f I' J' k i' eg)
  refine wk (k := 4) (by rw [ownM_all]; rfl) (by decide) (fun a => zf (by decide) ?_) (fun n4 => zt rfl ?_)
  · obtain ⟨im, y1, y2, y3, y4⟩ := yes 4 (by decide) a
    have f := nf 4 (by decide) (by decide)
    exact m_nearS hc im hq h12 hM hw (fun I' J' j V' eg => y2 f I' J' j V' F eg) (fun I' J' k i' eg => y4 f I' J' k i' eg)
  refine wk (k := 5) (by rw [ownM_all]; rfl) (by decide) (fun a => zf (by decide) ?_) (fun n5 => zt rfl ?_)
  · obtain ⟨im, y1, y2, y3, y4⟩ := yes 5 (by decide) a
    have f := nf 5 (by decide) (by decide)
    exact m_wearS hc im hq h12 hM hw (fun I' J' j V' eg => y2 f I' J' j V' F eg) (fun I' J' k i' eg => y4 f I' J' k i' eg)
  refine wk (k := 6) (by rw [ownM_all]; rfl) (by decide) (fun a => zf (by decide) ?_) (fun n6 => zt rfl ?_)
  · obtain ⟨im, y1, y2, y3, y4⟩ := yes 6 (by decide) a
    have f := nf 6 (by decide) (by decide)
    rw [hq.2.2.2.1]
    exact m_purS (k := 10) hc im hq h12 hM (Or.inl ⟨rfl, rfl⟩) (fun I' J' j V' eg => y2 f I' J' j V' F eg) (fun I' J' k i' eg => y4 f I' J' k i' eg)
  refine wk (k := 7) (by rw [ownM_all]; rfl) (by decide) (fun a => zf (by decide) ?_) (fun n7 => zt rfl ?_)
  · obtain ⟨im, y1, y2, y3, y4⟩ := yes 7 (by decide) a
    have f := nf 7 (by decide) (by decide)
    rw [hq.2.2.2.1]
    exact m_purS (k := 11) hc im hq h12 hM (Or.inr ⟨rfl, rfl⟩) (fun I' J' j V' eg => y2 f I' J' j V' F eg) (fun I' J' k i' eg => y4 f I' J' k i' eg)
  have fo : ∀ (kd : Nat) (w : Int), kd ≤ 10 → kN1 tb n i = 1 ∧ vN1 tb n i = (kd : Int) → w = (kd : Int) - 8 → (w = 0 ∨ w = 1 ∨ w = 2) → p12_reading w I J Q := fun kd w hkd a hw' h3 => by
    obtain ⟨im, y1, y2, y3, y4⟩ := yes kd hkd a
    have eb : gBody (kN1 tb n) (vN1 tb n) V F kd (i + 1) = gFo (kN1 tb n) (vN1 tb n) V F w (i + 1) := by
      unfold gBody
      rw [if_neg (by omega), if_neg (by omega), if_neg (by omega), if_neg (by omega), if_neg (by omega), if_neg (by omega), ← hw']
    rw [eb] at y2 y3 y4
    have g1 : F w ≠ [] → gFull V F kd := fun e => Or.inr ⟨by omega, by rw [← hw']; exact e⟩
    have g0 : F w = [] → ¬ gFull V F kd := fun e q => by
      rcases q with q | q
      · omega
      · rw [← hw'] at q; exact q.2 e
    exact m_formS hc im hq h12 hM hw h3 h8 (fun e I' hb => y1 (g1 e) I' hb) (fun e => y2 (g0 e)) (fun e => y3 (g0 e)) (fun e => y4 (g0 e))
  refine wk (k := 8) (by rw [ownM_all]; rfl) (by decide) (fun a => zf (by decide) (fo 8 0 (by decide) a rfl (Or.inl rfl))) (fun n8 => zt rfl ?_)
  refine wk (k := 9) (by rw [ownM_all]; rfl) (by decide) (fun a => zf (by decide) (fo 9 1 (by decide) a rfl (Or.inr (Or.inl rfl)))) (fun n9 => zt rfl ?_)
  refine wk (k := 10) (by rw [ownM_all]; rfl) (by decide) (fun a => zf (by decide) (fo 10 2 (by decide) a rfl (Or.inr (Or.inr rfl)))) (fun n10 => zt rfl (bad (fun q => ?_)))
  have t0 := (tk_1 (tb := tb) (n := n) (p := pN tb n i) (by have := pN_i hc hn him; omega) hn.2 q.1).1
  have t0' : 0 ≤ vN1 tb n i := t0
  have q1 := q.1
  omega
/-- the end of a statement -/
theorem m_must {Q : mI → mI → Prop} (hc : ctD tb n m) (hq : mQ tb n m b i I J) (h12 : I 159 12 = -1) (k1 : kN1 tb n i = 4 ∧ vN1 tb n i = 59 → ∀ I' J', mFr I I' J J' → mQ tb n m b (i + 1) I' J' → Q I' J') (k0 : ¬ (kN1 tb n i = 4 ∧ vN1 tb n i = 59) → ∀ I', blR I I' 1 (lN1 tb n i) → Q I' J) : p12_must 59 I J Q := by
  unfold p12_must p12_lex
  refine zt h12 (m_isSg hq.1 (sgx_ok _ (by decide)) (fun a => zf (by decide) ?_) (fun a => zt rfl (q_bl hq h12 (by decide) (fun I' hb => ?_))))
  · unfold p12_must_b21
    exact zt hq.2.2.1 (q_next hc (tkM_lt (tkM_of hc) hq.2.1 (by rw [a.1]; decide)) hq (k1 a))
  · unfold p12_must_b21
    exact zf (by have := hb.2.2.1; omega) (k0 a I' hb)
theorem m_mustD {Q : mI → mI → Prop} (h8 : 0 < I 159 8) (kk : Q I J) : p12_must 59 I J Q := by
  unfold p12_must
  have d21 : p12_must_b21 I J Q := by
    unfold p12_must_b21
    exact zf (by omega) kk
  refine m_lexD h8 ?_
  unfold p12_isSign
  exact zs (fun _ => zs (fun _ => zf (by decide) d21) (fun _ => zt rfl (m_blmD h8 d21))) (fun _ => zt rfl (m_blmD h8 d21))
theorem m_finD {c : Int} {Q : mI → mI → Prop} (h8 : 0 < I 159 8) (kk : Q I J) : p12_finishes c I J Q := by
  unfold p12_finishes
  exact m_lexD h8 (zf (by omega) kk)
theorem m_finGo {c : Int} {Q : mI → mI → Prop} (ht : mTp tb n I) : ∀ (d : Nat) (p : Int), 0 ≤ p → n ≤ p + d → p12_finishes_b53 c (skF tb n d p) I J Q → p12_finishes_b17 c I J Q (d + 1) p
  | 0, p, h0, hn, kk => by
    show p12_finishes_b17_body c I J Q (p12_finishes_b17 c I J Q 0) p
    unfold p12_finishes_b17_body
    rw [ht.1]
    exact zt (by omega) kk
  | d + 1, p, h0, hn, kk => by
    show p12_finishes_b17_body c I J Q (p12_finishes_b17 c I J Q (d + 1)) p
    unfold p12_finishes_b17_body
    unfold skF at kk
    rw [ht.1]
    have hn2 := ht.2.1
    refine zs (fun e => ?_) (fun e => ?_)
    · rw [if_pos e] at kk; exact kk
    · rw [if_neg e] at kk
      have q := ht.2.2 p h0 (by omega)
      rw [q.1]
      refine ⟨by omega, zs (fun a => ?_) (fun a => ⟨by omega, zs (fun a2 => ?_) (fun a2 => ?_)⟩)⟩
      · rw [if_pos (Or.inl a)] at kk
        exact ⟨by omega, m_finGo ht d (p + 1) (by omega) (by omega) kk⟩
      · rw [if_pos (Or.inr a2)] at kk
        exact ⟨by omega, m_finGo ht d (p + 1) (by omega) (by omega) kk⟩
      · rw [if_neg (fun q => q.elim a a2)] at kk; exact kk
theorem tk_0 {p : Int} : tKd tb n p = 0 ↔ n ≤ p := by
  unfold tKd
  by_cases a : n ≤ p
  · rw [if_pos a]; exact ⟨fun _ => a, fun _ => rfl⟩
  · rw [if_neg a]
    refine ⟨fun h => ?_, fun h => absurd h a⟩
    exfalso
    by_cases c : 97 ≤ tb p ∧ tb p ≤ 122
    · rw [if_pos c] at h
      by_cases t : tch tb p
      · rw [if_pos t] at h; omega
      rw [if_neg t] at h
      by_cases w : enW tb n p - p ≤ 6
      · rw [if_pos w] at h
        unfold wdK at h
        split at h <;> omega
      · rw [if_neg w] at h; omega
    · rw [if_neg c] at h
      by_cases d : 48 ≤ tb p ∧ tb p ≤ 57
      · rw [if_pos d] at h
        by_cases t : tch tb p
        · rw [if_pos t] at h; omega
        rw [if_neg t] at h
        by_cases w : enD tb n p - p ≤ 4
        · rw [if_pos w] at h; omega
        · rw [if_neg w] at h; omega
      · rw [if_neg d] at h
        by_cases s : 0 ≤ sgx (tb p)
        · rw [if_pos s] at h; omega
        · rw [if_neg s] at h; omega
/-- where a token begins -/
theorem tk_beg {p : Int} : (if tKd tb n p = 5 then tVl tb n p else tPl tb n p) = p := by
  unfold tKd tVl tPl
  by_cases a : n ≤ p
  · rw [if_pos a, if_pos a, if_neg (by decide), if_pos a]
  rw [if_neg a, if_neg a, if_neg a]
  by_cases c : 97 ≤ tb p ∧ tb p ≤ 122
  · rw [if_pos c, if_pos c, if_pos c]
    by_cases t : tch tb p
    · rw [if_pos t, if_pos t, if_pos t, if_pos rfl]
    rw [if_neg t, if_neg t, if_neg t]
    by_cases w : enW tb n p - p ≤ 6
    · rw [if_pos w, if_pos w, if_pos w]
      have : wdK (wd27 tb n p) ≠ 5 := by unfold wdK; split <;> decide
      rw [if_neg this]
    · rw [if_neg w, if_neg w, if_neg w, if_pos rfl]
  · rw [if_neg c, if_neg c, if_neg c]
    by_cases d : 48 ≤ tb p ∧ tb p ≤ 57
    · rw [if_pos d, if_pos d, if_pos d]
      by_cases t : tch tb p
      · rw [if_pos t, if_pos t, if_pos t, if_pos rfl]
      rw [if_neg t, if_neg t, if_neg t]
      by_cases w : enD tb n p - p ≤ 4
      · rw [if_pos w, if_pos w, if_pos w, if_neg (by decide)]
      · rw [if_neg w, if_neg w, if_neg w, if_pos rfl]
    · rw [if_neg d, if_neg d, if_neg d]
      by_cases s : 0 ≤ sgx (tb p)
      · rw [if_pos s, if_pos s, if_neg (by decide)]
      · rw [if_neg s, if_neg s, if_pos rfl]
theorem m_fin {c : Int} {Q : mI → mI → Prop} (hc : ctD tb n m) (hq : mQ tb n m b i I J)
    (k1 : kN1 tb n i = 4 ∧ vN1 tb n i = 59 → ¬ (c = 60 ∧ kN1 tb n (i + 1) ≠ 0) → ∀ I' J', mFr I I' J J' → mQ tb n m b (i + 1) I' J' → Q I' J')
    (k6 : kN1 tb n i = 4 ∧ vN1 tb n i = 59 → (c = 60 ∧ kN1 tb n (i + 1) ≠ 0) → ∀ I', blR I I' 6 (if kN1 tb n (i + 1) = 5 then vN1 tb n (i + 1) else lN1 tb n (i + 1)) → Q I' J)
    (k0 : ¬ (kN1 tb n i = 4 ∧ vN1 tb n i = 59) → ∀ I', blR I I' 1 (lN1 tb n i) → Q I' J) : p12_finishes c I J Q := by
  have hn := hq.1.1.2.1
  have him := hq.2.1
  have hp := pN_i hc hn him
  unfold p12_finishes
  refine q_lex hq (fun h12 => zt (by have := hq.2.2.1; omega) ?_) (fun I' h5 hb => zf (by have := hb.2.2.1; omega) (k0 (fun q => by omega) I' hb))
  have e5 : 0 ≤ I 159 5 ∧ (kN1 tb n i = 4 → I 159 5 = eN tb n (i + 1)) := by
    have tr := tEn_rg (tb := tb) (n := n) (p := pN tb n i) (by omega) hn.2 hp.2.2
    unfold kN1
    rcases hq.1.2.2 with ⟨a, _, _, d⟩ | ⟨a, _, _, _, _, d⟩ | ⟨a, _, _, _, d⟩ | ⟨a, _, _, _, d⟩ | ⟨a, _, ⟨_, d, _⟩ | ⟨_, _, d, _⟩⟩
    · exact ⟨by omega, fun q => by omega⟩
    · exact ⟨by omega, fun q => by omega⟩
    · exact ⟨by omega, fun q => by omega⟩
    · exact ⟨by omega, fun _ => d⟩
    · exact absurd h12 d
    · exact ⟨by omega, fun q => by omega⟩
  refine ⟨1602, m_finGo hq.1.1 1601 (I 159 5) e5.1 (by omega) ?_⟩
  unfold p12_finishes_b53
  have dead : ∀ I' : mI, 0 < I' 159 8 → Q I' J → p12_must 59 I' J Q := fun I' h8 hq => m_mustD h8 hq
  refine m_isSg hq.1 (sgx_ok _ (by decide)) (fun a => zf (by decide) ?_) (fun a => zt rfl (m_must hc hq h12 (fun q => absurd q a) k0))
  have im := tkM_lt (tkM_of hc) him (by rw [a.1]; decide)
  have ep : skF tb n 1601 (I 159 5) = pN tb n (i + 1) := by rw [e5.2 a.1]; rfl
  rw [ep, hq.1.1.1]
  have live : ¬ (c = 60 ∧ kN1 tb n (i + 1) ≠ 0) → p12_must 59 I J Q := fun nn => m_must hc hq h12 (fun q => k1 q nn) (fun q => absurd a q)
  refine zs (fun c60 => zs (fun e => live (fun q => q.2 (tk_0.mpr e))) (fun e => ?_)) (fun c60 => live (fun q => c60 q.1))
  have k := k6 a ⟨c60, fun q => e (tk_0.mp q)⟩
  have eb : (if kN1 tb n (i + 1) = 5 then vN1 tb n (i + 1) else lN1 tb n (i + 1)) = pN tb n (i + 1) := tk_beg
  rw [eb] at k
  exact m_blmL hq.2.2.1 (fun I' fz fj f8 f9 => dead I' (by omega) (k I' ⟨fz, fj, ⟨f8, by decide⟩, f9⟩))
end
