/-! THE READERS: the model reads a statement: its words -/
def bsz (z : Nat) : Int := if z = 161 ∨ z = 163 ∨ z = 164 ∨ z = 167 ∨ z = 171 ∨ z = 172 then 1 else if z = 162 ∨ z = 165 ∨ z = 168 then 18 else if z = 166 ∨ z = 169 ∨ z = 170 then 6 else if z = 173 ∨ z = 174 then 3 else if z = 175 ∨ z = 176 then 1600 else 0
abbrev mKq (j : Int) : Prop := j ≤ 2 ∨ j = 7 ∨ j = 10 ∨ j = 11 ∨ (13 ≤ j ∧ j ≤ 30) ∨ j = 32 ∨ (34 ≤ j ∧ j ≤ 38) ∨ j = 41 ∨ 44 ≤ j
/-- what the reading of a land may change: one bank -/
def mFm (b : Int) (I I' J J' : mI) : Prop := (∀ z, z ≠ 159 → ¬ (161 ≤ z ∧ z ≤ 176) → ¬ (178 ≤ z ∧ z ≤ 183) → I' z = I z) ∧ (∀ j, mKq j → I' 159 j = I 159 j) ∧ (∀ z, 161 ≤ z → z ≤ 176 → ∀ j, ¬ (bsz z * b ≤ j ∧ j < bsz z * b + bsz z) → I' z j = I z j) ∧ (∀ z, z ≠ 159 → z ≠ 177 → J' z = J z) ∧ (∀ j, j ≠ 7 → J' 159 j = J 159 j) ∧ (∀ j, ¬ (18 * b ≤ j ∧ j < 18 * b + 18) → J' 177 j = J 177 j) ∧ (I' 159 8 = 0 → I 159 8 = 0 ∧ I' 159 9 = I 159 9)
theorem mFm_t {b : Int} {I1 I2 I3 J1 J2 J3 : mI} (x : mFm b I1 I2 J1 J2) (y : mFm b I2 I3 J2 J3) : mFm b I1 I3 J1 J3 := by
  obtain ⟨x1, x2, x3, x4, x5, x6, x7⟩ := x
  obtain ⟨y1, y2, y3, y4, y5, y6, y7⟩ := y
  exact ⟨fun z a c d => (y1 z a c d).trans (x1 z a c d), fun j a => (y2 j a).trans (x2 j a), fun z a c j d => (y3 z a c j d).trans (x3 z a c j d), fun z a c => (y4 z a c).trans (x4 z a c), fun j a => (y5 j a).trans (x5 j a), fun j a => (y6 j a).trans (x6 j a), fun e => ⟨(x7 (y7 e).1).1, (y7 e).2.trans (x7 (y7 e).1).2⟩⟩
theorem mFm_fr {b : Int} {I I' J J' : mI} (h : mFr I I' J J') : mFm b I I' J J' :=
  ⟨fun z a _ _ => h.1 z a, fun j a => h.2.1 j (by omega) (by omega) (by omega) (by omega) (by omega), fun z a c j _ => by rw [h.1 z (by omega)], fun z a _ => h.2.2.1 z a, h.2.2.2, fun j _ => by rw [h.2.2.1 177 (by decide)], fun e => ⟨by rw [← h.2.1 8 (by decide) (by decide) (by decide) (by decide) (by decide)]; exact e, h.2.1 9 (by decide) (by decide) (by decide) (by decide) (by decide)⟩⟩
def blR (I I' : mI) (k pl : Int) : Prop := (∀ z, z ≠ 159 → I' z = I z) ∧ (∀ j, j ≠ 8 → j ≠ 9 → I' 159 j = I 159 j) ∧ (I' 159 8 = k ∧ 0 < k) ∧ I' 159 9 = pl
theorem mFm_bl {b : Int} {I I' J : mI} {k pl : Int} (h : blR I I' k pl) : mFm b I I' J J :=
  ⟨fun z a _ _ => h.1 z a, fun j a => h.2.1 j (by omega) (by omega), fun z a c j _ => by rw [h.1 z (by omega)], fun _ _ _ => rfl, fun _ _ => rfl, fun _ _ => rfl, fun e => by have := h.2.2.1; omega⟩
/-- a fault told -/
def mBl (b : Int) (I I' J J' : mI) (k pl : Int) : Prop := mFm b I I' J J' ∧ (I' 159 8 = k ∧ 0 < k) ∧ I' 159 9 = pl
theorem mBl_t {b : Int} {I1 I2 I3 J1 J2 J3 : mI} {k pl : Int} (x : mFm b I1 I2 J1 J2) (y : mBl b I2 I3 J2 J3 k pl) : mBl b I1 I3 J1 J3 k pl := ⟨mFm_t x y.1, y.2⟩
theorem mBl_b {b : Int} {I I' J : mI} {k pl : Int} (h : blR I I' k pl) : mBl b I I' J J k pl := ⟨mFm_bl h, h.2.2⟩
def mQ (tb : Int → Int) (n : Int) (m : Nat) (b : Int) (i : Nat) (I J : mI) : Prop := mS tb n i I J ∧ i ≤ m ∧ I 159 8 = 0 ∧ (I 159 32 = b ∧ (b = 0 ∨ b = 1))
/-- a land told, as both hold it -/
def mM (b : Int) (V : mI) (F : mF) (I J : mI) : Prop := (I 161 b = V 1 0 ∧ I 164 b = V 1 1 ∧ I 167 b = V 1 2) ∧
  (∀ w j, 0 ≤ w → w < V 1 0 → 0 ≤ j → j < 3 → I 162 (18 * b + 3 * w + j) = tr V 0 w j) ∧
  (∀ w j, 0 ≤ w → w < V 1 1 → 0 ≤ j → j < 3 → I 165 (18 * b + 3 * w + j) = tr V 1 w j) ∧
  (∀ w j, 0 ≤ w → w < V 1 2 → 0 ≤ j → j < 3 → I 168 (18 * b + 3 * w + j) = tr V 2 w j) ∧
  (∀ c, 0 ≤ c → c < V 1 1 → I 166 (6 * b + c) = tr V 1 c 3) ∧ I 163 b = V 0 9 ∧
  (∀ t, 0 ≤ t → t < V 1 2 → I 169 (6 * b + t) = V 4 t ∧ I 170 (6 * b + t) = V 5 t) ∧ (I 171 b = V 0 10 ∧ I 172 b = V 0 11) ∧
  (∀ w, 0 ≤ w → w < 3 → foM I b w (F w) ∧ (F w ≠ [] → I 174 (3 * b + w) ≤ I 159 31)) ∧ I 159 31 = V 0 8 ∧ iNam V J b
theorem mM_f {b : Int} {V : mI} {F : mF} {I I' J J' : mI} (h : mM b V F I J) (hz : ∀ z, 161 ≤ z → z ≤ 176 → I' z = I z) (h31 : I' 159 31 = I 159 31) (hJ : J' 177 = J 177) : mM b V F I' J' := by
  have e : ∀ z, 161 ≤ z ∧ z ≤ 176 → I' z = I z := fun z a => hz z a.1 a.2
  unfold mM foM iNam at h ⊢
  rw [e 161 (by decide), e 162 (by decide), e 163 (by decide), e 164 (by decide), e 165 (by decide), e 166 (by decide), e 167 (by decide), e 168 (by decide), e 169 (by decide), e 170 (by decide), e 171 (by decide), e 172 (by decide), e 173 (by decide), e 174 (by decide), h31, hJ]
  obtain ⟨h1, h2, h3, h4, h5, h6, h7, h8, h9, h10, h11⟩ := h
  refine ⟨h1, h2, h3, h4, h5, h6, h7, h8, fun w a c => ⟨?_, (h9 w a c).2⟩, h10, h11⟩
  rcases (h9 w a c).1 with x | ⟨x1, x2, x3, x4, x5⟩
  · exact Or.inl x
  · exact Or.inr ⟨x1, x2, x3, x4, segM_fr (e 175 (by decide)) (e 176 (by decide)) x5⟩
theorem mM_fr {b : Int} {V : mI} {F : mF} {I I' J J' : mI} (h : mM b V F I J) (hf : mFr I I' J J') : mM b V F I' J' :=
  mM_f h (fun z a c => hf.1 z (by omega)) (hf.2.1 31 (by decide) (by decide) (by decide) (by decide) (by decide)) (hf.2.2.1 177 (by decide))
theorem naR_inj {p q p' q' : Int} (h : naR p q) (h' : naR p' q') : p = p' ↔ q = q' := by
  obtain ⟨l, l1, l2, l3, l4, l5⟩ := h
  obtain ⟨k, k1, k2, k3, k4, k5⟩ := h'
  refine ⟨fun e => ?_, fun e => ?_⟩
  · have a := dec_na 6 l l3 l1
    have c := dec_na 6 k k3 k1
    rw [← l4, e, k4, c] at a
    rw [l5, k5, a]
  · rw [l5, k5] at e
    have a := na256_i l k l3 k3 e
    rw [l4, k4, a]
section
variable {tb : Int → Int} {n : Int} {m : Nat} {b : Int} {i : Nat} {I J : mI} {V : mI} {F : mF}
theorem tk_nam (hc : ctD tb n m) (hn : 0 ≤ n ∧ n ≤ 1600) (him : i ≤ m) (h : kN1 tb n i = 2) : naR (vN1 tb n i) (w256 tb n (pN tb n i)) := by
  have p := pN_i hc hn him
  obtain ⟨ls, l1, l2, l3, e1, e2, e3⟩ := tk_wd (tb := tb) (n := n) (p := pN tb n i) (by omega) hn.2 (Or.inr h)
  refine ⟨ls, l2, l3, l1, ?_, e3⟩
  have h2 : wdK (naP 27 ls) = 2 := e1.symm.trans h
  show tVl tb n (pN tb n i) = _
  rw [e2]
  unfold wdK at h2
  unfold wdV
  by_cases e : ixO (naP 27 ls) ownL 0 = -1
  · rw [if_pos e]
  · rw [if_neg e] at h2; exact absurd h2 (by decide)
theorem m_J7 (h : mS tb n i I J) (k : kN1 tb n i = 1 ∨ kN1 tb n i = 2) : J 159 7 = w256 tb n (pN tb n i) ∧ I 159 3 = 1 := by
  unfold kN1 at k
  rcases h.2.2 with ⟨a, -⟩ | ⟨_, c, _, d, _⟩ | ⟨a, -⟩ | ⟨a, -⟩ | ⟨a, -⟩
  · omega
  · exact ⟨d, c⟩
  · omega
  · omega
  · omega
theorem m_notW (h : mS tb n i I J) (hl : I 159 12 = -1) (k : ¬ (kN1 tb n i = 1 ∨ kN1 tb n i = 2)) : I 159 3 ≠ 1 := by
  unfold kN1 at k
  rcases h.2.2 with ⟨a, c, _⟩ | ⟨a, _⟩ | ⟨a, c, -⟩ | ⟨a, c, -⟩ | ⟨a, _, ⟨_, d, _⟩ | ⟨_, d, _⟩⟩
  · omega
  · exact absurd a k
  · omega
  · omega
  · exact absurd hl d
  · omega
theorem m_isOwnT (hc : ctD tb n m) (him : i ≤ m) (h : mS tb n i I J) (k : kN1 tb n i = 1 ∨ kN1 tb n i = 2) {Q : Int → Prop} (k1 : kN1 tb n i = 1 → Q 1) (k2 : kN1 tb n i = 2 → Q 0) : p12_isOwn (J 159 7) Q := by
  have hn := h.1.2.1
  have p := pN_i hc hn him
  rw [(m_J7 h k).1]
  refine m_isOwnW (fun ⟨q, q1, q2⟩ => k1 ((tk_own (by omega) hn.2 k q1).mp q2).1) (fun no => ?_)
  rcases k with k | k
  · exfalso
    have r := tk_1 (tb := tb) (n := n) (p := pN tb n i) (by omega) hn.2 k
    refine no ⟨(tVl tb n (pN tb n i)).toNat, by omega, (tk_own (by omega) hn.2 (Or.inl k) (by omega)).mpr ⟨k, by omega⟩⟩
  · exact k2 k
theorem q_next {Q : mI → mI → Prop} (hc : ctD tb n m) (him : i < m) (hq : mQ tb n m b i I J) (kk : ∀ I' J', mFr I I' J J' → mQ tb n m b (i + 1) I' J' → Q I' J') : p12_ahead I J Q := by
  obtain ⟨a1, a2, a3, a4⟩ := hq
  exact m_next hc him a1 (fun I' J' hf hS => kk I' J' hf ⟨hS, him, by rw [hf.2.1 8 (by decide) (by decide) (by decide) (by decide) (by decide)]; exact a3, by rw [hf.2.1 32 (by decide) (by decide) (by decide) (by decide) (by decide)]; exact a4⟩)
theorem q_bl {k : Int} {Q : mI → Prop} (hq : mQ tb n m b i I J) (h12 : I 159 12 = -1) (hk : 0 < k) (kk : ∀ I', blR I I' k (lN1 tb n i) → Q I') : p12_blame k (I 159 4) I Q :=
  m_blmL hq.2.2.1 (fun I' fz fj f8 f9 => kk I' ⟨fz, fj, ⟨f8, hk⟩, f9.trans (m_pl hq.1 h12)⟩)
theorem q_lex {Q : mI → Prop} (hq : mQ tb n m b i I J) (k1 : I 159 12 = -1 → Q I) (k0 : ∀ I', kN1 tb n i = 5 → blR I I' 1 (lN1 tb n i) → Q I') : p12_lex I Q :=
  m_lexL hq.1 hq.2.2.1 k1 (fun I' h5 fz fj f8 f9 => k0 I' h5 ⟨fz, fj, ⟨f8, by decide⟩, f9⟩)
theorem m_cnt {x : Int} {Q : Int → mI → mI → Prop} (hc : ctD tb n m) (him : i < m) (hq : mQ tb n m b i I J) (h12 : I 159 12 = -1) (k1 : x = 0 → ∀ I' J', mFr I I' J J' → mQ tb n m b (i + 1) I' J' → Q 1 I' J') (k0 : x ≠ 0 → ∀ I', blR I I' 6 (lN1 tb n i) → Q 0 I' J) : p12_isCounted x I J Q := by
  have h8 := hq.2.2.1
  unfold p12_isCounted
  refine zt h8 (zs (fun e => ?_) (fun e => ?_))
  · unfold p12_isCounted_b21
    refine zt h8 (q_next hc him hq (fun I' J' hf hq' => ?_))
    unfold p12_isCounted_b32
    exact zt hq'.2.2.1 (k1 e I' J' hf hq')
  · refine q_bl hq h12 (by decide) (fun I' hb => ?_)
    unfold p12_isCounted_b21
    refine zf (by have := hb.2.2.1; omega) ?_
    unfold p12_isCounted_b32
    exact zf (by have := hb.2.2.1; omega) (k0 e I' hb)
theorem mw_numD {lo hi : Int} {Q : Int → mI → mI → Prop} (h8 : 0 < I 159 8) (kk : Q 0 I J) : p12_number lo hi I J Q := by
  unfold p12_number
  exact m_lexD h8 (zf (by omega) kk)
theorem mw_wordD {w : Int} {Q : mI → mI → Prop} (h8 : 0 < I 159 8) (kk : Q I J) : p12_mustWord w I J Q := by
  unfold p12_mustWord
  exact m_lexD h8 (zf (by omega) kk)
theorem mw_num {hi : Int} {Q : Int → mI → mI → Prop} (hc : ctD tb n m) (hq : mQ tb n m b i I J) (k1 : ∀ I' J' v, gNum (kN1 tb n) (vN1 tb n) hi i = Sum.inr (i + 1, v) → mFr I I' J J' → mQ tb n m b (i + 1) I' J' → Q v I' J') (k0 : ∀ I' v k i', gNum (kN1 tb n) (vN1 tb n) hi i = Sum.inl (k, i') → blR I I' k (lN1 tb n i') → Q v I' J) : p12_number 0 hi I J Q := by
  have h8 := hq.2.2.1
  unfold gNum at k1 k0
  have dead : ∀ (I' : mI) (v : Int), 0 < I' 159 8 → (∀ v, Q v I' J) → p12_number_b30 0 hi I' J Q := fun I' v h kk => by
    unfold p12_number_b30
    refine zf (by omega) ?_
    unfold p12_number_b58
    exact zf (by omega) (kk _)
  unfold p12_number
  refine q_lex hq (fun h12 => zt (by omega) ?_) (fun I' h5 hb => zf (by have := hb.2.2.1; omega) (k0 I' 0 1 i (by rw [if_neg (by omega)]) hb))
  by_cases k3 : kN1 tb n i = 3
  · rw [if_pos k3] at k1 k0
    have s2 : I 159 3 = 2 := by
      unfold kN1 at k3
      rcases hq.1.2.2 with ⟨a, -⟩ | ⟨a, -⟩ | ⟨_, c, -⟩ | ⟨a, -⟩ | ⟨a, -⟩
      · omega
      · omega
      · exact c
      · omega
      · omega
    have v6 := m_v3 hq.1 k3
    have vr := (tkM_of hc).2.2 i k3
    refine zt s2 ?_
    unfold p12_number_b30 p12_is
    rw [v6]
    refine zt h8 (zf (by omega) (zs (fun c => ?_) (fun c => ?_)))
    · rw [if_neg (by omega)] at k0
      refine zt rfl (q_bl hq h12 (by decide) (fun I' hb => ?_))
      unfold p12_number_b58
      exact zf (by have := hb.2.2.1; omega) (k0 I' _ 4 i rfl hb)
    · rw [if_pos (by omega)] at k1
      refine zf (by decide) ?_
      unfold p12_number_b58
      rw [v6]
      exact zt h8 (q_next hc (tkM_lt (tkM_of hc) hq.2.1 (by rw [k3]; decide)) hq (fun I' J' hf hq' => k1 I' J' _ rfl hf hq'))
  · rw [if_neg k3] at k0
    have s2 : I 159 3 ≠ 2 := by
      unfold kN1 at k3
      rcases hq.1.2.2 with ⟨a, c, -⟩ | ⟨a, c, -⟩ | ⟨a, c, -⟩ | ⟨a, c, -⟩ | ⟨a, _, ⟨_, d, _⟩ | ⟨_, d, _⟩⟩
      · omega
      · omega
      · exact absurd a k3
      · omega
      · exact absurd h12 d
      · omega
    refine zf s2 (q_bl hq h12 (by decide) (fun I' hb => dead I' 0 (by have := hb.2.2.1; omega) (fun v => k0 I' v 1 i rfl hb)))
theorem mw_word {k : Nat} {w : Int} {Q : mI → mI → Prop} (hc : ctD tb n m) (hq : mQ tb n m b i I J) (hw : w = ownM.getD k 0) (hk : k < 28) (k1 : kN1 tb n i = 1 ∧ vN1 tb n i = (k : Int) → ∀ I' J', mFr I I' J J' → mQ tb n m b (i + 1) I' J' → Q I' J') (k0 : ¬ (kN1 tb n i = 1 ∧ vN1 tb n i = (k : Int)) → ∀ I', blR I I' 1 (lN1 tb n i) → Q I' J) : p12_mustWord w I J Q := by
  have h8 := hq.2.2.1
  unfold p12_mustWord
  refine q_lex hq (fun h12 => zt (by omega) (m_isWk hc hq.2.1 hq.1 h12 hw hk (fun a => zf (by decide) ?_) (fun a => zt rfl (q_bl hq h12 (by decide) (fun I' hb => ?_))))) (fun I' h5 hb => zf (by have := hb.2.2.1; omega) (k0 (fun q => by omega) I' hb))
  · unfold p12_mustWord_b29
    exact zt h8 (q_next hc (tkM_lt (tkM_of hc) hq.2.1 (by rw [a.1]; decide)) hq (k1 a))
  · unfold p12_mustWord_b29
    exact zf (by have := hb.2.2.1; omega) (k0 a I' hb)
theorem m_tr {k : Nat} {w hi : Int} {Q : Int → mI → mI → Prop} (hc : ctD tb n m) (hq : mQ tb n m b i I J) (hw : w = ownM.getD k 0) (hk : k < 28) (k1 : ∀ I' J' v, gTr (kN1 tb n) (vN1 tb n) k hi i = Sum.inr (i + 2, v) → mFr I I' J J' → mQ tb n m b (i + 2) I' J' → Q v I' J') (k0 : ∀ I' J' v k' i', gTr (kN1 tb n) (vN1 tb n) k hi i = Sum.inl (k', i') → mBl b I I' J J' k' (lN1 tb n i') → (∀ z, z ≠ 159 → I' z = I z) → J' 177 = J 177 → Q v I' J') : p12_mustWord w I J (fun I3 J3 => p12_number 0 hi I3 J3 Q) := by
  unfold gTr at k1 k0
  refine mw_word hc hq hw hk (fun a I1 J1 hf hq1 => ?_) (fun a I1 hb => ?_)
  · rw [if_pos a] at k1 k0
    refine mw_num hc hq1 (fun I2 J2 v e hf2 hq2 => k1 I2 J2 v e (mFr_t hf hf2) hq2) (fun I2 v k i' e hb => k0 I2 J1 v k i' e (mBl_t (mFm_fr hf) (mBl_b hb)) (fun z hz => (hb.1 z hz).trans (hf.1 z hz)) (hf.2.2.1 177 (by decide)))
  · rw [if_neg a] at k0
    exact mw_numD (by have := hb.2.2.1; omega) (k0 I1 J 0 1 i rfl (mBl_b hb) hb.1 rfl)
theorem m_many {kd : Int} {Q : Int → Prop} (hM : mM b V F I J) (hb : I 159 32 = b ∧ (b = 0 ∨ b = 1)) (hkd : kd = 0 ∨ kd = 1 ∨ kd = 2) (kk : Q (V 1 kd)) : p12_manyOf kd I Q := by
  obtain ⟨⟨m0, m1, m2⟩, -⟩ := hM
  unfold p12_manyOf
  rw [hb.1, m0, m1, m2]
  rcases hkd with e | e | e <;> subst e
  · exact zt rfl ⟨by omega, kk⟩
  · exact zf (by decide) (zt rfl ⟨by omega, kk⟩)
  · exact zf (by decide) (zf (by decide) ⟨by omega, kk⟩)
theorem m_nameGo {kd p q : Int} {Q : Int → Prop} (hM : mM b V F I J) (hb : I 159 32 = b ∧ (b = 0 ∨ b = 1)) (hkd : kd = 0 ∨ kd = 1 ∨ kd = 2) (hcnt : V 1 kd ≤ 6) (hn : naR p q) (kk : Q (fdC V kd p)) : ∀ (d : Nat) (w : Int), w + d = 7 → 0 ≤ w → w ≤ V 1 kd → fdF (V 1 kd) (fun w => V 2 (kd * 6 + w)) p d w = fdC V kd p → p12_named_b3 kd q I J Q d w
  | 0, w, hw, h0, hwc, he => by omega
  | d + 1, w, hw, h0, hwc, he => by
    show p12_named_b3_body kd q I J Q (p12_named_b3 kd q I J Q d) w
    unfold p12_named_b3_body
    unfold fdF at he
    rw [hb.1]
    refine m_many hM hb hkd (zs (fun a => ?_) (fun a => ⟨by omega, by omega, by omega, by omega, by omega, zs (fun c => ?_) (fun c => ⟨by omega, ?_⟩)⟩))
    · rw [if_pos a] at he; rw [he]; exact kk
    · have x := hM.2.2.2.2.2.2.2.2.2.2 kd w (by omega) (by omega) h0 (by omega)
      have y := (naR_inj x hn).mpr c
      rw [if_neg a, if_pos y] at he; rw [he]; exact kk
    · have x := hM.2.2.2.2.2.2.2.2.2.2 kd w (by omega) (by omega) h0 (by omega)
      rw [if_neg a, if_neg (fun y => c ((naR_inj x hn).mp y))] at he
      exact m_nameGo hM hb hkd hcnt hn kk d (w + 1) (by omega) (by omega) (by omega) he
theorem m_name {kd p q : Int} {Q : Int → Prop} (hM : mM b V F I J) (hb : I 159 32 = b ∧ (b = 0 ∨ b = 1)) (hkd : kd = 0 ∨ kd = 1 ∨ kd = 2) (hcnt : 0 ≤ V 1 kd ∧ V 1 kd ≤ 6) (hn : naR p q) (kk : Q (fdC V kd p)) : p12_named kd q I J Q := by
  unfold p12_named
  exact ⟨7, m_nameGo hM hb hkd hcnt.2 hn kk 7 0 (by decide) (by decide) hcnt.1 rfl⟩
theorem cnt_k {kd : Int} (hw : WF V F) (hkd : kd = 0 ∨ kd = 1 ∨ kd = 2) : 0 ≤ V 1 kd ∧ V 1 kd ≤ 6 := by
  have w1 := hw.1
  rcases hkd with e | e | e <;> rw [e] <;> omega
theorem m_fresh {Q : Int → mI → mI → Prop} (hc : ctD tb n m) (hq : mQ tb n m b i I J) (hM : mM b V F I J) (hw : WF V F)
    (k1 : kN1 tb n i = 2 → (fdC V 0 (vN1 tb n i) = -1 ∧ fdC V 1 (vN1 tb n i) = -1 ∧ fdC V 2 (vN1 tb n i) = -1) → ∀ I' J', mFr I I' J J' → mQ tb n m b (i + 1) I' J' → Q (w256 tb n (pN tb n i)) I' J')
    (k2 : kN1 tb n i = 2 → ¬ (fdC V 0 (vN1 tb n i) = -1 ∧ fdC V 1 (vN1 tb n i) = -1 ∧ fdC V 2 (vN1 tb n i) = -1) → ∀ I' v, blR I I' 2 (lN1 tb n i) → Q v I' J) (k0 : kN1 tb n i ≠ 2 → ∀ I' v, blR I I' 1 (lN1 tb n i) → Q v I' J) : p12_fresh I J Q := by
  have h8 := hq.2.2.1
  have hn := hq.1.1.2.1
  have dead : ∀ I' : mI, 0 < I' 159 8 → (∀ v, Q v I' J) → p12_fresh_b96 I' J Q := fun I' h kk => by
    unfold p12_fresh_b96
    exact zf (by omega) (kk _)
  have bad : kN1 tb n i ≠ 2 → I 159 12 = -1 → p12_fresh_b32 I J Q := fun a h12 => by
    unfold p12_fresh_b32
    refine q_bl hq h12 (by decide) (fun I' hb => ?_)
    unfold p12_fresh_b41
    exact zf (by have := hb.2.2.1; omega) (dead I' (by have := hb.2.2.1; omega) (fun v => k0 a I' v hb))
  unfold p12_fresh
  refine q_lex hq (fun h12 => zt (by omega) ?_) (fun I' h5 hb => zf (by have := hb.2.2.1; omega) (k0 (by omega) I' 0 hb))
  by_cases kw : kN1 tb n i = 1 ∨ kN1 tb n i = 2
  · have j7 := m_J7 hq.1 kw
    refine zt j7.2 (m_isOwnT hc hq.2.1 hq.1 kw (fun a => zf (by decide) (bad (by omega) h12)) (fun a => zt rfl ?_))
    have nm := tk_nam hc hn hq.2.1 a
    unfold p12_fresh_b41
    rw [j7.1]
    have tk : ¬ (fdC V 0 (vN1 tb n i) = -1 ∧ fdC V 1 (vN1 tb n i) = -1 ∧ fdC V 2 (vN1 tb n i) = -1) → p12_fresh_b87 I J Q := fun t => by
      unfold p12_fresh_b87
      exact q_bl hq h12 (by decide) (fun I' hb => dead I' (by have := hb.2.2.1; omega) (fun v => k2 a t I' v hb))
    refine zt h8 (m_name hM hq.2.2.2 (Or.inl rfl) (cnt_k hw (Or.inl rfl)) nm (zs (fun e0 => m_name hM hq.2.2.2 (Or.inr (Or.inl rfl)) (cnt_k hw (Or.inr (Or.inl rfl))) nm (zs (fun e1 => m_name hM hq.2.2.2 (Or.inr (Or.inr rfl)) (cnt_k hw (Or.inr (Or.inr rfl))) nm (zs (fun e2 => ?_) (fun e => tk (fun t => e t.2.2)))) (fun e => tk (fun t => e t.2.1)))) (fun e => tk (fun t => e t.1))))
    unfold p12_fresh_b96
    rw [j7.1]
    exact zt h8 (q_next hc (tkM_lt (tkM_of hc) hq.2.1 (by rw [a]; decide)) hq (k1 a ⟨e0, e1, e2⟩))
  · exact zf (m_notW hq.1 h12 kw) (bad (fun q => kw (Or.inr q)) h12)
theorem m_knownD {kd tk : Int} {Q : Int → mI → mI → Prop} (h8 : 0 < I 159 8) (kk : Q 0 I J) : p12_known kd tk I J Q := by
  unfold p12_known
  exact m_lexD h8 (zf (by omega) kk)
theorem m_known {kd tk : Int} {Q : Int → mI → mI → Prop} (hc : ctD tb n m) (hq : mQ tb n m b i I J) (hM : mM b V F I J) (hw : WF V F) (hkd : kd = 0 ∨ kd = 1 ∨ kd = 2)
    (k1 : ∀ k, gFd (kN1 tb n) (vN1 tb n) V kd i = Sum.inr k → has1 tk k ≠ 1 → ∀ I' J', mFr I I' J J' → mQ tb n m b (i + 1) I' J' → Q k I' J') (k3 : ∀ k, gFd (kN1 tb n) (vN1 tb n) V kd i = Sum.inr k → has1 tk k = 1 → ∀ I', blR I I' 3 (lN1 tb n i) → Q 0 I' J) (k0 : ∀ I' k' i', gFd (kN1 tb n) (vN1 tb n) V kd i = Sum.inl (k', i') → blR I I' k' (lN1 tb n i') → Q 0 I' J) : p12_known kd tk I J Q := by
  have h8 := hq.2.2.1
  have hn := hq.1.1.2.1
  unfold gFd at k1 k3 k0
  have d91 : ∀ (I' : mI) (x : Int), 0 < I' 159 8 → Q 0 I' J → p12_known_b91 x I' J Q := fun I' x h kk => by
    unfold p12_known_b91
    refine zf (by omega) ?_
    unfold p12_known_b102
    exact zf (by omega) kk
  have bad : kN1 tb n i ≠ 2 → I 159 12 = -1 → p12_known_b32 kd tk I J Q := fun a h12 => by
    rw [if_neg a] at k0
    unfold p12_known_b32
    refine q_bl hq h12 (by decide) (fun I' hb => ?_)
    unfold p12_known_b41
    refine zf (by have := hb.2.2.1; omega) ?_
    unfold p12_known_b61
    exact zf (by have := hb.2.2.1; omega) (d91 I' _ (by have := hb.2.2.1; omega) (k0 I' 1 i rfl hb))
  unfold p12_known
  refine q_lex hq (fun h12 => zt (by omega) ?_) (fun I' h5 hb => zf (by have := hb.2.2.1; omega) (k0 I' 1 i (by rw [if_neg (by omega)]) hb))
  by_cases kw : kN1 tb n i = 1 ∨ kN1 tb n i = 2
  · have j7 := m_J7 hq.1 kw
    refine zt j7.2 (m_isOwnT hc hq.2.1 hq.1 kw (fun a => zf (by decide) (bad (by omega) h12)) (fun a => zt rfl ?_))
    have nm := tk_nam hc hn hq.2.1 a
    rw [if_pos a] at k1 k3 k0
    unfold p12_known_b41
    rw [j7.1]
    refine zt (by omega) (m_name hM hq.2.2.2 hkd (cnt_k hw hkd) nm ?_)
    unfold p12_known_b61
    refine zt h8 (zs (fun e => ?_) (fun e => ?_))
    · rw [if_pos e] at k0
      unfold p12_known_b82
      exact q_bl hq h12 (by decide) (fun I' hb => d91 I' _ (by have := hb.2.2.1; omega) (k0 I' 3 i rfl hb))
    · rw [if_neg e] at k1 k3
      unfold p12_has2
      refine zs (fun t => zf (by decide) ?_) (fun t => zt rfl ?_)
      · unfold p12_known_b82
        exact q_bl hq h12 (by decide) (fun I' hb => d91 I' _ (by have := hb.2.2.1; omega) (k3 _ rfl t I' hb))
      · unfold p12_known_b91
        refine zt h8 (q_next hc (tkM_lt (tkM_of hc) hq.2.1 (by rw [a]; decide)) hq (fun I' J' hf hq' => ?_))
        unfold p12_known_b102
        exact zt (by have := hq'.2.2.1; omega) (k1 _ rfl t I' J' hf hq')
  · exact zf (m_notW hq.1 h12 kw) (bad (fun q => kw (Or.inr q)) h12)
end
