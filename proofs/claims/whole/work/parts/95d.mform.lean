/-! THE READERS: the model's machine -/
def vN1 (tb : Int → Int) (n : Int) (i : Nat) : Int := tVl tb n (pN tb n i)
def lN1 (tb : Int → Int) (n : Int) (i : Nat) : Int := tPl tb n (pN tb n i)
def mS (tb : Int → Int) (n : Int) (i : Nat) (I J : mI) : Prop := mTp tb n I ∧ mTk tb n (pN tb n i) I J
theorem mS_f {tb : Int → Int} {n : Int} {i : Nat} {I I' J J' : mI} (h : mS tb n i I J) (h160 : I' 160 = I 160) (hj : ∀ j, 2 ≤ j → (j ≤ 6 ∨ j = 12) → I' 159 j = I 159 j) (hJ : J' 159 7 = J 159 7) : mS tb n i I' J' := by
  refine ⟨mTp_f h160 (hj 2 (by decide) (by decide)) h.1, ?_⟩
  have t := h.2
  unfold mTk at t ⊢
  rw [hj 3 (by decide) (by decide), hj 4 (by decide) (by decide), hj 5 (by decide) (by decide), hj 6 (by decide) (by decide), hj 12 (by decide) (by decide), hJ]
  exact t
/-- a word at p: its letters -/
theorem tk_wd {tb : Int → Int} {n p : Int} (h0 : 0 ≤ p) (hn : n ≤ 1600) (h : tKd tb n p = 1 ∨ tKd tb n p = 2) : ∃ ls : List Int, lvOK ls ∧ ls.length ≤ 6 ∧ ls ≠ [] ∧ tKd tb n p = wdK (naP 27 ls) ∧ tVl tb n p = wdV (naP 27 ls) ∧ w256 tb n p = naP 256 (ls.map (· + 96)) := by
  unfold tKd at h
  by_cases a : n ≤ p
  · rw [if_pos a] at h; omega
  rw [if_neg a] at h
  by_cases c : 97 ≤ tb p ∧ tb p ≤ 122
  · rw [if_pos c] at h
    by_cases t : tch tb p
    · rw [if_pos t] at h; omega
    rw [if_neg t] at h
    by_cases w : enW tb n p - p ≤ 6
    · have r := rnF_rg (lo := 97) (hi := 122) (tb := tb) (n := n) 1601 p
      have r2 := rnF_end (lo := 97) (hi := 122) (tb := tb) (n := n) 1601 p (by omega)
      have ee : rnF 97 122 tb n 1601 p = enW tb n p := rfl
      rw [ee] at r r2
      have lp : p < enW tb n p := by
        rcases Int.lt_or_le p (enW tb n p) with x | x
        · exact x
        · have e : enW tb n p = p := by omega
          rw [e] at r2
          rcases r2 with y | y
          · omega
          · exact absurd c y
      have lo := lt_ok (tb := tb) (p := p) (enW tb n p - p).toNat (fun j a b => r.2.2.2 j a (by omega))
      refine ⟨ltR tb p (enW tb n p - p).toNat, lo.1, by rw [lo.2]; omega, fun e => ?_, ?_, ?_, rfl⟩
      · have := lo.2
        rw [e, List.length_nil] at this
        omega
      · unfold tKd; rw [if_neg a, if_pos c, if_neg t, if_pos w]; rfl
      · unfold tVl; rw [if_neg a, if_pos c, if_neg t, if_pos w]; rfl
    · rw [if_neg w] at h; omega
  · rw [if_neg c] at h
    by_cases d : 48 ≤ tb p ∧ tb p ≤ 57
    · rw [if_pos d] at h
      by_cases t : tch tb p
      · rw [if_pos t] at h; omega
      · rw [if_neg t] at h
        by_cases w : enD tb n p - p ≤ 4
        · rw [if_pos w] at h; omega
        · rw [if_neg w] at h; omega
    · rw [if_neg d] at h
      by_cases s : 0 ≤ sgx (tb p)
      · rw [if_pos s] at h; omega
      · rw [if_neg s] at h; omega
theorem tk_own {tb : Int → Int} {n p : Int} (h0 : 0 ≤ p) (hn : n ≤ 1600) (h : tKd tb n p = 1 ∨ tKd tb n p = 2) {k : Nat} (hk : k < 28) : w256 tb n p = ownM.getD k 0 ↔ (tKd tb n p = 1 ∧ tVl tb n p = (k : Int)) := by
  obtain ⟨ls, l1, l2, l3, e1, e2, e3⟩ := tk_wd h0 hn h
  rw [e3, e1, e2, ← own_iff l1 l2 hk]
  unfold wdK wdV
  refine ⟨fun q => ?_, fun q => ?_⟩
  · rw [if_neg (by omega), if_neg (by omega)]; exact ⟨rfl, q⟩
  · by_cases e : ixO (naP 27 ls) ownL 0 = -1
    · rw [if_pos e] at q; exact absurd q.1 (by decide)
    · rw [if_neg e, if_neg e] at q; exact q.2
/-- own numbers -/
theorem tk_1 {tb : Int → Int} {n p : Int} (h0 : 0 ≤ p) (hn : n ≤ 1600) (h : tKd tb n p = 1) : 0 ≤ tVl tb n p ∧ tVl tb n p < 28 := by
  obtain ⟨ls, l1, l2, l3, e1, e2, e3⟩ := tk_wd h0 hn (Or.inl h)
  rw [e1] at h
  rw [e2]
  unfold wdK at h
  unfold wdV
  by_cases e : ixO (naP 27 ls) ownL 0 = -1
  · rw [if_pos e] at h; exact absurd h (by decide)
  · rw [if_neg e]
    rcases ixO_rg (naP 27 ls) ownL 0 (by decide) with q | ⟨q1, q2, q3⟩
    · exact absurd q e
    · rw [ownL_len] at q2
      omega
theorem tk_3 {tb : Int → Int} {n p : Int} (h : tKd tb n p = 3) : 0 ≤ tVl tb n p ∧ tVl tb n p ≤ 9999 := by
  unfold tKd at h
  by_cases a : n ≤ p
  · rw [if_pos a] at h; omega
  rw [if_neg a] at h
  by_cases c : 97 ≤ tb p ∧ tb p ≤ 122
  · rw [if_pos c] at h
    by_cases t : tch tb p
    · rw [if_pos t] at h; omega
    rw [if_neg t] at h
    by_cases w : enW tb n p - p ≤ 6
    · rw [if_pos w] at h
      unfold wdK at h
      split at h <;> omega
    · rw [if_neg w] at h; omega
  · rw [if_neg c] at h
    by_cases d : 48 ≤ tb p ∧ tb p ≤ 57
    · rw [if_pos d] at h
      by_cases t : tch tb p
      · rw [if_pos t] at h; omega
      · rw [if_neg t] at h
        by_cases w : enD tb n p - p ≤ 4
        · unfold tVl
          rw [if_neg a, if_neg c, if_pos d, if_neg t, if_pos w]
          have r := rnF_rg (lo := 48) (hi := 57) (tb := tb) (n := n) 1601 p
          have ee : rnF 48 57 tb n 1601 p = enD tb n p := rfl
          rw [ee] at r
          have x := nm_rg (tb := tb) (p := p) (enD tb n p - p).toNat (fun j a b => r.2.2.2 j a (by omega))
          have p10 : ((10 ^ (enD tb n p - p).toNat : Nat) : Int) ≤ 10000 := by
            have h6 : ∀ x : Nat, x ≤ 4 → ((10 ^ x : Nat) : Int) ≤ 10000 := by decide
            exact h6 _ (by omega)
          generalize ((10 ^ (enD tb n p - p).toNat : Nat) : Int) = pw at x p10
          omega
        · rw [if_neg w] at h; omega
    · rw [if_neg d] at h
      by_cases s : 0 ≤ sgx (tb p)
      · rw [if_pos s] at h; omega
      · rw [if_neg s] at h; omega
theorem tkM_of {tb : Int → Int} {n : Int} {m : Nat} (h : ctD tb n m) : tkM (kN1 tb n) (vN1 tb n) m := ⟨h.2.1, h.2.2, fun _ e => tk_3 e⟩
section
variable {tb : Int → Int} {n : Int} {m : Nat} {i : Nat} {I J : mI}
theorem pN_i (hc : ctD tb n m) (hn : 0 ≤ n ∧ n ≤ 1600) (him : i ≤ m) : (i : Int) ≤ pN tb n i ∧ eN tb n i ≤ pN tb n i ∧ pN tb n i ≤ n := pN_rg hn.1 hn.2 (fun j hj => hc.2.1 j (by omega))
theorem m_isSg {c : Int} {Q : Int → Prop} (h : mS tb n i I J) (hc : 0 ≤ sgx c) (k1 : kN1 tb n i = 4 ∧ vN1 tb n i = c → Q 1) (k0 : ¬ (kN1 tb n i = 4 ∧ vN1 tb n i = c) → Q 0) : p12_isSign c I Q := by
  unfold kN1 vN1 at k1 k0
  unfold p12_isSign
  rcases h.2.2 with ⟨a, b, -⟩ | ⟨a, b, -⟩ | ⟨a, b, -⟩ | ⟨a, b, _, d, _⟩ | ⟨a, b, c1⟩
  · exact zf (by omega) (k0 (fun q => by omega))
  · exact zf (by omega) (k0 (fun q => by omega))
  · exact zf (by omega) (k0 (fun q => by omega))
  · refine zt b ?_
    rw [d]
    exact zs (fun e => k1 ⟨a, e⟩) (fun e => k0 (fun q => e q.2))
  · rcases c1 with ⟨_, _, d⟩ | ⟨_, d, _, e⟩
    · exact zf d (k0 (fun q => by omega))
    · exact zt d (zf (fun q => by rw [q] at e; omega) (k0 (fun q => by omega)))
theorem m_isWk {k : Nat} {w : Int} {Q : Int → Prop} (hc : ctD tb n m) (him : i ≤ m) (h : mS tb n i I J) (hl : I 159 12 = -1) (hw : w = ownM.getD k 0) (hk : k < 28) (k1 : kN1 tb n i = 1 ∧ vN1 tb n i = (k : Int) → Q 1) (k0 : ¬ (kN1 tb n i = 1 ∧ vN1 tb n i = (k : Int)) → Q 0) : p12_isWord w I J Q := by
  have hn := h.1.2.1
  have p := pN_i hc hn him
  unfold kN1 vN1 at k1 k0
  unfold p12_isWord
  rcases h.2.2 with ⟨a, b, -⟩ | ⟨a, b, _, d, -⟩ | ⟨a, b, -⟩ | ⟨a, b, -⟩ | ⟨a, b, c1⟩
  · exact zf (by omega) (k0 (fun q => by omega))
  · refine zt b ?_
    have ow := tk_own (by omega) hn.2 a hk
    rw [d, hw]
    exact zs (fun e => k1 (ow.mp e)) (fun e => k0 (fun q => e (ow.mpr q)))
  · exact zf (by omega) (k0 (fun q => by omega))
  · exact zf (by omega) (k0 (fun q => by omega))
  · rcases c1 with ⟨c1, c2, _⟩ | ⟨_, d, _, e⟩
    · exact absurd hl c2
    · exact zf (by omega) (k0 (fun q => by omega))
theorem m_next {Q : mI → mI → Prop} (hc : ctD tb n m) (him : i < m) (h : mS tb n i I J) (kk : ∀ I' J', mFr I I' J J' → mS tb n (i + 1) I' J' → Q I' J') : p12_ahead I J Q := by
  have hn := h.1.2.1
  have k := hc.2.1 i him
  have e := eN_rg hn.1 hn.2 (i + 1) (fun j hj => hc.2.1 j (by omega))
  have e5 : I 159 5 = eN tb n (i + 1) := by
    rcases h.2.2 with ⟨a, -⟩ | ⟨_, _, _, _, _, b⟩ | ⟨_, _, _, _, b⟩ | ⟨_, _, _, _, b⟩ | ⟨a, -⟩
    · exact absurd a k.1
    · exact b
    · exact b
    · exact b
    · exact absurd a k.2
  refine m_lookA h.1 e5 (by omega) e.2 (fun I' J' hf ht => kk I' J' hf ⟨mTp_f (hf.1 160 (by decide)) (hf.2.1 2 (by decide) (by decide) (by decide) (by decide) (by decide)) h.1, ht⟩)
/-- what is wrong with the token itself -/
theorem m_lexL {Q : mI → Prop} (h : mS tb n i I J) (h8 : I 159 8 = 0) (k1 : I 159 12 = -1 → Q I) (k0 : ∀ I', kN1 tb n i = 5 → (∀ z, z ≠ 159 → I' z = I z) → (∀ j, j ≠ 8 → j ≠ 9 → I' 159 j = I 159 j) → I' 159 8 = 1 → I' 159 9 = lN1 tb n i → Q I') : p12_lex I Q := by
  unfold p12_lex
  refine zs k1 (fun e => ?_)
  have x : tKd tb n (pN tb n i) = 5 ∧ I 159 12 = tPl tb n (pN tb n i) := by
    rcases h.2.2 with ⟨_, _, b, _⟩ | ⟨_, _, b, -⟩ | ⟨_, _, b, -⟩ | ⟨_, _, b, -⟩ | ⟨a, _, ⟨b, _⟩ | ⟨b, _⟩⟩
    · exact absurd b e
    · exact absurd b e
    · exact absurd b e
    · exact absurd b e
    · exact ⟨a, b⟩
    · exact absurd b e
  unfold p12_blame
  refine zt (by omega) (m_putK (fun I1 q1 g1 f1 => m_putK (fun I2 q2 g2 f2 => k0 I2 x.1 (fun z hz => (f2 z hz).trans (f1 z hz)) (fun j a b => (g2 j b).trans (g1 j a)) ((g2 8 (by decide)).trans q1) (q2.trans x.2))))
theorem m_pl (h : mS tb n i I J) (hl : I 159 12 = -1) : I 159 4 = lN1 tb n i := by
  unfold lN1
  have h4 := h.2.1
  have no : tKd tb n (pN tb n i) ≠ 5 → tPl tb n (pN tb n i) = pN tb n i := fun q => by
    revert q
    unfold tKd tPl
    by_cases a : n ≤ pN tb n i
    · rw [if_pos a, if_pos a]; exact fun _ => rfl
    rw [if_neg a, if_neg a]
    by_cases c : 97 ≤ tb (pN tb n i) ∧ tb (pN tb n i) ≤ 122
    · rw [if_pos c, if_pos c]
      by_cases t : tch tb (pN tb n i)
      · rw [if_pos t, if_pos t]; exact fun _ => rfl
      rw [if_neg t, if_neg t]
      by_cases w : enW tb n (pN tb n i) - pN tb n i ≤ 6
      · rw [if_pos w, if_pos w]; exact fun _ => rfl
      · rw [if_neg w, if_neg w]; exact fun q => absurd rfl q
    · rw [if_neg c, if_neg c]
      by_cases d : 48 ≤ tb (pN tb n i) ∧ tb (pN tb n i) ≤ 57
      · rw [if_pos d, if_pos d]
        by_cases t : tch tb (pN tb n i)
        · rw [if_pos t, if_pos t]; exact fun _ => rfl
        rw [if_neg t, if_neg t]
        by_cases w : enD tb n (pN tb n i) - pN tb n i ≤ 4
        · rw [if_pos w, if_pos w]; exact fun _ => rfl
        · rw [if_neg w, if_neg w]; exact fun q => absurd rfl q
      · rw [if_neg d, if_neg d]; exact fun _ => rfl
  rcases h.2.2 with ⟨a, -⟩ | ⟨a, -⟩ | ⟨a, -⟩ | ⟨a, -⟩ | ⟨a, _, ⟨b, c, _⟩ | ⟨_, _, b, _⟩⟩
  · rw [no (by omega)]; exact h4
  · rw [no (by omega)]; exact h4
  · rw [no (by omega)]; exact h4
  · rw [no (by omega)]; exact h4
  · exact absurd hl c
  · rw [← b.1]; exact h4
theorem m_blmL {k pl : Int} {Q : mI → Prop} (h8 : I 159 8 = 0) (kk : ∀ I', (∀ z, z ≠ 159 → I' z = I z) → (∀ j, j ≠ 8 → j ≠ 9 → I' 159 j = I 159 j) → I' 159 8 = k → I' 159 9 = pl → Q I') : p12_blame k pl I Q := by
  unfold p12_blame
  exact zt (by omega) (m_putK (fun I1 q1 g1 f1 => m_putK (fun I2 q2 g2 f2 => kk I2 (fun z hz => (f2 z hz).trans (f1 z hz)) (fun j a b => (g2 j b).trans (g1 j a)) ((g2 8 (by decide)).trans q1) q2)))
theorem m_blmD {k pl : Int} {Q : mI → Prop} (h8 : 0 < I 159 8) (kk : Q I) : p12_blame k pl I Q := by
  unfold p12_blame
  exact zf (by omega) kk
theorem m_lexD {Q : mI → Prop} (h8 : 0 < I 159 8) (kk : Q I) : p12_lex I Q := by
  unfold p12_lex
  exact zs (fun _ => kk) (fun _ => m_blmD h8 kk)
end
