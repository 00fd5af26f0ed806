/-! The model reckons a formula -/
theorem ro_step {w en : Int} {I : mI} {Q : Int → mI → Prop} {f : Nat} {i : Int} {J : mI} {q : Int × Int} {ts ts' : List Bool} {st : List Int} {env : Int → Int} (hbk : 0 ≤ I 159 13 ∧ I 159 13 < 2) (hw : 0 ≤ w ∧ w < 3) (hen : 1600 * I 159 13 + I 174 (3 * I 159 13 + w) = en) (hen2 : en ≤ 3200) (hi : 0 ≤ i) (he : i < en) (hq : I 175 i = q.1) (hq2 : q.1 = 0 → I 176 i = q.2) (henv : 1 ≤ q.1 → q.1 ≤ 9 → I 194 q.1 = env q.1) (ht : tyS q ts = some ts') (hv : tv ts st) (hs : stk J 193 st)
    (k : ∀ J' : mI, stk J' 193 (evS env q st) → (∀ b, b ≠ 193 → J' b = J b) → p12_reckons_b25 w I Q f ((evS env q st).length : Int) (i + 1) J') : p12_reckons_b25 w I Q (f + 1) (st.length : Int) i J := by
  obtain ⟨h0, hc⟩ := tyS_cases ht hv
  have hlen := tv_len hv
  have hrg : rg (i + 1) := by omega
  show p12_reckons_b25_body w I Q (p12_reckons_b25 w I Q f) (st.length : Int) i J
  unfold p12_reckons_b25_body
  rw [hen]
  refine ⟨by omega, by omega, by omega, ⟨by omega, by omega⟩, by omega, ?_⟩
  rw [if_neg (by omega)]
  refine ⟨⟨hi, by omega⟩, ?_⟩
  rw [hq]
  unfold evS at k
  rcases hc with ⟨e, a1, a2, rfl⟩ | ⟨e1, e2, rfl⟩ | ⟨e, rfl⟩ | ⟨e, r, x, s, rfl, rfl, hx, hr, rfl⟩ | ⟨e, r, c, b, a', s, rfl, rfl, hc, hb, ha, hr, rfl⟩ | ⟨e1, e2, t, u, r, b, a', s, rfl, rfl, ha, hb, h4, hr, rfl, hu⟩
  · rw [if_pos e] at k
    rw [if_neg (by omega), if_pos e, hq2 e]
    exact ⟨⟨by omega, by omega⟩, ⟨by omega, by omega⟩, wLet_r ⟨by omega, hrg, k _ (stk_push hs rfl) up_fr⟩⟩
  · rw [if_neg (by omega), if_pos e2] at k
    rw [if_neg (by omega), if_neg (by omega), if_neg (by omega), henv e1 e2]
    exact ⟨⟨by omega, by omega⟩, ⟨by omega, by omega⟩, wLet_r ⟨by omega, hrg, k _ (stk_push hs rfl) up_fr⟩⟩
  · rw [if_neg (by omega), if_neg (by omega), if_pos e] at k
    rw [if_neg (by omega), if_neg (by omega), if_pos e]
    exact ⟨⟨by omega, by omega⟩, wLet_r ⟨by omega, hrg, k _ (stk_push hs rfl) up_fr⟩⟩
  · rw [if_neg (by omega), if_neg (by omega), if_neg (by omega), if_pos e] at k
    have hl := len_c x s
    rw [if_pos (by omega), if_pos e]
    have hx1 : J 193 (((x :: s).length : Int) - 1) = x := by rw [hl, show (s.length : Int) + 1 - 1 = s.length by omega]; exact hs.1
    rw [hx1]
    refine ⟨by omega, by omega, ⟨by omega, by omega⟩, by omega, ⟨by omega, by omega⟩, wLet_r ⟨hrg, ?_⟩⟩
    have k2 := k (up J 193 (((x :: s).length : Int) - 1) (1 - x)) (stk_push hs.2 (by omega)) up_fr
    rw [len_c] at k2
    rw [hl]; exact k2
  · rw [if_neg (by omega), if_neg (by omega), if_neg (by omega), if_neg (by omega), if_pos e] at k
    have hl : ((c :: b :: a' :: s).length : Int) = (s.length : Int) + 3 := by rw [len_c, len_c, len_c]; omega
    have hl2 : ((b :: a' :: s).length : Int) = (s.length : Int) + 2 := by rw [len_c, len_c]; omega
    have hl1 : ((a' :: s).length : Int) = (s.length : Int) + 1 := by rw [len_c]
    obtain ⟨s1, s2, s3, s4⟩ := hs
    rw [hl2] at s1; rw [hl1] at s2
    rw [hl, if_pos (by omega), if_neg (by omega), if_pos e]
    rw [show (s.length : Int) + 3 + -2 - 1 = s.length by omega, show (s.length : Int) + 3 + -2 = s.length + 1 by omega, show (s.length : Int) + 1 + 1 = s.length + 2 by omega, s1, s2, s3]
    refine ⟨by omega, by omega, by omega, ⟨by omega, by omega⟩, ?_⟩
    replace k : ∀ J' : mI, stk J' 193 ((if a' = 1 then b else c) :: s) → (∀ b, b ≠ 193 → J' b = J b) → p12_reckons_b25 w I Q f ((((if a' = 1 then b else c) :: s).length : Nat) : Int) (i + 1) J' := k
    by_cases hz : a' = 1
    · rw [if_pos hz]
      rw [if_pos hz] at k
      refine ⟨⟨by omega, by omega⟩, ⟨by omega, by omega⟩, wLet_r ⟨hrg, ?_⟩⟩
      have k2 := k (up J 193 (s.length : Int) b) (stk_push s4 rfl) up_fr
      rw [len_c] at k2; exact k2
    · rw [if_neg hz]
      rw [if_neg hz] at k
      refine ⟨by omega, ⟨by omega, by omega⟩, ⟨by omega, by omega⟩, wLet_r ⟨hrg, ?_⟩⟩
      have k2 := k (up J 193 (s.length : Int) c) (stk_push s4 rfl) up_fr
      rw [len_c] at k2; exact k2
  · rw [if_neg (by omega), if_neg (by omega), if_neg (by omega), if_neg (by omega), if_neg (by omega)] at k
    have hl : ((b :: a' :: s).length : Int) = (s.length : Int) + 2 := by rw [len_c, len_c]; omega
    have hl1 : ((a' :: s).length : Int) = (s.length : Int) + 1 := by rw [len_c]
    obtain ⟨s1, s2, s3⟩ := hs
    rw [hl1] at s1
    rw [hl, if_pos (by omega), if_neg (by omega), if_neg (by omega)]
    rw [show (s.length : Int) + 2 + -1 - 1 = s.length by omega, show (s.length : Int) + 2 + -1 = s.length + 1 by omega, s1, s2]
    refine ⟨by omega, by omega, by omega, ⟨by omega, by omega⟩, ⟨by omega, by omega⟩, two_m e1 ha hb ⟨⟨by omega, by omega⟩, wLet_r ⟨hrg, ?_⟩⟩⟩
    have k2 := k (up J 193 (s.length : Int) (opF q.1 a' b)) (stk_push s3 rfl) up_fr
    rw [len_c] at k2; exact k2
