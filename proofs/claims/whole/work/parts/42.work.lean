/-! The class works out a formula -/
theorem up_fr {α : Type} {I : Nat → Int → α} {a : Nat} {k : Int} {v : α} : ∀ b, b ≠ a → up I a k v b = I b := fun b hb => funext fun j => up_o I _ _ _ hb
theorem len_c (x : Int) (s : List Int) : ((x :: s).length : Int) = (s.length : Int) + 1 := by rw [List.length_cons]; omega
theorem wo_step {a : Nat} {en : Int} {I : mI} {Q : Int → mI → Prop} {f : Nat} {i : Int} {J : mI} {q : Int × Int} {ts ts' : List Bool} {st : List Int} {env : Int → Int} (hi : 0 ≤ i) (hi2 : i < 1600) (he : i < en) (hq : I (a + 6) i = enc q) (henv : 1 ≤ q.1 → q.1 ≤ 9 → I 5 (q.1 - 1) = env q.1) (ht : tyS q ts = some ts') (hv : tv ts st) (hs : stk J 6 st)
    (k : ∀ J' : mI, stk J' 6 (evS env q st) → (∀ b, b ≠ 6 → J' b = J b) → p8_workOut_b50 a en I Q f ((evS env q st).length : Int) (i + 1) J') : p8_workOut_b50 a en I Q (f + 1) (st.length : Int) i J := by
  obtain ⟨h0, hc⟩ := tyS_cases ht hv
  have hlen := tv_len hv
  have hrg : rg (i + 1) := by omega
  show p8_workOut_b50_body a en I Q (p8_workOut_b50 a en I Q f) (st.length : Int) i J
  unfold p8_workOut_b50_body
  rw [if_neg (by omega)]
  refine ⟨⟨hi, hi2⟩, ?_⟩
  rw [hq]
  unfold evS at k
  rcases hc with ⟨e, a1, a2, rfl⟩ | ⟨e1, e2, rfl⟩ | ⟨e, rfl⟩ | ⟨e, r, x, s, rfl, rfl, hx, hr, rfl⟩ | ⟨e, r, c, b, a', s, rfl, rfl, hc, hb, ha, hr, rfl⟩ | ⟨e1, e2, t, u, r, b, a', s, rfl, rfl, ha, hb, h4, hr, rfl, hu⟩
  · have en' : enc q = q.2 := by unfold enc; rw [if_pos e]
    rw [if_pos e] at k
    rw [en', if_neg (by omega), if_pos (by omega), if_neg (by omega)]
    exact ⟨⟨by omega, by omega⟩, wLet_r ⟨by omega, hrg, k _ (stk_push hs rfl) up_fr⟩⟩
  · have en' : enc q = -q.1 := by unfold enc; rw [if_neg (by omega), if_pos e2]
    rw [if_neg (by omega), if_pos e2] at k
    rw [en', if_neg (by omega), if_pos (by omega), if_pos (by omega), show (-1 - -q.1 : Int) = q.1 - 1 by omega, henv e1 e2]
    exact ⟨by omega, ⟨by omega, by omega⟩, ⟨by omega, by omega⟩, wLet_r ⟨by omega, hrg, k _ (stk_push hs rfl) up_fr⟩⟩
  · have en' : enc q = 1 := by unfold enc; rw [if_neg (by omega), if_neg (by omega), if_pos e]
    rw [if_neg (by omega), if_neg (by omega), if_pos e] at k
    rw [en', if_neg (by omega), if_pos (by omega), if_neg (by omega)]
    exact ⟨⟨by omega, by omega⟩, wLet_r ⟨by omega, hrg, k _ (stk_push hs rfl) up_fr⟩⟩
  · have en' : enc q = -22 := by unfold enc; rw [if_neg (by omega), if_neg (by omega), if_neg (by omega)]; omega
    rw [if_neg (by omega), if_neg (by omega), if_neg (by omega), if_pos e] at k
    have hl := len_c x s
    rw [en', if_pos (by omega), if_pos rfl, if_neg (by omega)]
    have hx1 : J 6 (((x :: s).length : Int) - 1) = x := by rw [hl, show (s.length : Int) + 1 - 1 = s.length by omega]; exact hs.1
    rw [hx1]
    refine ⟨by omega, by omega, ⟨by omega, by omega⟩, by omega, ⟨by omega, by omega⟩, wLet_r ⟨hrg, ?_⟩⟩
    have k2 := k (up J 6 (((x :: s).length : Int) - 1) (1 - x)) (stk_push hs.2 (by omega)) up_fr
    rw [len_c] at k2
    rw [hl]; exact k2
  · have en' : enc q = -23 := by unfold enc; rw [if_neg (by omega), if_neg (by omega), if_neg (by omega)]; omega
    rw [if_neg (by omega), if_neg (by omega), if_neg (by omega), if_neg (by omega), if_pos e] at k
    have hl : ((c :: b :: a' :: s).length : Int) = (s.length : Int) + 3 := by rw [len_c, len_c, len_c]; omega
    have hl2 : ((b :: a' :: s).length : Int) = (s.length : Int) + 2 := by rw [len_c, len_c]; omega
    have hl1 : ((a' :: s).length : Int) = (s.length : Int) + 1 := by rw [len_c]
    obtain ⟨s1, s2, s3, s4⟩ := hs
    rw [hl2] at s1; rw [hl1] at s2
    rw [hl, en', if_pos (by omega), if_neg (by omega)]
    unfold p8_workOut_b150
    rw [if_pos rfl, if_neg (by omega), show (s.length : Int) + 3 + -2 - 1 = s.length by omega, show (s.length : Int) + 3 + -2 = s.length + 1 by omega, show (s.length : Int) + 1 + 1 = s.length + 2 by omega, s1, s2, s3]
    refine ⟨by omega, by omega, by omega, ⟨by omega, by omega⟩, ?_⟩
    replace k : ∀ J' : mI, stk J' 6 ((if a' = 1 then b else c) :: s) → (∀ b, b ≠ 6 → J' b = J b) → p8_workOut_b50 a en I Q f ((((if a' = 1 then b else c) :: s).length : Nat) : Int) (i + 1) J' := k
    by_cases hz : a' = 0
    · rw [if_pos hz]
      rw [if_neg (by omega)] at k
      refine ⟨by omega, ⟨by omega, by omega⟩, ⟨by omega, by omega⟩, wLet_r ⟨hrg, ?_⟩⟩
      have k2 := k (up J 6 (s.length : Int) c) (stk_push s4 rfl) up_fr
      rw [len_c] at k2; exact k2
    · rw [if_neg hz]
      rw [if_pos (by omega)] at k
      refine ⟨⟨by omega, by omega⟩, ⟨by omega, by omega⟩, wLet_r ⟨hrg, ?_⟩⟩
      have k2 := k (up J 6 (s.length : Int) b) (stk_push s4 rfl) up_fr
      rw [len_c] at k2; exact k2
  · have en' : enc q = 21 - q.1 := by unfold enc; rw [if_neg (by omega), if_neg (by omega), if_neg (by omega)]
    rw [if_neg (by omega), if_neg (by omega), if_neg (by omega), if_neg (by omega), if_neg (by omega)] at k
    have hl : ((b :: a' :: s).length : Int) = (s.length : Int) + 2 := by rw [len_c, len_c]; omega
    have hl1 : ((a' :: s).length : Int) = (s.length : Int) + 1 := by rw [len_c]
    obtain ⟨s1, s2, s3⟩ := hs
    rw [hl1] at s1
    rw [hl, en', if_pos (by omega), if_neg (by omega)]
    unfold p8_workOut_b150
    rw [if_neg (by omega)]
    unfold p8_workOut_b206
    rw [if_neg (by omega), if_neg (by omega), show (s.length : Int) + 2 + -1 - 1 = s.length by omega, show (s.length : Int) + 2 + -1 = s.length + 1 by omega, s1, s2]
    refine ⟨by omega, by omega, by omega, ⟨by omega, by omega⟩, ⟨by omega, by omega⟩, join_c e1 e2 ha hb h4 ⟨⟨by omega, by omega⟩, wLet_r ⟨hrg, ?_⟩⟩⟩
    have k2 := k (up J 6 (s.length : Int) (opF q.1 a' b)) (stk_push s3 rfl) up_fr
    rw [len_c] at k2; exact k2
