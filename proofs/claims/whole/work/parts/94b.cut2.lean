/-! THE READERS: a word, a number -/
def f4r (I I' : mI) : Prop := (∀ z, z ≠ 142 → I' z = I z) ∧ ∀ j, j ≠ 4 → I' 142 j = I 142 j
theorem tpC_4 {I I' : mI} {n : Int} {tb : Int → Int} (hf : f4r I I') (h : tpC I n tb) : tpC I' n tb := by
  unfold tpC; rw [hf.1 2 (by decide), hf.1 3 (by decide)]; exact h
def wdK (w : Int) : Int := if ixO w ownL 0 = -1 then 2 else 1
def wdV (w : Int) : Int := if ixO w ownL 0 = -1 then w else ixO w ownL 0
theorem na_s {m : Int} {tb : Int → Int} {p : Int} {d : Nat} : naP m (ltR tb p (d + 1)) = naP m (ltR tb p d) * m + (tb (p + d) - 96) := rfl
theorem na27_b5 (ls : List Int) (h : lvOK ls) (hl : ls.length ≤ 5) : naP 27 ls ≤ 14348906 := by
  have x := na27_b (1 :: ls) (fun y hy => by
    rcases List.mem_cons.mp hy with e | e
    · rw [e]; decide
    · exact h y e) (by rw [List.length_cons]; omega)
  have e : naP 27 (1 :: ls) = naP 27 ls * 27 + 1 := rfl
  omega
theorem c_wdGo {I0 : mI} {c n p e : Int} {tb : Int → Int} {Q : Int → mI → Prop} (ht : tpC I0 n tb) (hc : I0 142 3 = c) (c0 : 0 ≤ c ∧ c < 1601) (h0 : 0 ≤ p) (hen : e ≤ n) (hl : ∀ j, p ≤ j → j < e → 97 ≤ tb j ∧ tb j ≤ 122) (he : n ≤ e ∨ ¬ (97 ≤ tb e ∧ tb e ≤ 122))
    (hw : e - p ≤ 6 → ∀ I', tkF I0 I' c (wdK (naP 27 (ltR tb p (e - p).toNat))) (wdV (naP 27 (ltR tb p (e - p).toNat))) p e → Q (wdK (naP 27 (ltR tb p (e - p).toNat))) I')
    (hb : 6 < e - p → ∀ I', tkF I0 I' c 5 p (p + 6) (p + 6) → Q 5 I') :
    ∀ (f d : Nat) (I : mI), d + f = 6 → p + d ≤ e → f4r I0 I → I 142 4 = p + d → p10_cutWord_b7 p Q (f + 1) (naP 27 (ltR tb p d)) I := by
  have hn := ht.2.1
  -- the word is over
  have fin : ∀ (d : Nat) (I : mI), d ≤ 6 → p + d ≤ e → (d = 6 ∨ p + d = e) → f4r I0 I → I 142 4 = p + d → p10_cutWord_b64 p (naP 27 (ltR tb p d)) I Q := fun d I d6 de dx hf hp => by
    have htI := tpC_4 hf ht
    unfold p10_cutWord_b64
    rw [hp]
    have over : p + d = e → p6_ownNumber (naP 27 (ltR tb p d)) (fun r6 => if r6 = -1 then p10_add 2 (naP 27 (ltR tb p d)) p I (fun r8 I3 => Q r8 I3) else p10_add 1 r6 p I (fun r7 I2 => Q r7 I2)) := fun ee => by
      have en : (e - p).toNat = d := by omega
      rw [en] at hw
      have hw' := hw (by omega)
      unfold wdK wdV at hw'
      refine c_own ?_
      by_cases q : ixO (naP 27 (ltR tb p d)) ownL 0 = -1
      · rw [if_pos q, if_pos q] at hw'
        exact zt q (c_addT hf.1 hf.2 (hp.trans ee) hc c0 hw')
      · rw [if_neg q, if_neg q] at hw'
        exact zf q (c_addT hf.1 hf.2 (hp.trans ee) hc c0 hw')
    refine c_at htI (by omega) (fun a => c_isLt (fun q => by omega) (fun _ => zt rfl (over (by omega)))) (fun a => c_isLt (fun q => zf (by decide) ?_) (fun q => zt rfl (over ?_)))
    · have d6' : d = 6 := by
        rcases dx with x | x
        · exact x
        · rcases he with y | y
          · omega
          · rw [← x] at y; exact absurd q y
      have ne : p + d ≠ e := fun x => by
        rcases he with y | y
        · omega
        · rw [← x] at y; exact absurd q y
      refine c_addT hf.1 hf.2 (by omega) hc c0 (p := p + 6) ?_
      rw [show p + (d : Int) = p + 6 by omega]
      exact hb (by omega)
    · rcases Int.lt_or_le (p + d) e with x | x
      · exact absurd (hl _ (by omega) x) q
      · omega
  intro f
  induction f with
  | zero =>
    intro d I hd de hf hp
    show p10_cutWord_b7_body p Q (p10_cutWord_b7 p Q 0) _ I
    unfold p10_cutWord_b7_body
    rw [hp]
    exact ⟨by omega, zt (by omega) (fin d I (by omega) de (Or.inl (by omega)) hf hp)⟩
  | succ f ih =>
    intro d I hd de hf hp
    have htI := tpC_4 hf ht
    show p10_cutWord_b7_body p Q (p10_cutWord_b7 p Q (f + 1)) _ I
    unfold p10_cutWord_b7_body
    rw [hp]
    refine ⟨by omega, zf (by omega) ?_⟩
    refine c_at htI (by omega) (fun a => c_isLt (fun q => by omega) (fun _ => zt rfl (fin d I (by omega) de (Or.inr (by omega)) hf hp))) (fun a => c_isLt (fun q => zf (by decide) ?_) (fun q => zt rfl (fin d I (by omega) de (Or.inr ?_) hf hp)))
    · have lt : p + d < e := by
        rcases Int.lt_or_le (p + d) e with x | x
        · exact x
        · have x' : p + d = e := by omega
          rcases he with y | y
          · omega
          · rw [← x'] at y; exact absurd q y
      have lo := lt_ok (tb := tb) (p := p) d (fun j a b => hl j a (by omega))
      have b0 := (na27 _ lo.1).1
      have b1 := na27_b5 _ lo.1 (by rw [lo.2]; omega)
      refine ⟨by omega, ?_⟩
      refine c_at htI (by omega) (fun a => by omega) (fun _ => ⟨by omega, by omega, by omega,  wLet_r ⟨by omega, m_putK (fun I1 q1 g1 f1 => ?_)⟩⟩)
      have i := ih (d + 1) I1 (by omega) (by omega) ⟨fun z hz => (f1 z hz).trans (hf.1 z hz), fun j hj => (g1 j hj).trans (hf.2 j hj)⟩ (by rw [q1]; omega)
      rw [na_s, show tb (p + d) - 96 = tb (p + d) - 97 + 1 by omega] at i
      exact i
    · rcases Int.lt_or_le (p + d) e with x | x
      · exact absurd (hl _ (by omega) x) q
      · omega
theorem c_cutW {I : mI} {c n p e : Int} {tb : Int → Int} {Q : Int → mI → Prop} (ht : tpC I n tb) (hc : I 142 3 = c) (c0 : 0 ≤ c ∧ c < 1601) (hp : I 142 4 = p) (h0 : 0 ≤ p) (hpe : p ≤ e) (hen : e ≤ n) (hl : ∀ j, p ≤ j → j < e → 97 ≤ tb j ∧ tb j ≤ 122) (he : n ≤ e ∨ ¬ (97 ≤ tb e ∧ tb e ≤ 122))
    (hw : e - p ≤ 6 → ∀ I', tkF I I' c (wdK (naP 27 (ltR tb p (e - p).toNat))) (wdV (naP 27 (ltR tb p (e - p).toNat))) p e → Q (wdK (naP 27 (ltR tb p (e - p).toNat))) I')
    (hb : 6 < e - p → ∀ I', tkF I I' c 5 p (p + 6) (p + 6) → Q 5 I') : p10_cutWord I Q := by
  unfold p10_cutWord
  rw [hp]
  exact ⟨7, c_wdGo ht hc c0 h0 hen hl he hw hb 6 0 I (by omega) (by omega) ⟨fun _ _ => rfl, fun _ _ => rfl⟩ (by omega)⟩
theorem c_nmGo {I0 : mI} {c n p e : Int} {tb : Int → Int} {Q : Int → mI → Prop} (ht : tpC I0 n tb) (hc : I0 142 3 = c) (c0 : 0 ≤ c ∧ c < 1601) (h0 : 0 ≤ p) (hen : e ≤ n) (hl : ∀ j, p ≤ j → j < e → 48 ≤ tb j ∧ tb j ≤ 57) (he : n ≤ e ∨ ¬ (48 ≤ tb e ∧ tb e ≤ 57))
    (hw : e - p ≤ 4 → ∀ I', tkF I0 I' c 3 (nmR tb p (e - p).toNat) p e → Q 3 I')
    (hb : 4 < e - p → ∀ I', tkF I0 I' c 5 p (p + 4) (p + 4) → Q 5 I') :
    ∀ (f d : Nat) (I : mI), d + f = 4 → p + d ≤ e → f4r I0 I → I 142 4 = p + d → p10_cutNumber_b7 p Q (f + 1) (nmR tb p d) I := by
  have hn := ht.2.1
  have fin : ∀ (d : Nat) (I : mI), d ≤ 4 → p + d ≤ e → (d = 4 ∨ p + d = e) → f4r I0 I → I 142 4 = p + d → p10_cutNumber_b61 p (nmR tb p d) I Q := fun d I d6 de dx hf hp => by
    have htI := tpC_4 hf ht
    unfold p10_cutNumber_b61
    rw [hp]
    have over : p + d = e → p10_add 3 (nmR tb p d) p I (fun r6 I2 => Q r6 I2) := fun ee => by
      have en : (e - p).toNat = d := by omega
      rw [en] at hw
      exact c_addT hf.1 hf.2 (hp.trans ee) hc c0 (hw (by omega))
    refine c_at htI (by omega) (fun a => c_isDt (fun q => by omega) (fun _ => zt rfl (over (by omega)))) (fun a => c_isDt (fun q => zf (by decide) ?_) (fun q => zt rfl (over ?_)))
    · have d6' : d = 4 := by
        rcases dx with x | x
        · exact x
        · rcases he with y | y
          · omega
          · rw [← x] at y; exact absurd q y
      have ne : p + d ≠ e := fun x => by
        rcases he with y | y
        · omega
        · rw [← x] at y; exact absurd q y
      refine c_addT hf.1 hf.2 (by omega) hc c0 (p := p + 4) ?_
      rw [show p + (d : Int) = p + 4 by omega]
      exact hb (by omega)
    · rcases Int.lt_or_le (p + d) e with x | x
      · exact absurd (hl _ (by omega) x) q
      · omega
  intro f
  induction f with
  | zero =>
    intro d I hd de hf hp
    show p10_cutNumber_b7_body p Q (p10_cutNumber_b7 p Q 0) _ I
    unfold p10_cutNumber_b7_body
    rw [hp]
    exact ⟨by omega, zt (by omega) (fin d I (by omega) de (Or.inl (by omega)) hf hp)⟩
  | succ f ih =>
    intro d I hd de hf hp
    have htI := tpC_4 hf ht
    show p10_cutNumber_b7_body p Q (p10_cutNumber_b7 p Q (f + 1)) _ I
    unfold p10_cutNumber_b7_body
    rw [hp]
    refine ⟨by omega, zf (by omega) ?_⟩
    refine c_at htI (by omega) (fun a => c_isDt (fun q => by omega) (fun _ => zt rfl (fin d I (by omega) de (Or.inr (by omega)) hf hp))) (fun a => c_isDt (fun q => zf (by decide) ?_) (fun q => zt rfl (fin d I (by omega) de (Or.inr ?_) hf hp)))
    · have lt : p + d < e := by
        rcases Int.lt_or_le (p + d) e with x | x
        · exact x
        · have x' : p + d = e := by omega
          rcases he with y | y
          · omega
          · rw [← x'] at y; exact absurd q y
      have lo := nm_rg (tb := tb) (p := p) d (fun j a b => hl j a (by omega))
      have p10 : ((10 ^ d : Nat) : Int) ≤ 1000 := by
        have h6 : ∀ x : Nat, x ≤ 3 → ((10 ^ x : Nat) : Int) ≤ 1000 := by decide
        exact h6 _ (by omega)
      generalize ((10 ^ d : Nat) : Int) = pw at lo p10
      refine ⟨by omega, ?_⟩
      refine c_at htI (by omega) (fun a => by omega) (fun _ => ⟨by omega, by omega,  wLet_r ⟨by omega, m_putK (fun I1 q1 g1 f1 => ?_)⟩⟩)
      exact ih (d + 1) I1 (by omega) (by omega) ⟨fun z hz => (f1 z hz).trans (hf.1 z hz), fun j hj => (g1 j hj).trans (hf.2 j hj)⟩ (by rw [q1]; omega)
    · rcases Int.lt_or_le (p + d) e with x | x
      · exact absurd (hl _ (by omega) x) q
      · omega
theorem c_cutN {I : mI} {c n p e : Int} {tb : Int → Int} {Q : Int → mI → Prop} (ht : tpC I n tb) (hc : I 142 3 = c) (c0 : 0 ≤ c ∧ c < 1601) (hp : I 142 4 = p) (h0 : 0 ≤ p) (hpe : p ≤ e) (hen : e ≤ n) (hl : ∀ j, p ≤ j → j < e → 48 ≤ tb j ∧ tb j ≤ 57) (he : n ≤ e ∨ ¬ (48 ≤ tb e ∧ tb e ≤ 57))
    (hw : e - p ≤ 4 → ∀ I', tkF I I' c 3 (nmR tb p (e - p).toNat) p e → Q 3 I')
    (hb : 4 < e - p → ∀ I', tkF I I' c 5 p (p + 4) (p + 4) → Q 5 I') : p10_cutNumber I Q := by
  unfold p10_cutNumber
  rw [hp]
  exact ⟨5, c_nmGo ht hc c0 h0 hen hl he hw hb 4 0 I (by omega) (by omega) ⟨fun _ _ => rfl, fun _ _ => rfl⟩ (by omega)⟩
