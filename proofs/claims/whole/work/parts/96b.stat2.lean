/-! THE READERS: what a statement keeps -/
theorem up_0 {V : mI} {a : Nat} {k v : Int} {b : Nat} (h : b ≠ a) : up V a k v b = V b := up_ne h
theorem WF_late {V : mI} {F : mF} {k : Int} (hw : WF V F) (hk : 0 ≤ k ∧ k < V 1 0) : WF (up V 0 9 (bOr (V 0 9) (bShl 1 k))) F := by
  obtain ⟨w1, w2, w3, w4, w5, w6, w7, w8⟩ := hw
  have b := (bit_or w4.1.1 w4.1.2 hk.1 (show k < 6 by omega)).1
  have e : ∀ j, j ≠ 9 → up V 0 9 (bOr (V 0 9) (bShl 1 k)) 0 j = V 0 j := fun j hj => up_k _ _ _ hj
  unfold WF nrOK tr
  rw [up_0 (b := 1) (by decide), up_0 (b := 3) (by decide), up_0 (b := 4) (by decide), up_0 (b := 5) (by decide), up_0 (b := 7) (by decide), up_0 (b := 8) (by decide), e 10 (by decide), e 11 (by decide), e 8 (by decide), up_s]
  exact ⟨w1, w2, w3, ⟨b, w4.2.1, w4.2.2⟩, w5, w6, w7, w8⟩
theorem WF_pur {V : mI} {F : mF} {k x : Int} (hw : WF V F) (hk : (k = 10 ∧ 0 ≤ x ∧ x ≤ 999) ∨ (k = 11 ∧ 0 ≤ x ∧ x ≤ 100)) : WF (up V 0 k x) F := by
  obtain ⟨w1, w2, w3, w4, w5, w6, w7, w8⟩ := hw
  have e : ∀ j, j ≠ k → up V 0 k x 0 j = V 0 j := fun j hj => up_k _ _ _ hj
  unfold WF nrOK tr
  rw [up_0 (b := 1) (by decide), up_0 (b := 3) (by decide), up_0 (b := 4) (by decide), up_0 (b := 5) (by decide), up_0 (b := 7) (by decide), up_0 (b := 8) (by decide), e 8 (by omega), e 9 (by omega)]
  refine ⟨w1, w2, w3, ⟨w4.1, ?_, ?_⟩, w5, w6, w7, w8⟩
  · rcases hk with ⟨q, h⟩ | ⟨q, h⟩
    · rw [q, up_s]; exact h
    · rw [e 10 (by omega)]; exact w4.2.1
  · rcases hk with ⟨q, h⟩ | ⟨q, h⟩
    · rw [e 11 (by omega)]; exact w4.2.2
    · rw [q, up_s]; exact h
theorem WF_wear {V : mI} {F : mF} {a c : Int} (hw : WF V F) (ha : 0 ≤ a ∧ a < V 1 2) (hc : 0 ≤ c ∧ c < V 1 1) : WF (up V 5 a c) F := by
  obtain ⟨w1, w2, w3, w4, w5, w6, w7, w8⟩ := hw
  unfold WF nrOK tr
  rw [up_0 (b := 1) (by decide), up_0 (b := 3) (by decide), up_0 (b := 4) (by decide), up_0 (b := 0) (by decide), up_0 (b := 7) (by decide), up_0 (b := 8) (by decide)]
  refine ⟨w1, w2, w3, w4, fun t t0 t6 => ?_, w6, w7, w8⟩
  have x := w5 t t0 t6
  by_cases q : t = a
  · rw [q, up_s]
    rw [q] at x
    exact ⟨x.1, by omega, fun r => by omega⟩
  · rw [up_k _ _ _ q]; exact x
/-- near: who is near whom then -/
theorem near_ev {V : mI} {F : mF} {a c : Int} (hw : WF V F) (ha : 0 ≤ a ∧ a < V 1 2) (hc : 0 ≤ c ∧ c < V 1 2) (hne : a ≠ c) {V' : mI} (hV : V' = up (up V 4 a (bOr (V 4 a) (bShl 1 c))) 4 c (bOr (V 4 c) (bShl 1 a))) : (∀ z, z ≠ 4 → V' z = V z) ∧ V' 4 a = bOr (V 4 a) (bShl 1 c) ∧ V' 4 c = bOr (V 4 c) (bShl 1 a) ∧ (∀ t, t ≠ a → t ≠ c → V' 4 t = V 4 t) ∧ ∀ x y, 0 ≤ x → x < 6 → 0 ≤ y → y < 6 → has1 (V' 4 x) y = (if (x = a ∧ y = c) ∨ (x = c ∧ y = a) then 1 else has1 (V 4 x) y) := by
  obtain ⟨w1, w2, w3, w4, w5, w6, w7, w8⟩ := hw
  have ea : V' 4 a = bOr (V 4 a) (bShl 1 c) := by rw [hV, up_k _ _ _ hne, up_s]
  have ec : V' 4 c = bOr (V 4 c) (bShl 1 a) := by rw [hV, up_s]
  have eo : ∀ t, t ≠ a → t ≠ c → V' 4 t = V 4 t := fun t h1 h2 => by rw [hV, up_k _ _ _ h2, up_k _ _ _ h1]
  refine ⟨fun z hz => by rw [hV, up_ne hz, up_ne hz], ea, ec, eo, fun x y x0 x6 y0 y6 => ?_⟩
  have ba := (bit_or (w5 a ha.1 (by omega)).1.1 (w5 a ha.1 (by omega)).1.2 hc.1 (show c < 6 by omega)).2
  have bc := (bit_or (w5 c hc.1 (by omega)).1.1 (w5 c hc.1 (by omega)).1.2 ha.1 (show a < 6 by omega)).2
  by_cases q : x = a
  · rw [q, ea, ba y y0 y6]
    by_cases r : y = c
    · rw [if_pos r, if_pos (Or.inl ⟨rfl, r⟩)]
    · rw [if_neg r, if_neg (fun z => z.elim (fun z => r z.2) (fun z => hne z.1))]
  · by_cases q2 : x = c
    · rw [q2, ec, bc y y0 y6]
      by_cases r : y = a
      · rw [if_pos r, if_pos (Or.inr ⟨rfl, r⟩)]
      · rw [if_neg r, if_neg (fun z => z.elim (fun z => hne z.1.symm) (fun z => r z.2))]
    · rw [eo x q q2, if_neg (fun z => z.elim (fun z => q z.1) (fun z => q2 z.1))]
theorem WF_near {V : mI} {F : mF} {a c : Int} (hw : WF V F) (ha : 0 ≤ a ∧ a < V 1 2) (hc : 0 ≤ c ∧ c < V 1 2) (hne : a ≠ c) : WF (up (up V 4 a (bOr (V 4 a) (bShl 1 c))) 4 c (bOr (V 4 c) (bShl 1 a))) F := by
  obtain ⟨n1, n2, n3, n4, n5⟩ := near_ev hw ha hc hne rfl
  generalize up (up V 4 a (bOr (V 4 a) (bShl 1 c))) 4 c (bOr (V 4 c) (bShl 1 a)) = V' at n1 n2 n3 n4 n5 ⊢
  obtain ⟨w1, w2, w3, w4, w5, w6, w7, w8⟩ := hw
  unfold WF nrOK tr
  rw [n1 0 (by decide), n1 1 (by decide), n1 3 (by decide), n1 5 (by decide), n1 7 (by decide), n1 8 (by decide)]
  refine ⟨w1, w2, w3, w4, fun t t0 t6 => ?_, fun x y x0 x6 y0 y6 => ?_, fun x y x0 x1 y0 y1 => ?_, w8⟩
  · have x := w5 t t0 t6
    by_cases q : t = a
    · rw [q, n2]
      rw [q] at x
      exact ⟨(bit_or x.1.1 x.1.2 hc.1 (by omega)).1, x.2.1, fun r => by omega⟩
    · by_cases q2 : t = c
      · rw [q2, n3]
        rw [q2] at x
        exact ⟨(bit_or x.1.1 x.1.2 ha.1 (by omega)).1, x.2.1, fun r => by omega⟩
      · rw [n4 t q q2]; exact x
  · rw [n5 x y x0 x6 (by omega) y6, if_neg (by omega)]
    exact w6 x y x0 x6 y0 y6
  · rw [n5 x y x0 (by omega) y0 (by omega), n5 y x y0 (by omega) x0 (by omega), w7 x y x0 x1 y0 y1]
    by_cases q : (x = a ∧ y = c) ∨ (x = c ∧ y = a)
    · rw [if_pos q, if_pos (by omega)]
    · rw [if_neg q, if_neg (by omega)]
theorem ty_ne {cs : List (Int × Int)} {t : Bool} (h : tyR cs [] = some [t]) : cs ≠ [] := fun e => by
  rw [e] at h
  have h' : (some ([] : List Bool)) = some [t] := h
  cases Option.some.inj h'
theorem gFo_inv {K T : Nat → Int} {V V' : mI} {F F' : mF} {w : Int} {i j : Nat} (h : gFo K T V F w i = Sum.inr (j, V', F')) : ∃ cs, gR K T w 90 (if w = 1 then 0 else 4) 0 0 i = Sum.inr (j, cs) ∧ V' = up (up (up V 7 w (V 0 8)) 0 8 (V 0 8 + (cs.length : Int))) 8 w (V 0 8 + (cs.length : Int)) ∧ F' = (fun x => if x = w then cs else F x) := by
  unfold gFo at h
  match hg : gR K T w 90 (if w = 1 then 0 else 4) 0 0 i, h with
  | Sum.inr (j2, cs), h =>
    have e := Sum.inr.inj h
    have e1 := (Prod.mk.inj e).1
    have e2 := (Prod.mk.inj (Prod.mk.inj e).2).1
    have e3 := (Prod.mk.inj (Prod.mk.inj e).2).2
    exact ⟨cs, by rw [← e1], e2.symm, e3.symm⟩
theorem fo_ok {K T : Nat → Int} {m : Nat} {w : Int} {i j : Nat} {cs : List (Int × Int)} (hT : tkM K T m) (hi : i ≤ m) (hw : w = 0 ∨ w = 1 ∨ w = 2) (h : gR K T w 90 (if w = 1 then 0 else 4) 0 0 i = Sum.inr (j, cs)) : (i < j ∧ j ≤ m ∧ cs.length + i ≤ j) ∧ cs ≠ [] ∧ foT w cs := by
  have g := g_ok hT hw 90 (if w = 1 then 0 else 4) 0 0 i (by split <;> decide) (by decide) hi (fun q => by split at q <;> omega) j cs h
  obtain ⟨g1, g2, g3, g4, g5⟩ := g
  have t := g5 [] (by
    rw [List.length_nil]
    split <;> decide)
  have td : decide ((if w = 1 then 0 else 4) ≤ 3) = decide (w = 1) := by
    rcases hw with q | q | q <;> rw [q] <;> decide
  rw [td] at t
  exact ⟨⟨g1, g2, g3⟩, ty_ne t, fun _ => ⟨t, g4⟩⟩
theorem WF_form {V : mI} {F : mF} {w : Int} {cs : List (Int × Int)} (hw : WF V F) (h3 : 0 ≤ w ∧ w < 3) (hne : cs ≠ []) (hf : foT w cs) : WF (up (up (up V 7 w (V 0 8)) 0 8 (V 0 8 + (cs.length : Int))) 8 w (V 0 8 + (cs.length : Int))) (fun x => if x = w then cs else F x) := by
  obtain ⟨w1, w2, w3, w4, w5, w6, w7, w8⟩ := hw
  have e0 : ∀ j, j ≠ 8 → up (up (up V 7 w (V 0 8)) 0 8 (V 0 8 + (cs.length : Int))) 8 w (V 0 8 + (cs.length : Int)) 0 j = V 0 j := fun j hj => by rw [up_o _ _ _ _ (by decide), up_k _ _ _ hj, up_o _ _ _ _ (by decide)]
  have e8 : up (up (up V 7 w (V 0 8)) 0 8 (V 0 8 + (cs.length : Int))) 8 w (V 0 8 + (cs.length : Int)) 0 8 = V 0 8 + (cs.length : Int) := by rw [up_o _ _ _ _ (by decide), up_s]
  have ez : ∀ z, z ≠ 0 → z ≠ 7 → z ≠ 8 → up (up (up V 7 w (V 0 8)) 0 8 (V 0 8 + (cs.length : Int))) 8 w (V 0 8 + (cs.length : Int)) z = V z := fun z h0 h7 h8 => by rw [up_ne h8, up_ne h0, up_ne h7]
  unfold WF nrOK tr
  rw [ez 1 (by decide) (by decide) (by decide), ez 3 (by decide) (by decide) (by decide), ez 4 (by decide) (by decide) (by decide), ez 5 (by decide) (by decide) (by decide), e8, e0 9 (by decide), e0 10 (by decide), e0 11 (by decide)]
  refine ⟨w1, w2, w3, w4, w5, w6, w7, by omega, fun x x0 x3 => ?_⟩
  have ef : (fun x => if x = w then cs else F x) x = (if x = w then cs else F x) := rfl
  rw [ef]
  by_cases q : x = w
  · rw [if_pos q, q, up_s, up_o _ _ _ _ (by decide), up_o _ _ _ _ (by decide), up_s]
    exact ⟨fun r => absurd r hne, fun _ => ⟨w8.1, rfl, Int.le_refl _⟩, hf⟩
  · have x7 : up (up (up V 7 w (V 0 8)) 0 8 (V 0 8 + (cs.length : Int))) 8 w (V 0 8 + (cs.length : Int)) 7 x = V 7 x := by rw [up_o _ _ _ _ (by decide), up_o _ _ _ _ (by decide), up_k _ _ _ q]
    have y8 : up (up (up V 7 w (V 0 8)) 0 8 (V 0 8 + (cs.length : Int))) 8 w (V 0 8 + (cs.length : Int)) 8 x = V 8 x := by rw [up_k _ _ _ q, up_o _ _ _ _ (by decide), up_o _ _ _ _ (by decide)]
    rw [if_neg q, x7, y8]
    have x8 := w8.2 x x0 x3
    exact ⟨x8.1, fun r => by have := x8.2.1 r; omega, x8.2.2⟩
/-- a whole statement -/
theorem gSt_ok {K T : Nat → Int} {V V' : mI} {F F' : mF} {m i j : Nat} (hT : tkM K T m) (hT1 : K i = 1 → 0 ≤ T i) (hi : i ≤ m) (hw : WF V F) (h8 : V 0 8 ≤ (i : Int)) (h : gSt K T V F i = Sum.inr (j, V', F')) : WF V' F' ∧ i < j ∧ j ≤ m ∧ V' 0 8 ≤ (j : Int) := by
  unfold gSt at h
  by_cases k1 : K i = 1 ∧ T i ≤ 10
  rotate_left
  · rw [if_neg k1] at h; cases h
  rw [if_pos k1] at h
  by_cases fl : gFull V F (T i)
  · rw [if_pos fl] at h; cases h
  rw [if_neg fl] at h
  have im := tkM_lt hT hi (by rw [k1.1]; decide)
  have t0 := hT1 k1.1
  obtain ⟨⟨j2, V2, F2⟩, hb, he⟩ := gK_inv h
  unfold gEnd at he
  by_cases sc : K j2 = 4 ∧ T j2 = 59
  rotate_left
  · rw [if_neg sc] at he; cases he
  rw [if_pos sc] at he
  have e' := Sum.inr.inj he
  have ej := (Prod.mk.inj e').1
  have eV := (Prod.mk.inj (Prod.mk.inj e').2).1
  have eF := (Prod.mk.inj (Prod.mk.inj e').2).2
  subst eV; subst eF
  have key : WF V2 F2 ∧ i < j2 ∧ j2 ≤ m ∧ V2 0 8 ≤ (j2 : Int) := by
    unfold gBody at hb
    by_cases a : T i ≤ 2
    · rw [if_pos a] at hb
      obtain ⟨x, y, z, e, q1, q2, q3, q4, q5, q6, q7, q8, q9, q10⟩ := gOne_ok hT im hb
      rw [q8]
      have f6 : V 1 (T i) < 6 := by
        rcases Int.lt_or_le (V 1 (T i)) 6 with r | r
        · exact r
        · exact absurd (Or.inl ⟨a, r⟩) fl
      refine ⟨WF_one hw ⟨t0, a⟩ f6 q3 q4 q5 q6 q7, by omega, q10, ?_⟩
      rw [q7.1 0 (by decide) (by decide) (by decide)]; omega
    rw [if_neg a] at hb
    by_cases a : T i = 3
    · rw [if_pos a] at hb
      obtain ⟨k, hk, hb⟩ := gK_inv hb
      have g := gFd_ok hk
      by_cases c : has1 (V 0 9) k = 1
      · rw [if_pos c] at hb; cases hb
      rw [if_neg c] at hb
      have e' := Sum.inr.inj hb
      have ej2 := (Prod.mk.inj e').1
      have eV2 := (Prod.mk.inj (Prod.mk.inj e').2).1
      have eF2 := (Prod.mk.inj (Prod.mk.inj e').2).2
      subst eV2; subst eF2
      have im2 := tkM_lt hT im (by rw [g.1]; decide)
      exact ⟨WF_late hw g.2.2, by omega, by omega, by rw [up_k _ _ _ (by decide)]; omega⟩
    rw [if_neg a] at hb
    by_cases a : T i = 4
    · rw [if_pos a] at hb
      obtain ⟨k, hk, hb⟩ := gK_inv hb
      obtain ⟨k2, hk2, hb⟩ := gK_inv hb
      have g := gFd_ok hk
      have g2 := gFd_ok hk2
      by_cases c : k = k2 ∨ has1 (V 4 k) k2 = 1
      · rw [if_pos c] at hb; cases hb
      rw [if_neg c] at hb
      have e' := Sum.inr.inj hb
      have ej2 := (Prod.mk.inj e').1
      have eV2 := (Prod.mk.inj (Prod.mk.inj e').2).1
      have eF2 := (Prod.mk.inj (Prod.mk.inj e').2).2
      subst eV2; subst eF2
      have im2 := tkM_lt hT im (by rw [g.1]; decide)
      have im3 := tkM_lt hT im2 (by rw [g2.1]; decide)
      exact ⟨WF_near hw g.2.2 g2.2.2 (fun q => c (Or.inl q)), by omega, by omega, by rw [up_o _ _ _ _ (by decide), up_o _ _ _ _ (by decide)]; omega⟩
    rw [if_neg a] at hb
    by_cases a : T i = 5
    · rw [if_pos a] at hb
      obtain ⟨k, hk, hb⟩ := gK_inv hb
      obtain ⟨k2, hk2, hb⟩ := gK_inv hb
      have g := gFd_ok hk
      have g2 := gFd_ok hk2
      have e' := Sum.inr.inj hb
      have ej2 := (Prod.mk.inj e').1
      have eV2 := (Prod.mk.inj (Prod.mk.inj e').2).1
      have eF2 := (Prod.mk.inj (Prod.mk.inj e').2).2
      subst eV2; subst eF2
      have im2 := tkM_lt hT im (by rw [g.1]; decide)
      have im3 := tkM_lt hT im2 (by rw [g2.1]; decide)
      exact ⟨WF_wear hw g.2.2 g2.2.2, by omega, by omega, by rw [up_o _ _ _ _ (by decide)]; omega⟩
    rw [if_neg a] at hb
    by_cases a : T i = 6
    · rw [if_pos a] at hb
      obtain ⟨k, hk, hb⟩ := gK_inv hb
      have g := gNum_ok hT im hk
      have e' := Sum.inr.inj hb
      have ej2 := (Prod.mk.inj e').1
      have eV2 := (Prod.mk.inj (Prod.mk.inj e').2).1
      have eF2 := (Prod.mk.inj (Prod.mk.inj e').2).2
      subst eV2; subst eF2
      rw [g.1] at ej2 ⊢
      have ej3 : i + 1 + 1 = j2 := ej2
      exact ⟨WF_pur hw (Or.inl ⟨rfl, g.2.2⟩), by omega, by omega, by rw [up_k _ _ _ (by decide)]; omega⟩
    rw [if_neg a] at hb
    by_cases a : T i = 7
    · rw [if_pos a] at hb
      obtain ⟨k, hk, hb⟩ := gK_inv hb
      have g := gNum_ok hT im hk
      have e' := Sum.inr.inj hb
      have ej2 := (Prod.mk.inj e').1
      have eV2 := (Prod.mk.inj (Prod.mk.inj e').2).1
      have eF2 := (Prod.mk.inj (Prod.mk.inj e').2).2
      subst eV2; subst eF2
      rw [g.1] at ej2 ⊢
      have ej3 : i + 1 + 1 = j2 := ej2
      exact ⟨WF_pur hw (Or.inr ⟨rfl, g.2.2⟩), by omega, by omega, by rw [up_k _ _ _ (by decide)]; omega⟩
    rw [if_neg a] at hb
    obtain ⟨cs, g1, g2, g3⟩ := gFo_inv hb
    have g := fo_ok hT im (by omega) g1
    subst g2; subst g3
    refine ⟨WF_form hw (by omega) g.2.1 g.2.2, by omega, by omega, ?_⟩
    rw [up_o _ _ _ _ (by decide), up_s]
    omega
  have jm := tkM_lt hT key.2.2.1 (by rw [sc.1]; decide)
  have ej' : j2 + 1 = j := ej
  exact ⟨key.1, by omega, by omega, by omega⟩
