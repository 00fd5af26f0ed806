/-! THE READERS: statements as one function of the tokens -/
abbrev mF := Int → List (Int × Int)
abbrev Rt := Sum (Int × Nat) (Nat × mI × mF)
def gK {α β : Type} (r : Sum (Int × Nat) α) (k : α → Sum (Int × Nat) β) : Sum (Int × Nat) β := match r with
  | Sum.inl e => Sum.inl e
  | Sum.inr x => k x
theorem gK_r {α β : Type} {x : α} {k : α → Sum (Int × Nat) β} : gK (Sum.inr x) k = k x := rfl
theorem gK_l {α β : Type} {e : Int × Nat} {k : α → Sum (Int × Nat) β} : gK (Sum.inl e) k = Sum.inl e := rfl
theorem gK_inv {α β : Type} {r : Sum (Int × Nat) α} {k : α → Sum (Int × Nat) β} {y : β} (h : gK r k = Sum.inr y) : ∃ x, r = Sum.inr x ∧ k x = Sum.inr y := by
  match r, h with
  | Sum.inr x, h => exact ⟨x, rfl, h⟩
def fdF (cnt : Int) (g : Int → Int) (p : Int) : Nat → Int → Int
  | 0, _ => -1
  | d + 1, w => if cnt ≤ w then -1 else if g w = p then w else fdF cnt g p d (w + 1)
def fdC (V : mI) (kd p : Int) : Int := fdF (V 1 kd) (fun w => V 2 (kd * 6 + w)) p 7 0
theorem fdF_rg {cnt p : Int} {g : Int → Int} : ∀ (d : Nat) (w : Int), 0 ≤ w → fdF cnt g p d w = -1 ∨ (w ≤ fdF cnt g p d w ∧ fdF cnt g p d w < cnt ∧ g (fdF cnt g p d w) = p)
  | 0, _, _ => Or.inl rfl
  | d + 1, w, h0 => by
    unfold fdF
    by_cases a : cnt ≤ w
    · rw [if_pos a]; exact Or.inl rfl
    · rw [if_neg a]
      by_cases b : g w = p
      · rw [if_pos b]; exact Or.inr ⟨Int.le_refl _, by omega, b⟩
      · rw [if_neg b]
        rcases fdF_rg d (w + 1) (by omega) with h | ⟨h1, h2, h3⟩
        · exact Or.inl h
        · exact Or.inr ⟨by omega, h2, h3⟩
theorem fdC_rg {V : mI} {kd p : Int} (h : fdC V kd p ≠ -1) : 0 ≤ fdC V kd p ∧ fdC V kd p < V 1 kd := by
  rcases fdF_rg (cnt := V 1 kd) (g := fun w => V 2 (kd * 6 + w)) (p := p) 7 0 (Int.le_refl 0) with x | ⟨x1, x2, _⟩
  · exact absurd x h
  · exact ⟨x1, x2⟩
def gNum (K T : Nat → Int) (most : Int) (i : Nat) : Sum (Int × Nat) (Nat × Int) := if K i = 3 then (if T i ≤ most then Sum.inr (i + 1, T i) else Sum.inl (4, i)) else Sum.inl (1, i)
def gTr (K T : Nat → Int) (w most : Int) (i : Nat) : Sum (Int × Nat) (Nat × Int) := if K i = 1 ∧ T i = w then gNum K T most (i + 1) else Sum.inl (1, i)
def gFd (K T : Nat → Int) (V : mI) (kd : Int) (i : Nat) : Sum (Int × Nat) Int := if K i = 2 then (if fdC V kd (T i) = -1 then Sum.inl (3, i) else Sum.inr (fdC V kd (T i))) else Sum.inl (1, i)
def tV (V : mI) (s p a b c : Int) : mI := up (up (up (up V 2 s p) 3 (s * 4 + 0) a) 3 (s * 4 + 1) b) 3 (s * 4 + 2) c
def gOne (K T : Nat → Int) (V : mI) (F : mF) (kd : Int) (i : Nat) : Rt :=
  if K i = 2 then
    (if fdC V 0 (T i) = -1 ∧ fdC V 1 (T i) = -1 ∧ fdC V 2 (T i) = -1 then
      gK (gTr K T 11 9 (i + 1)) (fun a => gK (gTr K T 12 9 a.1) (fun b => gK (gTr K T 13 9 b.1) (fun c =>
        if kd = 1 then gK (gTr K T 14 99 c.1) (fun e => Sum.inr (e.1, up (up (tV V (kd * 6 + V 1 kd) (T i) a.2 b.2 c.2) 3 ((kd * 6 + V 1 kd) * 4 + 3) e.2) 1 kd (V 1 kd + 1), F))
        else Sum.inr (c.1, up (tV V (kd * 6 + V 1 kd) (T i) a.2 b.2 c.2) 1 kd (V 1 kd + 1), F))))
    else Sum.inl (2, i))
  else Sum.inl (1, i)
def gFo (K T : Nat → Int) (V : mI) (F : mF) (w : Int) (i : Nat) : Rt := match gR K T w 90 (if w = 1 then 0 else 4) 0 0 i with
  | Sum.inl e => Sum.inl e
  | Sum.inr q => Sum.inr (q.1, up (up (up V 7 w (V 0 8)) 0 8 (V 0 8 + (q.2.length : Int))) 8 w (V 0 8 + (q.2.length : Int)), fun x => if x = w then q.2 else F x)
def gBody (K T : Nat → Int) (V : mI) (F : mF) (kd : Int) (i : Nat) : Rt :=
  if kd ≤ 2 then gOne K T V F kd i
  else if kd = 3 then gK (gFd K T V 0 i) (fun k => if has1 (V 0 9) k = 1 then Sum.inl (3, i) else Sum.inr (i + 1, up V 0 9 (bOr (V 0 9) (bShl 1 k)), F))
  else if kd = 4 then gK (gFd K T V 2 i) (fun a => gK (gFd K T V 2 (i + 1)) (fun c => if a = c ∨ has1 (V 4 a) c = 1 then Sum.inl (3, i + 1) else Sum.inr (i + 2, up (up V 4 a (bOr (V 4 a) (bShl 1 c))) 4 c (bOr (V 4 c) (bShl 1 a)), F)))
  else if kd = 5 then gK (gFd K T V 2 i) (fun a => gK (gFd K T V 1 (i + 1)) (fun c => Sum.inr (i + 2, up V 5 a c, F)))
  else if kd = 6 then gK (gNum K T 999 i) (fun a => Sum.inr (a.1, up V 0 10 a.2, F))
  else if kd = 7 then gK (gNum K T 100 i) (fun a => Sum.inr (a.1, up V 0 11 a.2, F))
  else gFo K T V F (kd - 8) i
abbrev gFull (V : mI) (F : mF) (kd : Int) : Prop := (kd ≤ 2 ∧ 6 ≤ V 1 kd) ∨ (8 ≤ kd ∧ F (kd - 8) ≠ [])
def gEnd (K T : Nat → Int) (x : Nat × mI × mF) : Rt := if K x.1 = 4 ∧ T x.1 = 59 then Sum.inr (x.1 + 1, x.2) else Sum.inl (1, x.1)
def gSt (K T : Nat → Int) (V : mI) (F : mF) (i : Nat) : Rt := if K i = 1 ∧ T i ≤ 10 then (if gFull V F (T i) then Sum.inl (6, i) else gK (gBody K T V F (T i) (i + 1)) (gEnd K T)) else Sum.inl (1, i)
/-! what holds of a land at each statement's end -/
def WF (V : mI) (F : mF) : Prop :=
  ((0 ≤ V 1 0 ∧ V 1 0 ≤ 6) ∧ (0 ≤ V 1 1 ∧ V 1 1 ≤ 6) ∧ (0 ≤ V 1 2 ∧ V 1 2 ≤ 6)) ∧
  (∀ kd w j, 0 ≤ kd → kd < 3 → 0 ≤ w → w < V 1 kd → 0 ≤ j → j < 3 → 0 ≤ tr V kd w j ∧ tr V kd w j ≤ 9) ∧
  (∀ w, 0 ≤ w → w < V 1 1 → 0 ≤ tr V 1 w 3 ∧ tr V 1 w 3 ≤ 99) ∧
  ((0 ≤ V 0 9 ∧ V 0 9 < 64) ∧ (0 ≤ V 0 10 ∧ V 0 10 ≤ 999) ∧ (0 ≤ V 0 11 ∧ V 0 11 ≤ 100)) ∧
  (∀ t, 0 ≤ t → t < 6 → (0 ≤ V 4 t ∧ V 4 t < 64) ∧ (-1 ≤ V 5 t ∧ V 5 t < V 1 1) ∧ (V 1 2 ≤ t → V 4 t = 0 ∧ V 5 t = -1)) ∧
  (∀ a c, 0 ≤ a → a < 6 → V 1 2 ≤ c → c < 6 → has1 (V 4 a) c = 0) ∧ nrOK V ∧
  (0 ≤ V 0 8 ∧ ∀ w, 0 ≤ w → w < 3 → (F w = [] → V 7 w = 0 ∧ V 8 w = 0) ∧ (F w ≠ [] → 0 ≤ V 7 w ∧ V 7 w + ((F w).length : Int) = V 8 w ∧ V 8 w ≤ V 0 8) ∧ foT w (F w))
theorem gNum_ok {K T : Nat → Int} {m : Nat} {most : Int} {i : Nat} {x : Nat × Int} (hT : tkM K T m) (hi : i ≤ m) (h : gNum K T most i = Sum.inr x) : x = (i + 1, T i) ∧ i + 1 ≤ m ∧ 0 ≤ T i ∧ T i ≤ most := by
  unfold gNum at h
  by_cases a : K i = 3
  · rw [if_pos a] at h
    by_cases c : T i ≤ most
    · rw [if_pos c] at h
      exact ⟨(Sum.inr.inj h).symm, tkM_lt hT hi (by rw [a]; decide), (hT.2.2 i a).1, c⟩
    · rw [if_neg c] at h; cases h
  · rw [if_neg a] at h; cases h
theorem gTr_ok {K T : Nat → Int} {m : Nat} {w most : Int} {i : Nat} {x : Nat × Int} (hT : tkM K T m) (hi : i ≤ m) (h : gTr K T w most i = Sum.inr x) : x = (i + 2, T (i + 1)) ∧ i + 2 ≤ m ∧ 0 ≤ x.2 ∧ x.2 ≤ most := by
  unfold gTr at h
  by_cases a : K i = 1 ∧ T i = w
  · rw [if_pos a] at h
    have g := gNum_ok hT (tkM_lt hT hi (by rw [a.1]; decide)) h
    refine ⟨g.1, g.2.1, ?_, ?_⟩
    · rw [g.1]; exact g.2.2.1
    · rw [g.1]; exact g.2.2.2
  · rw [if_neg a] at h; cases h
theorem gFd_ok {K T : Nat → Int} {V : mI} {kd k : Int} {i : Nat} (h : gFd K T V kd i = Sum.inr k) : K i = 2 ∧ k = fdC V kd (T i) ∧ 0 ≤ k ∧ k < V 1 kd := by
  unfold gFd at h
  by_cases a : K i = 2
  · rw [if_pos a] at h
    by_cases c : fdC V kd (T i) = -1
    · rw [if_pos c] at h; cases h
    · rw [if_neg c] at h
      have e := Sum.inr.inj h
      exact ⟨a, e.symm, by rw [← e]; exact (fdC_rg c).1, by rw [← e]; exact (fdC_rg c).2⟩
  · rw [if_neg a] at h; cases h
/-- one more of a kind -/
def oneR (V V' : mI) (kd p a b c e : Int) : Prop := (∀ z, z ≠ 1 → z ≠ 2 → z ≠ 3 → V' z = V z) ∧ V' 1 kd = V 1 kd + 1 ∧ (∀ j, j ≠ kd → V' 1 j = V 1 j) ∧ V' 2 (kd * 6 + V 1 kd) = p ∧ (∀ j, j ≠ kd * 6 + V 1 kd → V' 2 j = V 2 j) ∧ (tr V' kd (V 1 kd) 0 = a ∧ tr V' kd (V 1 kd) 1 = b ∧ tr V' kd (V 1 kd) 2 = c ∧ (kd = 1 → tr V' kd (V 1 kd) 3 = e)) ∧ ∀ kd' w j, (kd' * 6 + w ≠ kd * 6 + V 1 kd) → 0 ≤ j → j < 4 → tr V' kd' w j = tr V kd' w j
theorem tV_ev (V : mI) (s p a b c : Int) : (∀ z, z ≠ 2 → z ≠ 3 → tV V s p a b c z = V z) ∧ tV V s p a b c 2 s = p ∧ (∀ j, j ≠ s → tV V s p a b c 2 j = V 2 j) ∧ (tV V s p a b c 3 (s * 4 + 0) = a ∧ tV V s p a b c 3 (s * 4 + 1) = b ∧ tV V s p a b c 3 (s * 4 + 2) = c) ∧ ∀ j, j ≠ s * 4 + 0 → j ≠ s * 4 + 1 → j ≠ s * 4 + 2 → tV V s p a b c 3 j = V 3 j := by
  unfold tV
  refine ⟨fun z h2 h3 => ?_, ?_, fun j hj => ?_, ⟨?_, ?_, ?_⟩, fun j h0 h1 h2 => ?_⟩
  · rw [up_ne h3, up_ne h3, up_ne h3, up_ne h2]
  · rw [up_o _ _ _ _ (by decide), up_o _ _ _ _ (by decide), up_o _ _ _ _ (by decide), up_s]
  · rw [up_o _ _ _ _ (by decide), up_o _ _ _ _ (by decide), up_o _ _ _ _ (by decide), up_k _ _ _ hj]
  · rw [up_k _ _ _ (by omega), up_k _ _ _ (by omega), up_s]
  · rw [up_k _ _ _ (by omega), up_s]
  · rw [up_s]
  · rw [up_k _ _ _ h2, up_k _ _ _ h1, up_k _ _ _ h0, up_o _ _ _ _ (by decide)]
theorem gOne_ok {K T : Nat → Int} {V V' : mI} {F F' : mF} {m : Nat} {kd : Int} {i j : Nat} (hT : tkM K T m) (hi : i ≤ m) (h : gOne K T V F kd i = Sum.inr (j, V', F')) : ∃ a b c e : Int, K i = 2 ∧ (fdC V 0 (T i) = -1 ∧ fdC V 1 (T i) = -1 ∧ fdC V 2 (T i) = -1) ∧ (0 ≤ a ∧ a ≤ 9) ∧ (0 ≤ b ∧ b ≤ 9) ∧ (0 ≤ c ∧ c ≤ 9) ∧ (0 ≤ e ∧ e ≤ 99) ∧ oneR V V' kd (T i) a b c e ∧ F' = F ∧ i < j ∧ j ≤ m := by
  unfold gOne at h
  by_cases k2 : K i = 2
  rotate_left
  · rw [if_neg k2] at h; cases h
  rw [if_pos k2] at h
  by_cases tk : fdC V 0 (T i) = -1 ∧ fdC V 1 (T i) = -1 ∧ fdC V 2 (T i) = -1
  rotate_left
  · rw [if_neg tk] at h; cases h
  rw [if_pos tk] at h
  have im := tkM_lt hT hi (by rw [k2]; decide)
  obtain ⟨a, ha, h⟩ := gK_inv h
  obtain ⟨b, hb, h⟩ := gK_inv h
  obtain ⟨c, hc, h⟩ := gK_inv h
  have ga := gTr_ok hT im ha
  rw [ga.1] at hb
  have gb := gTr_ok hT (show i + 1 + 2 ≤ m by omega) hb
  rw [gb.1] at hc
  have gc := gTr_ok hT (show i + 1 + 2 + 2 ≤ m by omega) hc
  have ev := tV_ev V (kd * 6 + V 1 kd) (T i) a.2 b.2 c.2
  obtain ⟨v0, v1, v2, v3, v4⟩ := ev
  by_cases k1 : kd = 1
  · rw [if_pos k1] at h
    obtain ⟨e, he, h⟩ := gK_inv h
    rw [gc.1] at he
    have ge := gTr_ok hT (show i + 1 + 2 + 2 + 2 ≤ m by omega) he
    have h' := Sum.inr.inj h
    have hj := (Prod.mk.inj h').1
    have hV := (Prod.mk.inj (Prod.mk.inj h').2).1
    have hF := (Prod.mk.inj (Prod.mk.inj h').2).2
    have ej : e.1 = i + 1 + 2 + 2 + 2 + 2 := by rw [ge.1]
    refine ⟨a.2, b.2, c.2, e.2, k2, tk, ga.2.2, gb.2.2, gc.2.2, ge.2.2, ?_, hF.symm, by omega, by omega⟩
    rw [← hV]
    refine ⟨fun z h1 h2 h3 => by rw [up_ne h1, up_ne h3, v0 z h2 h3], up_s _ _ _ _, fun j hj => by rw [up_k _ _ _ hj, up_o _ _ _ _ (by decide), v0 1 (by decide) (by decide)], ?_, fun j hj => ?_, ⟨?_, ?_, ?_, fun _ => ?_⟩, fun kd' w j hne h0 h4 => ?_⟩
    · rw [up_o _ _ _ _ (by decide), up_o _ _ _ _ (by decide)]; exact v1
    · rw [up_o _ _ _ _ (by decide), up_o _ _ _ _ (by decide)]; exact v2 j hj
    · unfold tr; rw [up_o _ _ _ _ (by decide), up_k _ _ _ (by omega)]; exact v3.1
    · unfold tr; rw [up_o _ _ _ _ (by decide), up_k _ _ _ (by omega)]; exact v3.2.1
    · unfold tr; rw [up_o _ _ _ _ (by decide), up_k _ _ _ (by omega)]; exact v3.2.2
    · unfold tr; rw [up_o _ _ _ _ (by decide), up_s]
    · unfold tr; rw [up_o _ _ _ _ (by decide), up_k _ _ _ (by omega)]; exact v4 _ (by omega) (by omega) (by omega)
  · rw [if_neg k1] at h
    have h' := Sum.inr.inj h
    have hj := (Prod.mk.inj h').1
    have hV := (Prod.mk.inj (Prod.mk.inj h').2).1
    have hF := (Prod.mk.inj (Prod.mk.inj h').2).2
    have ej : c.1 = i + 1 + 2 + 2 + 2 := by rw [gc.1]
    refine ⟨a.2, b.2, c.2, 0, k2, tk, ga.2.2, gb.2.2, gc.2.2, by omega, ?_, hF.symm, by omega, by omega⟩
    rw [← hV]
    refine ⟨fun z h1 h2 h3 => by rw [up_ne h1, v0 z h2 h3], up_s _ _ _ _, fun j hj => by rw [up_k _ _ _ hj, v0 1 (by decide) (by decide)], ?_, fun j hj => ?_, ⟨?_, ?_, ?_, fun q => absurd q k1⟩, fun kd' w j hne h0 h4 => ?_⟩
    · rw [up_o _ _ _ _ (by decide)]; exact v1
    · rw [up_o _ _ _ _ (by decide)]; exact v2 j hj
    · unfold tr; rw [up_o _ _ _ _ (by decide)]; exact v3.1
    · unfold tr; rw [up_o _ _ _ _ (by decide)]; exact v3.2.1
    · unfold tr; rw [up_o _ _ _ _ (by decide)]; exact v3.2.2
    · unfold tr; rw [up_o _ _ _ _ (by decide)]; exact v4 _ (by omega) (by omega) (by omega)
theorem has1_0n : ∀ b : Nat, b < 6 → has1 0 (b : Int) = 0 := by decide +kernel
theorem has1_0 {x : Int} (h0 : 0 ≤ x) (h6 : x < 6) : has1 0 x = 0 := by
  have h := has1_0n x.toNat (by omega)
  rw [show ((x.toNat : Nat) : Int) = x by omega] at h; exact h
theorem WF_one {V V' : mI} {F : mF} {kd p a b c e : Int} (hw : WF V F) (hkd : 0 ≤ kd ∧ kd ≤ 2) (hfull : V 1 kd < 6) (ha : 0 ≤ a ∧ a ≤ 9) (hb : 0 ≤ b ∧ b ≤ 9) (hc : 0 ≤ c ∧ c ≤ 9) (he : 0 ≤ e ∧ e ≤ 99) (h : oneR V V' kd p a b c e) : WF V' F := by
  obtain ⟨w1, w2, w3, w4, w5, w6, w7, w8⟩ := hw
  obtain ⟨o1, o2, o3, o4, o5, o6, o7⟩ := h
  have e0 := o1 0 (by decide) (by decide) (by decide)
  have e4 := o1 4 (by decide) (by decide) (by decide)
  have e5 := o1 5 (by decide) (by decide) (by decide)
  have e7 := o1 7 (by decide) (by decide) (by decide)
  have e8 := o1 8 (by decide) (by decide) (by decide)
  have cnt : ∀ x, 0 ≤ x → x ≤ 2 → (x = kd ∧ V' 1 x = V 1 x + 1) ∨ (x ≠ kd ∧ V' 1 x = V 1 x) := fun x _ _ => by
    by_cases q : x = kd
    · exact Or.inl ⟨q, by rw [q]; exact o2⟩
    · exact Or.inr ⟨q, o3 x q⟩
  have c0 := cnt 0 (by decide) (by decide)
  have c1 := cnt 1 (by decide) (by decide)
  have c2 := cnt 2 (by decide) (by decide)
  have vk : 0 ≤ V 1 kd := by
    have : kd = 0 ∨ kd = 1 ∨ kd = 2 := by omega
    rcases this with q | q | q <;> rw [q] <;> omega
  have le6 : ∀ x, 0 ≤ x → x < 3 → V 1 x ≤ 6 := fun x a b => by
    have : x = 0 ∨ x = 1 ∨ x = 2 := by omega
    rcases this with q | q | q <;> rw [q] <;> omega
  have f0 : V 1 0 < 6 ∨ kd ≠ 0 := by
    by_cases q : kd = 0
    · rw [q] at hfull; exact Or.inl hfull
    · exact Or.inr q
  have f1 : V 1 1 < 6 ∨ kd ≠ 1 := by
    by_cases q : kd = 1
    · rw [q] at hfull; exact Or.inl hfull
    · exact Or.inr q
  have f2 : V 1 2 < 6 ∨ kd ≠ 2 := by
    by_cases q : kd = 2
    · rw [q] at hfull; exact Or.inl hfull
    · exact Or.inr q
  refine ⟨by omega, fun kd' w j h0 h3 hw0 hw1 j0 j3 => ?_, fun w hw0 hw1 => ?_, by rw [e0]; exact w4, fun t t0 t6 => ?_, fun x y x0 x6 y0 y6 => ?_, ?_, ?_⟩
  · by_cases q : kd' = kd ∧ w = V 1 kd
    · rw [q.1, q.2]
      have : j = 0 ∨ j = 1 ∨ j = 2 := by omega
      rcases this with r | r | r <;> rw [r]
      · rw [o6.1]; exact ha
      · rw [o6.2.1]; exact hb
      · rw [o6.2.2.1]; exact hc
    · have lw : w < V 1 kd' := by
        by_cases r : kd' = kd
        · rw [r] at hw1 ⊢
          rw [o2] at hw1
          have : w ≠ V 1 kd := fun z => q ⟨r, z⟩
          omega
        · rw [o3 kd' r] at hw1; exact hw1
      have l6 := le6 kd' h0 h3
      have lk := le6 kd (by omega) (by omega)
      rw [o7 kd' w j (fun z => ?_) j0 (by omega)]
      · exact w2 kd' w j h0 h3 hw0 lw j0 j3
      · by_cases r : kd' = kd
        · rw [r] at lw z; omega
        · omega
  · by_cases q : kd = 1 ∧ w = V 1 kd
    · rw [q.2]
      have x := o6.2.2.2 q.1
      rw [q.1] at x ⊢
      rw [x]; exact he
    · have lw : w < V 1 1 := by
        rcases c1 with ⟨r1, r2⟩ | ⟨r1, r2⟩
        · have : w ≠ V 1 1 := fun z => q ⟨r1.symm, by rw [← r1]; exact z⟩
          omega
        · omega
      have lk := le6 kd (by omega) (by omega)
      rw [o7 1 w 3 (fun z => ?_) (by decide) (by decide)]
      · exact w3 w hw0 lw
      · by_cases r : kd = 1
        · rw [r] at z; omega
        · omega
  · rw [e4, e5]
    have x := w5 t t0 t6
    exact ⟨x.1, by omega, fun q => x.2.2 (by omega)⟩
  · rw [e4]; exact w6 x y x0 x6 (by omega) y6
  · intro x y x0 x1 y0 y1
    rw [e4]
    by_cases p : x < V 1 2
    · by_cases q : y < V 1 2
      · exact w7 x y x0 p y0 q
      · rw [w6 x y x0 (by omega) (by omega) (by omega)]
        by_cases r : y = x
        · omega
        · rw [(w5 y y0 (by omega)).2.2 (by omega) |>.1]
          exact (has1_0 (by omega) (by omega)).symm
    · rw [(w5 x x0 (by omega)).2.2 (by omega) |>.1, has1_0 (by omega) (by omega)]
      by_cases q : y < V 1 2
      · exact (w6 y x y0 (by omega) (by omega) (by omega)).symm
      · rw [(w5 y y0 (by omega)).2.2 (by omega) |>.1, has1_0 (by omega) (by omega)]
  · rw [e0, e7, e8]; exact w8
