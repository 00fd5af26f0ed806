/-! CLASHES, counted twice -/
def smR (f : Int → Int) : Nat → Int → Int
  | 0, _ => 0
  | d + 1, k => f k + smR f d (k + 1)
theorem smR_snoc (f : Int → Int) : ∀ (d : Nat) (k : Int), smR f (d + 1) k = smR f d k + f (k + d)
  | 0, k => by
    show f k + 0 = 0 + f (k + ((0 : Nat) : Int))
    rw [show k + ((0 : Nat) : Int) = k by omega]; omega
  | d + 1, k => by
    have h := smR_snoc f d (k + 1)
    show f k + smR f (d + 1) (k + 1) = f k + smR f d (k + 1) + f (k + ((d + 1 : Nat) : Int))
    rw [h, show k + 1 + (d : Int) = k + ((d + 1 : Nat) : Int) by omega]; omega
theorem smR_congr {f g : Int → Int} : ∀ (d : Nat) (k : Int), (∀ j, k ≤ j → j < k + d → f j = g j) → smR f d k = smR g d k
  | 0, _, _ => rfl
  | d + 1, k, h => by
    show f k + smR f d (k + 1) = g k + smR g d (k + 1)
    rw [h k (by omega) (by omega), smR_congr d (k + 1) (fun j h1 h2 => h j (by omega) (by omega))]
theorem smR_add (f g : Int → Int) : ∀ (d : Nat) (k : Int), smR (fun j => f j + g j) d k = smR f d k + smR g d k
  | 0, _ => rfl
  | d + 1, k => by
    show f k + g k + smR (fun j => f j + g j) d (k + 1) = f k + smR f d (k + 1) + (g k + smR g d (k + 1))
    rw [smR_add f g d (k + 1)]; omega
theorem smR_rg {f : Int → Int} {m : Int} (h : ∀ j, 0 ≤ f j ∧ f j ≤ m) : ∀ (d : Nat) (k : Int), 0 ≤ smR f d k ∧ smR f d k ≤ m * d
  | 0, _ => by
    show 0 ≤ (0 : Int) ∧ (0 : Int) ≤ m * ((0 : Nat) : Int)
    rw [show m * ((0 : Nat) : Int) = 0 from Int.mul_zero m]; omega
  | d + 1, k => by
    have h1 := smR_rg h d (k + 1)
    have h2 := h k
    have h3 : m * ((d + 1 : Nat) : Int) = m * (d : Int) + m := by rw [show ((d + 1 : Nat) : Int) = (d : Int) + 1 by omega, Int.mul_add, Int.mul_one]
    show 0 ≤ f k + smR f d (k + 1) ∧ f k + smR f d (k + 1) ≤ m * ((d + 1 : Nat) : Int)
    rw [h3]; omega
/-- pairs below, pairs above -/
theorem tri (p : Int → Int → Int) : ∀ n : Nat, (∀ a b : Int, 0 ≤ a → a < (n : Int) → 0 ≤ b → b < (n : Int) → p a b = p b a) → smR (fun a => smR (p a) a.toNat 0) n 0 = smR (fun a => smR (p a) ((n : Int) - (a + 1)).toNat (a + 1)) n 0
  | 0, _ => rfl
  | n + 1, h => by
    have ih := tri p n (fun a b a0 a1 b0 b1 => h a b a0 (by omega) b0 (by omega))
    rw [smR_snoc, smR_snoc, ih]
    have e1 : smR (fun a => smR (p a) (((n + 1 : Nat) : Int) - (a + 1)).toNat (a + 1)) n 0 = smR (fun a => smR (p a) ((n : Int) - (a + 1)).toNat (a + 1) + p a n) n 0 := by
      refine smR_congr n 0 (fun j j0 j1 => ?_)
      have e2 : (((n + 1 : Nat) : Int) - (j + 1)).toNat = ((n : Int) - (j + 1)).toNat + 1 := by omega
      show smR (p j) (((n + 1 : Nat) : Int) - (j + 1)).toNat (j + 1) = _
      rw [e2, smR_snoc, show j + 1 + (((n : Int) - (j + 1)).toNat : Int) = n by omega]
    rw [e1, smR_add]
    have e3 : smR (p (0 + (n : Int))) (0 + (n : Int)).toNat 0 = smR (fun a => p a n) n 0 := by
      rw [show (0 + (n : Int)).toNat = n by omega]
      refine smR_congr n 0 (fun j j0 j1 => ?_)
      rw [show (0 : Int) + n = n by omega]
      exact h _ _ (by omega) (by omega) (by omega) (by omega)
    have e4 : smR (p (0 + (n : Int))) (((n + 1 : Nat) : Int) - (0 + (n : Int) + 1)).toNat (0 + (n : Int) + 1) = 0 := by
      rw [show (((n + 1 : Nat) : Int) - (0 + (n : Int) + 1)).toNat = 0 by omega]; rfl
    rw [e3, e4]; omega
/-- one pair of things: a clash or none -/
def clP (V : mI) (w : Int → Int) (a b : Int) : Int := if has1 (V 4 a) b = 1 then (if w a = -1 then 0 else (if w a = w b then 1 else 0)) else 0
theorem clP_rg (V : mI) (w : Int → Int) (a b : Int) : 0 ≤ clP V w a b ∧ clP V w a b ≤ 1 := by
  unfold clP
  repeat' split
  all_goals omega
theorem clP_sym {V : mI} {w : Int → Int} (hN : nrOK V) {a b : Int} (a0 : 0 ≤ a) (a1 : a < V 1 2) (b0 : 0 ≤ b) (b1 : b < V 1 2) : clP V w a b = clP V w b a := by
  unfold clP
  rw [hN a b a0 a1 b0 b1]
  by_cases e : has1 (V 4 b) a = 1
  · rw [if_pos e, if_pos e]
    by_cases e1 : w a = -1
    · rw [if_pos e1]
      by_cases e2 : w b = -1
      · rw [if_pos e2]
      · rw [if_neg e2, if_neg (fun q => e2 (q.trans e1))]
    · rw [if_neg e1]
      by_cases e2 : w b = -1
      · rw [if_pos e2, if_neg (fun q => e1 (q.trans e2))]
      · rw [if_neg e2]
        by_cases e3 : w a = w b
        · rw [if_pos e3, if_pos e3.symm]
        · rw [if_neg e3, if_neg (fun q => e3 q.symm)]
  · rw [if_neg e, if_neg e]
def cbF (V : mI) (w : Int → Int) (a : Int) : Int := smR (clP V w a) a.toNat 0
theorem c_belowGo {I : mI} {h ob : Nat} {V : mI} {w : Int → Int} {a : Int} {Q : Int → Prop} (hL : ldC I h V) (hw : ∀ k, 0 ≤ k → k < 6 → I ob k = w k) (ha : 0 ≤ a ∧ a < 6) :
    ∀ (d : Nat) (acc k : Int), 0 ≤ k → k + d = a → 0 ≤ acc → acc ≤ k → Q (acc + smR (clP V w a) d k) → p3_clashesBelow_b5 h ob a I Q (d + 1) acc k
  | 0, acc, k, h0, h1, h2, h3, hq => by
    show p3_clashesBelow_b5_body h ob a I Q (p3_clashesBelow_b5 h ob a I Q 0) acc k
    unfold p3_clashesBelow_b5_body
    have hq' : Q (acc + 0) := hq
    rw [Int.add_zero] at hq'
    exact zt (by omega) hq'
  | d + 1, acc, k, h0, h1, h2, h3, hq => by
    show p3_clashesBelow_b5_body h ob a I Q (p3_clashesBelow_b5 h ob a I Q (d + 1)) acc k
    unfold p3_clashesBelow_b5_body
    rw [hL.2.2.2.2.1, hw a ha.1 ha.2, hw k h0 (by omega)]
    have hq' : Q (acc + (clP V w a k + smR (clP V w a) d (k + 1))) := hq
    have st : ∀ x, clP V w a k = x → (0 ≤ x ∧ x ≤ 1) → p3_clashesBelow_b5 h ob a I Q (d + 1) (acc + x) (k + 1) := fun x hx hr => by
      refine c_belowGo hL hw ha d (acc + x) (k + 1) (by omega) (by omega) (by omega) (by omega) ?_
      rw [hx, ← Int.add_assoc] at hq'; exact hq'
    have no : clP V w a k = 0 → rg (k + 1) ∧ p3_clashesBelow_b5 h ob a I Q (d + 1) acc (k + 1) := fun hx => by
      have := st 0 hx (by omega)
      rw [Int.add_zero] at this
      exact ⟨by omega, this⟩
    refine zf (by omega) (zf (by omega) ⟨by omega, ?_⟩)
    by_cases e : has1 (V 4 a) k = 1
    · refine zt e ⟨by omega, ?_⟩
      by_cases e1 : w a = -1
      · exact zt e1 (no (by unfold clP; rw [if_pos e, if_pos e1]))
      · refine zf e1 ⟨by omega, by omega, ?_⟩
        by_cases e2 : w a = w k
        · exact zt e2 ⟨by omega, by omega, st 1 (by unfold clP; rw [if_pos e, if_neg e1, if_pos e2]) (by omega)⟩
        · exact zf e2 (no (by unfold clP; rw [if_pos e, if_neg e1, if_neg e2]))
    · exact zf e (no (by unfold clP; rw [if_neg e]))
theorem c_below {I : mI} {h ob : Nat} {V : mI} {w : Int → Int} {a : Int} {Q : Int → Prop} (hL : ldC I h V) (hw : ∀ k, 0 ≤ k → k < 6 → I ob k = w k) (ha : 0 ≤ a ∧ a < 6) (hq : Q (cbF V w a)) : p3_clashesBelow h ob a I Q :=
  ⟨a.toNat + 1, c_belowGo hL hw ha a.toNat 0 0 (by omega) (by omega) (by omega) (by omega) (by rw [Int.zero_add]; exact hq)⟩
theorem cbF_rg {V : mI} {w : Int → Int} {a : Int} (ha : 0 ≤ a ∧ a < 6) : 0 ≤ cbF V w a ∧ cbF V w a ≤ 6 := by
  have h := smR_rg (f := clP V w a) (m := 1) (clP_rg V w a) a.toNat 0
  unfold cbF; omega
def clF (V : mI) (w : Int → Int) : Int := smR (cbF V w) (V 1 2).toNat 0
theorem c_clashGo {I : mI} {h ob : Nat} {V : mI} {w : Int → Int} {Q : Int → Prop} (hL : ldC I h V) (hw : ∀ k, 0 ≤ k → k < 6 → I ob k = w k) (hn : V 1 2 ≤ 6) :
    ∀ (d : Nat) (acc k : Int), 0 ≤ k → k + d = V 1 2 → 0 ≤ acc → acc ≤ 6 * k → Q (acc + smR (cbF V w) d k) → p3_clashes_b4 h ob I Q (d + 1) acc k
  | 0, acc, k, h0, h1, h2, h3, hq => by
    show p3_clashes_b4_body h ob I Q (p3_clashes_b4 h ob I Q 0) acc k
    unfold p3_clashes_b4_body
    rw [hL.2.1]
    have hq' : Q (acc + 0) := hq
    rw [Int.add_zero] at hq'
    exact zt (by omega) hq'
  | d + 1, acc, k, h0, h1, h2, h3, hq => by
    show p3_clashes_b4_body h ob I Q (p3_clashes_b4 h ob I Q (d + 1)) acc k
    unfold p3_clashes_b4_body
    rw [hL.2.1]
    have r := cbF_rg (V := V) (w := w) (a := k) (by omega)
    have hq' : Q (acc + (cbF V w k + smR (cbF V w) d (k + 1))) := hq
    rw [← Int.add_assoc] at hq'
    exact zf (by omega) (c_below hL hw (by omega) ⟨by omega, by omega, c_clashGo hL hw hn d _ (k + 1) (by omega) (by omega) (by omega) (by omega) hq'⟩)
theorem c_clash {I : mI} {h ob : Nat} {V : mI} {w : Int → Int} {Q : Int → Prop} (hL : ldC I h V) (hw : ∀ k, 0 ≤ k → k < 6 → I ob k = w k) (hn : 0 ≤ V 1 2 ∧ V 1 2 ≤ 6) (hq : Q (clF V w)) : p3_clashes h ob I Q :=
  ⟨(V 1 2).toNat + 1, c_clashGo hL hw hn.2 _ 0 0 (by omega) (by omega) (by omega) (by omega) (by rw [Int.zero_add]; exact hq)⟩
theorem m_clash21 {I : mI} {bk : Int} {V : mI} {F : Int → List (Int × Int)} {w : Int → Int} {a : Int} {k4 : Int → Int → Prop} {Q : Int → Prop} (hM : ldM I bk V F) (hw : ∀ k, 0 ≤ k → k < V 1 2 → I 189 k = w k) (hn : V 1 2 ≤ 6) (ha : 0 ≤ a ∧ a < V 1 2) :
    ∀ (d : Nat) (acc k : Int), 0 ≤ k → k + d = V 1 2 → 0 ≤ acc → acc ≤ 36 + k → k4 (acc + smR (clP V w a) d k) (a + 1) → p12_clashes_b21 a I k4 Q (d + 1) acc k
  | 0, acc, k, h0, h1, h2, h3, hq => by
    obtain ⟨m1, m2, m3, m4, m5, -⟩ := id hM
    show p12_clashes_b21_body a I k4 Q (p12_clashes_b21 a I k4 Q 0) acc k
    unfold p12_clashes_b21_body
    rw [m1, m5]
    have hq' : k4 (acc + 0) (a + 1) := hq
    rw [Int.add_zero] at hq'
    exact ⟨by omega, zt (by omega) ⟨by omega, hq'⟩⟩
  | d + 1, acc, k, h0, h1, h2, h3, hq => by
    obtain ⟨m1, m2, m3, m4, m5, m6, m7, m8, m9, m10, m11, -⟩ := id hM
    show p12_clashes_b21_body a I k4 Q (p12_clashes_b21 a I k4 Q (d + 1)) acc k
    unfold p12_clashes_b21_body p12_nearSet p12_has2
    rw [m1, m5, hw a ha.1 (by omega), hw k h0 (by omega), (m11 a ha.1 ha.2).1]
    have hq' : k4 (acc + (clP V w a k + smR (clP V w a) d (k + 1))) (a + 1) := hq
    have st : ∀ x, clP V w a k = x → (0 ≤ x ∧ x ≤ 1) → p12_clashes_b21 a I k4 Q (d + 1) (acc + x) (k + 1) := fun x hx hr => by
      refine m_clash21 hM hw hn ha d (acc + x) (k + 1) (by omega) (by omega) (by omega) (by omega) ?_
      rw [hx, ← Int.add_assoc] at hq'; exact hq'
    refine ⟨by omega, zf (by omega) ⟨by omega, by omega, by omega, ?_⟩⟩
    by_cases e : has1 (V 4 a) k = 1
    · refine zt e (zf (by decide) ⟨by omega, ?_⟩)
      by_cases e1 : w a = -1
      · exact zt e1 ⟨by omega, by omega,  st 0 (by unfold clP; rw [if_pos e, if_pos e1]) (by omega)⟩
      · refine zf e1 ⟨by omega, by omega, ?_⟩
        by_cases e2 : w a = w k
        · exact zt e2 ⟨by omega, by omega,  st 1 (by unfold clP; rw [if_pos e, if_neg e1, if_pos e2]) (by omega)⟩
        · exact zf e2 ⟨by omega, by omega,  st 0 (by unfold clP; rw [if_pos e, if_neg e1, if_neg e2]) (by omega)⟩
    · exact zf e (zt rfl ⟨by omega, by omega,  st 0 (by unfold clP; rw [if_neg e]) (by omega)⟩)
theorem m_clash4 {I : mI} {bk : Int} {V : mI} {F : Int → List (Int × Int)} {w : Int → Int} {Q : Int → Prop} (hM : ldM I bk V F) (hw : ∀ k, 0 ≤ k → k < V 1 2 → I 189 k = w k) (hn : V 1 2 ≤ 6) :
    ∀ (d : Nat) (acc k : Int), 0 ≤ k → k + d = V 1 2 → 0 ≤ acc → acc ≤ 6 * k → Q (acc + smR (fun a => smR (clP V w a) (V 1 2 - (a + 1)).toNat (a + 1)) d k) → p12_clashes_b4 I Q (d + 1) acc k
  | 0, acc, k, h0, h1, h2, h3, hq => by
    obtain ⟨m1, m2, m3, m4, m5, -⟩ := id hM
    show p12_clashes_b4_body I Q (p12_clashes_b4 I Q 0) acc k
    unfold p12_clashes_b4_body
    rw [m1, m5]
    have hq' : Q (acc + 0) := hq
    rw [Int.add_zero] at hq'
    exact ⟨by omega, zt (by omega) hq'⟩
  | d + 1, acc, k, h0, h1, h2, h3, hq => by
    obtain ⟨m1, m2, m3, m4, m5, -⟩ := id hM
    show p12_clashes_b4_body I Q (p12_clashes_b4 I Q (d + 1)) acc k
    unfold p12_clashes_b4_body
    rw [m1, m5]
    have r := smR_rg (f := clP V w k) (m := 1) (clP_rg V w k) (V 1 2 - (k + 1)).toNat (k + 1)
    have hq' : Q (acc + (smR (clP V w k) (V 1 2 - (k + 1)).toNat (k + 1) + smR (fun a => smR (clP V w a) (V 1 2 - (a + 1)).toNat (a + 1)) d (k + 1))) := hq
    rw [← Int.add_assoc] at hq'
    refine ⟨by omega, zf (by omega) ⟨by omega, (V 1 2 - (k + 1)).toNat + 1, ?_⟩⟩
    exact m_clash21 hM hw hn (by omega) _ acc (k + 1) (by omega) (by omega) (by omega) (by omega) (m_clash4 hM hw hn d _ (k + 1) (by omega) (by omega) (by omega) (by omega) hq')
theorem m_clash {I : mI} {bk : Int} {V : mI} {F : Int → List (Int × Int)} {w : Int → Int} {Q : Int → Prop} (hM : ldM I bk V F) (hN : nrOK V) (hw : ∀ k, 0 ≤ k → k < V 1 2 → I 189 k = w k) (hn : 0 ≤ V 1 2 ∧ V 1 2 ≤ 6) (hq : Q (clF V w)) : p12_clashes I Q := by
  refine ⟨(V 1 2).toNat + 1, m_clash4 hM hw hn.2 _ 0 0 (by omega) (by omega) (by omega) (by omega) ?_⟩
  have e := tri (clP V w) (V 1 2).toNat (fun a b a0 a1 b0 b1 => clP_sym hN a0 (by omega) b0 (by omega))
  rw [show (((V 1 2).toNat : Nat) : Int) = V 1 2 by omega] at e
  rw [Int.zero_add, ← e]; exact hq
theorem la_4 {L t : Nat} {X : Int → Int} {i : Int} {I J : mI} {R : mR} {K : mI → mI → mR → Prop} (H : LaH L t X i I J R K) : plaw_4 L X i I J R K := by
  have hk := laK H
  obtain ⟨hL, hX, h0, h1, ht, ⟨h, sp, bk, V, F, S, P, hl, hs, hr⟩, -⟩ := H
  have hh := iLan_ld hl
  obtain ⟨⟨r12, -, -⟩, hLd, hV, hF, hM, hN, hNam, hTw, hSup⟩ := hl
  obtain ⟨hC, hSM, hSt⟩ := hs
  have n := hV.1
  obtain ⟨a1, a2, a3, ⟨d1, d2, d3⟩, a5, a6, a7⟩ := hr
  unfold plaw_4
  refine ⟨by omega, by omega, ?_⟩
  generalize X (i + 1) = x
  unfold p11_has
  rw [r12, hLd.2.1]
  obtain ⟨m1, m2, m3, m4, m5, -⟩ := id hM
  have op : ∀ {r : Int}, p12_has x I J (fun r2 => if r = r2 then K I J R else False) → rg (i + 1) ∧ (0 ≤ i + 1 ∧ i + 1 < (L : Int)) ∧ p12_has x I J (fun r2 => if r = r2 then K I J R else False) := fun q => ⟨by omega, by omega, q⟩
  by_cases e0 : x = 0
  · subst e0
    refine zt rfl (⟨hh, by omega, op ?_⟩)
    unfold p12_has
    rw [m1, m3]
    exact zt rfl (⟨by omega, zt rfl hk⟩)
  refine zf e0 ?_
  by_cases e1 : x = 1
  · subst e1
    refine zt rfl (⟨hh, by omega, op ?_⟩)
    unfold p12_has
    rw [m1, m4]
    exact zf (by decide) (zt rfl (⟨by omega, zt rfl hk⟩))
  refine zf e1 ?_
  by_cases e2 : x = 2
  · subst e2
    refine zt rfl (⟨hh, by omega, op ?_⟩)
    unfold p12_has
    rw [m1, m5]
    exact zf (by decide) (zf (by decide) (zt rfl (⟨by omega, zt rfl hk⟩)))
  refine zf e2 ?_
  by_cases e3 : x = 3
  · subst e3
    refine zt rfl (op ?_)
    unfold p12_has
    exact zf (by decide) (zf (by decide) (zf (by decide) (zt rfl (zt (hC.1.trans hSM.1.symm) hk))))
  refine zf e3 ?_
  by_cases e4 : x = 4
  · subst e4
    refine zt rfl (op ?_)
    unfold p12_has
    exact zf (by decide) (zf (by decide) (zf (by decide) (zf (by decide) (zt rfl (zt (hC.2.1.trans hSM.2.1.symm) hk)))))
  refine zf e4 ?_
  by_cases e5 : x = 5
  · subst e5
    refine zt rfl (⟨hh, c_worn hC rfl n.2.2 (op ?_)⟩)
    unfold p12_has
    exact zf (by decide) (zf (by decide) (zf (by decide) (zf (by decide) (zf (by decide) (zt rfl (m_worn hM hSM (by decide) n.2.2 (zt rfl hk)))))))
  refine zf e5 ?_
  by_cases e6 : x = 6
  · subst e6
    refine zt rfl (⟨hh, c_clash hLd (fun k k0 k6 => (hC.2.2.2.1 k k0 k6).2.2) n.2.2 (op ?_)⟩)
    unfold p12_has
    exact zf (by decide) (zf (by decide) (zf (by decide) (zf (by decide) (zf (by decide) (zf (by decide) (zt rfl (m_clash hM hN (fun k k0 k6 => ((stM0 hSM).1 k k0 ⟨by omega, Or.inr k6⟩).2.2) n.2.2 (zt rfl hk))))))))
  refine zf e6 ?_
  by_cases e7 : x = 7
  · subst e7
    refine zt rfl (op ?_)
    unfold p12_has
    exact zf (by decide) (zf (by decide) (zf (by decide) (zf (by decide) (zf (by decide) (zf (by decide) (zf (by decide) (zt rfl (zt (hC.2.2.1.trans hSM.2.2.1.symm) hk))))))))
  refine zf e7 ?_
  by_cases e8 : x = 8
  · subst e8
    refine zt rfl (op ?_)
    unfold p12_has
    exact zf (by decide) (zf (by decide) (zf (by decide) (zf (by decide) (zf (by decide) (zf (by decide) (zf (by decide) (zf (by decide) (zt rfl (zt a7.1 hk)))))))))
  refine zf e8 ?_
  by_cases e9 : x = 9
  · subst e9
    refine zt rfl (op ?_)
    unfold p12_has
    exact zf (by decide) (zf (by decide) (zf (by decide) (zf (by decide) (zf (by decide) (zf (by decide) (zf (by decide) (zf (by decide) (zf (by decide) (zt rfl (zt a5.2.1 hk))))))))))
  refine zf e9 ?_
  by_cases e10 : x = 10
  · subst e10
    refine zt rfl (op ?_)
    unfold p12_has
    rw [← d1]
    exact zf (by decide) (zf (by decide) (zf (by decide) (zf (by decide) (zf (by decide) (zf (by decide) (zf (by decide) (zf (by decide) (zf (by decide) (zf (by decide) (zt rfl (⟨⟨by omega, by omega⟩, zt rfl hk⟩)))))))))))
  refine zf e10 ?_
  refine op ?_
  unfold p12_has
  exact zf e0 (zf e1 (zf e2 (zf e3 (zf e4 (zf e5 (zf e6 (zf e7 (zf e8 (zf e9 (zf e10 (zt rfl hk)))))))))))
