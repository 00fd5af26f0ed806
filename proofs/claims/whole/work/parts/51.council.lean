/-! WHAT IS ASKED, said once for both sides -/
def wornR (f : Int → Int) (c : Int) : Nat → Int → Int → Int
  | 0, acc, _ => acc
  | d + 1, acc, k => if f k = c then wornR f c d (acc + 1) (k + 1) else wornR f c d (acc + 0) (k + 1)
def wornF (V S : mI) (c : Int) : Int := wornR (S 3) c (V 1 2).toNat 0 0
theorem wornR_rg {f : Int → Int} {c : Int} : ∀ (d : Nat) (acc k : Int), acc ≤ wornR f c d acc k ∧ wornR f c d acc k ≤ acc + d
  | 0, acc, k => ⟨Int.le_refl _, by show acc ≤ acc + ((0 : Nat) : Int); omega⟩
  | d + 1, acc, k => by
    unfold wornR
    by_cases h : f k = c
    · rw [if_pos h]; have := wornR_rg (f := f) (c := c) d (acc + 1) (k + 1); omega
    · rw [if_neg h]; have := wornR_rg (f := f) (c := c) d (acc + 0) (k + 1); omega
theorem wornF_rg {V S : mI} {c : Int} (h : V 1 2 ≤ 6) : 0 ≤ wornF V S c ∧ wornF V S c ≤ 6 := by
  have := wornR_rg (f := S 3) (c := c) (V 1 2).toNat 0 0
  unfold wornF; omega
def mtF (V : mI) (tw : Int → Int) (b th c : Int) : Int := 0 + tw b * (9 - gapF (tr V 2 th 0) (tr V 1 c 0)) + tr V 0 b 1 * (9 - gapF (tr V 2 th 1) (tr V 1 c 1)) + tr V 0 b 2 * (9 - gapF (tr V 2 th 2) (tr V 1 c 2))
def envS (V S : mI) (b c m hd : Int) (v : Int) : Int := if v = 1 then S 0 0 else if v = 2 then S 2 b else if v = 3 then has1 (V 0 9) b else if v = 4 then m else if v = 5 then wornF V S c else if v = 6 then hd else tr V 1 c 3
def envG (V S : mI) (v : Int) : Int := if v = 1 then S 0 0 else if v = 8 then S 0 1 else wornF V S (-1)
def scF (V : mI) (F : Int → List (Int × Int)) (S : mI) (tw : Int → Int) (b th c hd : Int) : Int := if F 0 = [] then mtF V tw b th c else evF (envS V S b c (mtF V tw b th c) hd) (F 0)
def cnF (V : mI) (F : Int → List (Int × Int)) (S : mI) (b : Int) : Int := if F 1 = [] then 1 else evF (envS V S b 0 0 0) (F 1)
def giF (V : mI) (F : Int → List (Int × Int)) (S : mI) : Int := if F 2 = [] then 9 else (if 0 ≤ evF (envG V S) (F 2) then (if evF (envG V S) (F 2) ≤ 99 then evF (envG V S) (F 2) else 99) else 0)
/-- the greatest of some numbers, of like ones the first -/
def woR (sc : Int → Int) : Nat → Int → Int → Int → Int
  | 0, b, _, _ => b
  | d + 1, b, m, c => if b = -1 then woR sc d c (sc c) (c + 1) else if sc c ≤ m then woR sc d b m (c + 1) else woR sc d c (sc c) (c + 1)
def woF (sc : Int → Int) (nc : Int) : Int := woR sc nc.toNat (-1) 0 0
theorem woR_rg {sc : Int → Int} : ∀ (d : Nat) (b m c : Int), -1 ≤ b → b < c → 0 ≤ c → -1 ≤ woR sc d b m c ∧ woR sc d b m c < c + d
  | 0, b, m, c, h1, h2, h3 => ⟨h1, by show b < c + ((0 : Nat) : Int); omega⟩
  | d + 1, b, m, c, h1, h2, h3 => by
    unfold woR
    have e1 := woR_rg (sc := sc) d c (sc c) (c + 1) (by omega) (by omega) (by omega)
    have e2 := woR_rg (sc := sc) d b m (c + 1) (by omega) (by omega) (by omega)
    repeat' split
    all_goals omega
theorem woF_rg {sc : Int → Int} {nc : Int} (h : 0 ≤ nc) : -1 ≤ woF sc nc ∧ woF sc nc < nc := by
  unfold woF
  by_cases h0 : nc = 0
  · subst h0; show -1 ≤ (-1 : Int) ∧ (-1 : Int) < 0; decide
  · have := woR_rg (sc := sc) nc.toNat (-1) 0 0 (by omega) (by omega) (by omega)
    omega
/-- those of a set are asked in a row: the votes, the words -/
def asR (V : mI) (F : Int → List (Int × Int)) (S : mI) (tw : Int → Int) (th : Int) (o : Int → Int) (set : Int) : Nat → Int → (Int → Int) → (Int → Int) → (Int → Int) × (Int → Int)
  | 0, _, v, s => (v, s)
  | d + 1, k, v, s =>
    if has1 set (o k) = 0 then asR V F S tw th o set d (k + 1) v s
    else if woF (fun c => scF V F S tw (o k) th c (v c)) (V 1 1) = -1 ∨ cnF V F S (o k) = 0 then asR V F S tw th o set d (k + 1) v (zfn s (o k) (woF (fun c => scF V F S tw (o k) th c (v c)) (V 1 1)))
    else asR V F S tw th o set d (k + 1) (zfn v (woF (fun c => scF V F S tw (o k) th c (v c)) (V 1 1)) (v (woF (fun c => scF V F S tw (o k) th c (v c)) (V 1 1)) + 1)) (zfn s (o k) (woF (fun c => scF V F S tw (o k) th c (v c)) (V 1 1)))
def asF (V : mI) (F : Int → List (Int × Int)) (S : mI) (tw : Int → Int) (th : Int) (o : Int → Int) (set : Int) : (Int → Int) × (Int → Int) := asR V F S tw th o set (V 1 0).toNat 0 (fun _ => 0) (fun _ => -1)
def chR (v : Int → Int) : Nat → Int → Int → Int
  | 0, b, _ => b
  | d + 1, b, c => if v c ≤ (if b = -1 then 0 else v b) then chR v d b (c + 1) else chR v d c (c + 1)
def chF (v : Int → Int) (nc : Int) : Int := chR v nc.toNat (-1) 0
theorem chR_rg {v : Int → Int} : ∀ (d : Nat) (b c : Int), -1 ≤ b → b < c → 0 ≤ c → -1 ≤ chR v d b c ∧ chR v d b c < c + d
  | 0, b, c, h1, h2, h3 => ⟨h1, by show b < c + ((0 : Nat) : Int); omega⟩
  | d + 1, b, c, h1, h2, h3 => by
    unfold chR
    have e1 := chR_rg (v := v) d c (c + 1) (by omega) (by omega) (by omega)
    have e2 := chR_rg (v := v) d b (c + 1) (by omega) (by omega) (by omega)
    split <;> omega
theorem chF_rg {v : Int → Int} {nc : Int} (h : 0 ≤ nc) : -1 ≤ chF v nc ∧ chF v nc < nc := by
  unfold chF
  by_cases h0 : nc = 0
  · subst h0; show -1 ≤ (-1 : Int) ∧ (-1 : Int) < 0; decide
  · have := chR_rg (v := v) nc.toNat (-1) 0 (by omega) (by omega) (by omega)
    omega
/-- all that is well about a land and a state -/
def wfs (V : mI) (F : Int → List (Int × Int)) (S : mI) (tw : Int → Int) : Prop := ldOK V ∧ foOK V F ∧ stOK V S ∧ ∀ b, 0 ≤ tw b ∧ tw b ≤ 9
theorem mtF_rg {V : mI} {tw : Int → Int} {b th c : Int} (hV : ldOK V) (ht : 0 ≤ tw b ∧ tw b ≤ 9) (hb : 0 ≤ b ∧ b < V 1 0) (hth : 0 ≤ th ∧ th < V 1 2) (hc : 0 ≤ c ∧ c < V 1 1) : 0 ≤ mtF V tw b th c ∧ mtF V tw b th c ≤ 243 := by
  obtain ⟨-, h2, -⟩ := hV
  have g0 := gapF_rg (h2 2 th 0 (by omega) (by omega) hth.1 hth.2 (by omega) (by omega)) (h2 1 c 0 (by omega) (by omega) hc.1 hc.2 (by omega) (by omega))
  have g1 := gapF_rg (h2 2 th 1 (by omega) (by omega) hth.1 hth.2 (by omega) (by omega)) (h2 1 c 1 (by omega) (by omega) hc.1 hc.2 (by omega) (by omega))
  have g2 := gapF_rg (h2 2 th 2 (by omega) (by omega) hth.1 hth.2 (by omega) (by omega)) (h2 1 c 2 (by omega) (by omega) hc.1 hc.2 (by omega) (by omega))
  have m0 := mul9 ht (show 0 ≤ 9 - gapF (tr V 2 th 0) (tr V 1 c 0) ∧ 9 - gapF (tr V 2 th 0) (tr V 1 c 0) ≤ 9 by omega)
  have m1 := mul9 (h2 0 b 1 (by omega) (by omega) hb.1 hb.2 (by omega) (by omega)) (show 0 ≤ 9 - gapF (tr V 2 th 1) (tr V 1 c 1) ∧ 9 - gapF (tr V 2 th 1) (tr V 1 c 1) ≤ 9 by omega)
  have m2 := mul9 (h2 0 b 2 (by omega) (by omega) hb.1 hb.2 (by omega) (by omega)) (show 0 ≤ 9 - gapF (tr V 2 th 2) (tr V 1 c 2) ∧ 9 - gapF (tr V 2 th 2) (tr V 1 c 2) ≤ 9 by omega)
  unfold mtF; omega
theorem envS_in {V S : mI} {b c m hd : Int} (hV : ldOK V) (hS : stOK V S) (hb : 0 ≤ b ∧ b < V 1 0) (hc : (0 ≤ c ∧ c < V 1 1)) (hm : 0 ≤ m ∧ m ≤ 243) (hh : 0 ≤ hd ∧ hd < 6) (v : Int) : vIn (envS V S b c m hd v) := by
  obtain ⟨⟨c0, c1, c2⟩, h2, h3, h4, -⟩ := hV
  obtain ⟨s1, s2, s3, s4, s5, s6, s7⟩ := hS
  have w := wornF_rg (V := V) (S := S) (c := c) c2.2
  have b1 := bit_01 h4.1 h4.2 hb.1 (by omega : b < 6)
  have b2 := s6 b hb.1 (by omega)
  have b3 := h3 c hc.1 hc.2
  unfold envS
  repeat' split
  all_goals omega
theorem envC_in {V S : mI} {b : Int} (hV : ldOK V) (hS : stOK V S) (hb : 0 ≤ b ∧ b < V 1 0) {v : Int} (hv : v ≤ 3) : 1 ≤ v → vIn (envS V S b 0 0 0 v) := by
  obtain ⟨⟨c0, c1, c2⟩, h2, h3, h4, -⟩ := hV
  obtain ⟨s1, s2, s3, s4, s5, s6, s7⟩ := hS
  have b1 := bit_01 h4.1 h4.2 hb.1 (by omega : b < 6)
  have b2 := s6 b hb.1 (by omega)
  intro h1
  unfold envS
  by_cases e1 : v = 1
  · rw [if_pos e1]; omega
  rw [if_neg e1]
  by_cases e2 : v = 2
  · rw [if_pos e2]; omega
  rw [if_neg e2, if_pos (by omega)]; omega
theorem envG_in {V S : mI} (hV : ldOK V) (hS : stOK V S) (v : Int) : vIn (envG V S v) := by
  obtain ⟨⟨c0, c1, c2⟩, h2, h3, h4, -⟩ := hV
  obtain ⟨s1, s2, s3, s4, s5, s6, s7⟩ := hS
  have w := wornF_rg (V := V) (S := S) (c := -1) c2.2
  unfold envG
  repeat' split
  all_goals omega
/-! The class reads -/
theorem c_trait {I : mI} {h : Nat} {V : mI} {l1 l2 l3 : Int} {Q : Int → Prop} (hL : ldC I h V) (h1 : 0 ≤ l1 ∧ l1 < 3) (h2 : 0 ≤ l2 ∧ l2 < 6) (h3 : 0 ≤ l3 ∧ l3 < 4) (hq : Q (tr V l1 l2 l3)) : p3_traitOf h l1 l2 l3 I Q := by
  unfold p3_traitOf
  refine ⟨by omega, by omega, by omega, by omega, wLet_r (zf (by omega) (zf (by omega) ⟨by omega, ?_⟩))⟩
  rw [hL.2.2.2.1]; exact hq
theorem c_hasCode {I : mI} {h : Nat} {V : mI} {F : Int → List (Int × Int)} {w : Int} {Q : Int → Prop} (hL : ldC I h V) (hw : 0 ≤ w ∧ w < 3) (hF : foOK V F) (h0 : F w = [] → Q 0) (h1 : F w ≠ [] → Q 1) : p3_hasCode h w I Q := by
  obtain ⟨-, -, -, -, -, -, -, l7, l8⟩ := hL
  unfold p3_hasCode
  rw [l7, l8]
  refine zf (by omega) (zf (by omega) ⟨hw, hw, ?_⟩)
  rcases (hF w hw.1 hw.2).1 with ⟨e, h⟩ | ⟨e, h, -⟩
  · exact zt h (h0 e)
  · exact zf (by omega) (h1 e)
theorem c_work {I J : mI} {h : Nat} {V : mI} {F : Int → List (Int × Int)} {w : Int} {env : Int → Int} {Q : Int → mI → Prop} (hL : ldC I h V) (hw : 0 ≤ w ∧ w < 3) (hF : foOK V F) (he : F w ≠ []) (hvar : ∀ v, 1 ≤ v → v ≤ 9 → (v = 1 ∨ (w = 2 ∧ 8 ≤ v) ∨ (w ≠ 2 ∧ v ≤ 3) ∨ (w = 0 ∧ v ≤ 7)) → I 5 (v - 1) = env v ∧ vIn (env v))
    (k : ∀ J' : mI, jfr 6 J J' → vIn (evF env (F w)) → (w = 1 → vT01 (evF env (F w))) → Q (evF env (F w)) J') : p8_workOut h w I J Q := by
  obtain ⟨-, -, -, -, -, -, l6, l7, l8⟩ := hL
  obtain ⟨hc, ht⟩ := hF w hw.1 hw.2
  obtain ⟨ht, hv⟩ := ht he
  rcases hc with ⟨e, -⟩ | ⟨-, h1, h2, h3, h4, h5⟩
  · exact absurd e he
  · refine wo_whole (env := env) (c := F w) (t := decide (w = 1)) hw (by rw [l7]; exact h3) (by rw [l8]; exact h5) (by rw [l7, l8]; exact h4) (fun q hq a b => hvar q.1 a b (hv q hq a b)) (by rw [l7]; exact segC_fr l6 h2) ht (fun J' hJ h6 h7 => k J' hJ h6 (fun e => h7 (by rw [e]; rfl)))
theorem c_wornGo {I : mI} {a : Nat} {n c : Int} {f : Int → Int} {Q : Int → Prop} (hf : ∀ k, 0 ≤ k → k < 6 → I (a + 3) k = f k) (hn : n ≤ 6) : ∀ (d : Nat) (acc k : Int), 0 ≤ k → k + d = n → 0 ≤ acc → acc ≤ k → Q (wornR f c d acc k) → p7_wornBy_b5 a n c I Q (d + 1) acc k
  | 0, acc, k, h0, h1, h2, h3, hq => by
    show p7_wornBy_b5_body a n c I Q (p7_wornBy_b5 a n c I Q 0) acc k
    unfold p7_wornBy_b5_body
    exact zt (by omega) hq
  | d + 1, acc, k, h0, h1, h2, h3, hq => by
    show p7_wornBy_b5_body a n c I Q (p7_wornBy_b5 a n c I Q (d + 1)) acc k
    unfold p7_wornBy_b5_body
    refine zf (by omega) (zf (by omega) ⟨by omega, ?_⟩)
    rw [hf k h0 (by omega)]
    unfold wornR at hq
    by_cases e : f k = c
    · rw [if_pos e] at hq ⊢
      exact ⟨by omega, by omega, c_wornGo hf hn d _ _ (by omega) (by omega) (by omega) (by omega) hq⟩
    · rw [if_neg e] at hq ⊢
      exact ⟨by omega, by omega, c_wornGo hf hn d _ _ (by omega) (by omega) (by omega) (by omega) hq⟩
theorem c_worn {I : mI} {a : Nat} {V S : mI} {n c : Int} {Q : Int → Prop} (hS : stC I a S) (hn : n = V 1 2) (h2 : 0 ≤ V 1 2 ∧ V 1 2 ≤ 6) (hq : Q (wornF V S c)) : p7_wornBy a n c I Q := by
  subst hn
  exact ⟨(V 1 2).toNat + 1, c_wornGo (fun k h0 h1 => (hS.2.2.2.1 k h0 h1).2.2) h2.2 _ _ _ (by omega) (by omega) (by omega) (by omega) hq⟩
theorem c_match29 {I : mI} {h : Nat} {V : mI} {l1 l2 th c acc j s0 : Int} {k6 : Int → Int → Prop} {Q : Int → Prop} (hL : ldC I h V) (hV : ldOK V) (hth : 0 ≤ th ∧ th < V 1 2) (hc : 0 ≤ c ∧ c < V 1 1) (hs : 0 ≤ s0 ∧ s0 ≤ 9) (hj : 0 ≤ j ∧ j < 3) (ha : 0 ≤ acc ∧ acc ≤ 162) (k : (0 ≤ acc + s0 * (9 - gapF (tr V 2 th j) (tr V 1 c j)) ∧ acc + s0 * (9 - gapF (tr V 2 th j) (tr V 1 c j)) ≤ acc + 81) → k6 (acc + s0 * (9 - gapF (tr V 2 th j) (tr V 1 c j))) (j + 1)) : p3_matchOf_b29 h l1 l2 th c acc j s0 I k6 Q := by
  obtain ⟨⟨n0, n1, n2⟩, h2, -⟩ := hV
  have t1 := h2 2 th j (by omega) (by omega) hth.1 hth.2 hj.1 hj.2
  have t2 := h2 1 c j (by omega) (by omega) hc.1 hc.2 hj.1 hj.2
  have g := gapF_rg t1 t2
  have m := mul9 hs (show 0 ≤ 9 - gapF (tr V 2 th j) (tr V 1 c j) ∧ 9 - gapF (tr V 2 th j) (tr V 1 c j) ≤ 9 by omega)
  replace k := k (by omega)
  unfold p3_matchOf_b29
  refine c_trait hL (by omega) (by omega) (by omega) (c_trait hL (by omega) (by omega) (by omega) ⟨by omega, ?_⟩)
  by_cases e : 0 ≤ tr V 2 th j - tr V 1 c j
  · have e2 : gapF (tr V 2 th j) (tr V 1 c j) = tr V 2 th j - tr V 1 c j := by unfold gapF; split <;> omega
    rw [e2] at k m
    exact zt e ⟨by omega, by omega, by omega, wLet_r ⟨by omega, k⟩⟩
  · have e2 : gapF (tr V 2 th j) (tr V 1 c j) = -(tr V 2 th j - tr V 1 c j) := by unfold gapF; split <;> omega
    rw [e2] at k m
    exact zf e ⟨by omega, by omega, by omega, by omega, wLet_r ⟨by omega, k⟩⟩
theorem c_match {I : mI} {h : Nat} {V : mI} {tw : Int → Int} {b th c : Int} {Q : Int → Prop} (hL : ldC I h V) (hV : ldOK V) (hb : 0 ≤ b ∧ b < V 1 0) (hth : 0 ≤ th ∧ th < V 1 2) (hc : 0 ≤ c ∧ c < V 1 1) (ht : 0 ≤ tw b ∧ tw b ≤ 9) (hq : Q (mtF V tw b th c)) : p3_matchOf h b (tw b) th c I Q := by
  have hV' := hV
  obtain ⟨⟨n0, n1, n2⟩, h2, -⟩ := hV'
  refine ⟨4, ?_⟩
  show p3_matchOf_b6_body h b (tw b) th c I Q (p3_matchOf_b6 h b (tw b) th c I Q 3) 0 0
  unfold p3_matchOf_b6_body
  refine zf (by omega) (zt rfl (c_match29 hL hV hth hc ht (by omega) (by omega) (fun r0 => ?_)))
  show p3_matchOf_b6_body h b (tw b) th c I Q (p3_matchOf_b6 h b (tw b) th c I Q 2) _ 1
  unfold p3_matchOf_b6_body
  refine zf (by omega) (zf (by omega) (c_trait hL (by omega) (by omega) (by omega) (c_match29 hL hV hth hc (h2 0 b 1 (by omega) (by omega) hb.1 hb.2 (by omega) (by omega)) (by omega) (by omega) (fun r1 => ?_))))
  show p3_matchOf_b6_body h b (tw b) th c I Q (p3_matchOf_b6 h b (tw b) th c I Q 1) _ 2
  unfold p3_matchOf_b6_body
  refine zf (by omega) (zf (by omega) (c_trait hL (by omega) (by omega) (by omega) (c_match29 hL hV hth hc (h2 0 b 2 (by omega) (by omega) hb.1 hb.2 (by omega) (by omega)) (by omega) (by omega) (fun r2 => ?_))))
  show p3_matchOf_b6_body h b (tw b) th c I Q (p3_matchOf_b6 h b (tw b) th c I Q 0) _ 3
  unfold p3_matchOf_b6_body
  exact zt (by omega) hq
theorem c_put {I : mI} {v x i : Int} {Q : mI → Prop} (hi : -1 - v = i) (h0 : 0 ≤ i) (h1 : i < 9) (hq : Q (up I 5 i x)) : p8_put v x I Q := by
  unfold p8_put
  rw [hi]
  exact ⟨by omega, zf (by omega) (zf (by omega) ⟨by omega, wLet_r hq⟩)⟩
