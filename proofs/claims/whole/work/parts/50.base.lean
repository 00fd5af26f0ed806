/-! THE PURE PART: steps, views of the memory -/
theorem zt {c a b : Prop} [Decidable c] (hc : c) (h : a) : if c then a else b := by rw [if_pos hc]; exact h
theorem zf {c a b : Prop} [Decidable c] (hc : ¬ c) (h : b) : if c then a else b := by rw [if_neg hc]; exact h
theorem zs {c a b : Prop} [Decidable c] (h1 : c → a) (h2 : ¬ c → b) : if c then a else b := by
  by_cases h : c
  · rw [if_pos h]; exact h1 h
  · rw [if_neg h]; exact h2 h
def zfn (f : Int → Int) (k v : Int) : Int → Int := fun j => if j = k then v else f j
theorem zfn_s (f : Int → Int) (k v : Int) : zfn f k v k = v := by unfold zfn; rw [if_pos rfl]
theorem zfn_o {f : Int → Int} {k v j : Int} (h : j ≠ k) : zfn f k v j = f j := by unfold zfn; rw [if_neg h]
theorem up_eq (I : mI) (a : Nat) (k v : Int) : up I a k v a = zfn (I a) k v := by
  funext j; unfold up zfn
  by_cases h : j = k
  · rw [if_pos ⟨rfl, h⟩, if_pos h]
  · rw [if_neg (fun q => h q.2), if_neg h]
theorem up_ne {I : mI} {a b : Nat} {k v : Int} (h : b ≠ a) : up I a k v b = I b := funext fun j => up_o I _ _ _ h
theorem fil_ne {I : mI} {a b : Nat} {N v : Int} (h : b ≠ a) : fil I a N v b = I b := by funext j; unfold fil; rw [if_neg (fun q => h q.1)]
theorem fil_eq (I : mI) (a : Nat) (N v : Int) : fil I a N v a = fun j => if 0 ≤ j ∧ j < N then v else I a j := by
  funext j; unfold fil
  by_cases h : 0 ≤ j ∧ j < N
  · rw [if_pos ⟨rfl, h⟩, if_pos h]
  · rw [if_neg (fun q => h q.2), if_neg h]
theorem fil_in {I : mI} {a : Nat} {N v j : Int} (h0 : 0 ≤ j) (h1 : j < N) : fil I a N v a j = v := by unfold fil; rw [if_pos ⟨rfl, h0, h1⟩]
theorem cpy_ne {I : mI} {a0 a b : Nat} {sp dp len : Int} (h : b ≠ a) : cpy I a0 sp a dp len b = I b := by funext j; unfold cpy; rw [if_neg (fun q => h q.1)]
theorem cpy_in {I : mI} {a0 a : Nat} {sp dp len j : Int} (h0 : dp ≤ j) (h1 : j < dp + len) : cpy I a0 sp a dp len a j = I a0 (sp + (j - dp)) := by unfold cpy; rw [if_pos ⟨rfl, h0, h1⟩]
/-! A land as the class holds it: nine rows from the object on -/
def ldC (I : mI) (h : Nat) (V : mI) : Prop := I h = V 0 ∧ I (h + 1) = V 1 ∧ I (h + 2) = V 2 ∧ I (h + 3) = V 3 ∧ I (h + 4) = V 4 ∧ I (h + 5) = V 5 ∧ I (h + 6) = V 6 ∧ I (h + 7) = V 7 ∧ I (h + 8) = V 8
def tr (V : mI) (kd w j : Int) : Int := V 3 (((kd * 6) + w) * 4 + j)
def has1 (x b : Int) : Int := bAnd (bShr x b) 1
def ldOK (V : mI) : Prop :=
  ((0 ≤ V 1 0 ∧ V 1 0 ≤ 6) ∧ (0 ≤ V 1 1 ∧ V 1 1 ≤ 6) ∧ (0 ≤ V 1 2 ∧ V 1 2 ≤ 6)) ∧
  (∀ kd w j, 0 ≤ kd → kd < 3 → 0 ≤ w → w < V 1 kd → 0 ≤ j → j < 3 → 0 ≤ tr V kd w j ∧ tr V kd w j ≤ 9) ∧
  (∀ w, 0 ≤ w → w < V 1 1 → 0 ≤ tr V 1 w 3 ∧ tr V 1 w 3 ≤ 99) ∧
  (0 ≤ V 0 9 ∧ V 0 9 < 64) ∧ (0 ≤ V 0 10 ∧ V 0 10 ≤ 999) ∧ (0 ≤ V 0 11 ∧ V 0 11 ≤ 100) ∧
  (∀ t, 0 ≤ t → t < V 1 2 → 0 ≤ V 4 t ∧ V 4 t < 64) ∧
  (∀ t, 0 ≤ t → t < 6 → -1 ≤ V 5 t ∧ V 5 t < V 1 1)
def okV (w : Int) (c : List (Int × Int)) : Prop := ∀ q ∈ c, 1 ≤ q.1 → q.1 ≤ 9 → q.1 = 1 ∨ (w = 2 ∧ 8 ≤ q.1) ∨ (w ≠ 2 ∧ q.1 ≤ 3) ∨ (w = 0 ∧ q.1 ≤ 7)
/-- one formula of a land: none, or a code of one kind -/
def foC (V : mI) (w : Int) (c : List (Int × Int)) : Prop :=
  (c = [] ∧ V 8 w ≤ V 7 w) ∨ (c ≠ [] ∧ V 7 w < V 8 w ∧ segC V 6 (V 7 w) c ∧ 0 ≤ V 7 w ∧ V 7 w + (c.length : Int) = V 8 w ∧ V 8 w ≤ 1600)
def foT (w : Int) (c : List (Int × Int)) : Prop := c ≠ [] → tyR c [] = some [decide (w = 1)] ∧ okV w c
def foOK (V : mI) (F : Int → List (Int × Int)) : Prop := ∀ w, 0 ≤ w → w < 3 → foC V w (F w) ∧ foT w (F w)
theorem segC_fr {I I' : mI} {o o' : Nat} (h : I' o' = I o) : ∀ {c : List (Int × Int)} {i : Int}, segC I o i c → segC I' o' i c
  | [], _, _ => trivial
  | q :: r, i, hs => ⟨by rw [h]; exact hs.1, segC_fr h hs.2⟩
/-! A state -/
def stR (y p n : Int) (o m w kp : Int → Int) (S : mI) : Prop := y = S 0 0 ∧ p = S 0 1 ∧ n = S 0 2 ∧ (∀ k, 0 ≤ k → k < 6 → o k = S 1 k ∧ m k = S 2 k ∧ w k = S 3 k) ∧ (∀ k, 0 ≤ k → k < 3 * S 0 2 → kp k = S 4 k)
def stC (I : mI) (a : Nat) (S : mI) : Prop := stR (I a 0) (I a 1) (I a 2) (I (a + 1)) (I (a + 2)) (I (a + 3)) (I (a + 4)) S
def stQ (V : mI) (y p n : Int) (o m w kp : Int → Int) (S : mI) : Prop := y = S 0 0 ∧ p = S 0 1 ∧ n = S 0 2 ∧ (∀ k, 0 ≤ k → (k < 6 ∧ (k < V 1 0 ∨ k < V 1 2)) → o k = S 1 k ∧ m k = S 2 k ∧ w k = S 3 k) ∧ (∀ k, 0 ≤ k → k < 3 * S 0 2 → kp k = S 4 k)
def stM (V I : mI) (v : Int) (S : mI) : Prop := stQ V (I 185 v) (I 186 v) (I 190 v) (fun k => I 187 (6 * v + k)) (fun k => I 188 (6 * v + k)) (fun k => I 189 (6 * v + k)) (fun k => I 191 (120 * v + k)) S
def stOK (V S : mI) : Prop := (0 ≤ S 0 0 ∧ S 0 0 ≤ 999) ∧ (0 ≤ S 0 1 ∧ S 0 1 ≤ 9999) ∧ (0 ≤ S 0 2 ∧ S 0 2 ≤ 40) ∧
  (∀ k, 0 ≤ k → k < V 1 0 → 0 ≤ S 1 k ∧ S 1 k < V 1 0) ∧ (∀ k l, 0 ≤ k → k < V 1 0 → 0 ≤ l → l < V 1 0 → S 1 k = S 1 l → k = l) ∧
  (∀ k, 0 ≤ k → k < 6 → 0 ≤ S 2 k ∧ S 2 k ≤ 9) ∧ (∀ k, 0 ≤ k → k < 6 → -1 ≤ S 3 k ∧ S 3 k < V 1 1)
/-! What the class's asking writes over, and what it leaves -/
def bfr (I I' : mI) : Prop := ∀ a, a ≠ 5 → a ≠ 146 → a ≠ 147 → a ≠ 148 → a ≠ 149 → I' a = I a
def sfr (I I' : mI) : Prop := ∀ a, a ≠ 5 → a ≠ 147 → I' a = I a
def jfr (o : Nat) (J J' : mI) : Prop := ∀ b, b ≠ o → J' b = J b
theorem jfr_r (o : Nat) (J : mI) : jfr o J J := fun _ _ => rfl
theorem jfr_t {o : Nat} {J1 J2 J3 : mI} (h1 : jfr o J1 J2) (h2 : jfr o J2 J3) : jfr o J1 J3 := fun b hb => (h2 b hb).trans (h1 b hb)
theorem sfr_r (I : mI) : sfr I I := fun _ _ _ => rfl
theorem sfr_t {I1 I2 I3 : mI} (h1 : sfr I1 I2) (h2 : sfr I2 I3) : sfr I1 I3 := fun b h h' => (h2 b h h').trans (h1 b h h')
theorem sfr_b {I I' : mI} (h : sfr I I') : bfr I I' := fun a h1 _ h3 _ _ => h a h1 h3
theorem bfr_r (I : mI) : bfr I I := fun _ _ _ _ _ _ => rfl
theorem bfr_t {I1 I2 I3 : mI} (h1 : bfr I1 I2) (h2 : bfr I2 I3) : bfr I1 I3 := fun b q1 q2 q3 q4 q5 => (h2 b q1 q2 q3 q4 q5).trans (h1 b q1 q2 q3 q4 q5)
theorem ldC_b {I I' : mI} {h : Nat} {V : mI} (hh : isLd h) (hf : bfr I I') (hL : ldC I h V) : ldC I' h V := by
  obtain ⟨l0, l1, l2, l3, l4, l5, l6, l7, l8⟩ := hL
  unfold isLd at hh
  have hx : ∀ j, j ≤ 8 → I' (h + j) = I (h + j) := fun j hj => hf _ (by omega) (by omega) (by omega) (by omega) (by omega)
  exact ⟨(hx 0 (by omega)).trans l0, (hx 1 (by omega)).trans l1, (hx 2 (by omega)).trans l2, (hx 3 (by omega)).trans l3, (hx 4 (by omega)).trans l4, (hx 5 (by omega)).trans l5, (hx 6 (by omega)).trans l6, (hx 7 (by omega)).trans l7, (hx 8 (by omega)).trans l8⟩
theorem stC_of {I I' : mI} {a : Nat} {S : mI} (hx : ∀ j, j ≤ 4 → I' (a + j) = I (a + j)) (hS : stC I a S) : stC I' a S := by
  unfold stC at hS ⊢
  have e0 : I' a = I a := hx 0 (by omega)
  rw [e0, hx 1 (by omega), hx 2 (by omega), hx 3 (by omega), hx 4 (by omega)]; exact hS
theorem st_far {a : Nat} (ha : isSt a) (j : Nat) (hj : j ≤ 4) : (7 ≤ a + j ∧ a + j ≤ 16) ∨ (19 ≤ a + j ∧ a + j ≤ 118) ∨ (152 ≤ a + j ∧ a + j ≤ 156) := by
  unfold isSt at ha
  rcases ha with h | h | h | ⟨i, h1, h2⟩ <;> omega
theorem stC_b {I I' : mI} {a : Nat} {S : mI} (ha : isSt a) (hf : bfr I I') (hS : stC I a S) : stC I' a S := by
  refine stC_of (fun j hj => ?_) hS
  have := st_far ha j hj
  exact hf _ (by omega) (by omega) (by omega) (by omega) (by omega)
/-! Numbers -/
def gapF (x y : Int) : Int := if x ≤ y then y - x else x - y
theorem gapF_rg {x y : Int} (hx : 0 ≤ x ∧ x ≤ 9) (hy : 0 ≤ y ∧ y ≤ 9) : 0 ≤ gapF x y ∧ gapF x y ≤ 9 := by unfold gapF; split <;> omega
theorem mul9 {x y : Int} (hx : 0 ≤ x ∧ x ≤ 9) (hy : 0 ≤ y ∧ y ≤ 9) : 0 ≤ x * y ∧ x * y ≤ 81 := by
  have h1 := Int.mul_nonneg hx.1 hy.1
  have h2 := Int.mul_le_mul hx.2 hy.2 hy.1 (by decide : (0 : Int) ≤ 9)
  omega
theorem bit_set : ∀ x : Nat, x < 64 → ∀ l : Nat, l < 6 → (0 ≤ bOr (x : Int) (bShl 1 (l : Int)) ∧ bOr (x : Int) (bShl 1 (l : Int)) < 64) ∧ ∀ b : Nat, b < 6 → has1 (bOr (x : Int) (bShl 1 (l : Int))) (b : Int) = if b = l then 1 else has1 (x : Int) (b : Int) := by decide +kernel
theorem bit_or {x l : Int} (h0 : 0 ≤ x) (h1 : x < 64) (h2 : 0 ≤ l) (h3 : l < 6) : (0 ≤ bOr x (bShl 1 l) ∧ bOr x (bShl 1 l) < 64) ∧ ∀ b : Int, 0 ≤ b → b < 6 → has1 (bOr x (bShl 1 l)) b = if b = l then 1 else has1 x b := by
  obtain ⟨x', rfl⟩ : ∃ k : Nat, x = k := ⟨x.toNat, by omega⟩
  obtain ⟨l', rfl⟩ : ∃ k : Nat, l = k := ⟨l.toNat, by omega⟩
  have h := bit_set x' (by omega) l' (by omega)
  refine ⟨h.1, fun b hb0 hb1 => ?_⟩
  obtain ⟨b', rfl⟩ : ∃ k : Nat, b = k := ⟨b.toNat, by omega⟩
  rw [h.2 b' (by omega)]
  by_cases e : b' = l'
  · rw [if_pos e, if_pos (by omega)]
  · rw [if_neg e, if_neg (by omega)]
theorem bit_01n : ∀ x : Nat, x < 64 → ∀ b : Nat, b < 6 → has1 (x : Int) (b : Int) = 0 ∨ has1 (x : Int) (b : Int) = 1 := by decide +kernel
theorem bit_01 {x b : Int} (h0 : 0 ≤ x) (h1 : x < 64) (h2 : 0 ≤ b) (h3 : b < 6) : has1 x b = 0 ∨ has1 x b = 1 := by
  obtain ⟨x', rfl⟩ : ∃ k : Nat, x = k := ⟨x.toNat, by omega⟩
  obtain ⟨b', rfl⟩ : ∃ k : Nat, b = k := ⟨b.toNat, by omega⟩
  exact bit_01n x' (by omega) b' (by omega)
theorem has1_01 (x b : Int) : has1 x b = 0 ∨ has1 x b = 1 := by
  unfold has1 bAnd
  generalize Int32.ofInt (bShr x b) = y
  have h : ((y &&& Int32.ofInt 1).toBitVec.toNat) = y.toBitVec.toNat % 2 := by
    rw [Int32.toBitVec_and, BitVec.toNat_and]
    exact Nat.and_one_is_mod _
  have h2 : (y &&& Int32.ofInt 1).toInt = ((y &&& Int32.ofInt 1).toBitVec.toNat : Int) := by
    show (y &&& Int32.ofInt 1).toBitVec.toInt = _
    rw [BitVec.toInt_eq_toNat_of_lt (by rw [h]; omega)]
  rw [h2, h]; omega
