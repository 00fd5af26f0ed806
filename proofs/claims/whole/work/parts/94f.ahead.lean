/-! THE READERS: the model looks ahead -/
theorem lsh_or {x b : Int} (h0 : 0 ≤ x) (h1 : x < 1099511627776) (b0 : 0 ≤ b) (b1 : b ≤ 255) : lOr (lShl x 8) b = x * 256 + b := by
  obtain ⟨X, rfl⟩ : ∃ k : Nat, x = k := ⟨x.toNat, by omega⟩
  obtain ⟨B, rfl⟩ : ∃ k : Nat, b = k := ⟨b.toNat, by omega⟩
  have hs : ((Int32.ofInt 8).toInt64 &&& 63) = 8 := by decide
  unfold lOr lShl
  rw [hs, Int64.ofInt_toInt]
  have e : ((Int64.ofInt (X : Int) <<< 8 ||| Int64.ofInt (B : Int)).toBitVec.toNat) = X * 256 + B := by
    rw [Int64.toBitVec_or, BitVec.toNat_or, Int64.toBitVec_shiftLeft, Int64.toBitVec_ofInt, Int64.toBitVec_ofInt, BitVec.ofInt_natCast, BitVec.ofInt_natCast]
    rw [show ((8 : Int64).toBitVec.smod 64) = 8 by decide, BitVec.shiftLeft_eq', show (8 : BitVec 64).toNat = 8 by decide, BitVec.toNat_shiftLeft, BitVec.toNat_ofNat, BitVec.toNat_ofNat]
    rw [Nat.mod_eq_of_lt (by omega : X < 2 ^ 64), Nat.mod_eq_of_lt (by omega : B < 2 ^ 64)]
    have s : X <<< 8 = X * 256 := by rw [Nat.shiftLeft_eq]
    rw [Nat.mod_eq_of_lt (by rw [s]; omega), ← Nat.shiftLeft_add_eq_or_of_lt (by omega : B < 2 ^ 8), s]
  show (Int64.ofInt (X : Int) <<< 8 ||| Int64.ofInt (B : Int)).toBitVec.toInt = _
  rw [BitVec.toInt_eq_toNat_of_lt (by rw [e]; omega), e]
  omega
theorem na256_b40 (ls : List Int) (h : lvOK ls) (hl : ls.length ≤ 5) : naP 256 (ls.map (· + 96)) < 1099511627776 := by
  have x := na256_b (1 :: ls) (fun y hy => by
    rcases List.mem_cons.mp hy with e | e
    · rw [e]; decide
    · exact h y e) (by rw [List.length_cons]; omega)
  have e : naP 256 ((1 :: ls).map (· + 96)) = naP 256 (ls.map (· + 96)) * 256 + (1 + 96) := rfl
  omega
/-- the model's tape -/
def mTp (tb : Int → Int) (n : Int) (I : mI) : Prop := I 159 2 = n ∧ (0 ≤ n ∧ n ≤ 1600) ∧ ∀ j, 0 ≤ j → j < n → I 160 j = tb j ∧ 0 ≤ tb j ∧ tb j ≤ 255
def mFr (I I' J J' : mI) : Prop := (∀ z, z ≠ 159 → I' z = I z) ∧ (∀ j, j ≠ 3 → j ≠ 4 → j ≠ 5 → j ≠ 6 → j ≠ 12 → I' 159 j = I 159 j) ∧ (∀ z, z ≠ 159 → J' z = J z) ∧ ∀ j, j ≠ 7 → J' 159 j = J 159 j
theorem mFr_t {I1 I2 I3 J1 J2 J3 : mI} (a : mFr I1 I2 J1 J2) (b : mFr I2 I3 J2 J3) : mFr I1 I3 J1 J3 :=
  ⟨fun z h => (b.1 z h).trans (a.1 z h), fun j h3 h4 h5 h6 h12 => (b.2.1 j h3 h4 h5 h6 h12).trans (a.2.1 j h3 h4 h5 h6 h12), fun z h => (b.2.2.1 z h).trans (a.2.2.1 z h), fun j h => (b.2.2.2 j h).trans (a.2.2.2 j h)⟩
theorem mTp_f {tb : Int → Int} {n : Int} {I I' : mI} (h1 : I' 160 = I 160) (h2 : I' 159 2 = I 159 2) (h : mTp tb n I) : mTp tb n I' := by
  unfold mTp; rw [h1, h2]; exact h
def w256 (tb : Int → Int) (n p : Int) : Int := naP 256 ((ltR tb p (enW tb n p - p).toNat).map (· + 96))
def mTk (tb : Int → Int) (n p : Int) (I J : mI) : Prop := I 159 4 = p ∧
  ((tKd tb n p = 0 ∧ I 159 3 = 0 ∧ I 159 12 = -1 ∧ I 159 5 = p) ∨
   ((tKd tb n p = 1 ∨ tKd tb n p = 2) ∧ I 159 3 = 1 ∧ I 159 12 = -1 ∧ J 159 7 = w256 tb n p ∧ I 159 6 = 0 ∧ I 159 5 = tEn tb n p) ∨
   (tKd tb n p = 3 ∧ I 159 3 = 2 ∧ I 159 12 = -1 ∧ I 159 6 = tVl tb n p ∧ I 159 5 = tEn tb n p) ∨
   (tKd tb n p = 4 ∧ I 159 3 = 3 ∧ I 159 12 = -1 ∧ I 159 6 = tVl tb n p ∧ I 159 5 = tEn tb n p) ∨
   (tKd tb n p = 5 ∧ I 159 3 ≠ 0 ∧ ((I 159 12 = tPl tb n p ∧ I 159 12 ≠ -1 ∧ I 159 3 ≠ 3) ∨ (I 159 12 = -1 ∧ I 159 3 = 3 ∧ (p = tPl tb n p ∧ I 159 5 = p + 1) ∧ sgx (I 159 6) < 0))))
theorem m_isLt {b : Int} {Q : Int → Prop} (k1 : 97 ≤ b ∧ b ≤ 122 → Q 1) (k0 : ¬ (97 ≤ b ∧ b ≤ 122) → Q 0) : p12_isLetter b Q := by
  unfold p12_isLetter
  exact zs (fun e => k0 (by omega)) (fun e => zs (fun e2 => k0 (by omega)) (fun e2 => k1 (by omega)))
theorem m_isDt {b : Int} {Q : Int → Prop} (k1 : 48 ≤ b ∧ b ≤ 57 → Q 1) (k0 : ¬ (48 ≤ b ∧ b ≤ 57) → Q 0) : p12_isDigit b Q := by
  unfold p12_isDigit
  exact zs (fun e => k0 (by omega)) (fun e => zs (fun e2 => k0 (by omega)) (fun e2 => k1 (by omega)))
theorem m_skGo {I J : mI} {n : Int} {tb : Int → Int} {Q : mI → mI → Prop} (ht : mTp tb n I) :
    ∀ (d : Nat) (p : Int), 0 ≤ p → n ≤ p + d → p12_ahead_b41 (skF tb n d p) I J Q → p12_ahead_b5 I J Q (d + 1) p
  | 0, p, h0, hn, kk => by
    show p12_ahead_b5_body I J Q (p12_ahead_b5 I J Q 0) p
    unfold p12_ahead_b5_body
    rw [ht.1]
    exact zt (by omega) kk
  | d + 1, p, h0, hn, kk => by
    show p12_ahead_b5_body I J Q (p12_ahead_b5 I J Q (d + 1)) p
    unfold p12_ahead_b5_body
    unfold skF at kk
    rw [ht.1]
    have hn2 := ht.2.1
    refine zs (fun e => ?_) (fun e => ?_)
    · rw [if_pos e] at kk; exact kk
    · rw [if_neg e] at kk
      have b := ht.2.2 p h0 (by omega)
      rw [b.1]
      refine ⟨by omega, zs (fun a => ?_) (fun a => ⟨by omega, zs (fun a2 => ?_) (fun a2 => ?_)⟩)⟩
      · rw [if_pos (Or.inl a)] at kk
        exact ⟨by omega, m_skGo ht d (p + 1) (by omega) (by omega) kk⟩
      · rw [if_pos (Or.inr a2)] at kk
        exact ⟨by omega, m_skGo ht d (p + 1) (by omega) (by omega) kk⟩
      · rw [if_neg (fun q => q.elim a a2)] at kk; exact kk
/-- does it touch what stands ahead -/
theorem m_touch {I J : mI} {n p l2 l3 : Int} {tb : Int → Int} {Q : mI → mI → Prop} (ht : mTp tb n I) (h0 : 0 ≤ p) (hp : p < n) (h12 : I 159 12 = -1)
    (kk : ∀ I', (∀ z, z ≠ 159 → I' z = I z) → (∀ j, j ≠ 12 → I' 159 j = I 159 j) → I' 159 12 = (if tch tb p then p else -1) → p12_ahead_b135 p l2 l3 I' J Q) : p12_ahead_b98 p l2 l3 I J Q := by
  have hn := ht.2.1
  have no : ¬ tch tb p → p12_ahead_b135 p l2 l3 I J Q := fun t => kk I (fun _ _ => rfl) (fun _ _ => rfl) (by rw [if_neg t]; exact h12)
  have yes : tch tb p → p12_ahead_b130 p l2 l3 I J Q := fun t => by
    unfold p12_ahead_b130
    refine m_putK (fun I1 q1 g1 f1 => kk I1 f1 g1 ?_)
    rw [if_pos t]; exact q1
  unfold p12_ahead_b98
  refine zs (fun e => no (fun t => by unfold tch at t; omega)) (fun e => ⟨by omega, by omega, ?_⟩)
  rw [(ht.2.2 (p - 1) (by omega) (by omega)).1]
  refine m_isLt (fun a => zf (by decide) (yes ⟨by omega, Or.inl a⟩)) (fun a => zt rfl ⟨by omega, by omega, m_isDt (fun b => zf (by decide) (yes ⟨by omega, Or.inr b⟩)) (fun b => zt rfl (no (fun t => t.2.elim a b)))⟩)
theorem na256_s {tb : Int → Int} {p : Int} {d : Nat} : naP 256 ((ltR tb p (d + 1)).map (· + 96)) = naP 256 ((ltR tb p d).map (· + 96)) * 256 + tb (p + d) := by
  show naP 256 ((ltR tb p d).map (· + 96)) * 256 + (tb (p + d) - 96 + 96) = _
  omega
def mLz (c0 p : Int) (N k : Nat) : Int := if c0 ≠ -1 then c0 else if k ≤ N then -1 else p + N
theorem m_ltGo {I0 J0 : mI} {n p e c0 : Int} {tb : Int → Int} {Q : mI → mI → Prop} (ht : mTp tb n I0) (h0 : 0 ≤ p) (hen : e ≤ n) (hl : ∀ j, p ≤ j → j < e → 97 ≤ tb j ∧ tb j ≤ 122) (he : n ≤ e ∨ ¬ (97 ≤ tb e ∧ tb e ≤ 122))
    (kk : ∀ I' J' : mI, (∀ z, z ≠ 159 → I' z = I0 z) → (∀ j, j ≠ 12 → j ≠ 5 → I' 159 j = I0 159 j) → I' 159 5 = e → I' 159 12 = mLz c0 p 6 (e - p).toNat → (∀ z, z ≠ 159 → J' z = J0 z) → (∀ j, j ≠ 7 → J' 159 j = J0 159 j) → J' 159 7 = naP 256 ((ltR tb p (min (e - p).toNat 6)).map (· + 96)) → Q I' J') :
    ∀ (f k : Nat) (I J : mI), k + f = (e - p).toNat → p + k ≤ e → (∀ z, z ≠ 159 → I z = I0 z) → (∀ j, j ≠ 12 → I 159 j = I0 159 j) → I 159 12 = mLz c0 p 6 k → (∀ z, z ≠ 159 → J z = J0 z) → (∀ j, j ≠ 7 → J 159 j = J0 159 j) → J 159 7 = naP 256 ((ltR tb p (min k 6)).map (· + 96)) → p12_ahead_b204 1 0 6 Q (f + 1) (p + k) k I J := by
  have hn := ht.2.1
  intro f
  induction f with
  | zero =>
    intro k I J hk hke f1 f2 f3 f4 f5 f6
    have ek : p + k = e := by omega
    have fin : p + (k : Int) = e → wLet (up I 159 5 (p + k)) (fun I' => Q I' J) := fun _ => m_putK (fun I1 q1 g1 g2 => kk I1 J (fun z hz => (g2 z hz).trans (f1 z hz)) (fun j a b => (g1 j b).trans (f2 j a)) (q1.trans ek) (by rw [g1 12 (by decide), f3, show (e - p).toNat = k by omega]) f4 f5 (by rw [f6, show (e - p).toNat = k by omega]))
    show p12_ahead_b204_body 1 0 6 Q (p12_ahead_b204 1 0 6 Q 0) (p + k) k I J
    unfold p12_ahead_b204_body
    rw [f2 2 (by decide), ht.1, f1 160 (by decide)]
    refine zs (fun _ => fin ek) (fun a => zf (by decide) ⟨by omega, ?_⟩)
    rw [(ht.2.2 (p + k) (by omega) (by omega)).1]
    refine m_isLt (fun q => ?_) (fun q => zt rfl (fin ek))
    rw [ek] at q
    rcases he with x | x
    · omega
    · exact absurd q x
  | succ f ih =>
    intro k I J hk hke f1 f2 f3 f4 f5 f6
    have lt : p + k < e := by omega
    have b := ht.2.2 (p + k) (by omega) (by omega)
    have lx := hl (p + k) (by omega) lt
    show p12_ahead_b204_body 1 0 6 Q (p12_ahead_b204 1 0 6 Q (f + 1)) (p + k) k I J
    unfold p12_ahead_b204_body
    rw [f2 2 (by decide), ht.1, f1 160 (by decide)]
    refine zf (by omega) (zf (by decide) ⟨by omega, ?_⟩)
    rw [b.1]
    refine m_isLt (fun _ => zf (by decide) ?_) (fun q => absurd lx q)
    have step : ∀ I' : mI, (∀ z, z ≠ 159 → I' z = I0 z) → (∀ j, j ≠ 12 → I' 159 j = I0 159 j) → I' 159 12 = mLz c0 p 6 (k + 1) → p12_ahead_b263 (p + k) 1 0 6 k I' J (p12_ahead_b204 1 0 6 Q (f + 1)) Q := fun I' u1 u2 u3 => by
      unfold p12_ahead_b263
      have go : ∀ J' : mI, (∀ z, z ≠ 159 → J' z = J0 z) → (∀ j, j ≠ 7 → J' 159 j = J0 159 j) → J' 159 7 = naP 256 ((ltR tb p (min (k + 1) 6)).map (· + 96)) → p12_ahead_b204 1 0 6 Q (f + 1) (p + k + 1) (k + 1) I' J' := fun J' v1 v2 v3 => by
        have i := ih (k + 1) I' J' (by omega) (by omega) u1 u2 u3 v1 v2 v3
        rw [show p + ((k + 1 : Nat) : Int) = p + k + 1 by omega, show ((k + 1 : Nat) : Int) = (k : Int) + 1 by omega] at i
        exact i
      refine zs (fun a => ?_) (fun a => zf (by decide) ⟨by omega, ?_⟩)
      · unfold p12_ahead_b293
        refine zt a ⟨by omega, by omega, go J f4 f5 ?_⟩
        rw [f6, show min k 6 = min (k + 1) 6 by omega]
      · refine m_putK (fun J1 q1 g1 g2 => ?_)
        unfold p12_ahead_b293
        refine zf a (zt rfl ⟨by omega, by omega, go J1 (fun z hz => (g2 z hz).trans (f4 z hz)) (fun j hj => (g1 j hj).trans (f5 j hj)) ?_⟩)
        have lo := lt_ok (tb := tb) (p := p) k (fun j a b => hl j a (by omega))
        have z1 := (na256 _ lo.1).1
        have z2 := na256_b40 _ lo.1 (by rw [lo.2]; omega)
        rw [q1, f6, u1 160 (by decide), b.1, show min k 6 = k by omega, show min (k + 1) 6 = k + 1 by omega, na256_s, lsh_or z1 z2 b.2.1 b.2.2]
    unfold p12_ahead_b243
    have same : mLz c0 p 6 (k + 1) = I 159 12 → p12_ahead_b263 (p + k) 1 0 6 k I J (p12_ahead_b204 1 0 6 Q (f + 1)) Q := fun q => step I f1 f2 q.symm
    refine zs (fun a => zs (fun a2 => ?_) (fun a2 => same ?_)) (fun a => same ?_)
    · refine m_putK (fun I1 q1 g1 g2 => step I1 (fun z hz => (g2 z hz).trans (f1 z hz)) (fun j hj => (g1 j hj).trans (f2 j hj)) ?_)
      rw [q1]
      rw [f3] at a2
      unfold mLz at a2 ⊢
      by_cases c : c0 ≠ -1
      · rw [if_pos c] at a2; exact absurd a2 c
      · rw [if_neg c, if_neg (by omega)]; omega
    · rw [f3]
      rw [f3] at a2
      unfold mLz at a2 ⊢
      by_cases c : c0 ≠ -1
      · rw [if_pos c, if_pos c]
      · rw [if_neg c, if_pos (by omega)] at a2; exact absurd rfl a2
    · rw [f3]
      unfold mLz
      by_cases c : c0 ≠ -1
      · rw [if_pos c, if_pos c]
      · rw [if_neg c, if_neg c]
        by_cases c2 : k ≤ 6
        · rw [if_pos c2, if_pos (by omega)]
        · rw [if_neg c2, if_neg (by omega)]
theorem m_dgGo {I0 J : mI} {n p e c0 : Int} {tb : Int → Int} {Q : mI → mI → Prop} (ht : mTp tb n I0) (h0 : 0 ≤ p) (hen : e ≤ n) (hl : ∀ j, p ≤ j → j < e → 48 ≤ tb j ∧ tb j ≤ 57) (he : n ≤ e ∨ ¬ (48 ≤ tb e ∧ tb e ≤ 57))
    (kk : ∀ I' : mI, (∀ z, z ≠ 159 → I' z = I0 z) → (∀ j, j ≠ 12 → j ≠ 5 → j ≠ 6 → I' 159 j = I0 159 j) → I' 159 5 = e → I' 159 12 = mLz c0 p 4 (e - p).toNat → I' 159 6 = nmR tb p (min (e - p).toNat 4) → Q I' J) :
    ∀ (f k : Nat) (I : mI), k + f = (e - p).toNat → p + k ≤ e → (∀ z, z ≠ 159 → I z = I0 z) → (∀ j, j ≠ 12 → j ≠ 6 → I 159 j = I0 159 j) → I 159 12 = mLz c0 p 4 k → I 159 6 = nmR tb p (min k 4) → p12_ahead_b204 0 1 4 Q (f + 1) (p + k) k I J := by
  have hn := ht.2.1
  intro f
  induction f with
  | zero =>
    intro k I hk hke f1 f2 f3 f6
    have ek : p + k = e := by omega
    have fin : p + (k : Int) = e → wLet (up I 159 5 (p + k)) (fun I' => Q I' J) := fun _ => m_putK (fun I1 q1 g1 g2 => kk I1 (fun z hz => (g2 z hz).trans (f1 z hz)) (fun j a b c => (g1 j b).trans (f2 j a c)) (q1.trans ek) (by rw [g1 12 (by decide), f3, show (e - p).toNat = k by omega]) (by rw [g1 6 (by decide), f6, show (e - p).toNat = k by omega]))
    show p12_ahead_b204_body 0 1 4 Q (p12_ahead_b204 0 1 4 Q 0) (p + k) k I J
    unfold p12_ahead_b204_body
    rw [f2 2 (by decide) (by decide), ht.1, f1 160 (by decide)]
    refine zs (fun _ => fin ek) (fun a => zt rfl ⟨by omega, ?_⟩)
    rw [(ht.2.2 (p + k) (by omega) (by omega)).1]
    refine m_isDt (fun q => ?_) (fun q => zt rfl (fin ek))
    rw [ek] at q
    rcases he with x | x
    · omega
    · exact absurd q x
  | succ f ih =>
    intro k I hk hke f1 f2 f3 f6
    have lt : p + k < e := by omega
    have b := ht.2.2 (p + k) (by omega) (by omega)
    have lx := hl (p + k) (by omega) lt
    show p12_ahead_b204_body 0 1 4 Q (p12_ahead_b204 0 1 4 Q (f + 1)) (p + k) k I J
    unfold p12_ahead_b204_body
    rw [f2 2 (by decide) (by decide), ht.1, f1 160 (by decide)]
    refine zf (by omega) (zt rfl ⟨by omega, ?_⟩)
    rw [b.1]
    refine m_isDt (fun _ => zf (by decide) ?_) (fun q => absurd lx q)
    have step : ∀ I' : mI, (∀ z, z ≠ 159 → I' z = I0 z) → (∀ j, j ≠ 12 → j ≠ 6 → I' 159 j = I0 159 j) → I' 159 12 = mLz c0 p 4 (k + 1) → I' 159 6 = nmR tb p (min k 4) → p12_ahead_b263 (p + k) 0 1 4 k I' J (p12_ahead_b204 0 1 4 Q (f + 1)) Q := fun I' u1 u2 u3 u6 => by
      unfold p12_ahead_b263
      have go : ∀ I' : mI, (∀ z, z ≠ 159 → I' z = I0 z) → (∀ j, j ≠ 12 → j ≠ 6 → I' 159 j = I0 159 j) → I' 159 12 = mLz c0 p 4 (k + 1) → I' 159 6 = nmR tb p (min (k + 1) 4) → p12_ahead_b204 0 1 4 Q (f + 1) (p + k + 1) (k + 1) I' J := fun I' v1 v2 v3 v6 => by
        have i := ih (k + 1) I' (by omega) (by omega) v1 v2 v3 v6
        rw [show p + ((k + 1 : Nat) : Int) = p + k + 1 by omega, show ((k + 1 : Nat) : Int) = (k : Int) + 1 by omega] at i
        exact i
      refine zs (fun a => ?_) (fun a => zt rfl ?_)
      · unfold p12_ahead_b293
        refine zt a ⟨by omega, by omega, go I' u1 u2 u3 ?_⟩
        rw [u6, show min k 4 = min (k + 1) 4 by omega]
      · unfold p12_ahead_b293
        have lo := nm_rg (tb := tb) (p := p) k (fun j a b => hl j a (by omega))
        have p10 : ((10 ^ k : Nat) : Int) ≤ 1000 := by
          have h6 : ∀ x : Nat, x ≤ 3 → ((10 ^ x : Nat) : Int) ≤ 1000 := by decide
          exact h6 _ (by omega)
        generalize ((10 ^ k : Nat) : Int) = pw at lo p10
        rw [u6, u1 160 (by decide), b.1, show min k 4 = k by omega]
        refine zf a (zf (by decide) ⟨by omega, by omega, by omega, by omega, m_putK (fun I1 q1 g1 g2 => ⟨by omega, by omega, go I1 (fun z hz => (g2 z hz).trans (u1 z hz)) (fun j hj hj6 => (g1 j hj6).trans (u2 j hj hj6)) ((g1 12 (by decide)).trans u3) ?_⟩)⟩)
        rw [q1, show min (k + 1) 4 = k + 1 by omega]
        show _ = nmR tb p k * 10 + (tb (p + k) - 48)
        omega
    unfold p12_ahead_b243
    have same : mLz c0 p 4 (k + 1) = I 159 12 → p12_ahead_b263 (p + k) 0 1 4 k I J (p12_ahead_b204 0 1 4 Q (f + 1)) Q := fun q => step I f1 f2 q.symm f6
    refine zs (fun a => zs (fun a2 => ?_) (fun a2 => same ?_)) (fun a => same ?_)
    · refine m_putK (fun I1 q1 g1 g2 => step I1 (fun z hz => (g2 z hz).trans (f1 z hz)) (fun j hj hj6 => (g1 j hj).trans (f2 j hj hj6)) ?_ ((g1 6 (by decide)).trans f6))
      rw [q1]
      rw [f3] at a2
      unfold mLz at a2 ⊢
      by_cases c : c0 ≠ -1
      · rw [if_pos c] at a2; exact absurd a2 c
      · rw [if_neg c, if_neg (by omega)]; omega
    · rw [f3]
      rw [f3] at a2
      unfold mLz at a2 ⊢
      by_cases c : c0 ≠ -1
      · rw [if_pos c, if_pos c]
      · rw [if_neg c, if_pos (by omega)] at a2; exact absurd rfl a2
    · rw [f3]
      unfold mLz
      by_cases c : c0 ≠ -1
      · rw [if_pos c, if_pos c]
      · rw [if_neg c, if_neg c]
        by_cases c2 : k ≤ 4
        · rw [if_pos c2, if_pos (by omega)]
        · rw [if_neg c2, if_neg (by omega)]
theorem m_lookA {I J : mI} {n e : Int} {tb : Int → Int} {Q : mI → mI → Prop} (ht : mTp tb n I) (he : I 159 5 = e) (h0 : 0 ≤ e) (h1 : e ≤ n) (kk : ∀ I' J' : mI, mFr I I' J J' → mTk tb n (skP tb n e) I' J' → Q I' J') : p12_ahead I J Q := by
  have hn := ht.2.1
  unfold p12_ahead
  rw [he]
  refine ⟨1602, m_skGo ht 1601 e h0 (by omega) ?_⟩
  have sr := skP_rg (tb := tb) (n := n) h0 hn.2 h1
  have esk : skF tb n 1601 e = skP tb n e := rfl
  rw [esk]
  generalize skP tb n e = p at sr kk ⊢
  unfold p12_ahead_b41
  refine m_putK (fun I1 q1 g1 f1 => m_putK (fun I2 q2 g2 f2 => m_putK (fun I3 q3 g3 f3 => m_putK (fun I4 q4 g4 f4 => ?_))))
  have e4 : I4 159 4 = p := by rw [g4 4 (by decide), g3 4 (by decide), g2 4 (by decide)]; exact q1
  have e3 : I4 159 3 = 0 := by rw [g4 3 (by decide)]; exact q3
  have e5 : I4 159 5 = p := by rw [g4 5 (by decide), g3 5 (by decide)]; exact q2
  have ez : ∀ z, z ≠ 159 → I4 z = I z := fun z hz => by rw [f4 z hz, f3 z hz, f2 z hz, f1 z hz]
  have ej : ∀ j, j ≠ 3 → j ≠ 4 → j ≠ 5 → j ≠ 12 → I4 159 j = I 159 j := fun j a b c d => by rw [g4 j d, g3 j a, g2 j c, g1 j b]
  have ht4 : mTp tb n I4 := mTp_f (ez 160 (by decide)) (ej 2 (by decide) (by decide) (by decide) (by decide)) ht
  clear g1 f1 g2 f2 g3 f3 g4 f4 q1 q2 q3
  unfold mTk tKd tVl tPl tEn at kk
  rw [ht4.1]
  refine zs (fun a => ⟨by omega, ?_⟩) (fun a => ?_)
  rotate_left
  · rw [if_pos (show n ≤ p by omega)] at kk
    exact kk I4 J ⟨ez, fun j a b c d f => ej j a b c f, fun _ _ => rfl, fun _ _ => rfl⟩ ⟨e4, Or.inl ⟨rfl, e3, q4, e5⟩⟩
  have na : ¬ n ≤ p := by omega
  rw [if_neg na, if_neg na, if_neg na, if_neg na] at kk
  have b := ht4.2.2 p (by omega) a
  rw [b.1]
  -- what follows the look behind
  have tail : ∀ (l2 l3 : Int) (I' : mI), (∀ z, z ≠ 159 → I' z = I z) → (∀ j, j ≠ 3 → j ≠ 4 → j ≠ 5 → j ≠ 12 → I' 159 j = I 159 j) → I' 159 4 = p → (l2 = 1 ∧ l3 = 0 ∧ 97 ≤ tb p ∧ tb p ≤ 122 ∧ I' 159 12 = (if tch tb p then p else -1) ∨ l2 = 0 ∧ l3 = 1 ∧ 48 ≤ tb p ∧ tb p ≤ 57 ∧ I' 159 12 = (if tch tb p then p else -1) ∨ l2 = 0 ∧ l3 = 0 ∧ ¬ (97 ≤ tb p ∧ tb p ≤ 122) ∧ ¬ (48 ≤ tb p ∧ tb p ≤ 57) ∧ I' 159 12 = -1) → p12_ahead_b135 p l2 l3 I' J Q := fun l2 l3 I' z1 z2 z4 hc => by
    unfold p12_ahead_b135
    refine m_putK (fun I5 q5 g5 f5 => m_putK (fun J1 r1 j1 j2 => m_putK (fun I6 q6 g6 f6 => ⟨by omega, m_putK (fun I7 q7 g7 f7 => ?_)⟩)))
    have w4 : I7 159 4 = p := by rw [g7 4 (by decide), g6 4 (by decide), g5 4 (by decide)]; exact z4
    have w3 : I7 159 3 = 3 := by rw [g7 3 (by decide)]; exact q6
    have w6 : I7 159 6 = 0 := by rw [g7 6 (by decide), g6 6 (by decide)]; exact q5
    have w12 : I7 159 12 = I' 159 12 := by rw [g7 12 (by decide), g6 12 (by decide), g5 12 (by decide)]
    have wz : ∀ z, z ≠ 159 → I7 z = I z := fun z hz => by rw [f7 z hz, f6 z hz, f5 z hz, z1 z hz]
    have wj : ∀ j, j ≠ 3 → j ≠ 4 → j ≠ 5 → j ≠ 6 → j ≠ 12 → I7 159 j = I 159 j := fun j a b c d f => by rw [g7 j c, g6 j a, g5 j d, z2 j a b c f]
    have ht7 : mTp tb n I7 := mTp_f (wz 160 (by decide)) (wj 2 (by decide) (by decide) (by decide) (by decide) (by decide)) ht
    clear g5 f5 g6 f6 g7 f7 q5 q6 z1 z2 z4
    rcases hc with ⟨rfl, rfl, c1, c2, c3⟩ | ⟨rfl, rfl, c1, c2, c3⟩ | ⟨rfl, rfl, c1, c2, c3⟩
    · have c : 97 ≤ tb p ∧ tb p ≤ 122 := ⟨c1, c2⟩
      rw [if_pos c, if_pos c, if_pos c, if_pos c] at kk
      refine zf (by decide) ?_
      unfold p12_ahead_b176
      refine zf (by decide) ?_
      unfold p12_ahead_b186
      refine m_putK (fun I8 q8 g8 f8 => zf (by decide) ?_)
      have r := rnF_rg (lo := 97) (hi := 122) (tb := tb) (n := n) 1601 p
      have r2 := rnF_end (lo := 97) (hi := 122) (tb := tb) (n := n) 1601 p (by omega)
      have ee : rnF 97 122 tb n 1601 p = enW tb n p := rfl
      rw [ee] at r r2
      have lp : p < enW tb n p := by
        rcases Int.lt_or_le p (enW tb n p) with x | x
        · exact x
        · have e : enW tb n p = p := by omega
          rw [e] at r2
          rcases r2 with y | y
          · omega
          · exact absurd c y
      have G := m_ltGo (I0 := I8) (J0 := J1) (c0 := if tch tb p then p else -1) (Q := Q) (mTp_f (f8 160 (by decide)) (g8 2 (by decide)) ht7) (show 0 ≤ p by omega) (r.2.2.1 (by omega)) r.2.2.2 r2 (fun I' J' u1 u2 u3 u4 v1 v2 v3 => ?_) (enW tb n p - p).toNat 0 I8 J1 (by omega) (by omega) (fun _ _ => rfl) (fun _ _ => rfl) ?_ (fun _ _ => rfl) (fun _ _ => rfl) r1
      · refine ⟨(enW tb n p - p).toNat + 1, ?_⟩
        rw [show p + ((0 : Nat) : Int) = p by omega] at G
        exact G
      · refine kk I' J' ⟨fun z hz => by rw [u1 z hz, f8 z hz, wz z hz], fun j a b c d f => by rw [u2 j f c, g8 j a, wj j a b c d f], fun z hz => (v1 z hz).trans (j2 z hz), fun j hj => (v2 j hj).trans (j1 j hj)⟩ ⟨by rw [u2 4 (by decide) (by decide), g8 4 (by decide)]; exact w4, ?_⟩
        have t3 : I' 159 3 = 1 := by rw [u2 3 (by decide) (by decide)]; exact q8
        have t6 : I' 159 6 = 0 := by rw [u2 6 (by decide) (by decide), g8 6 (by decide)]; exact w6
        by_cases t : tch tb p
        · rw [if_pos t, if_pos t, if_pos t, if_pos t]
          rw [if_pos t] at u4
          unfold mLz at u4
          rw [if_pos (show p ≠ -1 by omega)] at u4
          exact Or.inr (Or.inr (Or.inr (Or.inr ⟨rfl, by omega, Or.inl ⟨u4, by omega, by omega⟩⟩)))
        · rw [if_neg t, if_neg t, if_neg t, if_neg t]
          rw [if_neg t] at u4
          unfold mLz at u4
          rw [if_neg (by decide)] at u4
          by_cases w : enW tb n p - p ≤ 6
          · rw [if_pos w, if_pos w, if_pos w, if_pos w]
            rw [if_pos (by omega)] at u4
            rw [show min (enW tb n p - p).toNat 6 = (enW tb n p - p).toNat by omega] at v3
            refine Or.inr (Or.inl ⟨?_, t3, u4, v3, t6, u3⟩)
            unfold wdK; split
            · exact Or.inr rfl
            · exact Or.inl rfl
          · rw [if_neg w, if_neg w, if_neg w, if_neg w]
            rw [if_neg (by omega)] at u4
            exact Or.inr (Or.inr (Or.inr (Or.inr ⟨rfl, by omega, Or.inl ⟨u4, by omega, by omega⟩⟩)))
      · rw [g8 12 (by decide), w12, c3]
        unfold mLz
        by_cases t : tch tb p
        · rw [if_pos t, if_pos (by omega)]
        · rw [if_neg t, if_neg (by decide), if_pos (by omega)]
    · have c : 48 ≤ tb p ∧ tb p ≤ 57 := ⟨c1, c2⟩
      have nc : ¬ (97 ≤ tb p ∧ tb p ≤ 122) := by omega
      rw [if_neg nc, if_neg nc, if_neg nc, if_neg nc, if_pos c, if_pos c, if_pos c, if_pos c] at kk
      refine zt rfl (zf (by decide) ?_)
      unfold p12_ahead_b176
      refine zt rfl ?_
      unfold p12_ahead_b186
      refine m_putK (fun I8 q8 g8 f8 => zt rfl ?_)
      have r := rnF_rg (lo := 48) (hi := 57) (tb := tb) (n := n) 1601 p
      have r2 := rnF_end (lo := 48) (hi := 57) (tb := tb) (n := n) 1601 p (by omega)
      have ee : rnF 48 57 tb n 1601 p = enD tb n p := rfl
      rw [ee] at r r2
      have G := m_dgGo (I0 := I8) (J := J1) (c0 := if tch tb p then p else -1) (Q := Q) (mTp_f (f8 160 (by decide)) (g8 2 (by decide)) ht7) (show 0 ≤ p by omega) (r.2.2.1 (by omega)) r.2.2.2 r2 (fun I' u1 u2 u3 u4 u6 => ?_) (enD tb n p - p).toNat 0 I8 (by omega) (by omega) (fun _ _ => rfl) (fun _ _ _ => rfl) ?_ (by rw [g8 6 (by decide)]; exact w6)
      · refine ⟨(enD tb n p - p).toNat + 1, ?_⟩
        rw [show p + ((0 : Nat) : Int) = p by omega] at G
        exact G
      · refine kk I' J1 ⟨fun z hz => by rw [u1 z hz, f8 z hz, wz z hz], fun j a b c d f => by rw [u2 j f c d, g8 j a, wj j a b c d f], j2, j1⟩ ⟨by rw [u2 4 (by decide) (by decide) (by decide), g8 4 (by decide)]; exact w4, ?_⟩
        have t3 : I' 159 3 = 2 := by rw [u2 3 (by decide) (by decide) (by decide)]; exact q8
        by_cases t : tch tb p
        · rw [if_pos t, if_pos t, if_pos t, if_pos t]
          rw [if_pos t] at u4
          unfold mLz at u4
          rw [if_pos (show p ≠ -1 by omega)] at u4
          exact Or.inr (Or.inr (Or.inr (Or.inr ⟨rfl, by omega, Or.inl ⟨u4, by omega, by omega⟩⟩)))
        · rw [if_neg t, if_neg t, if_neg t, if_neg t]
          rw [if_neg t] at u4
          unfold mLz at u4
          rw [if_neg (by decide)] at u4
          by_cases w : enD tb n p - p ≤ 4
          · rw [if_pos w, if_pos w, if_pos w, if_pos w]
            rw [if_pos (by omega)] at u4
            rw [show min (enD tb n p - p).toNat 4 = (enD tb n p - p).toNat by omega] at u6
            exact Or.inr (Or.inr (Or.inl ⟨rfl, t3, u4, u6, u3⟩))
          · rw [if_neg w, if_neg w, if_neg w, if_neg w]
            rw [if_neg (by omega)] at u4
            exact Or.inr (Or.inr (Or.inr (Or.inr ⟨rfl, by omega, Or.inl ⟨u4, by omega, by omega⟩⟩)))
      · rw [g8 12 (by decide), w12, c3]
        unfold mLz
        by_cases t : tch tb p
        · rw [if_pos t, if_pos (by omega)]
        · rw [if_neg t, if_neg (by decide), if_pos (by omega)]
    · rw [if_neg c1, if_neg c1, if_neg c1, if_neg c1, if_neg c2, if_neg c2, if_neg c2, if_neg c2] at kk
      refine zt rfl (zt rfl ⟨by omega, m_putK (fun I8 q8 g8 f8 => ?_)⟩)
      rw [wz 160 (by decide), (ht.2.2 p (by omega) a).1] at q8
      refine kk I8 J1 ⟨fun z hz => by rw [f8 z hz, wz z hz], fun j a b c d f => by rw [g8 j d, wj j a b c d f], j2, j1⟩ ⟨by rw [g8 4 (by decide)]; exact w4, ?_⟩
      have t3 : I8 159 3 = 3 := by rw [g8 3 (by decide)]; exact w3
      have t12 : I8 159 12 = -1 := by rw [g8 12 (by decide), w12]; exact c3
      by_cases s : 0 ≤ sgx (tb p)
      · rw [if_pos s, if_pos s, if_pos s]
        exact Or.inr (Or.inr (Or.inr (Or.inl ⟨rfl, t3, t12, q8, by rw [g8 5 (by decide)]; exact q7⟩)))
      · rw [if_neg s, if_neg s, if_neg s]
        exact Or.inr (Or.inr (Or.inr (Or.inr ⟨rfl, by omega, Or.inr ⟨t12, t3, ⟨rfl, by rw [g8 5 (by decide)]; exact q7⟩, by rw [q8]; omega⟩⟩)))
  refine m_isLt (fun c => ⟨by omega, m_isDt (fun d => by omega) (fun d => zf (by decide) ?_)⟩) (fun c => ⟨by omega, m_isDt (fun d => zt rfl (zf (by decide) ?_)) (fun d => zt rfl (zt rfl ?_))⟩)
  · exact m_touch ht4 (by omega) a q4 (fun I' u1 u2 u3 => tail 1 0 I' (fun z hz => (u1 z hz).trans (ez z hz)) (fun j a b c d => (u2 j d).trans (ej j a b c d)) ((u2 4 (by decide)).trans e4) (Or.inl ⟨rfl, rfl, c.1, c.2, u3⟩))
  · exact m_touch ht4 (by omega) a q4 (fun I' u1 u2 u3 => tail 0 1 I' (fun z hz => (u1 z hz).trans (ez z hz)) (fun j a b c d => (u2 j d).trans (ej j a b c d)) ((u2 4 (by decide)).trans e4) (Or.inr (Or.inl ⟨rfl, rfl, d.1, d.2, u3⟩)))
  · exact tail 0 0 I4 ez ej e4 (Or.inr (Or.inr ⟨rfl, rfl, c, d, q4⟩))
