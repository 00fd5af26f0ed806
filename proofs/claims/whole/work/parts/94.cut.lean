/-! THE READERS: the tape, cut -/
def rnF (lo hi : Int) (tb : Int → Int) (n : Int) : Nat → Int → Int
  | 0, p => p
  | d + 1, p => if n ≤ p then p else if lo ≤ tb p ∧ tb p ≤ hi then rnF lo hi tb n d (p + 1) else p
def skF (tb : Int → Int) (n : Int) : Nat → Int → Int
  | 0, p => p
  | d + 1, p => if n ≤ p then p else if tb p = 32 ∨ tb p = 10 then skF tb n d (p + 1) else p
def ltR (tb : Int → Int) (p : Int) : Nat → List Int
  | 0 => []
  | d + 1 => (tb (p + d) - 96) :: ltR tb p d
def nmR (tb : Int → Int) (p : Int) : Nat → Int
  | 0 => 0
  | d + 1 => nmR tb p d * 10 + (tb (p + d) - 48)
theorem rnF_rg {lo hi : Int} {tb : Int → Int} {n : Int} : ∀ (d : Nat) (p : Int), p ≤ rnF lo hi tb n d p ∧ rnF lo hi tb n d p ≤ p + d ∧ (p ≤ n → rnF lo hi tb n d p ≤ n) ∧ ∀ j, p ≤ j → j < rnF lo hi tb n d p → lo ≤ tb j ∧ tb j ≤ hi
  | 0, p => by
    show p ≤ p ∧ p ≤ p + ((0 : Nat) : Int) ∧ (p ≤ n → p ≤ n) ∧ ∀ j, p ≤ j → j < p → _
    exact ⟨by omega, by omega, id, fun j a b => by omega⟩
  | d + 1, p => by
    have i := rnF_rg (lo := lo) (hi := hi) (tb := tb) (n := n) d (p + 1)
    unfold rnF
    by_cases e : n ≤ p
    · rw [if_pos e]; exact ⟨by omega, by omega, id, fun j a b => by omega⟩
    · rw [if_neg e]
      by_cases e2 : lo ≤ tb p ∧ tb p ≤ hi
      · rw [if_pos e2]
        obtain ⟨i1, i2, i3, i4⟩ := i
        refine ⟨by omega, by omega, fun _ => i3 (by omega), fun j a b => ?_⟩
        by_cases ej : j = p
        · rw [ej]; exact e2
        · exact i4 j (by omega) b
      · rw [if_neg e2]; exact ⟨by omega, by omega, id, fun j a b => by omega⟩
/-- a run is cut: enough fuel is enough -/
theorem rnF_end {lo hi : Int} {tb : Int → Int} {n : Int} : ∀ (d : Nat) (p : Int), n ≤ p + d → n ≤ rnF lo hi tb n d p ∨ ¬ (lo ≤ tb (rnF lo hi tb n d p) ∧ tb (rnF lo hi tb n d p) ≤ hi)
  | 0, p, h => Or.inl (by show n ≤ p; omega)
  | d + 1, p, h => by
    have i := rnF_end (lo := lo) (hi := hi) (tb := tb) (n := n) d (p + 1) (by omega)
    unfold rnF
    by_cases e : n ≤ p
    · rw [if_pos e]; exact Or.inl e
    · rw [if_neg e]
      by_cases e2 : lo ≤ tb p ∧ tb p ≤ hi
      · rw [if_pos e2]; exact i
      · rw [if_neg e2]; exact Or.inr e2
theorem rnF_is {lo hi : Int} {tb : Int → Int} {n e : Int} : ∀ (d : Nat) (p : Int), p ≤ e → e ≤ p + d → e ≤ n → (∀ j, p ≤ j → j < e → lo ≤ tb j ∧ tb j ≤ hi) → (n ≤ e ∨ ¬ (lo ≤ tb e ∧ tb e ≤ hi)) → rnF lo hi tb n d p = e
  | 0, p, h0, h1, _, _, _ => by show p = e; omega
  | d + 1, p, h0, h1, h2, h3, h4 => by
    unfold rnF
    by_cases ep : p = e
    · subst ep
      rcases h4 with h | h
      · rw [if_pos h]
      · by_cases q : n ≤ p
        · rw [if_pos q]
        · rw [if_neg q, if_neg h]
    · rw [if_neg (by omega), if_pos (h3 p (by omega) (by omega))]
      exact rnF_is d (p + 1) (by omega) (by omega) h2 (fun j a b => h3 j (by omega) b) h4
theorem skF_rg {tb : Int → Int} {n : Int} : ∀ (d : Nat) (p : Int), p ≤ skF tb n d p ∧ (p ≤ n → skF tb n d p ≤ n)
  | 0, p => ⟨Int.le_refl p, id⟩
  | d + 1, p => by
    have i := skF_rg (tb := tb) (n := n) d (p + 1)
    unfold skF
    by_cases e : n ≤ p
    · rw [if_pos e]; exact ⟨Int.le_refl p, id⟩
    · rw [if_neg e]
      by_cases e2 : tb p = 32 ∨ tb p = 10
      · rw [if_pos e2]; exact ⟨by omega, fun _ => i.2 (by omega)⟩
      · rw [if_neg e2]; exact ⟨Int.le_refl p, id⟩
theorem lt_ok {tb : Int → Int} {p : Int} : ∀ d : Nat, (∀ j, p ≤ j → j < p + d → 97 ≤ tb j ∧ tb j ≤ 122) → lvOK (ltR tb p d) ∧ (ltR tb p d).length = d
  | 0, _ => ⟨fun x hx => (by cases hx), rfl⟩
  | d + 1, h => by
    have i := lt_ok d (fun j a b => h j a (by omega))
    have x := h (p + d) (by omega) (by omega)
    refine ⟨fun y hy => ?_, by show (ltR tb p d).length + 1 = d + 1; rw [i.2]⟩
    rcases List.mem_cons.mp hy with e | e
    · rw [e]; omega
    · exact i.1 y e
theorem nm_rg {tb : Int → Int} {p : Int} : ∀ d : Nat, (∀ j, p ≤ j → j < p + d → 48 ≤ tb j ∧ tb j ≤ 57) → 0 ≤ nmR tb p d ∧ nmR tb p d < ((10 ^ d : Nat) : Int)
  | 0, _ => ⟨Int.le_refl 0, by show (0 : Int) < ((10 ^ 0 : Nat) : Int); decide⟩
  | d + 1, h => by
    have i := nm_rg d (fun j a b => h j a (by omega))
    have x := h (p + d) (by omega) (by omega)
    unfold nmR
    rw [Nat.pow_succ, Int.natCast_mul]
    omega
/-- the class's tape -/
def tpC (I : mI) (n : Int) (tb : Int → Int) : Prop := I 2 1 = n ∧ (0 ≤ n ∧ n ≤ 1600) ∧ ∀ j, 0 ≤ j → j < n → bAnd (I 3 j) 255 = tb j ∧ 0 ≤ tb j ∧ tb j ≤ 255
theorem c_at {I : mI} {n p : Int} {tb : Int → Int} {Q : Int → Prop} (h : tpC I n tb) (h0 : 0 ≤ p) (k1 : n ≤ p → Q (-1)) (k0 : p < n → Q (tb p)) : p9_byteAt p I Q := by
  unfold p9_byteAt
  rw [h.1]
  have hn := h.2.1
  refine zf (by omega) (zs (fun e => k1 e) (fun e => zf (by omega) ⟨by omega, ?_⟩))
  rw [(h.2.2 p h0 (by omega)).1]
  exact k0 (by omega)
theorem c_isLt {b : Int} {Q : Int → Prop} (k1 : 97 ≤ b ∧ b ≤ 122 → Q 1) (k0 : ¬ (97 ≤ b ∧ b ≤ 122) → Q 0) : p10_isLetter b Q := by
  unfold p10_isLetter
  exact zs (fun e => k0 (by omega)) (fun e => zs (fun e2 => k0 (by omega)) (fun e2 => k1 (by omega)))
theorem c_isDt {b : Int} {Q : Int → Prop} (k1 : 48 ≤ b ∧ b ≤ 57 → Q 1) (k0 : ¬ (48 ≤ b ∧ b ≤ 57) → Q 0) : p10_isDigit b Q := by
  unfold p10_isDigit
  exact zs (fun e => k0 (by omega)) (fun e => zs (fun e2 => k0 (by omega)) (fun e2 => k1 (by omega)))
/-- one token is kept -/
def tkF (I I' : mI) (c k v q p : Int) : Prop := (∀ z, z ≠ 142 → z ≠ 143 → z ≠ 144 → z ≠ 145 → I' z = I z) ∧ (∀ j, j ≠ 3 → j ≠ 4 → I' 142 j = I 142 j) ∧ I' 142 3 = c + 1 ∧ I' 142 4 = p ∧ (I' 143 c = k ∧ I' 144 c = v ∧ I' 145 c = q) ∧ ∀ j, j ≠ c → I' 143 j = I 143 j ∧ I' 144 j = I 144 j ∧ I' 145 j = I 145 j
theorem c_addT {I0 I : mI} {c k v q p : Int} {Q : Int → mI → Prop} (hf : ∀ z, z ≠ 142 → I z = I0 z) (hg : ∀ j, j ≠ 4 → I 142 j = I0 142 j) (hp : I 142 4 = p) (hc : I0 142 3 = c) (h0 : 0 ≤ c ∧ c < 1601) (kk : ∀ I' : mI, tkF I0 I' c k v q p → Q k I') : p10_add k v q I Q := by
  unfold p10_add
  rw [hg 3 (by decide), hc]
  refine zf (by omega) ⟨h0, m_putK (fun I1 q1 g1 f1 => ?_)⟩
  rw [f1 142 (by decide), hg 3 (by decide), hc]
  refine ⟨h0, m_putK (fun I2 q2 g2 f2 => ?_)⟩
  rw [f2 142 (by decide), f1 142 (by decide), hg 3 (by decide), hc]
  refine ⟨h0, m_putK (fun I3 q3 g3 f3 => ?_)⟩
  have e3 : I3 142 = I 142 := by rw [f3 142 (by decide), f2 142 (by decide), f1 142 (by decide)]
  rw [e3, hg 3 (by decide), hc]
  refine ⟨by omega, m_putK (fun I4 q4 g4 f4 => kk I4 ⟨fun z a b c d => ?_, fun j a b => ?_, q4, ?_, ⟨?_, ?_, ?_⟩, fun j hj => ⟨?_, ?_, ?_⟩⟩)⟩
  · rw [f4 z a, f3 z d, f2 z c, f1 z b, hf z a]
  · rw [g4 j a, e3, hg j b]
  · rw [g4 4 (by decide), e3]; exact hp
  · rw [f4 143 (by decide), f3 143 (by decide), f2 143 (by decide)]; exact q1
  · rw [f4 144 (by decide), f3 144 (by decide)]; exact q2
  · rw [f4 145 (by decide)]; exact q3
  · rw [f4 143 (by decide), f3 143 (by decide), f2 143 (by decide), g1 j hj, hf 143 (by decide)]
  · rw [f4 144 (by decide), f3 144 (by decide), g2 j hj, f1 144 (by decide), hf 144 (by decide)]
  · rw [f4 145 (by decide), g3 j hj, f2 145 (by decide), f1 145 (by decide), hf 145 (by decide)]
