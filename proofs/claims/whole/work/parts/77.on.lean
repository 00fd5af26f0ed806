/-! AN IMAGE READ -/
theorem bshl8 : ∀ a : Nat, a < 256 → bShl (a : Int) 8 = ((2 ^ 8 * a : Nat) : Int) := by decide +kernel
theorem bOr_nat {x y : Nat} (hx : x < 2147483648) (hy : y < 2147483648) (h : x ||| y < 2147483648) : bOr (x : Int) (y : Int) = ((x ||| y : Nat) : Int) := by
  unfold bOr
  have e : ∀ z : Nat, z < 2147483648 → (Int32.ofInt (z : Int)).toBitVec.toNat = z := fun z hz => by
    have h1 : (Int32.ofInt (z : Int)).toBitVec.toNat = ((z : Int) % 4294967296).toNat := BitVec.toNat_ofInt (z : Int)
    rw [h1]; omega
  have h2 : (Int32.ofInt (x : Int) ||| Int32.ofInt (y : Int)).toBitVec.toNat = x ||| y := by
    rw [Int32.toBitVec_or, BitVec.toNat_or, e x hx, e y hy]
  show (Int32.ofInt (x : Int) ||| Int32.ofInt (y : Int)).toBitVec.toInt = _
  rw [BitVec.toInt_eq_toNat_of_lt (by rw [h2]; omega), h2]
theorem pair8 {a b : Int} (ha : 0 ≤ a ∧ a ≤ 255) (hb : 0 ≤ b ∧ b ≤ 255) : bOr (bShl a 8) b = a * 256 + b := by
  obtain ⟨a', rfl⟩ : ∃ k : Nat, a = k := ⟨a.toNat, by omega⟩
  obtain ⟨b', rfl⟩ : ∃ k : Nat, b = k := ⟨b.toNat, by omega⟩
  have h := Nat.two_pow_add_eq_or_of_lt (i := 8) (b := b') (by omega) a'
  rw [bshl8 a' (by omega), bOr_nat (by omega) (by omega) (by rw [← h]; omega), ← h]
  omega
theorem bc_or : ∀ x : Nat, x < 64 → ∀ b : Nat, b < 6 → bc (bOr (x : Int) (bShl 1 (b : Int))) = bc (x : Int) + (1 - has1 (x : Int) (b : Int)) := by decide +kernel
theorem or_lt : ∀ n : Nat, n ≤ 6 → ∀ x : Nat, x < 2 ^ n → ∀ b : Nat, b < n → 0 ≤ bOr (x : Int) (bShl 1 (b : Int)) ∧ bOr (x : Int) (bShl 1 (b : Int)) < ((2 ^ n : Nat) : Int) := by decide +kernel
theorem bc_full : ∀ n : Nat, n ≤ 6 → bc (bShl 1 (n : Int) - 1) = (n : Int) ∧ ∀ x : Nat, x < 2 ^ n → bc (x : Int) = (n : Int) → (x : Int) = bShl 1 (n : Int) - 1 := by decide +kernel
theorem bc_orI {x b : Int} (h0 : 0 ≤ x) (h1 : x < 64) (b0 : 0 ≤ b) (b1 : b < 6) : bc (bOr x (bShl 1 b)) = bc x + (1 - has1 x b) := by
  obtain ⟨x', rfl⟩ : ∃ k : Nat, x = k := ⟨x.toNat, by omega⟩
  obtain ⟨b', rfl⟩ : ∃ k : Nat, b = k := ⟨b.toNat, by omega⟩
  exact bc_or x' (by omega) b' (by omega)
theorem or_ltI {n x b : Int} (hn : 0 ≤ n ∧ n ≤ 6) (h0 : 0 ≤ x) (h1 : x < bShl 1 n) (b0 : 0 ≤ b) (b1 : b < n) : 0 ≤ bOr x (bShl 1 b) ∧ bOr x (bShl 1 b) < bShl 1 n := by
  obtain ⟨n', rfl⟩ : ∃ k : Nat, n = k := ⟨n.toNat, by omega⟩
  obtain ⟨x', rfl⟩ : ∃ k : Nat, x = k := ⟨x.toNat, by omega⟩
  obtain ⟨b', rfl⟩ : ∃ k : Nat, b = k := ⟨b.toNat, by omega⟩
  rw [evb_n n' (by omega)] at h1 ⊢
  exact or_lt n' (by omega) x' (by omega) b' (by omega)
theorem bc_fullI {n : Int} (hn : 0 ≤ n ∧ n ≤ 6) : bc (bShl 1 n - 1) = n ∧ ∀ x : Int, 0 ≤ x → x < bShl 1 n → bc x = n → x = bShl 1 n - 1 := by
  obtain ⟨n', rfl⟩ : ∃ k : Nat, n = k := ⟨n.toNat, by omega⟩
  have h := bc_full n' (by omega)
  refine ⟨h.1, fun x x0 x1 hx => ?_⟩
  obtain ⟨x', rfl⟩ : ∃ k : Nat, x = k := ⟨x.toNat, by omega⟩
  rw [evb_n n' (by omega)] at x1
  exact h.2 x' (by omega) hx
/-- order and moods of an image, as the class looks at them, as the model does -/
def oaR (tb : Int → Int) (nb : Int) : Nat → Int → Int → Prop
  | 0, _, seen => seen = bShl 1 nb - 1
  | d + 1, l, seen => ((0 ≤ tb (4 + l) ∧ tb (4 + l) < nb) ∧ tb (4 + nb + l) ≤ 9) ∧ oaR tb nb d (l + 1) (bOr seen (bShl 1 (tb (4 + l))))
def omR (tb : Int → Int) (nb : Int) : Nat → Int → Int → Prop
  | 0, _, _ => True
  | d + 1, l, seen => ((0 ≤ tb (4 + l) ∧ tb (4 + l) < nb) ∧ has1 seen (tb (4 + l)) = 0 ∧ tb (4 + nb + l) ≤ 9) ∧ omR tb nb d (l + 1) (bOr seen (bShl 1 (tb (4 + l))))
theorem oaR_bc {tb : Int → Int} {nb : Int} (hn : 0 ≤ nb ∧ nb ≤ 6) : ∀ (d : Nat) (l seen : Int), 0 ≤ seen → seen < bShl 1 nb → oaR tb nb d l seen → nb ≤ bc seen + d
  | 0, l, seen, h0, h1, h => by
    have h' : seen = bShl 1 nb - 1 := h
    rw [h', (bc_fullI hn).1]; omega
  | d + 1, l, seen, h0, h1, h => by
    have hev := evb_rg hn
    have hb : 0 ≤ tb (4 + l) ∧ tb (4 + l) < nb := h.1.1
    have o := or_ltI hn h0 h1 h.1.1.1 h.1.1.2
    have b := bc_orI h0 (by omega) h.1.1.1 (by omega)
    have b01 := has1_01 seen (tb (4 + l))
    have := oaR_bc hn d (l + 1) _ o.1 o.2 h.2
    omega
theorem oa_om {tb : Int → Int} {nb : Int} (hn : 0 ≤ nb ∧ nb ≤ 6) : ∀ (d : Nat) (l seen : Int), l + d = nb → 0 ≤ seen → seen < bShl 1 nb → bc seen = l → (oaR tb nb d l seen ↔ omR tb nb d l seen)
  | 0, l, seen, hl, h0, h1, hb => by
    refine ⟨fun _ => trivial, fun _ => ?_⟩
    show seen = bShl 1 nb - 1
    exact (bc_fullI hn).2 seen h0 h1 (by omega)
  | d + 1, l, seen, hl, h0, h1, hb => by
    have hev := evb_rg hn
    have b01 := has1_01 seen (tb (4 + l))
    refine ⟨fun h => ?_, fun h => ?_⟩
    · have hb' : 0 ≤ tb (4 + l) ∧ tb (4 + l) < nb := h.1.1
      have o := or_ltI hn h0 h1 h.1.1.1 h.1.1.2
      have b := bc_orI h0 (by omega) h.1.1.1 (by omega)
      have c := oaR_bc hn d (l + 1) _ o.1 o.2 h.2
      have z : has1 seen (tb (4 + l)) = 0 := by omega
      exact ⟨⟨h.1.1, z, h.1.2⟩, (oa_om hn d (l + 1) _ (by omega) o.1 o.2 (by omega)).mp h.2⟩
    · have hb' : 0 ≤ tb (4 + l) ∧ tb (4 + l) < nb := h.1.1
      have o := or_ltI hn h0 h1 h.1.1.1 h.1.1.2
      have b := bc_orI h0 (by omega) h.1.1.1 (by omega)
      have z : has1 seen (tb (4 + l)) = 0 := h.1.2.1
      exact ⟨⟨h.1.1, h.1.2.2⟩, (oa_om hn d (l + 1) _ (by omega) o.1 o.2 (by omega)).mpr h.2⟩
/-- what a good order gives -/
theorem omR_ok {tb : Int → Int} {nb : Int} (hn : 0 ≤ nb ∧ nb ≤ 6) : ∀ (d : Nat) (l seen : Int), 0 ≤ seen → seen < bShl 1 nb → omR tb nb d l seen → (∀ k, l ≤ k → k < l + d → (0 ≤ tb (4 + k) ∧ tb (4 + k) < nb) ∧ tb (4 + nb + k) ≤ 9 ∧ has1 seen (tb (4 + k)) = 0) ∧ ∀ k k', l ≤ k → k < k' → k' < l + d → tb (4 + k) ≠ tb (4 + k')
  | 0, l, seen, h0, h1, h => ⟨fun k a b => by omega, fun k k' a b c => by omega⟩
  | d + 1, l, seen, h0, h1, h => by
    have hev := evb_rg hn
    have hb : 0 ≤ tb (4 + l) ∧ tb (4 + l) < nb := h.1.1
    have o := or_ltI hn h0 h1 h.1.1.1 h.1.1.2
    have b := bit_or h0 (by omega : seen < 64) h.1.1.1 (by omega : tb (4 + l) < 6)
    obtain ⟨i1, i2⟩ := omR_ok hn d (l + 1) _ o.1 o.2 h.2
    have key : ∀ k, l + 1 ≤ k → k < l + 1 + d → tb (4 + k) ≠ tb (4 + l) ∧ has1 seen (tb (4 + k)) = 0 := fun k a c => by
      have j := i1 k a c
      have e := b.2 (tb (4 + k)) j.1.1 (by omega)
      rw [j.2.2] at e
      by_cases q : tb (4 + k) = tb (4 + l)
      · rw [if_pos q] at e; omega
      · rw [if_neg q] at e; exact ⟨q, e.symm⟩
    refine ⟨fun k a c => ?_, fun k k' a c e => ?_⟩
    · by_cases q : k = l
      · subst q; exact ⟨h.1.1, h.1.2.2, h.1.2.1⟩
      · have j := i1 k (by omega) (by omega)
        exact ⟨j.1, j.2.1, (key k (by omega) (by omega)).2⟩
    · by_cases q : k = l
      · subst q; exact fun z => (key k' (by omega) (by omega)).1 z.symm
      · exact i2 k k' (by omega) c (by omega)
def owP (tb : Int → Int) (V : mI) (l : Int) : Prop := tb (4 + 2 * V 1 0 + l) = 255 ∨ (0 ≤ tb (4 + 2 * V 1 0 + l) ∧ tb (4 + 2 * V 1 0 + l) < V 1 1)
/-- the tape's bytes -/
def tbC (I : mI) (n : Int) (tb : Int → Int) : Prop := I 2 1 = n ∧ (0 ≤ n ∧ n ≤ 1600) ∧ ∀ j, 0 ≤ j → j < n → bAnd (I 3 j) 255 = tb j ∧ 0 ≤ tb j ∧ tb j ≤ 255
theorem c_byte {I : mI} {n j : Int} {tb : Int → Int} {Q : Int → Prop} (ht : tbC I n tb) (h0 : 0 ≤ j) (h1 : j < n) (hq : Q (tb j)) : p9_byteAt j I Q := by
  obtain ⟨t1, t2, t3⟩ := ht
  unfold p9_byteAt
  rw [t1, (t3 j h0 h1).1]
  exact zf (by omega) (zf (by omega) (zf (by omega) ⟨by omega, hq⟩))
theorem c_pair {I : mI} {n j : Int} {tb : Int → Int} {Q : Int → Prop} (ht : tbC I n tb) (h0 : 0 ≤ j) (h1 : j + 1 < n) (hq : Q (tb j * 256 + tb (j + 1))) : p5_pairAt j I Q := by
  have r1 := (ht.2.2 j h0 (by omega)).2
  have r2 := (ht.2.2 (j + 1) (by omega) h1).2
  have hn := ht.2.1
  unfold p5_pairAt
  exact c_byte ht h0 (by omega) ⟨by omega, by omega,  c_byte ht (by omega) h1 ⟨by omega, hq⟩⟩
theorem c_ckGo {I : mI} {n : Int} {tb : Int → Int} {Q : Int → Prop} (ht : tbC I n tb) (hn : 1 ≤ n) : ∀ (d : Nat) (acc l : Int), 0 ≤ l → l + d = n - 1 → 0 ≤ acc → acc ≤ 250 → (ckR tb d acc l = tb (n - 1) → Q 1) → (ckR tb d acc l ≠ tb (n - 1) → Q 0) → p5_isChecked_b6 I Q (d + 1) acc l
  | 0, acc, l, h0, h1, h2, h3, k1, k0 => by
    have t1 := ht.1
    show p5_isChecked_b6_body I Q (p5_isChecked_b6 I Q 0) acc l
    unfold p5_isChecked_b6_body
    rw [t1]
    exact ⟨by have := ht.2.1; omega, zt (by omega) ⟨by have := ht.2.1; omega, c_byte ht (by omega) (by omega) (zs (fun e => k1 e) (fun e => k0 e))⟩⟩
  | d + 1, acc, l, h0, h1, h2, h3, k1, k0 => by
    have t1 := ht.1
    have tl := (ht.2.2 l h0 (by omega)).2
    have hn2 := ht.2.1
    have r := th_rg (y := 5 * acc + tb l) (n := 251) (by omega) (by omega)
    show p5_isChecked_b6_body I Q (p5_isChecked_b6 I Q (d + 1)) acc l
    unfold p5_isChecked_b6_body
    rw [t1]
    exact ⟨by omega, zf (by omega) ⟨by omega, c_byte ht h0 (by omega) ⟨by omega, wLet_r ⟨by omega, c_ckGo ht hn d _ (l + 1) (by omega) (by omega) r.1 (by omega) k1 k0⟩⟩⟩⟩
theorem c_fitW {I : mI} {h : Nat} {V : mI} {n seen : Int} {tb : Int → Int} {Q : Int → Prop} (ht : tbC I n tb) (hL : ldC I h V) (hV : ldOK V) (hn : n = 5 + 2 * V 1 0 + V 1 2) : ∀ (d : Nat) (l : Int), 0 ≤ l → l + d = V 1 2 → ((∀ k, l ≤ k → k < V 1 2 → owP tb V k) → seen = bShl 1 (V 1 0) - 1 → Q 1) → (¬ ((∀ k, l ≤ k → k < V 1 2 → owP tb V k) ∧ seen = bShl 1 (V 1 0) - 1) → Q 0) → p5_fits_b126 h (V 1 0) (V 1 2) seen I Q (d + 1) l
  | 0, l, h0, h1, k1, k0 => by
    have nn := hV.1
    have hev := evb_rg nn.1
    show p5_fits_b126_body h (V 1 0) (V 1 2) seen I Q (p5_fits_b126 h (V 1 0) (V 1 2) seen I Q 0) l
    unfold p5_fits_b126_body p3_everybody
    rw [hL.2.1]
    exact zt (by omega) ⟨by omega, zs (fun e => k1 (fun k a b => by omega) e) (fun e => k0 (fun q => e q.2))⟩
  | d + 1, l, h0, h1, k1, k0 => by
    have nn := hV.1
    show p5_fits_b126_body h (V 1 0) (V 1 2) seen I Q (p5_fits_b126 h (V 1 0) (V 1 2) seen I Q (d + 1)) l
    unfold p5_fits_b126_body
    have go : owP tb V l → p5_fits_b126 h (V 1 0) (V 1 2) seen I Q (d + 1) (l + 1) := fun ow =>
      c_fitW ht hL hV hn d (l + 1) (by omega) (by omega) (fun a b => k1 (fun k x y => by
        by_cases q : k = l
        · rw [q]; exact ow
        · exact a k (by omega) y) b) (fun a => k0 (fun q => a ⟨fun k x y => q.1 k (by omega) y, q.2⟩))
    refine zf (by omega) ⟨by omega, by omega, by omega,  c_byte ht (by omega) (by omega) ?_⟩
    refine zs (fun e => ⟨by omega, go (Or.inl e)⟩) (fun e => c_there hL (fun q => zt rfl (k0 (fun z => ?_))) (fun q => zf (by decide) ⟨by omega, go (Or.inr (by omega))⟩))
    rcases z.1 l (by omega) (by omega) with z1 | z1
    · exact e z1
    · exact q (by omega)
theorem c_fitO {I : mI} {h : Nat} {V : mI} {n : Int} {tb : Int → Int} {Q : Int → Prop} (ht : tbC I n tb) (hL : ldC I h V) (hV : ldOK V) (hn : n = 5 + 2 * V 1 0 + V 1 2) : ∀ (d : Nat) (seen l : Int), 0 ≤ l → l + d = V 1 0 → (oaR tb (V 1 0) d l seen → (∀ k, 0 ≤ k → k < V 1 2 → owP tb V k) → Q 1) → (¬ (oaR tb (V 1 0) d l seen ∧ ∀ k, 0 ≤ k → k < V 1 2 → owP tb V k) → Q 0) → p5_fits_b65 h (V 1 0) (V 1 2) I Q (d + 1) seen l
  | 0, seen, l, h0, h1, k1, k0 => by
    have nn := hV.1
    show p5_fits_b65_body h (V 1 0) (V 1 2) I Q (p5_fits_b65 h (V 1 0) (V 1 2) I Q 0) seen l
    unfold p5_fits_b65_body
    exact zt (by omega) ⟨(V 1 2).toNat + 1, c_fitW ht hL hV hn _ 0 (by omega) (by omega) (fun a b => k1 b a) (fun a => k0 (fun q => a ⟨q.2, q.1⟩))⟩
  | d + 1, seen, l, h0, h1, k1, k0 => by
    have nn := hV.1
    show p5_fits_b65_body h (V 1 0) (V 1 2) I Q (p5_fits_b65 h (V 1 0) (V 1 2) I Q (d + 1)) seen l
    unfold p5_fits_b65_body
    refine zf (by omega) ⟨by omega, c_byte ht (by omega) (by omega) (c_there hL (fun q => zt rfl (k0 (fun z => ?_))) (fun q => zf (by decide) ⟨by omega, by omega,  c_byte ht (by omega) (by omega) (zs (fun e => ⟨by omega, ?_⟩) (fun e => k0 (fun z => ?_)))⟩))⟩
    · exact q ⟨by omega, by omega, z.1.1.1⟩
    · exact c_fitO ht hL hV hn d _ (l + 1) (by omega) (by omega) (fun a b => k1 ⟨⟨⟨q.2.2.1, q.2.2.2⟩, e⟩, a⟩ b) (fun a => k0 (fun z => a ⟨z.1.2, z.2⟩))
    · exact e z.1.1.2
/-- what an image must be -/
def fitP (V : mI) (n : Int) (tb : Int → Int) : Prop := n = 5 + 2 * V 1 0 + V 1 2 ∧ ckR tb (n - 1).toNat 229 0 = tb (n - 1) ∧ tb 0 * 256 + tb 1 ≤ 999 ∧ tb 2 * 256 + tb 3 ≤ 9999 ∧ oaR tb (V 1 0) (V 1 0).toNat 0 0 ∧ ∀ k, 0 ≤ k → k < V 1 2 → owP tb V k
theorem c_fits {I : mI} {h : Nat} {V : mI} {n : Int} {tb : Int → Int} {Q : Int → Prop} (ht : tbC I n tb) (hL : ldC I h V) (hV : ldOK V) (k1 : fitP V n tb → Q 1) (k0 : ¬ fitP V n tb → Q 0) : p5_fits h I Q := by
  have nn := hV.1
  unfold p5_fits
  rw [hL.2.1, ht.1]
  refine ⟨by omega, by omega, by omega,  zs (fun e => ?_) (fun e => k0 (fun q => e q.1))⟩
  refine ⟨(n - 1).toNat + 1, c_ckGo ht (by omega) _ 229 0 (by omega) (by omega) (by omega) (by omega) (fun e1 => zf (by decide) ?_) (fun e1 => zt rfl (k0 (fun q => e1 q.2.1)))⟩
  refine c_pair ht (by omega) (by omega) (zs (fun e2 => k0 (fun q => ?_)) (fun e2 => c_pair ht (by omega) (by omega) (zs (fun e3 => ⟨(V 1 0).toNat + 1, ?_⟩) (fun e3 => k0 (fun q => ?_)))))
  · have h2 : 999 < tb 0 * 256 + tb 1 := e2
    have := q.2.2.1; omega
  · exact c_fitO ht hL hV e _ 0 0 (by omega) (by omega) (fun a b => k1 ⟨e, e1, by have h2 : ¬ 999 < tb 0 * 256 + tb 1 := e2; omega, e3, a, b⟩) (fun a => k0 (fun q => a ⟨q.2.2.2.2.1, q.2.2.2.2.2⟩))
  · exact e3 q.2.2.2.1
