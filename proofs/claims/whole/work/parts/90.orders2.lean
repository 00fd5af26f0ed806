/-! order, orders: what the class's and the model's loops lay -/
def rw6 (n k j : Nat) : Nat := dg (nth (tab n) k) j
theorem rw_in {n k : Nat} (hn : n < 7) (hk : k < fac n) {j : Nat} (hj : j < n) : rw6 n k j < n ∧ laN n n k 0 0 j = rw6 n k j := by
  have c := chk_all n hn
  have x := (chkT_i (tab n) 0 c.1 k (by rw [c.2.1]; exact hk)).1 j hj
  rw [Nat.zero_add] at x
  exact x
theorem rw_nx {n k : Nat} (hn : n < 7) (hk : k + 1 < fac n) {j : Nat} (hj : j < n) : nxN n (rw6 n k) j = rw6 n (k + 1) j := by
  have c := chk_all n hn
  exact (chkT_i (tab n) 0 c.1 k (by rw [c.2.1]; omega)).2 (by rw [c.2.1]; exact hk) j hj
theorem rw_0 {n : Nat} (hn : n < 7) {j : Nat} (hj : j < n) : rw6 n 0 j = j := (chk_all n hn).2.2 j hj
theorem fac_b : ∀ n : Nat, n < 7 → 1 ≤ fac n ∧ fac n ≤ 720 := by decide
theorem fac_s (n : Nat) : ((fac (n + 1) : Nat) : Int) = ((n : Int) + 1) * (fac n : Int) := by
  show (((n + 1) * fac n : Nat) : Int) = _
  rw [Int.natCast_mul]; rfl
def rowC (I : mI) (o : Nat) (n : Nat) (r : Nat → Nat) : Prop := ∀ j : Nat, j < n → I o (j : Int) = (r j : Int)
theorem c_exch {I : mI} {n a b : Nat} {r : Nat → Nat} {Q : mI → Prop} (hn : n < 7) (ha : a < n) (hb : b < n) (hr : rowC I 121 n r) (k : ∀ I' : mI, (∀ z, z ≠ 121 → I' z = I z) → rowC I' 121 n (exN r a b) → Q I') : p1_exchange 121 a b I Q := by
  unfold p1_exchange
  rw [hr b hb, hr a ha]
  refine ⟨by omega, by omega, by omega,  m_putK (fun I1 q1 g1 f1 => ⟨by omega, m_putK (fun I2 q2 g2 f2 => k I2 (fun z hz => (f2 z hz).trans (f1 z hz)) (fun j hj => ?_))⟩)⟩
  unfold exN
  by_cases e : j = b
  · rw [if_pos e, e]; exact q2
  · rw [if_neg e, g2 _ (by omega)]
    by_cases e2 : j = a
    · rw [if_pos e2, e2]; exact q1
    · rw [if_neg e2, g1 _ (by omega)]; exact hr j hj
theorem c_rev {n : Nat} {R : mR} {Q : mI → Prop} (hn : n < 7) : ∀ (d : Nat) (r : Nat → Nat) (a b : Nat) (I : mI), a ≤ n → b < n → b ≤ a + d → rowC I 121 n r → (∀ I' : mI, (∀ z, z ≠ 121 → I' z = I z) → rowC I' 121 n (rvN d r a b) → Q I') → p1_nextOrder_b84 121 R Q (d + 1) a b I
  | 0, r, a, b, I, ha, hb, hd, hr, k => by
    show p1_nextOrder_b84_body 121 R Q (p1_nextOrder_b84 121 R Q 0) a b I
    unfold p1_nextOrder_b84_body
    exact zt (by omega) (k I (fun _ _ => rfl) hr)
  | d + 1, r, a, b, I, ha, hb, hd, hr, k => by
    show p1_nextOrder_b84_body 121 R Q (p1_nextOrder_b84 121 R Q (d + 1)) a b I
    unfold p1_nextOrder_b84_body
    unfold rvN at k
    by_cases e : b ≤ a
    · rw [if_pos e] at k
      exact zt (by omega) (k I (fun _ _ => rfl) hr)
    · rw [if_neg e] at k
      refine zf (by omega) (c_exch hn (by omega) hb hr (fun I1 f1 r1 => ⟨by omega, by omega,  ?_⟩))
      have i := c_rev (R := R) (Q := Q) hn d (exN r a b) (a + 1) (b - 1) I1 (by omega) (by omega) (by omega) r1 (fun I' f' r' => k I' (fun z hz => (f' z hz).trans (f1 z hz)) r')
      rw [show ((a + 1 : Nat) : Int) = (a : Int) + 1 by omega, show ((b - 1 : Nat) : Int) = (b : Int) + -1 by omega] at i
      exact i
theorem upN_le (r : Nat → Nat) (p : Nat) : ∀ q : Nat, upN r p q ≤ q
  | 0 => Nat.le_refl 0
  | q + 1 => by
    have i := upN_le r p q
    unfold upN
    split
    · exact Nat.le_refl _
    · split
      · exact Nat.le_refl _
      · omega
theorem c_up {n p : Nat} {r : Nat → Nat} {I : mI} {R : mR} {Q : mI → Prop} (hn : n < 7) (hp : p < n) (hr : rowC I 121 n r) : ∀ q : Nat, q < n → p1_nextOrder_b67 121 n p (upN r p q : Nat) I R Q → p1_nextOrder_b45 121 n p I R Q (q + 1) q
  | 0, hq, k => by
    show p1_nextOrder_b45_body 121 n p I R Q (p1_nextOrder_b45 121 n p I R Q 0) ((0 : Nat) : Int)
    unfold p1_nextOrder_b45_body
    exact zt (by omega) k
  | q + 1, hq, k => by
    show p1_nextOrder_b45_body 121 n p I R Q (p1_nextOrder_b45 121 n p I R Q (q + 1)) ((q + 1 : Nat) : Int)
    unfold p1_nextOrder_b45_body
    unfold upN at k
    rw [hr p hp, hr (q + 1) hq]
    by_cases e : q + 1 ≤ p
    · rw [if_pos e] at k; exact zt (by omega) k
    · rw [if_neg e] at k
      refine zf (by omega) ⟨by omega, by omega,  ?_⟩
      by_cases e2 : r p ≤ r (q + 1)
      · rw [if_pos e2] at k; exact zt (by omega) k
      · rw [if_neg e2] at k
        refine zf (by omega) ⟨by omega, ?_⟩
        have i := c_up hn hp hr q (by omega) k
        rw [show ((q + 1 : Nat) : Int) + -1 = (q : Int) by omega]
        exact i
theorem dnN_le (r : Nat → Nat) : ∀ p : Nat, dnN r p ≤ p
  | 0 => Nat.le_refl 0
  | p + 1 => by
    have i := dnN_le r p
    unfold dnN
    split
    · exact Nat.le_refl _
    · omega
theorem c_dn {n : Nat} {r : Nat → Nat} {I : mI} {R : mR} {Q : mI → Prop} (hn : n < 7) (hr : rowC I 121 n r) : ∀ p : Nat, p < n → p1_nextOrder_b35 121 n ((dnN r p : Nat) - 1 : Int) I R Q → p1_nextOrder_b14 121 n I R Q (p + 1) ((p : Int) - 1)
  | 0, hp, k => by
    show p1_nextOrder_b14_body 121 n I R Q (p1_nextOrder_b14 121 n I R Q 0) (((0 : Nat) : Int) - 1)
    unfold p1_nextOrder_b14_body
    exact zt (by omega) k
  | p + 1, hp, k => by
    show p1_nextOrder_b14_body 121 n I R Q (p1_nextOrder_b14 121 n I R Q (p + 1)) (((p + 1 : Nat) : Int) - 1)
    unfold p1_nextOrder_b14_body
    rw [show ((p + 1 : Nat) : Int) - 1 = (p : Int) by omega, show (p : Int) + 1 = ((p + 1 : Nat) : Int) by omega, hr p (by omega), hr (p + 1) hp]
    unfold dnN at k
    refine zf (by omega) ⟨by omega, by omega, by omega,  ?_⟩
    by_cases e : r p ≤ r (p + 1)
    · rw [if_pos e, show ((p + 1 : Nat) : Int) - 1 = (p : Int) by omega] at k
      exact zt (by omega) k
    · rw [if_neg e] at k
      exact zf (by omega) ⟨by omega, c_dn hn hr p (by omega) k⟩
theorem c_next {n h : Nat} {r : Nat → Nat} {I : mI} {R : mR} {Q : mI → Prop} (r4 : R 146 4 = h) (hh : isLd h) (h0 : I (h + 1) 0 = (n : Int)) (hn : n < 7) (hr : rowC I 121 n r) (k : ∀ I' : mI, (∀ z, z ≠ 121 → I' z = I z) → rowC I' 121 n (nxN n r) → Q I') : p1_nextOrder 121 I R Q := by
  unfold p1_nextOrder
  rw [r4, h0]
  refine ⟨hh, by omega, ?_⟩
  unfold nxN at k
  by_cases n0 : n = 0
  · subst n0
    refine ⟨1, ?_⟩
    show p1_nextOrder_b14_body 121 _ I R Q (p1_nextOrder_b14 121 _ I R Q 0) _
    unfold p1_nextOrder_b14_body
    refine zt (by omega) ?_
    unfold p1_nextOrder_b35
    exact zf (by omega) (k I (fun _ _ => rfl) (fun j hj => by omega))
  · refine ⟨n - 1 + 1, ?_⟩
    rw [show (n : Int) - 2 = ((n - 1 : Nat) : Int) - 1 by omega]
    refine c_dn hn hr (n - 1) (by omega) ?_
    have dl := dnN_le r (n - 1)
    unfold p1_nextOrder_b35
    by_cases e : dnN r (n - 1) = 0
    · rw [if_pos e] at k
      exact zf (by omega) (k I (fun _ _ => rfl) hr)
    · rw [if_neg e] at k
      obtain ⟨p, ep⟩ : ∃ p : Nat, dnN r (n - 1) = p + 1 := ⟨dnN r (n - 1) - 1, by omega⟩
      rw [ep] at k ⊢
      rw [Nat.add_sub_cancel] at k
      rw [show ((p + 1 : Nat) : Int) - 1 = (p : Int) by omega, show (n : Int) - 1 = ((n - 1 : Nat) : Int) by omega]
      refine zt (by omega) ⟨by omega, n - 1 + 1, c_up hn (by omega) hr (n - 1) (by omega) ?_⟩
      have ul := upN_le r p (n - 1)
      unfold p1_nextOrder_b67
      refine c_exch hn (by omega) (by omega) hr (fun I1 f1 r1 => ⟨by omega, by omega,  n + 1, ?_⟩)
      have i := c_rev (R := R) (Q := Q) hn n _ (p + 1) (n - 1) I1 (by omega) (by omega) (by omega) r1 (fun I' f' r' => k I' (fun z hz => (f' z hz).trans (f1 z hz)) r')
      rw [show ((p + 1 : Nat) : Int) = (p : Int) + 1 by omega, show ((n - 1 : Nat) : Int) = (n : Int) - 1 by omega] at i
      exact i
theorem c_begGo {n h : Nat} {R : mR} {Q : Int → mI → Prop} {I0 : mI} (r4 : R 146 4 = h) (hh : isLd h) (h0 : I0 (h + 1) 0 = (n : Int)) (hn : n < 7) (k : ∀ I' : mI, (∀ z, z ≠ 121 → I' z = I0 z) → (∀ j : Int, 0 ≤ j → j < 6 → I' 121 j = j) → Q (fac n) I') :
    ∀ (d : Nat) (l : Nat) (I : mI), l + d = 6 → (∀ z, z ≠ 121 → I z = I0 z) → (∀ j : Int, 0 ≤ j → j < l → I 121 j = j) → p1_beginOrders_b4 121 R Q (d + 1) (fac (if n ≤ l then n else l)) l I
  | 0, l, I, hd, hf, hp => by
    show p1_beginOrders_b4_body 121 R Q (p1_beginOrders_b4 121 R Q 0) _ _ I
    unfold p1_beginOrders_b4_body
    rw [if_pos (show n ≤ l by omega)]
    exact zt (by omega) (k I hf (fun j j0 j1 => hp j j0 (by omega)))
  | d + 1, l, I, hd, hf, hp => by
    have hlh : h = 123 ∨ h = 132 := hh
    show p1_beginOrders_b4_body 121 R Q (p1_beginOrders_b4 121 R Q (d + 1)) _ _ I
    unfold p1_beginOrders_b4_body
    refine zf (by omega) ⟨by omega, m_putK (fun I1 q1 g1 f1 => ?_)⟩
    have F1 : ∀ z, z ≠ 121 → I1 z = I0 z := fun z hz => (f1 z hz).trans (hf z hz)
    have i := c_begGo r4 hh h0 hn k d (l + 1) I1 (by omega) F1 (fun j j0 j1 => by
      by_cases e : j = l
      · rw [e]; exact q1
      · rw [g1 j e]; exact hp j j0 (by omega))
    rw [r4, F1 (h + 1) (by omega), h0]
    rw [show ((l + 1 : Nat) : Int) = (l : Int) + 1 by omega] at i
    refine ⟨hh, ?_⟩
    by_cases e : n ≤ l
    · rw [if_pos (show n ≤ l + 1 by omega)] at i
      have fb := fac_b n hn
      rw [if_pos e]
      refine zt (by omega) ?_
      rw [Int.mul_one]
      exact ⟨by omega, by omega,  i⟩
    · rw [show (if n ≤ l + 1 then n else l + 1) = l + 1 by split <;> omega] at i
      rw [if_neg e]
      refine zf (by omega) ?_
      have fb := fac_b (l + 1) (by omega)
      rw [Int.mul_comm, ← fac_s l]
      exact ⟨by omega, by omega, by omega,  i⟩
theorem c_begin {n h : Nat} {R : mR} {Q : Int → mI → Prop} {I : mI} (r4 : R 146 4 = h) (hh : isLd h) (h0 : I (h + 1) 0 = (n : Int)) (hn : n < 7) (k : ∀ I' : mI, (∀ z, z ≠ 121 → I' z = I z) → (∀ j : Int, 0 ≤ j → j < 6 → I' 121 j = j) → Q (fac n) I') : p1_beginOrders 121 I R Q := by
  unfold p1_beginOrders
  have i := c_begGo r4 hh h0 hn k 6 0 I (by omega) (fun _ _ => rfl) (fun j j0 j1 => by omega)
  have e0 : (if n ≤ 0 then n else 0) = 0 := by split <;> omega
  rw [e0] at i
  exact ⟨7, i⟩
theorem m_rowsGo {I : mI} {bk : Int} {n : Nat} {Q : Int → Prop} (m1 : I 159 13 = bk) (m2 : bk = 0 ∨ bk = 1) (m3 : I 161 bk = (n : Int)) (hn : n < 7) (k : Q (fac n)) : ∀ (d l : Nat), l + d = n → p12_rowsOf_b4 I Q (d + 1) (fac l) ((l : Int) + 1)
  | 0, l, hd => by
    show p12_rowsOf_b4_body I Q (p12_rowsOf_b4 I Q 0) _ _
    unfold p12_rowsOf_b4_body
    rw [m1, m3, show l = n by omega]
    exact ⟨by omega, zt (by omega) k⟩
  | d + 1, l, hd => by
    show p12_rowsOf_b4_body I Q (p12_rowsOf_b4 I Q (d + 1)) _ _
    unfold p12_rowsOf_b4_body
    have i := m_rowsGo m1 m2 m3 hn k d (l + 1) (by omega)
    have fb := fac_b (l + 1) (by omega)
    rw [m1, m3, Int.mul_comm, ← fac_s l]
    exact ⟨by omega, zf (by omega) ⟨by omega, by omega,  i⟩⟩
theorem m_rows {I : mI} {bk : Int} {n : Nat} {Q : Int → Prop} (m1 : I 159 13 = bk) (m2 : bk = 0 ∨ bk = 1) (m3 : I 161 bk = (n : Int)) (hn : n < 7) (k : Q (fac n)) : p12_rowsOf I Q := by
  unfold p12_rowsOf
  by_cases n0 : n = 0
  · refine ⟨1, ?_⟩
    show p12_rowsOf_b4_body I Q (p12_rowsOf_b4 I Q 0) _ _
    unfold p12_rowsOf_b4_body
    rw [m1, m3]
    rw [n0] at k
    exact ⟨by omega, zt (by omega) k⟩
  · exact ⟨n - 1 + 1, m_rowsGo m1 m2 m3 hn k (n - 1) 1 (by omega)⟩
theorem sh_has : ∀ u : Nat, u < 64 → ∀ b : Nat, b < 6 → has1 (u : Int) (b : Int) = ((u >>> b) % 2 : Nat) := by decide +kernel
theorem sh_or : ∀ u : Nat, u < 64 → ∀ b : Nat, b < 6 → bOr (u : Int) (bShl 1 (b : Int)) = ((u ||| (1 <<< b) : Nat) : Int) ∧ u ||| (1 <<< b) < 64 := by decide +kernel
theorem m_frGo {n u p : Nat} {l2 l5 : Int} {I : mI} {k24 : Int → Int → Int → Int → mI → Prop} {Q : mI → Prop} {w : Nat} (hn : n < 7) (hu : u < 64) (hp : p < n) (hw : w < n) (k : wLet (up I 197 p (w : Int)) (fun I1 => rg ((p : Int) + 1) ∧ k24 l2 (bOr u (bShl 1 (w : Int))) l5 ((p : Int) + 1) I1)) : ∀ (d a b : Nat), b + d = n → a ≤ 720 → frN u d a b = w → p12_laysOrder_b55 l2 u n l5 p I k24 Q (d + 1) a b
  | 0, a, b, hd, ha, he => by
    have : b = w := he
    omega
  | d + 1, a, b, hd, ha, he => by
    show p12_laysOrder_b55_body l2 u n l5 p I k24 Q (p12_laysOrder_b55 l2 u n l5 p I k24 Q (d + 1)) a b
    unfold p12_laysOrder_b55_body p12_has2
    have hb := sh_has u hu b (by omega)
    unfold frN at he
    refine zf (by omega) ?_
    by_cases e : (u >>> b) % 2 = 1
    · rw [if_pos e] at he
      have i := m_frGo (k24 := k24) (Q := Q) hn hu hp hw k d a (b + 1) (by omega) ha he
      exact zt (show has1 (u : Int) b = 1 by omega) (zf (by decide) ⟨by omega, i⟩)
    · rw [if_neg e] at he
      refine zf (show ¬ has1 (u : Int) b = 1 by omega) (zt rfl ?_)
      by_cases e2 : a = 0
      · rw [if_pos e2] at he
        subst he
        exact zt (by omega) ⟨by omega, k⟩
      · rw [if_neg e2] at he
        have i := m_frGo (k24 := k24) (Q := Q) hn hu hp hw k d (a - 1) (b + 1) (by omega) (by omega) he
        rw [show ((a - 1 : Nat) : Int) = (a : Int) + -1 by omega] at i
        exact zf (by omega) ⟨by omega, by omega,  i⟩
theorem m_layGo {n : Nat} {Q : mI → Prop} (hn : n < 7) : ∀ (d k u p : Nat) (I : mI), p + d = n → u < 64 → k ≤ 720 → (∀ j, p ≤ j → j < n → laN n d k u p j < n) → (∀ I' : mI, (∀ z, z ≠ 197 → I' z = I z) → (∀ j : Nat, j < p → I' 197 (j : Int) = I 197 (j : Int)) → (∀ j : Nat, p ≤ j → j < n → I' 197 (j : Int) = (laN n d k u p j : Nat)) → Q I') → p12_laysOrder_b24 n Q (d + 1) k u (fac d) p I
  | 0, k, u, p, I, hd, hu, hk, hl, q => by
    show p12_laysOrder_b24_body n Q (p12_laysOrder_b24 n Q 0) k u (fac 0) p I
    unfold p12_laysOrder_b24_body
    exact zt (by omega) (q I (fun _ _ => rfl) (fun _ _ => rfl) (fun j a b => by omega))
  | d + 1, k, u, p, I, hd, hu, hk, hl, q => by
    show p12_laysOrder_b24_body n Q (p12_laysOrder_b24 n Q (d + 1)) k u (fac (d + 1)) p I
    unfold p12_laysOrder_b24_body
    have fb := fac_b d (by omega)
    have e1 : (n : Int) - p = (d : Int) + 1 := by omega
    have e2 : Int.tdiv (fac (d + 1) : Nat) ((d : Int) + 1) = (fac d : Nat) := by
      rw [fac_s d]; exact Int.mul_tdiv_cancel_left _ (by omega)
    have e3 : Int.tdiv (k : Int) (fac d : Nat) = (k / fac d : Nat) := rfl
    have e4 : Int.tmod (k : Int) (fac d : Nat) = (k % fac d : Nat) := rfl
    have k1 : k / fac d ≤ k := Nat.div_le_self _ _
    have k2 : k % fac d ≤ k := Nat.mod_le _ _
    have r1 : rg ((k / fac d : Nat) : Int) := by
      generalize k / fac d = x at k1
      omega
    have k720 : k / fac d ≤ 720 := Nat.le_trans k1 hk
    have m720 : k % fac d ≤ 720 := Nat.le_trans k2 hk
    rw [e1, e2]
    refine zf (by omega) ⟨by omega, ⟨by omega, by omega⟩, wLet_r ?_⟩
    rw [e3, e4]
    refine ⟨⟨by omega, r1⟩, by omega, n + 1, ?_⟩
    have hw := hl p (by omega) (by omega)
    unfold laN at hw
    rw [if_pos rfl] at hw
    refine m_frGo hn hu (by omega) hw ?_ n (k / fac d) 0 (by omega) k720 rfl
    obtain ⟨o1, o2⟩ := sh_or u hu (frN u n (k / fac d) 0) (by omega)
    rw [o1]
    refine m_putK (fun I1 q1 g1 f1 => ⟨by omega, ?_⟩)
    refine m_layGo hn d (k % fac d) _ (p + 1) I1 (by omega) o2 m720 (fun j a b => ?_) (fun I' f' a' b' => q I' (fun z hz => (f' z hz).trans (f1 z hz)) (fun j hj => ?_) (fun j hj hj2 => ?_))
    · have x := hl j (by omega) b
      unfold laN at x
      rw [if_neg (show ¬ j = p by omega)] at x
      exact x
    · rw [a' j (by omega), g1 _ (by omega)]
    · unfold laN
      by_cases e : j = p
      · rw [if_pos e, e, a' p (by omega)]; exact q1
      · rw [if_neg e]; exact b' j (by omega) hj2
theorem m_order {I : mI} {bk : Int} {n k : Nat} {Q : mI → Prop} (m1 : I 159 13 = bk) (m2 : bk = 0 ∨ bk = 1) (m3 : I 161 bk = (n : Int)) (hn : n < 7) (hk : k < fac n) (q : ∀ I' : mI, (∀ z, z ≠ 197 → I' z = I z) → rowC I' 197 n (rw6 n k) → Q I') : p12_laysOrder k I Q := by
  have fb := fac_b n hn
  unfold p12_laysOrder
  rw [m1, m3]
  refine ⟨by omega, m_rows m1 m2 m3 hn ⟨n + 1, m_layGo hn n k 0 0 I (by omega) (by decide) (by omega) (fun j _ b => ?_) (fun I' f' _ b' => q I' f' (fun j hj => ?_))⟩⟩
  · have x := rw_in hn hk b
    rw [x.2]; exact x.1
  · rw [b' j (by omega) hj, (rw_in hn hk hj).2]
