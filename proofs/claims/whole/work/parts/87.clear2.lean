/-! clear: the class's search -/
theorem or0 : ∀ x : Nat, x < 64 → bOr (x : Int) 0 = (x : Int) := by decide +kernel
theorem bit0 : ∀ b : Nat, b < 6 → has1 0 (b : Int) = 0 := has0
theorem lt_bits : ∀ n : Nat, n ≤ 6 → ∀ x : Nat, x < 64 → ((∀ t : Nat, t < 6 → n ≤ t → has1 (x : Int) (t : Int) = 0) ↔ (x : Int) < bShl 1 (n : Int)) := by decide +kernel
theorem bc_sum : ∀ x : Nat, x < 64 → bc (x : Int) = has1 (x : Int) 0 + has1 (x : Int) 1 + has1 (x : Int) 2 + has1 (x : Int) 3 + has1 (x : Int) 4 + has1 (x : Int) 5 := by decide +kernel
theorem bc_le : ∀ n : Nat, n ≤ 6 → ∀ x : Nat, x < 2 ^ n → 0 ≤ bc (x : Int) ∧ bc (x : Int) ≤ (n : Int) := by decide +kernel
def paP (V : mI) (w : Int → Int) (pa : Int) : Prop := (0 ≤ pa ∧ pa < 64) ∧ ∀ t, 0 ≤ t → t < 6 → has1 pa t = if t < V 1 2 ∧ w t ≠ -1 then 1 else 0
/-- the sets that the class looks at are those of painted things -/
theorem pa_sub {V : mI} {w : Int → Int} {pa s : Int} (hV : ldOK V) (hp : paP V w pa) (h0 : 0 ≤ s) (h1 : s < 64) : (bAnd s (bXor pa (-1)) = 0 ↔ s < bShl 1 (V 1 2) ∧ ∀ t, 0 ≤ t → t < V 1 2 → has1 s t = 1 → w t ≠ -1) ∧ (bAnd s (bXor pa (-1)) = 0 → s ≤ pa) := by
  have n := hV.1.2.2
  obtain ⟨⟨p0, p1⟩, p2⟩ := hp
  obtain ⟨s', rfl⟩ : ∃ k : Nat, s = k := ⟨s.toNat, by omega⟩
  obtain ⟨p', rfl⟩ : ∃ k : Nat, pa = k := ⟨pa.toNat, by omega⟩
  obtain ⟨n', hn'⟩ : ∃ k : Nat, V 1 2 = k := ⟨(V 1 2).toNat, by omega⟩
  have hs := sub64 p' (by omega) s' (by omega)
  have hl := lt_bits n' (by omega) s' (by omega)
  have hle := le64 p' (by omega) s' (by omega)
  refine ⟨⟨fun q => ?_, fun q => ?_⟩, fun q => by have := hle q; omega⟩
  · have a := hs.mp q
    refine ⟨?_, fun t t0 t1 ht => ?_⟩
    · rw [hn']
      refine hl.mp (fun t t6 tn => ?_)
      rcases has1_01 (s' : Int) (t : Int) with z | z
      · exact z
      · have b := a t t6 z
        rw [p2 t (by omega) (by omega), if_neg (by omega)] at b
        omega
    · obtain ⟨t', rfl⟩ : ∃ k : Nat, t = k := ⟨t.toNat, by omega⟩
      have b := a t' (by omega) ht
      rw [p2 t' (by omega) (by omega)] at b
      intro z
      rw [if_neg (fun y => y.2 z)] at b
      omega
  · refine hs.mpr (fun t t6 ht => ?_)
    rw [p2 t (by omega) (by omega)]
    have tn : (t : Int) < V 1 2 := by
      have c := hl.mpr (by rw [← hn']; exact q.1)
      by_cases z : n' ≤ t
      · have := c t t6 z; omega
      · omega
    rw [if_pos ⟨tn, q.2 t (by omega) tn ht⟩]
theorem c_few58 {h : Nat} {V : mI} {w : Int → Int} {pa sz : Int} {I0 : mI} {k49 : Int → mI → Prop} {Q : Int → mI → Prop} (hh : isLd h) (hV : ldOK V) (hL : ldC I0 h V) (hw : ∀ k, 0 ≤ k → k < 6 → I0 10 k = w k) (hp : paP V w pa) (hsz : 0 ≤ sz ∧ sz ≤ V 1 2) (hno : ∀ s, goS V w s → sz ≤ bc s)
    (k1 : ∀ r, beS V w r → ∀ I' : mI, (∀ z, z ≠ 121 → I' z = I0 z) → Q r I') (k2 : (∀ s, goS V w s → sz + 1 ≤ bc s) → ∀ I' : mI, (∀ z, z ≠ 121 → I' z = I0 z) → k49 (sz + 1) I') :
    ∀ (d : Nat) (set : Int) (I : mI), 0 ≤ set → set + d = pa + 1 → (∀ z, z ≠ 121 → I z = I0 z) → (∀ s, goS V w s → bc s = sz → set ≤ s) → p3_fewestToClear_b58 h 10 121 (V 1 2) pa sz k49 Q (d + 1) set I
  | 0, set, I, h0, h1, hf, hs => by
    have n := hV.1.2.2
    show p3_fewestToClear_b58_body h 10 121 (V 1 2) pa sz k49 Q (p3_fewestToClear_b58 h 10 121 (V 1 2) pa sz k49 Q 0) set I
    unfold p3_fewestToClear_b58_body
    refine zt (by omega) ⟨by omega, k2 (fun s hg => ?_) I hf⟩
    have a := hno s hg
    by_cases e : bc s = sz
    · have b := hs s hg e
      have ev := evb_rg n
      have c := pa_sub (s := s) hV hp hg.1.1 (by have := hg.1.2; omega)
      have := c.2 (c.1.mpr ⟨hg.1.2, hg.2.1⟩)
      omega
    · omega
  | d + 1, set, I, h0, h1, hf, hs => by
    have n := hV.1.2.2
    have hlh : h = 123 ∨ h = 132 := hh
    have p1 := hp.1
    show p3_fewestToClear_b58_body h 10 121 (V 1 2) pa sz k49 Q (p3_fewestToClear_b58 h 10 121 (V 1 2) pa sz k49 Q (d + 1)) set I
    unfold p3_fewestToClear_b58_body
    have c := pa_sub (s := set) hV hp h0 (by omega)
    have next : ∀ I1 : mI, (∀ z, z ≠ 121 → I1 z = I0 z) → ¬ (goS V w set ∧ bc set = sz) → rg (set + 1) ∧ p3_fewestToClear_b58 h 10 121 (V 1 2) pa sz k49 Q (d + 1) (set + 1) I1 := fun I1 f1 hn => ⟨by omega, c_few58 hh hV hL hw hp hsz hno k1 k2 d (set + 1) I1 (by omega) (by omega) f1 (fun s hg he => by
      have a := hs s hg he
      by_cases e : s = set
      · subst e; exact absurd ⟨hg, he⟩ hn
      · omega)⟩
    refine zf (by omega) (zs (fun e => ⟨by omega, zs (fun e2 => ?_) (fun e2 => next I hf (fun z => e2 z.2))⟩) (fun e => next I hf (fun z => e (c.1.mpr ⟨z.1.1.2, z.1.2.1⟩))))
    refine wLet_r ?_
    have F1 : ∀ z, z ≠ 121 → cpy I 10 0 121 0 6 z = I0 z := fun z hz => by rw [cpy_ne hz]; exact hf z hz
    have w1 : ∀ k, 0 ≤ k → k < 6 → cpy I 10 0 121 0 6 121 k = w k := fun k k0 k6 => by
      rw [cpy_in k0 (by omega), show (0 : Int) + (k - 0) = k by omega, hf 10 (by decide)]; exact hw k k0 k6
    have hL1 : ldC (cpy I 10 0 121 0 6) h V := by
      obtain ⟨l0, l1, l2, l3, l4, l5, l6, l7, l8⟩ := hL
      have hx : ∀ j, j ≤ 8 → cpy I 10 0 121 0 6 (h + j) = I0 (h + j) := fun j hj => F1 _ (by omega)
      exact ⟨(hx 0 (by omega)).trans l0, (hx 1 (by omega)).trans l1, (hx 2 (by omega)).trans l2, (hx 3 (by omega)).trans l3, (hx 4 (by omega)).trans l4, (hx 5 (by omega)).trans l5, (hx 6 (by omega)).trans l6, (hx 7 (by omega)).trans l7, (hx 8 (by omega)).trans l8⟩
    have ex : exP V w set (cpy I 10 0 121 0 6 121) 0 ↔ clS V w set := by
      unfold clS exP
      refine ⟨fun ⟨g, a1, a2⟩ => ⟨g, fun k x y => by omega, a2⟩, fun ⟨g, a1, a2⟩ => ⟨g, fun k x y => by omega, a2⟩⟩
    have ab := c.1.mp e
    refine c_canClear hh hV 10 0 _ _ (by omega) (by omega) (by omega) hL1 (fun k a b _ => w1 k a b) (fun z I2 f2 _ => zf (by decide) (k1 set (Or.inr ⟨⟨⟨h0, ab.1⟩, ab.2, ex.mp z⟩, fun s hg => ?_⟩) I2 (fun z hz => (f2 z hz).trans (F1 z hz)))) (fun z I2 f2 _ => zt rfl (next I2 (fun z hz => (f2 z hz).trans (F1 z hz)) (fun y => z (ex.mpr y.1.2.2))))
    have a := hno s hg
    by_cases es : bc s = sz
    · exact Or.inr ⟨by omega, hs s hg es⟩
    · exact Or.inl (by omega)
theorem c_few49 {h : Nat} {V : mI} {w : Int → Int} {pa : Int} {I0 : mI} {Q : Int → mI → Prop} (hh : isLd h) (hV : ldOK V) (hL : ldC I0 h V) (hw : ∀ k, 0 ≤ k → k < 6 → I0 10 k = w k) (hp : paP V w pa)
    (k1 : ∀ r, beS V w r → ∀ I' : mI, (∀ z, z ≠ 121 → I' z = I0 z) → Q r I') :
    ∀ (d : Nat) (sz : Int) (I : mI), 0 ≤ sz → sz + d = V 1 2 + 1 → (∀ z, z ≠ 121 → I z = I0 z) → (∀ s, goS V w s → sz ≤ bc s) → p3_fewestToClear_b49 h 10 121 (V 1 2) pa Q (d + 1) sz I
  | 0, sz, I, h0, h1, hf, hs => by
    have n := hV.1.2.2
    show p3_fewestToClear_b49_body h 10 121 (V 1 2) pa Q (p3_fewestToClear_b49 h 10 121 (V 1 2) pa Q 0) sz I
    unfold p3_fewestToClear_b49_body
    refine zt (by omega) (k1 (-1) (Or.inl ⟨rfl, fun s hg => ?_⟩) I hf)
    have a := hs s hg
    obtain ⟨n', hn'⟩ : ∃ k : Nat, V 1 2 = k := ⟨(V 1 2).toNat, by omega⟩
    obtain ⟨s', rfl⟩ : ∃ k : Nat, s = k := ⟨s.toNat, by have := hg.1.1; omega⟩
    have b := hg.1.2
    rw [hn', evb_n n' (by omega)] at b
    have := bc_le n' (by omega) s' (by omega)
    omega
  | d + 1, sz, I, h0, h1, hf, hs => by
    have n := hV.1.2.2
    have p1 := hp.1
    show p3_fewestToClear_b49_body h 10 121 (V 1 2) pa Q (p3_fewestToClear_b49 h 10 121 (V 1 2) pa Q (d + 1)) sz I
    unfold p3_fewestToClear_b49_body
    refine zf (by omega) ⟨(pa + 1).toNat + 1, c_few58 hh hV hL hw hp ⟨h0, by omega⟩ hs k1 (fun a I1 f1 => ?_) _ 0 I (by omega) (by omega) hf (fun s hg _ => hg.1.1)⟩
    exact c_few49 hh hV hL hw hp k1 d (sz + 1) I1 (by omega) (by omega) f1 a
theorem c_few13 {h : Nat} {V : mI} {w : Int → Int} {I : mI} {Q : Int → mI → Prop} (hh : isLd h) (hV : ldOK V) (hL : ldC I h V) (hw : ∀ k, 0 ≤ k → k < 6 → I 10 k = w k)
    (k1 : ∀ r, beS V w r → ∀ I' : mI, (∀ z, z ≠ 121 → I' z = I z) → Q r I') :
    ∀ (d : Nat) (pa l : Int), 0 ≤ l → l + d = V 1 2 → (0 ≤ pa ∧ pa < 64) → (∀ t, 0 ≤ t → t < 6 → has1 pa t = if t < l ∧ w t ≠ -1 then 1 else 0) → p3_fewestToClear_b13 h 10 121 (V 1 2) I Q (d + 1) pa l
  | 0, pa, l, h0, h1, hr, hb => by
    have n := hV.1.2.2
    show p3_fewestToClear_b13_body h 10 121 (V 1 2) I Q (p3_fewestToClear_b13 h 10 121 (V 1 2) I Q 0) pa l
    unfold p3_fewestToClear_b13_body
    have hp : paP V w pa := ⟨hr, fun t t0 t6 => by rw [hb t t0 t6, show l = V 1 2 by omega]⟩
    refine zt (by omega) ⟨(V 1 2 + 1).toNat + 1, c_few49 hh hV hL hw hp k1 _ 0 I (by omega) (by omega) (fun _ _ => rfl) (fun s hg => ?_)⟩
    have ev := evb_rg n
    obtain ⟨s', rfl⟩ : ∃ k : Nat, s = k := ⟨s.toNat, by have := hg.1.1; omega⟩
    have b := hg.1.2
    have := bc_le 6 (by decide) s' (by show s' < 64; omega)
    omega
  | d + 1, pa, l, h0, h1, hr, hb => by
    have n := hV.1.2.2
    show p3_fewestToClear_b13_body h 10 121 (V 1 2) I Q (p3_fewestToClear_b13 h 10 121 (V 1 2) I Q (d + 1)) pa l
    unfold p3_fewestToClear_b13_body
    rw [hw l h0 (by omega)]
    have o := bit_or hr.1 hr.2 h0 (by omega : l < 6)
    have o0 : bOr pa 0 = pa := by
      obtain ⟨p', rfl⟩ : ∃ k : Nat, pa = k := ⟨pa.toNat, by omega⟩
      exact or0 p' (by omega)
    refine zf (by omega) ⟨by omega, zs (fun e => ⟨by omega, ?_⟩) (fun e => ⟨by omega, ?_⟩)⟩
    · rw [o0]
      refine c_few13 hh hV hL hw k1 d pa (l + 1) (by omega) (by omega) hr (fun t t0 t6 => ?_)
      rw [hb t t0 t6]
      by_cases z : t < l ∧ w t ≠ -1
      · rw [if_pos z, if_pos ⟨by omega, z.2⟩]
      · rw [if_neg z, if_neg (fun y => ?_)]
        by_cases et : t = l
        · subst et; exact y.2 e
        · exact z ⟨by omega, y.2⟩
    · refine c_few13 hh hV hL hw k1 d _ (l + 1) (by omega) (by omega) o.1 (fun t t0 t6 => ?_)
      rw [o.2 t t0 t6]
      by_cases et : t = l
      · subst et; rw [if_pos rfl, if_pos ⟨by omega, e⟩]
      · rw [if_neg et, hb t t0 t6]
        by_cases z : t < l ∧ w t ≠ -1
        · rw [if_pos z, if_pos ⟨by omega, z.2⟩]
        · rw [if_neg z, if_neg (fun y => z ⟨by omega, y.2⟩)]
theorem c_fewest {h : Nat} {V : mI} {w : Int → Int} {I : mI} {Q : Int → mI → Prop} (hh : isLd h) (hV : ldOK V) (hL : ldC I h V) (hw : ∀ k, 0 ≤ k → k < 6 → I 10 k = w k)
    (k1 : ∀ r, beS V w r → ∀ I' : mI, (∀ z, z ≠ 121 → I' z = I z) → Q r I') : p3_fewestToClear h 10 121 I Q := by
  have n := hV.1.2.2
  unfold p3_fewestToClear
  rw [hL.2.1]
  refine ⟨(V 1 2).toNat + 1, c_few13 hh hV hL hw k1 _ 0 0 (by omega) (by omega) (by omega) (fun t t0 t6 => ?_)⟩
  rw [if_neg (by omega)]
  obtain ⟨t', rfl⟩ : ∃ k : Nat, t = k := ⟨t.toNat, by omega⟩
  exact has0 t' (by omega)
