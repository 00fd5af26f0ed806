/-! THE READERS: the class reads a sum or a test -/
theorem up_id {I : mI} {a : Nat} {k v : Int} (h : I a k = v) : up I a k v = I := by
  funext b j; unfold up
  by_cases e : b = a ∧ j = k
  · rw [if_pos e, e.1, e.2]; exact h.symm
  · rw [if_neg e]
theorem segC_ap {I : mI} {o : Nat} : ∀ {a b : List (Int × Int)} {i : Int}, segC I o i a → segC I o (i + (a.length : Int)) b → segC I o i (a ++ b)
  | [], b, i, _, h2 => by
    have e : i + (([] : List (Int × Int)).length : Int) = i := by rw [List.length_nil]; omega
    rw [e] at h2; exact h2
  | q :: r, b, i, h1, h2 => by
    refine ⟨h1.1, segC_ap h1.2 ?_⟩
    have e : i + ((q :: r).length : Int) = i + 1 + (r.length : Int) := by rw [List.length_cons]; omega
    rw [e] at h2; exact h2
theorem segC_lo {I I' : mI} {o : Nat} : ∀ {c : List (Int × Int)} {i : Int}, (∀ z, i ≤ z → z < i + (c.length : Int) → I' o z = I o z) → segC I o i c → segC I' o i c
  | [], _, _, _ => trivial
  | q :: r, i, h, hs => by
    have e : ((q :: r).length : Int) = (r.length : Int) + 1 := by rw [List.length_cons]; omega
    exact ⟨by rw [h i (by omega) (by omega)]; exact hs.1, segC_lo (fun z a b => h z (by omega) (by omega)) hs.2⟩
def TK (K V P : Nat → Int) (m : Nat) (I : mI) : Prop := I 142 3 = (m : Int) + 1 ∧ m ≤ 1600 ∧ ∀ j : Nat, j ≤ m → I 143 j = K j ∧ I 144 j = V j ∧ I 145 j = P j
def zcf (h : Nat) (I I' : mI) : Prop := (∀ z, z ≠ 141 → z ≠ 142 → z ≠ h → z ≠ h + 6 → I' z = I z) ∧ (∀ j, j ≠ 5 → I' 142 j = I 142 j) ∧ (∀ j, j ≠ 3 → j ≠ 6 → j ≠ 7 → I' 141 j = I 141 j) ∧ ∀ j, j ≠ 8 → I' h j = I h j
theorem zcf_r (h : Nat) (I : mI) : zcf h I I := ⟨fun _ _ _ _ _ => rfl, fun _ _ => rfl, fun _ _ _ _ => rfl, fun _ _ => rfl⟩
theorem zcf_t {h : Nat} {I1 I2 I3 : mI} (a : zcf h I1 I2) (b : zcf h I2 I3) : zcf h I1 I3 :=
  ⟨fun z h1 h2 h3 h4 => (b.1 z h1 h2 h3 h4).trans (a.1 z h1 h2 h3 h4), fun j hj => (b.2.1 j hj).trans (a.2.1 j hj), fun j h1 h2 h3 => (b.2.2.1 j h1 h2 h3).trans (a.2.2.1 j h1 h2 h3), fun j hj => (b.2.2.2 j hj).trans (a.2.2.2 j hj)⟩
def cOk (h : Nat) (I I' : mI) (j o : Nat) (cs : List (Int × Int)) : Prop := zcf h I I' ∧ I' 142 5 = (j : Int) ∧ I' 141 3 = (o : Int) ∧ I' 141 6 = I 141 6 ∧ I' 141 7 = I 141 7 ∧ I' h 8 = I h 8 + (cs.length : Int) ∧ (∀ z, z < I h 8 → I' (h + 6) z = I (h + 6) z) ∧ segC I' (h + 6) (I h 8) cs
def cNo (h : Nat) (I I' : mI) (k pl : Int) : Prop := zcf h I I' ∧ I' 142 5 = I' 142 3 ∧ (I' 141 6 = k ∧ k ≠ 0) ∧ I' 141 7 = pl ∧ (I 141 3 ≤ I' 141 3 ∧ I' 141 3 ≤ 7) ∧ (0 ≤ I' h 8 ∧ I' h 8 ≤ 1600)
def LV (K V P : Nat → Int) (m : Nat) (fm : Int) (h : Nat) (I : mI) (i o : Nat) : Prop := TK K V P m I ∧ I 142 5 = (i : Int) ∧ i ≤ m ∧ I 141 3 = (o : Int) ∧ o ≤ 7 ∧ I 141 6 = 0 ∧ I 141 4 = fm ∧ 0 ≤ I h 8 ∧ I h 8 ≤ (i : Int)
theorem TK_f {K V P : Nat → Int} {m : Nat} {I I' : mI} {h : Nat} (hh : isLd h) (hf : zcf h I I') (ht : TK K V P m I) : TK K V P m I' := by
  unfold isLd at hh
  refine ⟨(hf.2.1 3 (by decide)).trans ht.1, ht.2.1, fun j hj => ?_⟩
  rw [hf.1 143 (by decide) (by decide) (by omega) (by omega), hf.1 144 (by decide) (by decide) (by omega) (by omega), hf.1 145 (by decide) (by decide) (by omega) (by omega)]
  exact ht.2.2 j hj
theorem LV_go {K V P : Nat → Int} {m : Nat} {fm : Int} {h : Nat} {I I' : mI} {i o j o' : Nat} {cs : List (Int × Int)} (hh : isLd h) (hl : LV K V P m fm h I i o) (hk : cOk h I I' j o' cs) (hj : j ≤ m) (ho : o' ≤ 7) (hc : cs.length + i ≤ j) : LV K V P m fm h I' j o' := by
  obtain ⟨l1, l2, l3, l4, l5, l6, l7, l8, l9⟩ := hl
  obtain ⟨k1, k2, k3, k4, k5, k6, k7, k8⟩ := hk
  exact ⟨TK_f hh k1 l1, k2, hj, k3, ho, k4.trans l6, (k1.2.2.1 4 (by decide) (by decide) (by decide)).trans l7, by omega, by omega⟩
theorem cOk_t {h : Nat} {I I1 I2 : mI} {j1 o1 j2 o2 : Nat} {c1 c2 : List (Int × Int)} (a : cOk h I I1 j1 o1 c1) (b : cOk h I1 I2 j2 o2 c2) : cOk h I I2 j2 o2 (c1 ++ c2) := by
  obtain ⟨k1, k2, k3, k4, k5, k6, k7, k8⟩ := a
  obtain ⟨l1, l2, l3, l4, l5, l6, l7, l8⟩ := b
  refine ⟨zcf_t k1 l1, l2, l3, l4.trans k4, l5.trans k5, by rw [l6, k6, List.length_append]; omega, fun z hz => (l7 z (by omega)).trans (k7 z hz), segC_ap (segC_lo (fun z a b => l7 z (by omega)) k8) ?_⟩
  rw [← k6]; exact l8
theorem cNo_t {h : Nat} {I I1 I2 : mI} {j1 o1 : Nat} {c1 : List (Int × Int)} {k pl : Int} (a : cOk h I I1 j1 o1 c1) (ho : I 141 3 ≤ (o1 : Int)) (b : cNo h I1 I2 k pl) : cNo h I I2 k pl := by
  obtain ⟨k1, k2, k3, k4, k5, k6, k7, k8⟩ := a
  obtain ⟨l1, l2, l3, l4, l5, l6⟩ := b
  exact ⟨zcf_t k1 l1, l2, l3, l4, ⟨by omega, l5.2⟩, l6⟩
section
variable {K V P : Nat → Int} {m : Nat} {fm : Int} {h : Nat} {I : mI} {R : mR} {i o : Nat}
theorem cOk_r (hl : LV K V P m fm h I i o) : cOk h I I i o [] := ⟨zcf_r h I, hl.2.1, hl.2.2.2.1, rfl, rfl, by rw [List.length_nil]; omega, fun _ _ => rfl, trivial⟩
theorem c_isHr {k v : Int} {Q : Int → Prop} (hl : LV K V P m fm h I i o) (k1 : K i = k ∧ V i = v → Q 1) (k0 : ¬ (K i = k ∧ V i = v) → Q 0) : p10_isHere k v I Q := by
  obtain ⟨l1, l2, l3, -⟩ := hl
  have t := l1.2.2 i l3
  have t2 := l1.2.1
  unfold p10_isHere
  rw [l2, l1.1, t.1, t.2.1]
  refine zf (by omega) (zf (by omega) (zf (by omega) ⟨by omega, zs (fun a => ⟨by omega, zs (fun b => k1 ⟨a, b⟩) (fun b => k0 (fun q => b q.2))⟩) (fun a => k0 (fun q => a q.1))⟩))
theorem c_isSg {v : Int} {Q : Int → Prop} (hl : LV K V P m fm h I i o) (k1 : K i = 4 ∧ V i = v → Q 1) (k0 : ¬ (K i = 4 ∧ V i = v) → Q 0) : p6_isSign v I Q := by
  unfold p6_isSign
  exact c_isHr hl (fun a => ⟨Or.inr rfl, k1 a⟩) (fun a => ⟨Or.inl rfl, k0 a⟩)
theorem c_isOw {v : Int} {Q : Int → Prop} (hl : LV K V P m fm h I i o) (k1 : K i = 1 ∧ V i = v → Q 1) (k0 : ¬ (K i = 1 ∧ V i = v) → Q 0) : p6_isOwn v I Q := by
  unfold p6_isOwn
  exact c_isHr hl (fun a => ⟨Or.inr rfl, k1 a⟩) (fun a => ⟨Or.inl rfl, k0 a⟩)
theorem c_sort {Q : Int → Prop} (hl : LV K V P m fm h I i o) (kk : Q (K i)) : p10_sortHere I Q := by
  obtain ⟨l1, l2, l3, -⟩ := hl
  have t := l1.2.2 i l3
  have t2 := l1.2.1
  unfold p10_sortHere
  rw [l2, l1.1, t.1]
  exact zf (by omega) (zf (by omega) (zf (by omega) ⟨by omega, kk⟩))
theorem c_valu {Q : Int → Prop} (hl : LV K V P m fm h I i o) (kk : Q (V i)) : p10_valueHere I Q := by
  obtain ⟨l1, l2, l3, -⟩ := hl
  have t := l1.2.2 i l3
  have t2 := l1.2.1
  unfold p10_valueHere
  rw [l2, l1.1, t.2.1]
  exact zf (by omega) (zf (by omega) (zf (by omega) ⟨by omega, kk⟩))
theorem c_plac {Q : Int → Prop} (ht : TK K V P m I) (hi : I 142 5 = (i : Int)) (him : i ≤ m) (kk : Q (P i)) : p10_placeHere I Q := by
  have t := ht.2.2 i him
  have t2 := ht.2.1
  unfold p10_placeHere
  rw [hi, ht.1, t.2.2]
  exact zf (by omega) (zf (by omega) (zf (by omega) ⟨by omega, kk⟩))
theorem c_fail {k : Int} {Q : mI → Prop} (hh : isLd h) (hl : LV K V P m fm h I i o) (hk : k ≠ 6 ∧ k ≠ 0) (kk : ∀ I', cNo h I I' k (P i) → Q I') : p6_fail k I Q := by
  obtain ⟨l1, l2, l3, l4, l5, l6, l7, l8, l9⟩ := hl
  have t2 := l1.2.1
  unfold isLd at hh
  unfold p6_fail
  refine zt l6 (m_putK (fun I1 q1 g1 f1 => zf hk.1 ?_))
  have e142 := f1 142 (by decide)
  have ht1 : TK K V P m I1 := by
    refine ⟨by rw [e142]; exact l1.1, t2, fun j hj => ?_⟩
    rw [f1 143 (by decide), f1 144 (by decide), f1 145 (by decide)]; exact l1.2.2 j hj
  refine c_plac ht1 (by rw [e142]; exact l2) l3 (m_putK (fun I2 q2 g2 f2 => ?_))
  unfold p10_stop
  refine m_putK (fun I3 q3 g3 f3 => kk I3 ⟨⟨fun z a b c d => ?_, fun j hj => ?_, fun j a b c => ?_, fun j hj => ?_⟩, ?_, ?_, ?_, ?_, ?_⟩)
  · rw [f3 z b, f2 z a, f1 z a]
  · rw [g3 j hj, f2 142 (by decide), f1 142 (by decide)]
  · rw [f3 141 (by decide), g2 j c, g1 j b]
  · rw [f3 h (by omega), f2 h (by omega), f1 h (by omega)]
  · rw [g3 3 (by decide)]; exact q3
  · rw [f3 141 (by decide), g2 6 (by decide)]; exact ⟨q1, hk.2⟩
  · rw [f3 141 (by decide)]; exact q2
  · rw [f3 141 (by decide), g2 3 (by decide), g1 3 (by decide)]; omega
  · rw [f3 h (by omega), f2 h (by omega), f1 h (by omega)]; omega
theorem c_step0 {Q : mI → Prop} (hh : isLd h) (l1 : TK K V P m I) (l2 : I 142 5 = (i : Int)) (l4 : I 141 3 = (o : Int)) (him : i < m) (kk : ∀ I', cOk h I I' (i + 1) o [] → Q I') : p10_step I Q := by
  have t2 := l1.2.1
  unfold isLd at hh
  unfold p10_step
  rw [l1.1, l2]
  refine zf (by omega) ⟨by omega, m_putK (fun I1 q1 g1 f1 => kk I1 ⟨⟨fun z a b c d => f1 z b, g1, fun j _ _ _ => by rw [f1 141 (by decide)], fun j _ => by rw [f1 h (by omega)]⟩, by rw [q1]; omega, by rw [f1 141 (by decide)]; exact l4, by rw [f1 141 (by decide)], by rw [f1 141 (by decide)], by rw [f1 h (by omega), List.length_nil]; omega, fun z _ => by rw [f1 (h + 6) (by omega)], trivial⟩)⟩
theorem c_stepT {Q : mI → Prop} (hh : isLd h) (hl : LV K V P m fm h I i o) (him : i < m) (kk : ∀ I', cOk h I I' (i + 1) o [] → Q I') : p10_step I Q := c_step0 hh hl.1 hl.2.1 hl.2.2.2.1 him kk
theorem c_emitT {q : Int × Int} {x : Int} {Q : mI → Prop} (hh : isLd h) (hR : R 141 2 = h) (hx : x = enc q) (hl : LV K V P m fm h I i o) (h16 : I h 8 < 1600) (kk : ∀ I', cOk h I I' i o [q] → Q I') : p6_emit x I R Q := by
  obtain ⟨l1, l2, l3, l4, l5, l6, l7, l8, l9⟩ := hl
  have hh0 := hh
  unfold isLd at hh
  unfold p6_emit
  rw [hR]
  refine ⟨hh0, hh0, zf (by omega) ⟨hh0, hh0, by omega, m_putK (fun I1 q1 g1 f1 => ⟨hh0, ?_⟩)⟩⟩
  rw [f1 h (by omega)]
  refine ⟨by omega, m_putK (fun I2 q2 g2 f2 => kk I2 ⟨⟨fun z a b c d => (f2 z c).trans (f1 z d), fun j _ => ?_, fun j _ _ _ => ?_, fun j hj => ?_⟩, ?_, ?_, ?_, ?_, ?_, fun z hz => ?_, ?_, trivial⟩)⟩
  · rw [f2 142 (by omega), f1 142 (by omega)]
  · rw [f2 141 (by omega), f1 141 (by omega)]
  · rw [g2 j hj, f1 h (by omega)]
  · rw [f2 142 (by omega), f1 142 (by omega)]; exact l2
  · rw [f2 141 (by omega), f1 141 (by omega)]; exact l4
  · rw [f2 141 (by omega), f1 141 (by omega)]
  · rw [f2 141 (by omega), f1 141 (by omega)]
  · rw [q2, List.length_singleton]; omega
  · rw [f2 (h + 6) (by omega), g1 z (by omega)]
  · rw [f2 (h + 6) (by omega), q1]; exact hx
theorem c_emSt {q : Int × Int} {x : Int} {Q : mI → Prop} (hh : isLd h) (hR : R 141 2 = h) (hx : x = enc q) (hl : LV K V P m fm h I i o) (him : i < m) (kk : ∀ I', cOk h I I' (i + 1) o [q] → Q I') : p6_emit x I R (fun I1 => p10_step I1 Q) := by
  have t2 := hl.1.2.1
  have l8 := hl.2.2.2.2.2.2.2
  exact c_emitT hh hR hx hl (by omega) (fun I1 k1 => c_step0 hh (TK_f hh k1.1 hl.1) k1.2.1 k1.2.2.1 him (fun I2 k2 => kk I2 (cOk_t k1 k2)))
/-! after a fault -/
theorem d_isHr {k v : Int} {Q : Int → Prop} (hd : I 142 5 = I 142 3) (k0 : Q 0) : p10_isHere k v I Q := by
  unfold p10_isHere
  exact zs (fun _ => k0) (fun _ => zt (by omega) k0)
theorem d_isSg {v : Int} {Q : Int → Prop} (hd : I 142 5 = I 142 3) (k0 : Q 0) : p6_isSign v I Q := by
  unfold p6_isSign; exact d_isHr hd ⟨Or.inl rfl, k0⟩
theorem d_isOw {v : Int} {Q : Int → Prop} (hd : I 142 5 = I 142 3) (k0 : Q 0) : p6_isOwn v I Q := by
  unfold p6_isOwn; exact d_isHr hd ⟨Or.inl rfl, k0⟩
theorem d_sort {Q : Int → Prop} (hd : I 142 5 = I 142 3) (k0 : Q 5) : p10_sortHere I Q := by
  unfold p10_sortHere
  exact zs (fun _ => k0) (fun _ => zt (by omega) k0)
theorem d_valu {Q : Int → Prop} (hd : I 142 5 = I 142 3) (k0 : Q 0) : p10_valueHere I Q := by
  unfold p10_valueHere
  exact zs (fun _ => k0) (fun _ => zt (by omega) k0)
theorem d_fail {k : Int} {Q : mI → Prop} (hd : I 142 5 = I 142 3) (hf : I 141 6 ≠ 0) (kk : Q I) : p6_fail k I Q := by
  unfold p6_fail
  refine zf hf ?_
  unfold p10_stop
  refine wLet_r ?_
  rw [up_id hd]; exact kk
theorem d_step {Q : mI → Prop} (hd : I 142 5 = I 142 3) (kk : Q I) : p10_step I Q := by
  unfold p10_step
  refine zt (by omega) (wLet_r ?_)
  rw [up_id hd]; exact kk
theorem d_expt {v : Int} {Q : mI → Prop} (hd : I 142 5 = I 142 3) (hf : I 141 6 ≠ 0) (kk : Q I) : p6_expect v I Q := by
  unfold p6_expect
  exact d_isSg hd (zt rfl (d_fail hd hf kk))
theorem d_emit {x : Int} {I0 : mI} {k pl : Int} {Q : mI → Prop} (hh : isLd h) (hR : R 141 2 = h) (hn : cNo h I0 I k pl) (kk : ∀ I', cNo h I0 I' k pl → Q I') : p6_emit x I R Q := by
  have hh0 := hh
  unfold isLd at hh
  unfold p6_emit
  rw [hR]
  refine ⟨hh0, hh0, zs (fun _ => kk I hn) (fun e => ?_)⟩
  obtain ⟨n1, n2, n3, n4, n5, n6⟩ := hn
  refine ⟨hh0, hh0, by omega, m_putK (fun I1 q1 g1 f1 => ⟨hh0, ?_⟩)⟩
  rw [f1 h (by omega)]
  refine ⟨by omega, m_putK (fun I2 q2 g2 f2 => kk I2 ⟨zcf_t n1 ⟨fun z a b c d => (f2 z c).trans (f1 z d), fun j _ => ?_, fun j _ _ _ => ?_, fun j hj => ?_⟩, ?_, ?_, ?_, ?_, ?_⟩)⟩
  · rw [f2 142 (by omega), f1 142 (by omega)]
  · rw [f2 141 (by omega), f1 141 (by omega)]
  · rw [g2 j hj, f1 h (by omega)]
  · rw [f2 142 (by omega), f1 142 (by omega)]; exact n2
  · rw [f2 141 (by omega), f1 141 (by omega)]; exact n3
  · rw [f2 141 (by omega), f1 141 (by omega)]; exact n4
  · rw [f2 141 (by omega), f1 141 (by omega)]; exact n5
  · rw [q2]; omega
theorem c_expt {v : Int} {Q : mI → Prop} (hh : isLd h) (hl : LV K V P m fm h I i o) (him : K i = 4 ∧ V i = v → i < m) (k1 : ∀ I', K i = 4 ∧ V i = v → cOk h I I' (i + 1) o [] → Q I') (k0 : ∀ I', ¬ (K i = 4 ∧ V i = v) → cNo h I I' 1 (P i) → Q I') : p6_expect v I Q := by
  unfold p6_expect
  exact c_isSg hl (fun a => zf (by decide) (c_stepT hh hl (him a) (fun I' b => k1 I' a b))) (fun a => zt rfl (c_fail hh hl (by decide) (fun I' b => k0 I' a b)))
theorem c_opnT {Q : Int → mI → Prop} (hh : isLd h) (hl : LV K V P m fm h I i o) (him : i < m) (k1 : ∀ I', ¬ 7 ≤ o → cOk h I I' (i + 1) (o + 1) [] → Q 1 I') (k0 : ∀ I', 7 ≤ o → cNo h I I' 5 (P i) → Q 0 I') : p6_opens I Q := by
  have hh0 := hh
  unfold isLd at hh
  unfold p6_opens
  rw [hl.2.2.2.1]
  refine zs (fun a => ⟨by omega, m_putK (fun I1 q1 g1 f1 => ?_)⟩) (fun a => c_fail hh0 hl (by decide) (fun I' b => k0 I' (by omega) b))
  have e : cOk h I I1 i (o + 1) [] := ⟨⟨fun z a b c d => f1 z a, fun j _ => by rw [f1 142 (by decide)], fun j a _ _ => g1 j a, fun j _ => by rw [f1 h (by omega)]⟩, by rw [f1 142 (by decide)]; exact hl.2.1, by rw [q1]; omega, g1 6 (by decide), g1 7 (by decide), by rw [f1 h (by omega), List.length_nil]; omega, fun z _ => by rw [f1 (h + 6) (by omega)], trivial⟩
  have l1 := LV_go hh0 hl e hl.2.2.1 (by omega) (by rw [List.length_nil]; omega)
  exact c_stepT hh0 l1 him (fun I2 k2 => k1 I2 (by omega) (cOk_t e k2))
/-- one open less -/
theorem c_clos {I2 : mI} {j : Nat} {cs : List (Int × Int)} {Q : mI → Prop} (hh : isLd h) (hl : LV K V P m fm h I i o) (hk : cOk h I I2 j (o + 1) cs) (kk : ∀ I', cOk h I I' j o cs → Q I') : rg ((I2 141 3) - 1) ∧ (wLet (up I2 141 3 ((I2 141 3) - 1)) Q) := by
  unfold isLd at hh
  obtain ⟨k1, k2, k3, k4, k5, k6, k7, k8⟩ := hk
  have l5 := hl.2.2.2.2.1
  refine ⟨by omega, m_putK (fun I3 q3 g3 f3 => kk I3 ⟨zcf_t k1 ⟨fun z a _ _ _ => f3 z a, fun j _ => by rw [f3 142 (by decide)], fun j a _ _ => g3 j a, fun j _ => by rw [f3 h (by omega)]⟩, by rw [f3 142 (by decide)]; exact k2, by rw [q3]; omega, (g3 6 (by decide)).trans k4, (g3 7 (by decide)).trans k5, by rw [f3 h (by omega)]; exact k6, fun z hz => by rw [f3 (h + 6) (by omega)]; exact k7 z hz, segC_fr (f3 (h + 6) (by omega)) k8⟩)⟩
theorem d_clos {I1 I2 : mI} {j : Nat} {k pl : Int} {cs : List (Int × Int)} {Q : mI → Prop} (hh : isLd h) (hl : LV K V P m fm h I i o) (hk : cOk h I I1 j (o + 1) cs) (hn : cNo h I1 I2 k pl) (kk : ∀ I', cNo h I I' k pl → Q I') : rg ((I2 141 3) - 1) ∧ (wLet (up I2 141 3 ((I2 141 3) - 1)) Q) := by
  unfold isLd at hh
  obtain ⟨k1, k2, k3, k4, k5, k6, k7, k8⟩ := hk
  obtain ⟨n1, n2, n3, n4, n5, n6⟩ := hn
  have l5 := hl.2.2.2.2.1
  have l4 := hl.2.2.2.1
  refine ⟨by omega, m_putK (fun I3 q3 g3 f3 => kk I3 ⟨zcf_t k1 (zcf_t n1 ⟨fun z a _ _ _ => f3 z a, fun j _ => by rw [f3 142 (by decide)], fun j a _ _ => g3 j a, fun j _ => by rw [f3 h (by omega)]⟩), by rw [f3 142 (by decide)]; exact n2, ⟨(g3 6 (by decide)).trans n3.1, n3.2⟩, (g3 7 (by decide)).trans n4, by rw [q3]; omega, by rw [f3 h (by omega)]; exact n6⟩)⟩
end
/-- nothing is read any more -/
theorem dRd {R : mR} : ∀ (d w : Nat) (wd : Int) (I : mI) (Q : mI → Prop), (w ≤ 6 ∧ 7 ≤ d + w) ∨ (w = 7 ∧ 1 ≤ d) → I 142 5 = I 142 3 → I 141 6 ≠ 0 → Q I → pGrd d w wd I R Q
  | 0, w, wd, I, Q, hw, _, _, _ => by omega
  | d + 1, w, wd, I, Q, hw, hd, hf, hq => by
    have ih := dRd (R := R) d
    have hcase : w = 0 ∨ w = 1 ∨ w = 2 ∨ w = 3 ∨ w = 4 ∨ w = 5 ∨ w = 6 ∨ w = 7 := by omega
    rcases hcase with rfl | rfl | rfl | rfl | rfl | rfl | rfl | rfl
    · show p6_readTest (pGrd d) I R Q
      unfold p6_readTest
      refine ih 1 0 I _ (by omega) hd hf ⟨1, ?_⟩
      show p6_readTest_b6_body (pGrd d) R Q (p6_readTest_b6 (pGrd d) R Q 0) 0 I
      unfold p6_readTest_b6_body
      exact zf (by decide) (d_isOw hd (zt rfl hq))
    · show p6_readBoth (pGrd d) I R Q
      unfold p6_readBoth
      refine ih 2 0 I _ (by omega) hd hf ⟨1, ?_⟩
      show p6_readBoth_b6_body (pGrd d) R Q (p6_readBoth_b6 (pGrd d) R Q 0) 0 I
      unfold p6_readBoth_b6_body
      exact zf (by decide) (d_isOw hd (zt rfl hq))
    · show p6_readFact (pGrd d) I R Q
      unfold p6_readFact
      exact d_isOw hd (zt rfl (d_isSg hd (zt rfl (d_isOw hd (zt rfl (ih 3 0 I _ (by omega) hd hf hq))))))
    · show p6_readComparison (pGrd d) I R Q
      unfold p6_readComparison
      refine ih 4 0 I _ (by omega) hd hf (d_isSg hd (zt rfl (d_isSg hd (zt rfl ?_))))
      unfold p6_readComparison_b34
      exact zt rfl (d_isSg hd (zt rfl (d_fail hd hf hq)))
    · show p6_readSum (pGrd d) I R Q
      unfold p6_readSum
      refine ih 5 0 I _ (by omega) hd hf ⟨1, ?_⟩
      show p6_readSum_b6_body (pGrd d) R Q (p6_readSum_b6 (pGrd d) R Q 0) 0 I
      unfold p6_readSum_b6_body
      exact zf (by decide) (d_isSg hd (zt rfl (d_isSg hd (zt rfl hq))))
    · show p6_readProduct (pGrd d) I R Q
      unfold p6_readProduct
      refine ih 6 0 I _ (by omega) hd hf ⟨1, ?_⟩
      show p6_readProduct_b6_body (pGrd d) R Q (p6_readProduct_b6 (pGrd d) R Q 0) 0 I
      unfold p6_readProduct_b6_body
      exact zf (by decide) (d_isSg hd (zt rfl (d_isSg hd (zt rfl (d_isSg hd (zt rfl hq))))))
    · show p6_readPart (pGrd d) I R Q
      unfold p6_readPart p6_ownHere
      have v0 : p6_variable (-1) I = fun Q => Q 0 := by
        funext Q'
        unfold p6_variable
        rw [if_neg (by decide)]
        by_cases e : I 141 4 = 2
        · rw [if_pos e, if_neg (by decide), if_neg (by decide)]
        · rw [if_neg e, if_neg (by decide), if_neg (by decide)]
          by_cases e : I 141 4 = 1
          · rw [if_pos e]
          · rw [if_neg e, if_neg (by decide), if_neg (by decide), if_neg (by decide), if_neg (by decide), if_neg (by decide), if_neg (by decide)]
      refine d_sort hd (zf (by decide) ?_)
      show p6_variable (-1) I _
      rw [v0]
      exact d_sort hd (zf (by decide) (zt rfl (d_isSg hd (zt rfl (d_isOw hd (zt rfl (d_isOw hd (zt rfl (d_isOw hd (zt rfl (d_fail hd hf hq)))))))))))
    · show p6_readChosen (pGrd d) wd I R Q
      unfold p6_readChosen
      exact d_step hd (d_isSg hd (zt rfl (d_fail hd hf hq)))
