/-! THE READERS: the class reads a statement -/
def RW (h : Nat) (I V : mI) : Prop := ∀ a, a ≤ 8 → a ≠ 6 → I (h + a) = V a
theorem RW_up {h a : Nat} {k v : Int} {I I' V : mI} (hr : RW h I V) (q : I' (h + a) k = v) (g : ∀ j, j ≠ k → I' (h + a) j = I (h + a) j) (f : ∀ z, z ≠ h + a → I' z = I z) (ha : a ≤ 8) (h6 : a ≠ 6) : RW h I' (up V a k v) := fun c hc c6 => by
  by_cases e : c = a
  · subst e
    funext j
    by_cases ej : j = k
    · rw [ej, q, up_s]
    · rw [g j ej, up_k _ _ _ ej, hr c hc c6]
  · rw [f _ (by omega), up_ne e]; exact hr c hc c6
theorem RW_f {h : Nat} {I I' V : mI} (hr : RW h I V) (f : ∀ a, a ≤ 8 → a ≠ 6 → I' (h + a) = I (h + a)) : RW h I' V := fun a ha a6 => (f a ha a6).trans (hr a ha a6)
/-- what a statement may change -/
def xsf (h : Nat) (I0 I : mI) : Prop := (∀ z, z ≠ 141 → z ≠ 142 → ¬ (h ≤ z ∧ z ≤ h + 8) → I z = I0 z) ∧ ∀ j, j ≠ 5 → I 142 j = I0 142 j
theorem xsf_r (h : Nat) (I : mI) : xsf h I I := ⟨fun _ _ _ _ => rfl, fun _ _ => rfl⟩
theorem xsf_t {h : Nat} {I1 I2 I3 : mI} (a : xsf h I1 I2) (b : xsf h I2 I3) : xsf h I1 I3 := ⟨fun z h1 h2 h3 => (b.1 z h1 h2 h3).trans (a.1 z h1 h2 h3), fun j hj => (b.2 j hj).trans (a.2 j hj)⟩
theorem xsf_z {h : Nat} {I1 I2 : mI} (hz : ∀ z, z ≠ 141 → z ≠ 142 → ¬ (h ≤ z ∧ z ≤ h + 8) → I2 z = I1 z) (h2 : I2 142 = I1 142) : xsf h I1 I2 := ⟨hz, fun j _ => by rw [h2]⟩
def sNo (h : Nat) (I0 I : mI) (k pl : Int) : Prop := xsf h I0 I ∧ I 142 5 = I 142 3 ∧ (I 141 6 = k ∧ k ≠ 0) ∧ I 141 7 = pl
theorem sNo_t {h : Nat} {I1 I2 I3 : mI} {k pl : Int} (a : xsf h I1 I2) (b : sNo h I2 I3 k pl) : sNo h I1 I3 k pl := ⟨xsf_t a b.1, b.2⟩
theorem sNo_nz {h : Nat} {I1 I2 : mI} {k pl : Int} (a : sNo h I1 I2 k pl) : I2 141 6 ≠ 0 := by rw [a.2.2.1.1]; exact a.2.2.1.2
section
variable {K T P : Nat → Int} {m : Nat} {h : Nat} {I : mI} {R : mR} {i : Nat} {fm : Int}
theorem LV_m {I' : mI} (hl : LV K T P m fm h I i 0) (h2 : I' 142 = I 142) (h3 : I' 143 = I 143) (h4 : I' 144 = I 144) (h5 : I' 145 = I 145) (h1 : I' 141 3 = I 141 3) (h6 : I' 141 6 = I 141 6) (h7 : I' 141 4 = I 141 4) (h8 : I' h 8 = I h 8) : LV K T P m fm h I' i 0 := by
  obtain ⟨l1, l2, l3, l4, l5, l6, l7, l8, l9⟩ := hl
  refine ⟨⟨by rw [h2]; exact l1.1, l1.2.1, fun j hj => by rw [h3, h4, h5]; exact l1.2.2 j hj⟩, by rw [h2]; exact l2, l3, h1.trans l4, l5, h6.trans l6, h7.trans l7, by rw [h8]; exact l8, by rw [h8]; exact l9⟩
theorem s_step {Q : mI → Prop} (hh : isLd h) (hl : LV K T P m fm h I i 0) (him : i < m) (kk : ∀ I', (∀ z, z ≠ 142 → I' z = I z) → xsf h I I' → LV K T P m fm h I' (i + 1) 0 → Q I') : p10_step I Q := by
  obtain ⟨l1, l2, l3, l4, l5, l6, l7, l8, l9⟩ := hl
  have t2 := l1.2.1
  unfold isLd at hh
  unfold p10_step
  rw [l1.1, l2]
  refine zf (by omega) ⟨by omega, m_putK (fun I1 q1 g1 f1 => kk I1 f1 ⟨fun z _ b _ => f1 z b, g1⟩ ⟨⟨by rw [g1 3 (by decide)]; exact l1.1, l1.2.1, fun j hj => by rw [f1 143 (by decide), f1 144 (by decide), f1 145 (by decide)]; exact l1.2.2 j hj⟩, by rw [q1]; omega, him, by rw [f1 141 (by decide)]; exact l4, by omega, by rw [f1 141 (by decide)]; exact l6, by rw [f1 141 (by decide)]; exact l7, by rw [f1 h (by omega)]; exact l8, by rw [f1 h (by omega)]; omega⟩)⟩
set_option maxRecDepth 8000 in
theorem s_begin {Q : Int → Prop} (hl : LV K T P m fm h I i 0) (kk : Q (if K i = 5 then T i else P i)) : p10_beginHere I Q := by
  obtain ⟨l1, l2, l3, -⟩ := hl
  have t := l1.2.2 i l3
  have t2 := l1.2.1
  unfold p10_beginHere
  rw [l2, l1.1, t.1, t.2.1, t.2.2]
  refine zf (by omega) (zf (by omega) (zt (by omega) ⟨by omega, zs (fun e => ⟨by omega, ?_⟩) (fun e => ⟨by omega, ?_⟩)⟩))
  · rw [if_pos e] at kk; exact kk
  · rw [if_neg e] at kk; exact kk
set_option maxRecDepth 8000 in
theorem s_fail {k : Int} {Q : mI → Prop} (hl : LV K T P m fm h I i 0) (hk : k ≠ 0) (kk : ∀ I', (∀ z, z ≠ 141 → z ≠ 142 → I' z = I z) → (∀ j, j ≠ 6 → j ≠ 7 → I' 141 j = I 141 j) → sNo h I I' k (if k = 6 ∧ K i = 5 then T i else P i) → Q I') : p6_fail k I Q := by
  obtain ⟨l1, l2, l3, l4, l5, l6, l7, l8, l9⟩ := hl
  have t := l1.2.2 i l3
  have t2 := l1.2.1
  unfold p6_fail
  refine zt l6 (m_putK (fun I1 q1 g1 f1 => ?_))
  have e142 := f1 142 (by decide)
  have fin : ∀ pl : Int, pl = (if k = 6 ∧ K i = 5 then T i else P i) → wLet (up I1 141 7 pl) (fun I5 => p10_stop I5 (fun I6 => Q I6)) := fun pl hpl => by
    refine m_putK (fun I2 q2 g2 f2 => ?_)
    unfold p10_stop
    refine m_putK (fun I3 q3 g3 f3 => kk I3 (fun z a c => by rw [f3 z c, f2 z a, f1 z a]) (fun j a c => by rw [f3 141 (by decide), g2 j c, g1 j a]) ⟨⟨fun z a c _ => by rw [f3 z c, f2 z a, f1 z a], fun j hj => by rw [g3 j hj, f2 142 (by decide), e142]⟩, by rw [g3 3 (by decide)]; exact q3, ⟨by rw [f3 141 (by decide), g2 6 (by decide)]; exact q1, hk⟩, by rw [f3 141 (by decide), q2]; exact hpl⟩)
  refine zs (fun e6 => ?_) (fun e6 => ?_)
  · unfold p10_beginHere
    rw [e142, f1 143 (by decide), f1 144 (by decide), f1 145 (by decide), l2, l1.1, t.1, t.2.1, t.2.2]
    refine zf (by omega) (zf (by omega) (zt (by omega) ⟨by omega, zs (fun e => ⟨by omega, fin _ ?_⟩) (fun e => ⟨by omega, fin _ ?_⟩)⟩))
    · rw [if_pos ⟨e6, e⟩]
    · rw [if_neg (fun q => e q.2)]
  · unfold p10_placeHere
    rw [e142, f1 145 (by decide), l2, l1.1, t.2.2]
    refine zf (by omega) (zf (by omega) (zf (by omega) ⟨by omega, fin _ ?_⟩))
    rw [if_neg (fun q => e6 q.1)]
theorem s_fail' {k : Int} {Q : mI → Prop} (hl : LV K T P m fm h I i 0) (hk : k ≠ 0 ∧ (k = 6 → K i ≠ 5)) (kk : ∀ I', (∀ z, z ≠ 141 → z ≠ 142 → I' z = I z) → sNo h I I' k (P i) → Q I') : p6_fail k I Q :=
  s_fail hl hk.1 (fun I' fz _ hn => kk I' fz (by rw [if_neg (fun q => hk.2 q.1 q.2)] at hn; exact hn))
theorem d_take {most : Int} {Q : Int → mI → Prop} (hd : I 142 5 = I 142 3) (hf : I 141 6 ≠ 0) (kk : Q 0 I) : p6_takeUpTo most I Q := by
  unfold p6_takeUpTo
  exact d_valu hd (d_sort hd (zf (by decide) (d_fail hd hf kk)))
theorem d_trai {w most : Int} {Q : Int → mI → Prop} (hd : I 142 5 = I 142 3) (hf : I 141 6 ≠ 0) (kk : Q 0 I) : p6_takeTrait w most I Q := by
  unfold p6_takeTrait
  exact d_isOw hd (zt rfl (d_fail hd hf kk))
theorem s_take {most : Int} {Q : Int → mI → Prop} (hh : isLd h) (hT : tkM K T m) (hl : LV K T P m fm h I i 0) (k1 : ∀ (I' : mI) (j : Nat) (v : Int), gNum K T most i = Sum.inr (j, v) → (∀ z, z ≠ 142 → I' z = I z) → xsf h I I' → LV K T P m fm h I' j 0 → Q v I') (k0 : ∀ (I' : mI) (k : Int) (i' : Nat), gNum K T most i = Sum.inl (k, i') → (∀ z, z ≠ 141 → z ≠ 142 → I' z = I z) → sNo h I I' k (P i') → Q 0 I') : p6_takeUpTo most I Q := by
  unfold p6_takeUpTo
  unfold gNum at k1 k0
  refine c_valu hl (c_sort hl (zs (fun a => zs (fun c => ?_) (fun c => ?_)) (fun a => ?_)))
  · rw [if_pos a, if_pos c] at k1
    exact s_step hh hl (tkM_lt hT hl.2.2.1 (by rw [a]; decide)) (fun I' f x lv => k1 I' (i + 1) (T i) rfl f x lv)
  · rw [if_pos a, if_neg c] at k0
    exact s_fail' hl ⟨by decide, fun q => by omega⟩ (fun I' fz hn => k0 I' 4 i rfl fz hn)
  · rw [if_neg a] at k0
    exact s_fail' hl ⟨by decide, fun q => by omega⟩ (fun I' fz hn => k0 I' 1 i rfl fz hn)
theorem s_trai {w most : Int} {Q : Int → mI → Prop} (hh : isLd h) (hT : tkM K T m) (hl : LV K T P m fm h I i 0) (k1 : ∀ (I' : mI) (j : Nat) (v : Int), gTr K T w most i = Sum.inr (j, v) → (∀ z, z ≠ 142 → I' z = I z) → xsf h I I' → LV K T P m fm h I' j 0 → Q v I') (k0 : ∀ (I' : mI) (k : Int) (i' : Nat), gTr K T w most i = Sum.inl (k, i') → (∀ z, z ≠ 141 → z ≠ 142 → I' z = I z) → sNo h I I' k (P i') → Q 0 I') : p6_takeTrait w most I Q := by
  unfold p6_takeTrait
  unfold gTr at k1 k0
  refine c_isOw hl (fun a => zf (by decide) ?_) (fun a => zt rfl ?_)
  · rw [if_pos a] at k1 k0
    exact s_step hh hl (tkM_lt hT hl.2.2.1 (by rw [a.1]; decide)) (fun I' f x lv => s_take hh hT lv (fun I2 j v e f2 x2 lv2 => k1 I2 j v e (fun z hz => (f2 z hz).trans (f z hz)) (xsf_t x x2) lv2) (fun I2 k i' e fz hn => k0 I2 k i' e (fun z a c => (fz z a c).trans (f z c)) (sNo_t x hn)))
  · rw [if_neg a] at k0
    exact s_fail' hl ⟨by decide, fun q => by omega⟩ (fun I' fz hn => k0 I' 1 i rfl fz hn)
/-! finding a name -/
theorem c_findGo {V : mI} {kd p : Int} {Q : Int → Prop} (hr : RW h I V) (hkd : 0 ≤ kd ∧ kd < 3) (hc : V 1 kd ≤ 6) (kk : Q (fdC V kd p)) : ∀ (d : Nat) (w : Int), w + d = 7 → 0 ≤ w → w ≤ V 1 kd → fdF (V 1 kd) (fun w => V 2 (kd * 6 + w)) p d w = fdC V kd p → p3_find_b17 h kd p I Q d w
  | 0, w, hw, h0, hwc, he => by omega
  | d + 1, w, hw, h0, hwc, he => by
    show p3_find_b17_body h kd p I Q (p3_find_b17 h kd p I Q d) w
    unfold p3_find_b17_body
    rw [hr 1 (by decide) (by decide), hr 2 (by decide) (by decide)]
    unfold fdF at he
    refine ⟨hkd, zs (fun a => ?_) (fun a => ⟨by omega, by omega, by omega, zs (fun c => ?_) (fun c => ⟨by omega, ?_⟩)⟩)⟩
    · rw [if_pos a] at he; rw [he]; exact kk
    · rw [if_neg a, if_pos c] at he; rw [he]; exact kk
    · rw [if_neg a, if_neg c] at he
      exact c_findGo hr hkd hc kk d (w + 1) (by omega) (by omega) (by omega) he
theorem c_find {V : mI} {kd p : Int} {Q : Int → Prop} (hr : RW h I V) (hkd : 0 ≤ kd ∧ kd < 3) (hc : 0 ≤ V 1 kd ∧ V 1 kd ≤ 6) (kk : Q (fdC V kd p)) : p3_find h kd p I Q := by
  unfold p3_find
  exact zf (by omega) (zt hkd.2 ⟨7, c_findGo hr hkd hc.2 kk 7 0 (by decide) (by decide) hc.1 rfl⟩)
end
