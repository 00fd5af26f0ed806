/-! THE READERS: the class reads what a statement tells -/
def bR (K T P : Nat → Int) (m : Nat) (fm : Int) (h : Nat) (I0 I : mI) (i : Nat) (V : mI) : Prop := LV K T P m fm h I i 0 ∧ RW h I V ∧ I (h + 6) = I0 (h + 6) ∧ I 141 = I0 141 ∧ xsf h I0 I
section
variable {K T P : Nat → Int} {m : Nat} {h : Nat} {I0 I : mI} {R : mR} {i : Nat} {fm : Int} {V : mI} {F : mF}
theorem bR_step {I' : mI} {j : Nat} (hh : isLd h) (hb : bR K T P m fm h I0 I i V) (f : ∀ z, z ≠ 142 → I' z = I z) (x : xsf h I I') (lv : LV K T P m fm h I' j 0) : bR K T P m fm h I0 I' j V := by
  unfold isLd at hh
  exact ⟨lv, RW_f hb.2.1 (fun a _ _ => f _ (by omega)), (f _ (by omega)).trans hb.2.2.1, (f 141 (by decide)).trans hb.2.2.2.1, xsf_t hb.2.2.2.2 x⟩
theorem bR_up {I' : mI} {a : Nat} {k v : Int} (hh : isLd h) (hb : bR K T P m fm h I0 I i V) (ha : a ≤ 8) (h6 : a ≠ 6) (h0 : a ≠ 0 ∨ k ≠ 8) (q : I' (h + a) k = v) (g : ∀ j, j ≠ k → I' (h + a) j = I (h + a) j) (f : ∀ z, z ≠ h + a → I' z = I z) : bR K T P m fm h I0 I' i (up V a k v) := by
  have hh' := hh
  unfold isLd at hh'
  refine ⟨LV_m hb.1 (f 142 (by omega)) (f 143 (by omega)) (f 144 (by omega)) (f 145 (by omega)) (by rw [f 141 (by omega)]) (by rw [f 141 (by omega)]) (by rw [f 141 (by omega)]) ?_, RW_up hb.2.1 q g f ha h6, (f _ (by omega)).trans hb.2.2.1, (f 141 (by omega)).trans hb.2.2.2.1, xsf_t hb.2.2.2.2 (xsf_z (fun z _ _ n => f z (by omega)) (f 142 (by omega)))⟩
  by_cases e : a = 0
  · subst e
    have g8 : I' (h + 0) 8 = I (h + 0) 8 := g 8 (by omega)
    exact g8
  · rw [f h (by omega)]
theorem sNo_w {I' : mI} {a : Nat} {k pl : Int} (hh : isLd h) (n : sNo h I0 I k pl) (ha : a ≤ 8) (f : ∀ z, z ≠ h + a → I' z = I z) : sNo h I0 I' k pl := by
  unfold isLd at hh
  refine ⟨xsf_t n.1 (xsf_z (fun z _ _ q => f z (by omega)) (f 142 (by omega))), by rw [f 142 (by omega)]; exact n.2.1, by rw [f 141 (by omega)]; exact n.2.2.1, by rw [f 141 (by omega)]; exact n.2.2.2⟩
theorem c_name {Q : Int → mI → Prop} (hl : LV K T P m fm h I i 0) (k1 : K i = 2 → Q 1 I) (k0 : ∀ I', K i ≠ 2 → sNo h I I' 1 (P i) → Q 0 I') : p6_isName I Q := by
  unfold p6_isName
  exact c_sort hl (zs k1 (fun a => s_fail' hl ⟨by decide, fun q => by omega⟩ (fun I' _ hn => k0 I' a hn)))
theorem d_name {Q : Int → mI → Prop} (hd : I 142 5 = I 142 3) (hf : I 141 6 ≠ 0) (kk : Q 0 I) : p6_isName I Q := by
  unfold p6_isName
  exact d_sort hd (zf (by decide) (d_fail hd hf kk))
theorem c_find1 {kd : Int} {Q : Int → mI → Prop} (hh : isLd h) (hR : R 141 2 = h) (hl : LV K T P m fm h I i 0) (hr : RW h I V) (hkd : 0 ≤ kd ∧ kd < 3) (hc : 0 ≤ V 1 kd ∧ V 1 kd ≤ 6) (k1 : ∀ k, gFd K T V kd i = Sum.inr k → k ≠ -1 → Q k I) (k0 : ∀ (I' : mI) (k : Int) (i' : Nat), gFd K T V kd i = Sum.inl (k, i') → sNo h I I' k (P i') → Q (-1) I') : p6_findNamed kd I R Q := by
  unfold p6_findNamed
  unfold gFd at k1 k0
  refine c_name hl (fun a => zf (by decide) ?_) (fun I' a hn => zt rfl ?_)
  · rw [hR]
    rw [if_pos a] at k1 k0
    refine ⟨hh, c_valu hl (c_find hr hkd hc (zs (fun e => ?_) (fun e => ?_)))⟩
    · rw [if_pos e] at k0
      rw [e]
      exact s_fail' hl ⟨by decide, fun q => by omega⟩ (fun I' _ hn => k0 I' 3 i rfl hn)
    · rw [if_neg e] at k1
      exact k1 _ rfl e
  · rw [if_neg a] at k0
    exact k0 I' 1 i rfl hn
/-- one of a kind -/
theorem c_oneD {kd s k pl : Int} {Q : mI → Prop} (hh : isLd h) (hR : R 141 2 = h) (hkd : 0 ≤ kd ∧ kd < 3) (hs : 0 ≤ s ∧ s < 18) (kk : ∀ I', sNo h I0 I' k pl → Q I') : ∀ (f : Nat) (l : Int) (I : mI), l + f = 3 → 0 ≤ l → sNo h I0 I k pl → (0 ≤ I (h + 1) kd ∧ I (h + 1) kd ≤ 6) → p6_readOne_b68 kd s R Q (f + 1) l I
  | 0, l, I, hl, h0, n, hc => by
    have b128 : ∀ I : mI, sNo h I0 I k pl → (0 ≤ I (h + 1) kd ∧ I (h + 1) kd ≤ 6) → p6_readOne_b128 kd I R Q := fun I n hc => by
      unfold p6_readOne_b128
      rw [hR]
      exact ⟨hh, by omega, by omega, by omega, m_putK (fun I1 q1 g1 f1 => kk I1 (sNo_w (a := 1) hh n (by decide) f1))⟩
    show p6_readOne_b68_body kd s R Q (p6_readOne_b68 kd s R Q 0) l I
    unfold p6_readOne_b68_body
    rw [hR]
    refine zt (by omega) (zs (fun _ => ⟨hh, by omega, by omega, d_trai n.2.1 (sNo_nz n) ⟨by omega, m_putK (fun I1 q1 g1 f1 => b128 I1 (sNo_w (a := 3) hh n (by decide) f1) (by rw [f1 (h + 1) (by omega)]; exact hc))⟩⟩) (fun _ => b128 I n hc))
  | f + 1, l, I, hl, h0, n, hc => by
    show p6_readOne_b68_body kd s R Q (p6_readOne_b68 kd s R Q (f + 1)) l I
    unfold p6_readOne_b68_body
    rw [hR]
    exact zf (by omega) ⟨hh, by omega, by omega, by omega, d_trai n.2.1 (sNo_nz n) ⟨by omega, m_putK (fun I1 q1 g1 f1 => ⟨by omega, c_oneD hh hR hkd hs kk f (l + 1) I1 (by omega) (by omega) (sNo_w (a := 3) hh n (by decide) f1) (by rw [f1 (h + 1) (by omega)]; exact hc)⟩)⟩⟩
theorem c_one {kd : Int} {Q : mI → Prop} (hh : isLd h) (hR : R 141 2 = h) (hT : tkM K T m) (hkd : 0 ≤ kd ∧ kd ≤ 2) (hw : WF V F) (h6 : V 1 kd < 6) (hb : bR K T P m fm h I0 I i V)
    (k1 : ∀ (I' : mI) (j : Nat) (V' : mI), gOne K T V F kd i = Sum.inr (j, V', F) → bR K T P m fm h I0 I' j V' → Q I') (k0 : ∀ (I' : mI) (k : Int) (i' : Nat), gOne K T V F kd i = Sum.inl (k, i') → sNo h I0 I' k (P i') → Q I') : p6_readOne kd I R Q := by
  have w1 := hw.1
  have vk : 0 ≤ V 1 kd := by
    have : kd = 0 ∨ kd = 1 ∨ kd = 2 := by omega
    rcases this with q | q | q <;> rw [q] <;> omega
  have hl := hb.1
  have hr := hb.2.1
  unfold gOne at k1 k0
  unfold p6_readOne
  refine c_name hl (fun a => zf (by decide) (c_valu hl ?_)) (fun I' a hn => zt rfl ?_)
  rotate_left
  · rw [if_neg a] at k0
    exact k0 I' 1 i rfl (sNo_t hb.2.2.2.2 hn)
  rw [if_pos a] at k1 k0
  have im : i < m := tkM_lt hT hl.2.2.1 (by rw [a]; decide)
  have tk : ∀ Qt : Int → Prop, (fdC V 0 (T i) = -1 ∧ fdC V 1 (T i) = -1 ∧ fdC V 2 (T i) = -1 → Qt 0) → (¬ (fdC V 0 (T i) = -1 ∧ fdC V 1 (T i) = -1 ∧ fdC V 2 (T i) = -1) → Qt 1) → p6_isTaken (T i) I R Qt := fun Qt q0 q1 => by
    unfold p6_isTaken
    rw [hR]
    refine ⟨hh, c_find hr (by decide) w1.1 (zs (fun e0 => ⟨hh, c_find hr (by decide) w1.2.1 (zs (fun e1 => ⟨hh, c_find hr (by decide) w1.2.2 (zs (fun e2 => q0 ⟨e0, e1, e2⟩) (fun e => q1 (fun z => e z.2.2)))⟩) (fun e => q1 (fun z => e z.2.1)))⟩) (fun e => q1 (fun z => e z.1)))⟩
  refine tk _ (fun e => zt rfl ?_) (fun e => zf (by decide) ?_)
  rotate_left
  · rw [if_neg e] at k0
    exact s_fail' hl ⟨by decide, fun q => by omega⟩ (fun I' _ hn => k0 I' 2 i rfl (sNo_t hb.2.2.2.2 hn))
  rw [if_pos e] at k1 k0
  have e1 : I (h + 1) kd = V 1 kd := by rw [hr 1 (by decide) (by decide)]
  rw [hR, e1]
  refine ⟨by omega, hh, by omega, by omega, wLet_r ⟨hh, c_valu hl ⟨by omega, m_putK (fun I2 q2 g2 f2 => ?_)⟩⟩⟩
  have b2 := bR_up (a := 2) hh hb (by decide) (by decide) (Or.inl (by decide)) q2 g2 f2
  have hs : 0 ≤ kd * 6 + V 1 kd ∧ kd * 6 + V 1 kd < 18 := by omega
  unfold tV at k1
  generalize hsd : kd * 6 + V 1 kd = s at k1 k0 b2 hs ⊢
  -- the last of it
  have last : ∀ (I : mI) (j : Nat) (V2 : mI), bR K T P m fm h I0 I j V2 → V2 1 = V 1 → (∀ I', bR K T P m fm h I0 I' j (up V2 1 kd (V 1 kd + 1)) → Q I') → p6_readOne_b128 kd I R Q := fun I j V2 b e k => by
    have e2 : I (h + 1) kd = V 1 kd := by rw [b.2.1 1 (by decide) (by decide), e]
    unfold p6_readOne_b128
    rw [hR, e2]
    exact ⟨hh, by omega, by omega, by omega, m_putK (fun I1 q1 g1 f1 => k I1 (bR_up (a := 1) hh b (by decide) (by decide) (Or.inl (by decide)) q1 g1 f1))⟩
  refine s_step hh b2.1 im (fun I3 f3 x3 lv3 => ⟨4, ?_⟩)
  have b3 := bR_step hh b2 f3 x3 lv3
  have cn : ∀ {I : mI} {j : Nat} {V2 : mI}, bR K T P m fm h I0 I j V2 → V2 1 = V 1 → 0 ≤ I (h + 1) kd ∧ I (h + 1) kd ≤ 6 := fun b e => by
    rw [b.2.1 1 (by decide) (by decide), e]; omega
  have dead : ∀ (f : Nat) (l : Int) (I4 I5 : mI) (I3 : mI) (j : Nat) (V2 : mI) (k pl : Int), l + f = 3 → 0 ≤ l → bR K T P m fm h I0 I3 j V2 → V2 1 = V 1 → (∀ z, z ≠ 141 → z ≠ 142 → I4 z = I3 z) → sNo h I3 I4 k pl → (∀ z, z ≠ h + 3 → I5 z = I4 z) → (∀ I', sNo h I0 I' k pl → Q I') → p6_readOne_b68 kd s R Q (f + 1) l I5 := fun f l I4 I5 I3 j V2 k pl hl h0 b e fz hn f5 kk => by
    have hh' := hh
    unfold isLd at hh'
    refine c_oneD hh hR ⟨hkd.1, by omega⟩ hs kk f l I5 hl h0 (sNo_w (a := 3) hh (sNo_t b.2.2.2.2 hn) (by decide) f5) ?_
    rw [f5 (h + 1) (by omega), fz (h + 1) (by omega) (by omega)]
    exact cn b e
  -- first
  show p6_readOne_b68_body kd s R Q (p6_readOne_b68 kd s R Q 3) 0 I3
  unfold p6_readOne_b68_body
  rw [hR]
  refine zf (by decide) ⟨hh, by omega, by omega, by decide, s_trai (w := 11) hh hT b3.1 (fun I4 j4 v4 e4 f4 x4 lv4 => ⟨by omega, m_putK (fun I5 q5 g5 f5 => ⟨by decide, ?_⟩)⟩) (fun I4 k i' e4 fz hn => ⟨by omega, m_putK (fun I5 q5 g5 f5 => ⟨by decide, dead 2 1 I4 I5 I3 (i + 1) _ k _ (by decide) (by decide) b3 (up_ne (by decide)) fz hn f5 (fun I' hn' => k0 I' k i' (by rw [e4]; rfl) hn')⟩)⟩)⟩
  rw [e4, gK_r] at k1 k0
  have b5 := bR_up (a := 3) hh (bR_step hh b3 f4 x4 lv4) (by decide) (by decide) (Or.inl (by decide)) q5 g5 f5
  -- second
  show p6_readOne_b68_body kd s R Q (p6_readOne_b68 kd s R Q 2) 1 I5
  unfold p6_readOne_b68_body
  rw [hR]
  refine zf (by decide) ⟨hh, by omega, by omega, by decide, s_trai (w := 12) hh hT b5.1 (fun I6 j6 v6 e6 f6 x6 lv6 => ⟨by omega, m_putK (fun I7 q7 g7 f7 => ⟨by decide, ?_⟩)⟩) (fun I6 k i' e6 fz hn => ⟨by omega, m_putK (fun I7 q7 g7 f7 => ⟨by decide, dead 1 2 I6 I7 I5 j4 _ k _ (by decide) (by decide) b5 (by rw [up_ne (by decide), up_ne (by decide)]) fz hn f7 (fun I' hn' => k0 I' k i' (by rw [e6]; rfl) hn')⟩)⟩)⟩
  rw [e6, gK_r] at k1 k0
  have b7 := bR_up (a := 3) hh (bR_step hh b5 f6 x6 lv6) (by decide) (by decide) (Or.inl (by decide)) q7 g7 f7
  -- third
  show p6_readOne_b68_body kd s R Q (p6_readOne_b68 kd s R Q 1) 2 I7
  unfold p6_readOne_b68_body
  rw [hR]
  refine zf (by decide) ⟨hh, by omega, by omega, by decide, s_trai (w := 13) hh hT b7.1 (fun I8 j8 v8 e8 f8 x8 lv8 => ⟨by omega, m_putK (fun I9 q9 g9 f9 => ⟨by decide, ?_⟩)⟩) (fun I8 k i' e8 fz hn => ⟨by omega, m_putK (fun I9 q9 g9 f9 => ⟨by decide, dead 0 3 I8 I9 I7 j6 _ k _ (by decide) (by decide) b7 (by rw [up_ne (by decide), up_ne (by decide), up_ne (by decide)]) fz hn f9 (fun I' hn' => k0 I' k i' (by rw [e8]; rfl) hn')⟩)⟩)⟩
  rw [e8, gK_r] at k1 k0
  have b9 := bR_up (a := 3) hh (bR_step hh b7 f8 x8 lv8) (by decide) (by decide) (Or.inl (by decide)) q9 g9 f9
  have e9 : up (up (up (up V 2 s (T i)) 3 (s * 4 + 0) v4) 3 (s * 4 + 1) v6) 3 (s * 4 + 2) v8 1 = V 1 := by rw [up_ne (by decide), up_ne (by decide), up_ne (by decide), up_ne (by decide)]
  show p6_readOne_b68_body kd s R Q (p6_readOne_b68 kd s R Q 0) 3 I9
  unfold p6_readOne_b68_body
  rw [hR]
  refine zt (by decide) (zs (fun c1 => ?_) (fun c1 => ?_))
  · rw [if_pos c1] at k1 k0
    refine ⟨hh, by omega, by omega, s_trai (w := 14) hh hT b9.1 (fun I10 j10 v10 e10 f10 x10 lv10 => ⟨by omega, m_putK (fun I11 q11 g11 f11 => ?_)⟩) (fun I10 k i' e10 fz hn => ⟨by omega, m_putK (fun I11 q11 g11 f11 => ?_)⟩)⟩
    · rw [e10, gK_r] at k1
      have b11 := bR_up (a := 3) hh (bR_step hh b9 f10 x10 lv10) (by decide) (by decide) (Or.inl (by decide)) q11 g11 f11
      exact last I11 j10 _ b11 (by rw [up_ne (by decide)]; exact e9) (fun I' b' => k1 I' j10 _ rfl b')
    · have hh' := hh
      unfold isLd at hh'
      have n11 := sNo_w (a := 3) hh (sNo_t b9.2.2.2.2 hn) (by decide) f11
      have c11 : 0 ≤ I11 (h + 1) kd ∧ I11 (h + 1) kd ≤ 6 := by
        rw [f11 (h + 1) (by omega), fz (h + 1) (by omega) (by omega)]; exact cn b9 e9
      unfold p6_readOne_b128
      rw [hR]
      exact ⟨hh, by omega, by omega, by omega, m_putK (fun I12 q12 g12 f12 => k0 I12 k i' (by rw [e10]; rfl) (sNo_w (a := 1) hh n11 (by decide) f12))⟩
  · rw [if_neg c1] at k1
    exact last I9 j8 _ b9 e9 (fun I' b' => k1 I' j8 _ rfl b')
end
