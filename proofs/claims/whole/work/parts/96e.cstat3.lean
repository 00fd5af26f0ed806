/-! THE READERS: the class reads a statement, the whole of it -/
def cB (K T P : Nat → Int) (m h : Nat) (I0 I : mI) (i : Nat) (V : mI) (F : mF) : Prop := (∃ fm, LV K T P m fm h I i 0) ∧ RW h I V ∧ (∀ w, 0 ≤ w → w < 3 → F w ≠ [] → segC I (h + 6) (V 7 w) (F w)) ∧ I 141 5 = I0 141 5 ∧ I 141 7 = I0 141 7 ∧ xsf h I0 I
section
variable {K T P : Nat → Int} {m : Nat} {h : Nat} {I0 I : mI} {R : mR} {i : Nat} {fm : Int} {V : mI} {F : mF}
theorem cB_of {V' : mI} {I' : mI} {j : Nat} (hb : bR K T P m fm h I I' j V') (h7 : V' 7 = V 7) (hs : ∀ w, 0 ≤ w → w < 3 → F w ≠ [] → segC I (h + 6) (V 7 w) (F w)) : cB K T P m h I I' j V' F :=
  ⟨⟨fm, hb.1⟩, hb.2.1, fun w a c e => by rw [h7]; exact segC_fr hb.2.2.1 (hs w a c e), by rw [hb.2.2.2.1], by rw [hb.2.2.2.1], hb.2.2.2.2⟩
theorem bR_r (hl : LV K T P m fm h I i 0) (hr : RW h I V) : bR K T P m fm h I I i V := ⟨hl, hr, rfl, rfl, xsf_r h I⟩
theorem c_late {Q : mI → Prop} (hh : isLd h) (hR : R 141 2 = h) (hT : tkM K T m) (hw : WF V F) (hb : bR K T P m fm h I0 I i V)
    (k1 : ∀ (I' : mI) (j : Nat) (V' : mI), gK (gFd K T V 0 i) (fun k => if has1 (V 0 9) k = 1 then Sum.inl (3, i) else Sum.inr (i + 1, up V 0 9 (bOr (V 0 9) (bShl 1 k)), F)) = Sum.inr (j, V', F) → bR K T P m fm h I0 I' j V' → V' 7 = V 7 → Q I') (k0 : ∀ (I' : mI) (k : Int) (i' : Nat), (gK (gFd K T V 0 i) (fun k => if has1 (V 0 9) k = 1 then Sum.inl (3, i) else Sum.inr (i + 1, up V 0 9 (bOr (V 0 9) (bShl 1 k)), F)) : Rt) = Sum.inl (k, i') → sNo h I0 I' k (P i') → Q I') : p6_readLate I R Q := by
  have hr := hb.2.1
  unfold p6_readLate
  refine c_find1 hh hR hb.1 hr (by decide) hw.1.1 (fun k e ne => zf ne ?_) (fun I' k i' e hn => zt rfl (k0 I' k i' (by rw [e]; rfl) (sNo_t hb.2.2.2.2 hn)))
  rw [e, gK_r] at k1 k0
  have g := gFd_ok e
  have im := tkM_lt hT hb.1.2.2.1 (by rw [g.1]; decide)
  have e0 : I h 9 = V 0 9 := congrFun (hr 0 (by decide) (by decide)) 9
  rw [hR]
  refine ⟨hh, ?_⟩
  unfold p3_isLate
  rw [e0]
  refine zs (fun c => ?_) (fun c => ⟨hh, m_putK (fun I2 q2 g2 f2 => ?_)⟩)
  · have c' : has1 (V 0 9) k = 1 := c
    rw [if_pos c'] at k0
    exact s_fail' hb.1 ⟨by decide, fun q => by omega⟩ (fun I' _ hn => k0 I' 3 i rfl (sNo_t hb.2.2.2.2 hn))
  · have c' : ¬ has1 (V 0 9) k = 1 := c
    rw [if_neg c'] at k1
    have b2 := bR_up (a := 0) hh hb (by decide) (by decide) (Or.inr (by decide)) q2 g2 f2
    exact s_step hh b2.1 im (fun I3 f3 x3 lv3 => k1 I3 (i + 1) _ rfl (bR_step hh b2 f3 x3 lv3) (up_ne (by decide)))
theorem c_near {Q : mI → Prop} (hh : isLd h) (hR : R 141 2 = h) (hT : tkM K T m) (hw : WF V F) (hb : bR K T P m fm h I0 I i V)
    (k1 : ∀ (I' : mI) (j : Nat) (V' : mI), gK (gFd K T V 2 i) (fun a => gK (gFd K T V 2 (i + 1)) (fun c => if a = c ∨ has1 (V 4 a) c = 1 then Sum.inl (3, i + 1) else Sum.inr (i + 2, up (up V 4 a (bOr (V 4 a) (bShl 1 c))) 4 c (bOr (V 4 c) (bShl 1 a)), F))) = Sum.inr (j, V', F) → bR K T P m fm h I0 I' j V' → V' 7 = V 7 → Q I') (k0 : ∀ (I' : mI) (k : Int) (i' : Nat), (gK (gFd K T V 2 i) (fun a => gK (gFd K T V 2 (i + 1)) (fun c => if a = c ∨ has1 (V 4 a) c = 1 then Sum.inl (3, i + 1) else Sum.inr (i + 2, up (up V 4 a (bOr (V 4 a) (bShl 1 c))) 4 c (bOr (V 4 c) (bShl 1 a)), F))) : Rt) = Sum.inl (k, i') → sNo h I0 I' k (P i') → Q I') : p6_readNear I R Q := by
  have w12 := hw.1.2.2
  unfold p6_readNear
  refine c_find1 hh hR hb.1 hb.2.1 (by decide) hw.1.2.2 (fun k e ne => zf ne ?_) (fun I' k i' e hn => zt rfl (k0 I' k i' (by rw [e]; rfl) (sNo_t hb.2.2.2.2 hn)))
  rw [e, gK_r] at k1 k0
  have g := gFd_ok e
  have im := tkM_lt hT hb.1.2.2.1 (by rw [g.1]; decide)
  refine s_step hh hb.1 im (fun I2 f2 x2 lv2 => ?_)
  have b2 := bR_step hh hb f2 x2 lv2
  refine c_find1 hh hR b2.1 b2.2.1 (by decide) hw.1.2.2 (fun k2 e2 ne2 => zf ne2 ?_) (fun I' k i' e hn => zt rfl (k0 I' k i' (by rw [e]; rfl) (sNo_t b2.2.2.2.2 hn)))
  rw [e2, gK_r] at k1 k0
  have g2 := gFd_ok e2
  have im2 := tkM_lt hT im (by rw [g2.1]; decide)
  have e4 : ∀ x, I2 (h + 4) x = V 4 x := fun x => congrFun (b2.2.1 4 (by decide) (by decide)) x
  have fl : k = k2 ∨ has1 (V 4 k) k2 = 1 → p6_fail 3 I2 (fun I' => Q I') := fun c => by
    rw [if_pos c] at k0
    exact s_fail' b2.1 ⟨by decide, fun q => by omega⟩ (fun I' _ hn => k0 I' 3 (i + 1) rfl (sNo_t b2.2.2.2.2 hn))
  refine zs (fun c => fl (Or.inl c)) (fun c => ?_)
  rw [hR, e4]
  refine ⟨hh, by omega, zs (fun d => fl (Or.inr d)) (fun d => ?_)⟩
  have nc : ¬ (k = k2 ∨ has1 (V 4 k) k2 = 1) := fun q => q.elim c d
  rw [if_neg nc] at k1
  refine ⟨hh, by omega, by omega, m_putK (fun I3 q3 g3 f3 => ?_)⟩
  have b3 := bR_up (a := 4) hh b2 (by decide) (by decide) (Or.inl (by decide)) q3 g3 f3
  rw [g3 k2 (fun q => c q.symm), e4]
  refine ⟨hh, by omega, by omega, m_putK (fun I4 q4 g4 f4 => ?_)⟩
  have b4 := bR_up (a := 4) hh b3 (by decide) (by decide) (Or.inl (by decide)) q4 g4 f4
  exact s_step hh b4.1 im2 (fun I5 f5 x5 lv5 => k1 I5 (i + 2) _ rfl (bR_step hh b4 f5 x5 lv5) (by rw [up_ne (by decide), up_ne (by decide)]))
theorem c_wear {Q : mI → Prop} (hh : isLd h) (hR : R 141 2 = h) (hT : tkM K T m) (hw : WF V F) (hb : bR K T P m fm h I0 I i V)
    (k1 : ∀ (I' : mI) (j : Nat) (V' : mI), gK (gFd K T V 2 i) (fun a => gK (gFd K T V 1 (i + 1)) (fun c => Sum.inr (i + 2, up V 5 a c, F))) = Sum.inr (j, V', F) → bR K T P m fm h I0 I' j V' → V' 7 = V 7 → Q I') (k0 : ∀ (I' : mI) (k : Int) (i' : Nat), (gK (gFd K T V 2 i) (fun a => gK (gFd K T V 1 (i + 1)) (fun c => Sum.inr (i + 2, up V 5 a c, F))) : Rt) = Sum.inl (k, i') → sNo h I0 I' k (P i') → Q I') : p6_readWears I R Q := by
  have w12 := hw.1.2.2
  unfold p6_readWears
  refine c_find1 hh hR hb.1 hb.2.1 (by decide) hw.1.2.2 (fun k e ne => zf ne ?_) (fun I' k i' e hn => zt rfl (k0 I' k i' (by rw [e]; rfl) (sNo_t hb.2.2.2.2 hn)))
  rw [e, gK_r] at k1 k0
  have g := gFd_ok e
  have im := tkM_lt hT hb.1.2.2.1 (by rw [g.1]; decide)
  refine s_step hh hb.1 im (fun I2 f2 x2 lv2 => ?_)
  have b2 := bR_step hh hb f2 x2 lv2
  refine c_find1 hh hR b2.1 b2.2.1 (by decide) hw.1.2.1 (fun k2 e2 ne2 => zf ne2 ?_) (fun I' k i' e hn => zt rfl (k0 I' k i' (by rw [e]; rfl) (sNo_t b2.2.2.2.2 hn)))
  rw [e2, gK_r] at k1
  have g2 := gFd_ok e2
  have im2 := tkM_lt hT im (by rw [g2.1]; decide)
  rw [hR]
  refine ⟨hh, by omega, m_putK (fun I3 q3 g3 f3 => ?_)⟩
  have b3 := bR_up (a := 5) hh b2 (by decide) (by decide) (Or.inl (by decide)) q3 g3 f3
  exact s_step hh b3.1 im2 (fun I5 f5 x5 lv5 => k1 I5 (i + 2) _ rfl (bR_step hh b3 f5 x5 lv5) (up_ne (by decide)))
theorem c_pur {k most : Int} {Q : mI → Prop} (hh : isLd h) (hT : tkM K T m) (hk : k ≠ 8) (hb : bR K T P m fm h I0 I i V)
    (k1 : ∀ (I' : mI) (j : Nat) (V' : mI), gK (gNum K T most i) (fun a => Sum.inr (a.1, up V 0 k a.2, F)) = Sum.inr (j, V', F) → bR K T P m fm h I0 I' j V' → V' 7 = V 7 → Q I') (k0 : ∀ (I' : mI) (k' : Int) (i' : Nat), (gK (gNum K T most i) (fun a => Sum.inr (a.1, up V 0 k a.2, F)) : Rt) = Sum.inl (k', i') → sNo h I0 I' k' (P i') → Q I') : p6_takeUpTo most I (fun r I1 => wLet (up I1 h k r) (fun I2 => Q I2)) := by
  refine s_take hh hT hb.1 (fun I1 j v e f1 x1 lv1 => m_putK (fun I2 q2 g2 f2 => ?_)) (fun I1 k' i' e fz hn => m_putK (fun I2 q2 g2 f2 => ?_))
  · exact k1 I2 j _ (by rw [e]; rfl) (bR_up (a := 0) hh (bR_step hh hb f1 x1 lv1) (by decide) (by decide) (Or.inr hk) q2 g2 f2) (up_ne (by decide))
  · exact k0 I2 k' i' (by rw [e]; rfl) (sNo_w (a := 0) hh (sNo_t hb.2.2.2.2 hn) (by decide) f2)
theorem c_form {w : Int} {Q : mI → Prop} (hh : isLd h) (hR : R 141 2 = h) (hT : tkM K T m) (hw : WF V F) (h3 : w = 0 ∨ w = 1 ∨ w = 2) (hl : LV K T P m fm h I i 0) (hr : RW h I V) (hs : ∀ w, 0 ≤ w → w < 3 → F w ≠ [] → segC I (h + 6) (V 7 w) (F w))
    (k1 : ∀ (I' : mI) (j : Nat) (V' : mI) (F' : mF), gFo K T V F w i = Sum.inr (j, V', F') → cB K T P m h I I' j V' F' → Q I') (k0 : ∀ (I' : mI) (k : Int) (i' : Nat), gFo K T V F w i = Sum.inl (k, i') → sNo h I I' k (P i') → Q I') : p6_readFormula w I R Q := by
  have hh' := hh
  unfold isLd at hh'
  have w8 := hw.2.2.2.2.2.2.2
  have e08 : I h 8 = V 0 8 := congrFun (hr 0 (by decide) (by decide)) 8
  unfold p6_readFormula
  refine m_putK (fun I1 q1 g1 f1 => ?_)
  have e1 : I1 h 8 = V 0 8 := by rw [f1 h (by omega)]; exact e08
  rw [hR, e1]
  refine ⟨hh, hh, by omega, m_putK (fun I2 q2 g2 f2 => ?_)⟩
  have ez : ∀ z, z ≠ 141 → z ≠ h + 7 → I2 z = I z := fun z a c => (f2 z c).trans (f1 z a)
  have r2 : RW h I2 (up V 7 w (V 0 8)) := RW_up (RW_f hr (fun a _ _ => f1 _ (by omega))) q2 g2 f2 (by decide) (by decide)
  have e141 : I2 141 = I1 141 := f2 141 (by omega)
  have lv2 : LV K T P m w h I2 i 0 := by
    obtain ⟨l1, l2, l3, l4, l5, l6, l7, l8, l9⟩ := hl
    refine ⟨⟨by rw [ez 142 (by decide) (by omega)]; exact l1.1, l1.2.1, fun j hj => by rw [ez 143 (by decide) (by omega), ez 144 (by decide) (by omega), ez 145 (by decide) (by omega)]; exact l1.2.2 j hj⟩, by rw [ez 142 (by decide) (by omega)]; exact l2, l3, by rw [e141, g1 3 (by decide)]; exact l4, l5, by rw [e141, g1 6 (by decide)]; exact l6, by rw [e141]; exact q1, by rw [ez h (by omega) (by omega)]; exact l8, by rw [ez h (by omega) (by omega)]; exact l9⟩
  have x2 : xsf h I I2 := ⟨fun z a _ n => ez z a (by omega), fun j _ => by rw [ez 142 (by decide) (by omega)]⟩
  have e28 : I2 h 8 = V 0 8 := by rw [ez h (by omega) (by omega)]; exact e08
  have fin : ∀ w0 : Nat, w0 = (if w = 1 then 0 else 4) → pGrd 90 w0 0 I2 R (fun I4 => p6_readFormula_b37 w I4 R Q) := fun w0 hw0 => by
    have w04 : w0 = 0 ∨ w0 = 4 := by
      by_cases q : w = 1
      · rw [if_pos q] at hw0; exact Or.inl hw0
      · rw [if_neg q] at hw0; exact Or.inr hw0
    unfold gFo at k1 k0
    rw [← hw0] at k1 k0
    refine cRd hh hR hT h3 90 w0 0 0 i I2 _ (by omega) (by unfold gB; omega) lv2 (fun q => by omega) ⟨fun I4 j cs e hk => ?_, fun I4 k i' e hn => ?_⟩
    · rw [e] at k1
      obtain ⟨c1, c2, c3, c4, c5, c6, c7, c8⟩ := hk
      have e48 : I4 h 8 = V 0 8 + (cs.length : Int) := by rw [c6, e28]
      have g := fo_ok hT hl.2.2.1 h3 (by rw [← hw0]; exact e)
      unfold p6_readFormula_b37
      rw [hR, e48]
      refine ⟨hh, hh, by omega, m_putK (fun I5 q5 g5 f5 => ?_)⟩
      have z5 : ∀ z, z ≠ 141 → z ≠ 142 → z ≠ h → z ≠ h + 6 → z ≠ h + 7 → z ≠ h + 8 → I5 z = I z := fun z a1 a2 a3 a4 a5 a6 => by rw [f5 z a6, c1.1 z a1 a2 a3 a4, ez z a1 a5]
      have r4 : RW h I4 (up (up V 7 w (V 0 8)) 0 8 (V 0 8 + (cs.length : Int))) := fun a ha a6 => by
        by_cases q : a = 0
        · subst q
          funext j
          by_cases qj : j = 8
          · rw [qj, up_s]; exact e48
          · rw [up_k _ _ _ qj, ← r2 0 (by decide) (by decide)]
            exact c1.2.2.2 j qj
        · rw [c1.1 _ (by omega) (by omega) (by omega) (by omega), up_ne q]; exact r2 a ha a6
      have r5 := RW_up r4 q5 g5 f5 (by decide) (by decide)
      have ht5 : TK K T P m I5 := by
        refine ⟨by rw [f5 142 (by omega), c1.2.1 3 (by decide)]; exact lv2.1.1, lv2.1.2.1, fun j hj => ?_⟩
        rw [z5 143 (by decide) (by decide) (by omega) (by omega) (by omega) (by omega), z5 144 (by decide) (by decide) (by omega) (by omega) (by omega) (by omega), z5 145 (by decide) (by decide) (by omega) (by omega) (by omega) (by omega)]
        exact hl.1.2.2 j hj
      refine k1 I5 j _ _ rfl ⟨⟨w, ⟨ht5, by rw [f5 142 (by omega)]; exact c2, g.1.2.1, by rw [f5 141 (by omega)]; exact c3, by decide, by rw [f5 141 (by omega), c4]; exact lv2.2.2.2.2.2.1, by rw [f5 141 (by omega), c1.2.2.1 4 (by decide) (by decide) (by decide)]; exact lv2.2.2.2.2.2.2.1, by rw [f5 h (by omega), e48]; omega, by rw [f5 h (by omega), e48]; have := hl.2.2.2.2.2.2.2.2; omega⟩⟩, r5, fun w' a c e' => ?_, ?_, ?_, ?_⟩
      · have e7 : up (up (up V 7 w (V 0 8)) 0 8 (V 0 8 + (cs.length : Int))) 8 w (V 0 8 + (cs.length : Int)) 7 w' = up V 7 w (V 0 8) 7 w' := by rw [up_o _ _ _ _ (by decide), up_o _ _ _ _ (by decide)]
        rw [e7]
        have f56 := f5 (h + 6) (by omega)
        by_cases q : w' = w
        · have ef : (fun x => if x = w then cs else F x) w' = cs := if_pos q
          rw [ef, q, up_s]
          rw [e28] at c8
          exact segC_fr f56 c8
        · have ef : (fun x => if x = w then cs else F x) w' = F w' := if_neg q
          rw [ef] at e' ⊢
          rw [up_k _ _ _ q]
          have y := (w8.2 w' a c).2.1 e'
          refine segC_fr f56 (segC_lo (fun z _ hz => ?_) (hs w' a c e'))
          rw [c7 z (by omega), ez (h + 6) (by omega) (by omega)]
      · rw [f5 141 (by omega), c1.2.2.1 5 (by decide) (by decide) (by decide), e141, g1 5 (by decide)]
      · rw [f5 141 (by omega), c5, e141, g1 7 (by decide)]
      · refine ⟨fun z a1 a2 n => z5 z a1 a2 (by omega) (by omega) (by omega) (by omega), fun j hj => ?_⟩
        rw [f5 142 (by omega), c1.2.1 j hj, ez 142 (by decide) (by omega)]
    · rw [e] at k0
      obtain ⟨c1, c2, c3, c4, c5, c6⟩ := hn
      have x4 : xsf h I2 I4 := ⟨fun z a1 a2 n => c1.1 z a1 a2 (by omega) (by omega), c1.2.1⟩
      have n4 : sNo h I I4 k (P i') := ⟨xsf_t x2 x4, c2, c3, c4⟩
      unfold p6_readFormula_b37
      rw [hR]
      exact ⟨hh, hh, by omega, m_putK (fun I5 q5 g5 f5 => k0 I5 k i' rfl (sNo_w (a := 8) hh n4 (by decide) f5))⟩
  refine zs (fun q => fin 0 (by rw [if_pos q])) (fun q => fin 4 (by rw [if_neg q]))
end
