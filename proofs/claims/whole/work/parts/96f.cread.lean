/-! THE READERS: the class reads a land -/
section
variable {K T P : Nat → Int} {m : Nat} {h : Nat} {I0 I : mI} {R : mR} {i : Nat} {fm : Int} {V : mI} {F : mF}
theorem d_endS {k pl : Int} {Q : mI → Prop} (n : sNo h I0 I k pl) (kk : Q I) : p6_expect 59 I Q := d_expt n.2.1 (sNo_nz n) kk
theorem c_endS {Q : mI → Prop} (hh : isLd h) (hT : tkM K T m) (hb : cB K T P m h I0 I i V F)
    (k1 : ∀ I', gEnd K T (i, V, F) = Sum.inr (i + 1, V, F) → cB K T P m h I0 I' (i + 1) V F → Q I') (k0 : ∀ I', gEnd K T (i, V, F) = Sum.inl (1, i) → sNo h I0 I' 1 (P i) → Q I') : p6_expect 59 I Q := by
  obtain ⟨⟨fm, lv⟩, b2, b3, b4, b5, b6⟩ := hb
  have hh' := hh
  unfold isLd at hh'
  unfold p6_expect
  unfold gEnd at k1 k0
  refine c_isSg lv (fun a => zf (by decide) ?_) (fun a => zt rfl ?_)
  · rw [if_pos a] at k1
    exact s_step hh lv (tkM_lt hT lv.2.2.1 (by rw [a.1]; decide)) (fun I' f x lv' => k1 I' rfl ⟨⟨fm, lv'⟩, RW_f b2 (fun a _ _ => f _ (by omega)), fun w a c e => segC_fr (f _ (by omega)) (b3 w a c e), by rw [f 141 (by decide)]; exact b4, by rw [f 141 (by decide)]; exact b5, xsf_t b6 x⟩)
  · rw [if_neg a] at k0
    exact s_fail' lv ⟨by decide, fun q => by omega⟩ (fun I' _ hn => k0 I' rfl (sNo_t b6 hn))
/-- one statement -/
theorem c_stmt {Q : mI → Prop} (hh : isLd h) (hR : R 141 2 = h) (hT : tkM K T m) (hT1 : K i = 1 → 0 ≤ T i) (hw : WF V F) (hc : 0 ≤ I 141 5 ∧ I 141 5 < 60) (hl : LV K T P m fm h I i 0) (hr : RW h I V) (hs : ∀ w, 0 ≤ w → w < 3 → F w ≠ [] → segC I (h + 6) (V 7 w) (F w))
    (k1 : ∀ (I' : mI) (j : Nat) (V' : mI) (F' : mF), gSt K T V F i = Sum.inr (j, V', F') → (∃ fm, LV K T P m fm h I' j 0) → RW h I' V' → (∀ w, 0 ≤ w → w < 3 → F' w ≠ [] → segC I' (h + 6) (V' 7 w) (F' w)) → I' 141 5 = I 141 5 + 1 → I' 141 7 = I 141 7 → xsf h I I' → Q I') (k0 : ∀ (I' : mI) (k : Int) (i' : Nat), gSt K T V F i = Sum.inl (k, i') → sNo h I I' k (P i') → Q I') : p6_readStatement I R Q := by
  have hh' := hh
  unfold isLd at hh'
  unfold p6_readStatement
  unfold gSt at k1 k0
  refine c_ownH hl (zf (by omega) ?_)
  have bad : ¬ (K i = 1 ∧ T i ≤ 10) → p6_fail 1 I (fun I1 => Q I1) := fun a => by
    rw [if_neg a] at k0
    exact s_fail' hl ⟨by decide, fun q => by omega⟩ (fun I' _ hn => k0 I' 1 i rfl hn)
  by_cases kk : K i = 1
  rotate_left
  · rw [if_neg kk]
    exact zt (by decide) (bad (fun q => kk q.1))
  rw [if_pos kk]
  have t0 := hT1 kk
  refine zf (by omega) (zs (fun t10 => ?_) (fun t10 => bad (fun q => t10 q.2)))
  rw [if_pos ⟨kk, t10⟩] at k1 k0
  have im : i < m := tkM_lt hT hl.2.2.1 (by rw [kk]; decide)
  have w8 := hw.2.2.2.2.2.2.2
  -- full or not
  have ful : ∀ Qf : Int → Prop, (gFull V F (T i) → Qf 1) → (¬ gFull V F (T i) → Qf 0) → p6_isFull (T i) I R Qf := fun Qf q1 q0 => by
    unfold p6_isFull
    rw [hR]
    refine zs (fun a => zs (fun c => q0 (fun z => by rcases z with z | z <;> omega)) (fun c => ⟨hh, by omega, ?_⟩)) (fun a => ⟨hh, by omega, ?_⟩)
    · unfold p3_hasCode
      rw [hr 8 (by decide) (by decide), hr 7 (by decide) (by decide)]
      have x := w8.2 (T i - 8) (by omega) (by omega)
      refine zf (by omega) (zf (by omega) ⟨by omega, by omega, zs (fun d => zt rfl (q0 (fun z => ?_))) (fun d => zf (by decide) (q1 (Or.inr ⟨by omega, fun z => ?_⟩)))⟩)
      · rcases z with z | z
        · omega
        · have y := x.2.1 z.2
          have ln : (F (T i - 8)).length ≠ 0 := fun q => z.2 (List.length_eq_zero_iff.mp q)
          omega
      · have y := x.1 z; omega
    · rw [hr 1 (by decide) (by decide)]
      exact zs (fun d => q0 (fun z => by rcases z with z | z <;> omega)) (fun d => q1 (Or.inl ⟨by omega, by omega⟩))
  refine ful _ (fun fl => zf (by decide) ?_) (fun fl => zt rfl ?_)
  · rw [if_pos fl] at k0
    exact s_fail' hl ⟨by decide, fun _ => by omega⟩ (fun I' _ hn => k0 I' 6 i rfl hn)
  rw [if_neg fl] at k1 k0
  refine ⟨by omega, m_putK (fun I2 q2 g2 f2 => ?_)⟩
  have lv2 : LV K T P m fm h I2 i 0 := LV_m hl (f2 142 (by decide)) (f2 143 (by decide)) (f2 144 (by decide)) (f2 145 (by decide)) (g2 3 (by decide)) (g2 6 (by decide)) (g2 4 (by decide)) (by rw [f2 h (by omega)])
  refine s_step hh lv2 im (fun I3 f3 x3 lv3 => ?_)
  have r3 : RW h I3 V := RW_f hr (fun a _ _ => by rw [f3 _ (by omega), f2 _ (by omega)])
  have s3 : ∀ w, 0 ≤ w → w < 3 → F w ≠ [] → segC I3 (h + 6) (V 7 w) (F w) := fun w a c e => segC_fr (by rw [f3 _ (by omega), f2 _ (by omega)]) (hs w a c e)
  have b3 := bR_r lv3 r3
  have x03 : xsf h I I3 := xsf_t (xsf_z (fun z a _ _ => f2 z a) (f2 142 (by decide))) x3
  have e5 : I3 141 5 = I 141 5 + 1 := by rw [f3 141 (by decide)]; exact q2
  have e7 : I3 141 7 = I 141 7 := by rw [f3 141 (by decide)]; exact g2 7 (by decide)
  have fin : ∀ (I4 : mI) (j : Nat) (V' : mI) (F' : mF), gBody K T V F (T i) (i + 1) = Sum.inr (j, V', F') → cB K T P m h I3 I4 j V' F' → p6_expect 59 I4 (fun I5 => Q I5) := fun I4 j V' F' e hb => by
    rw [e, gK_r] at k1 k0
    refine c_endS hh hT hb (fun I' e' hb' => ?_) (fun I' e' hn => k0 I' 1 j e' (sNo_t x03 hn))
    exact k1 I' (j + 1) V' F' e' hb'.1 hb'.2.1 hb'.2.2.1 (hb'.2.2.2.1.trans e5) (hb'.2.2.2.2.1.trans e7) (xsf_t x03 hb'.2.2.2.2.2)
  have fno : ∀ (I4 : mI) (k : Int) (i' : Nat), gBody K T V F (T i) (i + 1) = Sum.inl (k, i') → sNo h I3 I4 k (P i') → p6_expect 59 I4 (fun I5 => Q I5) := fun I4 k i' e hn => by
    rw [e, gK_l] at k0
    exact d_endS hn (k0 I4 k i' rfl (sNo_t x03 hn))
  unfold gBody at fin fno
  have one : T i ≤ 2 → p6_readOne (T i) I3 R (fun I4 => p6_expect 59 I4 (fun I5 => Q I5)) := fun t2 => by
    rw [if_pos t2] at fin fno
    have f6 : V 1 (T i) < 6 := by
      rcases Int.lt_or_le (V 1 (T i)) 6 with r | r
      · exact r
      · exact absurd (Or.inl ⟨t2, r⟩) fl
    refine c_one hh hR hT ⟨t0, t2⟩ hw f6 b3 (fun I4 j V' e b => fin I4 j V' F e (cB_of b ?_ s3)) fno
    obtain ⟨_, _, _, _, _, _, _, _, _, _, o, _⟩ := gOne_ok hT im e
    exact o.1 7 (by decide) (by decide) (by decide)
  refine zs (fun c => one (by omega)) (fun n0 => zs (fun c => one (by omega)) (fun n1 => zs (fun c => one (by omega)) (fun n2 => ?_)))
  rw [if_neg (by omega)] at fin fno
  refine zs (fun c => ?_) (fun n3 => ?_)
  · rw [if_pos c] at fin fno
    exact c_late hh hR hT hw b3 (fun I4 j V' e b h7 => fin I4 j V' F e (cB_of b h7 s3)) fno
  rw [if_neg n3] at fin fno
  refine zs (fun c => ?_) (fun n4 => ?_)
  · rw [if_pos c] at fin fno
    exact c_near hh hR hT hw b3 (fun I4 j V' e b h7 => fin I4 j V' F e (cB_of b h7 s3)) fno
  rw [if_neg n4] at fin fno
  refine zs (fun c => ?_) (fun n5 => ?_)
  · rw [if_pos c] at fin fno
    exact c_wear hh hR hT hw b3 (fun I4 j V' e b h7 => fin I4 j V' F e (cB_of b h7 s3)) fno
  rw [if_neg n5] at fin fno
  refine zs (fun c => ?_) (fun n6 => ?_)
  · rw [if_pos c] at fin fno
    rw [hR]
    exact ⟨hh, c_pur hh hT (by decide) b3 (fun I4 j V' e b h7 => fin I4 j V' F e (cB_of b h7 s3)) fno⟩
  rw [if_neg n6] at fin fno
  refine zs (fun c => ?_) (fun n7 => ?_)
  · rw [if_pos c] at fin fno
    rw [hR]
    exact ⟨hh, c_pur hh hT (by decide) b3 (fun I4 j V' e b h7 => fin I4 j V' F e (cB_of b h7 s3)) fno⟩
  rw [if_neg n7] at fin fno
  exact ⟨by omega, c_form hh hR hT hw (by omega) lv3 r3 s3 fin fno⟩
end
/-! all of them -/
def gRd (K T P : Nat → Int) : Nat → Nat → mI → mF → Nat → Sum (Int × Int) (Nat × mI × mF)
  | 0, _, _, _, _ => Sum.inl (1, 0)
  | f + 1, c, V, F, i => if K i = 0 then Sum.inr (c, V, F) else if c = 60 then Sum.inl (6, if K i = 5 then T i else P i) else match gSt K T V F i with
    | Sum.inl e => Sum.inl (e.1, P e.2)
    | Sum.inr x => gRd K T P f (c + 1) x.2.1 x.2.2 x.1
section
variable {K T P : Nat → Int} {m : Nat} {h : Nat} {R : mR}
theorem c_readGo {Q : Int → mI → mR → Prop} {I0 : mI} (hh : isLd h) (hR : R 141 2 = h) (hT : tkM K T m) (hT1 : ∀ j, j ≤ m → K j = 1 → 0 ≤ T j) :
    ∀ (f c : Nat) (V : mI) (F : mF) (i : Nat) (I : mI), f + c = 62 → c ≤ 60 → WF V F → (∃ fm, LV K T P m fm h I i 0) → RW h I V → (∀ w, 0 ≤ w → w < 3 → F w ≠ [] → segC I (h + 6) (V 7 w) (F w)) → V 0 8 ≤ (i : Int) → I 141 5 = (c : Int) → I 141 7 = -1 → xsf h I0 I →
      (∀ (I' : mI) (c' : Nat) (V' : mI) (F' : mF), gRd K T P f c V F i = Sum.inr (c', V', F') → WF V' F' → RW h I' V' → (∀ w, 0 ≤ w → w < 3 → F' w ≠ [] → segC I' (h + 6) (V' 7 w) (F' w)) → I' 141 6 = 0 → I' 141 7 = -1 → xsf h I0 I' → Q c' I' R) →
      (∀ (I' : mI) (r k pl : Int), gRd K T P f c V F i = Sum.inl (k, pl) → sNo h I0 I' k pl → Q r I' R) → p6_read_b45 R Q f c I
  | 0, c, V, F, i, I, hfc, hc, _, _, _, _, _, _, _, _, _, _ => by omega
  | f + 1, c, V, F, i, I, hfc, hc, hw, ⟨fm, hl⟩, hr, hs, h8, h5, h7, hx, k1, k0 => by
    show p6_read_b45_body R Q (p6_read_b45 R Q f) c I
    unfold p6_read_b45_body
    have dead : ∀ (I' : mI) (k pl : Int), gRd K T P (f + 1) c V F i = Sum.inl (k, pl) → sNo h I0 I' k pl → p6_read_b45 R Q f ((c : Int) + 1) I' := fun I' k pl e n => by
      obtain ⟨f', rfl⟩ : ∃ f', f = f' + 1 := ⟨f - 1, by omega⟩
      show p6_read_b45_body R Q (p6_read_b45 R Q f') ((c : Int) + 1) I'
      unfold p6_read_b45_body
      exact zs (fun _ => k0 I' _ k pl e n) (fun _ => zf (sNo_nz n) (k0 I' _ k pl e n))
    refine zf (by omega) (zt hl.2.2.2.2.2.1 (c_sort hl (zs (fun e0 => ?_) (fun e0 => ?_))))
    · rw [h5]
      exact k1 I c V F (by unfold gRd; rw [if_pos e0]) hw hr hs hl.2.2.2.2.2.1 h7 hx
    · by_cases c60 : c = 60
      · unfold p6_readStatement
        have e : gRd K T P (f + 1) c V F i = Sum.inl (6, if K i = 5 then T i else P i) := by unfold gRd; rw [if_neg e0, if_pos c60]
        refine c_ownH hl (zt (by omega) (s_fail hl (by decide) (fun I' _ _ n => ⟨by omega, dead I' 6 _ e ?_⟩)))
        by_cases k5 : K i = 5
        · rw [if_pos k5]
          rw [if_pos ⟨rfl, k5⟩] at n; exact sNo_t hx n
        · rw [if_neg k5]
          rw [if_neg (fun q => k5 q.2)] at n; exact sNo_t hx n
      · have e : gRd K T P (f + 1) c V F i = (match gSt K T V F i with
          | Sum.inl e => Sum.inl (e.1, P e.2)
          | Sum.inr x => gRd K T P f (c + 1) x.2.1 x.2.2 x.1) := by
          show (if K i = 0 then _ else if c = 60 then _ else _) = _
          rw [if_neg e0, if_neg c60]
        rw [e] at k1 k0 dead
        refine c_stmt hh hR hT (hT1 i hl.2.2.1) hw (by omega) hl hr hs (fun I' j V' F' es lv' r' s' e5' e7' x' => ⟨by omega, ?_⟩) (fun I' k i' es n => ⟨by omega, dead I' k (P i') (by rw [es]) (sNo_t hx n)⟩)
        rw [es] at k1 k0
        have g := gSt_ok hT (hT1 i hl.2.2.1) hl.2.2.1 hw h8 es
        have g2 := c_readGo hh hR hT hT1 f (c + 1) V' F' j I' (by omega) (by omega) g.1 lv' r' s' g.2.2.2 (by rw [e5', h5]; omega) (e7'.trans h7) (xsf_t hx x') k1 k0
        rw [show ((c + 1 : Nat) : Int) = (c : Int) + 1 by omega] at g2
        exact g2
end
