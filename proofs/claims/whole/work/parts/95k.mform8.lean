/-! THE READERS: the model reads a sum or a test, the whole of it -/
section
variable {tb : Int → Int} {n : Int} {m : Nat} {b fm : Int}
theorem m_v3 {i : Nat} {I J : mI} (h : mS tb n i I J) (k : kN1 tb n i = 3) : I 159 6 = vN1 tb n i := by
  unfold kN1 at k
  rcases h.2.2 with ⟨a, -⟩ | ⟨a, -⟩ | ⟨_, _, _, d, _⟩ | ⟨a, -⟩ | ⟨a, -⟩
  · omega
  · omega
  · exact d
  · omega
  · omega
theorem m_v1 {i : Nat} {I J : mI} (h : mS tb n i I J) (k : kN1 tb n i = 1) : I 159 6 = 0 := by
  unfold kN1 at k
  rcases h.2.2 with ⟨a, -⟩ | ⟨_, _, _, _, d, _⟩ | ⟨a, -⟩ | ⟨a, -⟩ | ⟨a, -⟩
  · omega
  · exact d
  · omega
  · omega
  · omega
theorem mRd (hc : ctD tb n m) (hf : fm = 0 ∨ fm = 1 ∨ fm = 2) {Q : mI → mI → Prop} : ∀ (d w : Nat) (wd : Int) (o f q i : Nat) (I J : mI), w ≤ 7 → gB o w ≤ d → mE tb n m b fm f q o i I J → mX tb n w q o f i I → (w = 7 → kN1 tb n i = 1 ∧ vN1 tb n i = wd ∧ (wd = 26 ∨ wd = 27 ∨ wd = 21)) → (∀ (I' J' : mI) (j : Nat) (cs : List (Int × Int)), gR (kN1 tb n) (vN1 tb n) fm d w wd o i = Sum.inr (j, cs) → mA tb n m b fm f q o w I I' J J' j cs → GD m Q j I' J') → (∀ (I' J' : mI) (k : Int) (i' : Nat), gR (kN1 tb n) (vN1 tb n) fm d w wd o i = Sum.inl (k, i') → mNo b I I' J J' k (lN1 tb n i') → Q I' J') → GD m Q i I J
  | 0, w, wd, o, f, q, i, I, J, hw, hb, hE, hX, h7, kok, kno => by
    unfold gB at hb
    have := hE.2.2.2.2.2.2.1
    omega
  | d + 1, w, wd, o, f, q, i, I, J, hw, hb, hE, hX, h7, kok, kno => by
    have ih := mRd hc hf (Q := Q) d
    have hT := tkM_of hc
    have hm := hc.1
    have hL := hE.1
    have him : i ≤ m := hL.2.1
    have h42 := hE.2.1
    have h40 := hE.2.2.1
    have h31 := hE.2.2.2.2.1
    have hfo := hE.2.2.2.2.2.1
    have ho := hE.2.2.2.2.2.2.1
    have h43 := hE.2.2.2.2.2.2.2
    have hq64 := hX.2.2.2.2.2
    have hf8 := hL.2.2.2.2.2.2
    have hok : ∀ (w : Nat) (wd : Int) (o i : Nat), w ≤ 6 → o ≤ 7 → i ≤ m → ∀ j cs, gR (kN1 tb n) (vN1 tb n) fm d w wd o i = Sum.inr (j, cs) → i < j ∧ j ≤ m ∧ cs.length + i ≤ j := fun w wd o i a b c j cs e => by
      have g := g_ok hT hf d w wd o i (by omega) b c (fun q => by omega) j cs e
      exact ⟨g.1, g.2.1, g.2.2.1⟩
    have lv : (w = 0 ∨ w = 1 ∨ w = 4 ∨ w = 5) → gR (kN1 tb n) (vN1 tb n) fm (d + 1) w wd o i = rB (gR (kN1 tb n) (vN1 tb n) fm d (w + 1) 0 o i) (fun j c => gLp (gR (kN1 tb n) (vN1 tb n) fm d (w + 1) 0 o) (stW (kN1 tb n) (vN1 tb n) w) 1600 j c) → GD m Q i I J := fun hw' hg => by
      rw [hg] at kok kno
      have gb : gB o (w + 1) + 1 = gB o w := by unfold gB; omega
      refine ih (w + 1) 0 o f q i I J (by omega) (by omega) hE (mX_up hw' hX) (fun q => by omega) (fun I1 J1 j c e hA => ?_) (fun I1 J1 k i' e hN => kno I1 J1 k i' (by rw [e]; rfl) hN)
      rw [e] at kok kno
      obtain ⟨⟨c1, hs, hcc, hC⟩, hP, hS⟩ := hA
      have ok := hok (w + 1) 0 o i (by omega) ho him j c e
      subst hcc
      rw [List.length_append, opC_len] at ok
      exact m_loop hw' hc hE hX (fun j I2 J2 hE2 hX2 k1 k2 => ih (w + 1) 0 o f (q + 1) j I2 J2 (by omega) (by omega) hE2 hX2 (fun q => by omega) k1 k2) (fun j hj j' c e => hok (w + 1) 0 o j (by omega) ho hj j' c e) 1600 j c1 hs I1 J1 (by omega) (by omega) (mC_wk hC (by rcases hw' with rfl | rfl | rfl | rfl <;> decide) (by omega)) ⟨fun l => hP.1 (by omega), fun l => by omega, fun l => hP.2.2 (by omega)⟩ hS kok kno
    have hcase : w = 0 ∨ w = 1 ∨ w = 2 ∨ w = 3 ∨ w = 4 ∨ w = 5 ∨ w = 6 ∨ w = 7 := by omega
    rcases hcase with rfl | rfl | rfl | rfl | rfl | rfl | rfl | rfl
    · exact lv (by decide) rfl
    · exact lv (by decide) rfl
    · have t := (hX.2.1 (by decide)).1
      have ph := (hX.2.1 (by decide)).2
      have bg := hX.2.2.1 (by decide)
      have eg : gR (kN1 tb n) (vN1 tb n) fm (d + 1) 2 wd o i = (if kN1 tb n i = 1 ∧ vN1 tb n i = 24 then (if 7 ≤ o then Sum.inl (5, i) else rB (gR (kN1 tb n) (vN1 tb n) fm d 2 0 (o + 1) (i + 1)) (fun j c => Sum.inr (j, c ++ [(43, 0)])))
       else if kN1 tb n i = 4 ∧ vN1 tb n i = 91 then (if 7 ≤ o then Sum.inl (5, i) else rB (gR (kN1 tb n) (vN1 tb n) fm d 0 0 (o + 1) (i + 1)) (fun j c => gEx (kN1 tb n) (vN1 tb n) 93 j c))
       else if kN1 tb n i = 1 ∧ vN1 tb n i = 25 then Sum.inr (i + 1, [(30, 0)])
       else gR (kN1 tb n) (vN1 tb n) fm d 3 0 o i) := rfl
      rw [eg] at kok kno
      by_cases a1 : kN1 tb n i = 1 ∧ vN1 tb n i = 24
      · rw [if_pos a1] at kok kno
        have im := tkM_lt hT him (by rw [a1.1]; decide)
        refine gd_o (i2 := i + 1) him h43 (Nat.lt_succ_self i) (fun Qo ql qd => op_in hL (fun I' h5 _ => by omega) (fun h12 => ?_))
        rw [if_pos ⟨t, bg⟩]
        refine op_not (q := q) (o := o) hc hL h12 a1 h42 (by omega) h40 ho (fun o7 I' hn => qd 1 I' J (Or.inr rfl) (by have := hn.2.2.1; omega) (fun I'' fz fj => ?_)) (fun o7 I' J' r1 r2 r3 r4 r5 r6 r7 r8 r9 r10 r11 r12 => ql 0 I' J' (Or.inl rfl) r4 (fun I'' fz fj f43 => ?_))
        · rw [if_pos o7] at kno; exact kno I'' J 5 i rfl (mNo_43 hn fz fj)
        · rw [if_neg o7] at kok kno
          have fr : fR b f q I I'' := fR_t r1 (fR_43 fz fj) (Nat.le_refl f) (Nat.le_refl q)
          have e31 : I'' 159 31 = I 159 31 := (fj 31 (by decide)).trans r8
          have gb : gB (o + 1) 2 + 8 = gB o 2 := by unfold gB; omega
          have b182 : I'' 182 f = I 182 f := (fr.2.1 f (Int.le_refl _)).1
          refine ih 2 0 (o + 1) f (q + 1) (i + 1) I'' J' (by omega) (by omega) ⟨⟨mS_f r3 (fz 160 (by decide)) (fun j _ _ => fj j (by omega)) rfl, im, (fj 8 (by decide)).trans r4, by rw [fr.1.2.1 32 (by omega)]; exact hL.2.2.2.1, by rw [fr.1.2.1 33 (by omega)]; exact hL.2.2.2.2.1, by rw [fj 39 (by decide), r5]; exact hL.2.2.2.2.2.1, hf8⟩, by rw [fj 42 (by decide), r6]; omega, by rw [fj 40 (by decide), r9]; omega, by rw [b182]; have := hE.2.2.2.1; omega, by rw [e31]; omega, by omega, by omega, f43⟩ ⟨Or.inr ?_, fun _ => ⟨by rw [fz 178 (by decide), r10]; exact t, by rw [fz 179 (by decide), r11]; exact ph⟩, fun _ => by rw [fz 180 (by decide), r12]; exact bg, fun l => by omega, fun l => by omega, by omega⟩ (fun q => by omega) (fun I3 J3 j c e hA => ?_) (fun I3 J3 k i' e hN => kno I3 J3 k i' (by rw [e]; rfl) (mNo_t fr.1 r2 hN))
          · rw [show ((q + 1 : Nat) : Int) - 1 = (q : Int) by omega, fz 183 (by decide), r7]; decide
          · obtain ⟨⟨c1, hs, hcc, hC⟩, hP, hS⟩ := hA
            obtain ⟨u1, u2, u3, u4, u5, u6, u7, u8, u9, u10, u11, u12, u13⟩ := hC
            refine kok I3 J3 j (c ++ [(43, 0)]) (by rw [e]; rfl) ⟨⟨c1, hs ++ [43], ?_, ⟨fR_t fr u1 (Nat.le_refl f) (Nat.le_succ q), jK_t r2 u2, u3, u4.trans (by rw [fz 178 (by decide), r10]), by rw [u5, e31], by rw [← e31]; exact u6, ?_, ?_, ?_, fun x hx => ?_, ?_, u12, u13⟩⟩, ⟨fun _ => hP.1 (by decide), fun q => by omega, fun q => by omega⟩, hS⟩
            · rw [hcc, opC_ap, List.append_assoc]; rfl
            · rw [List.length_append, List.length_singleton, u7]; omega
            · refine stO_ap ?_ ?_
              · rw [u1.2.2.2.1 q (by omega), fz 183 (by decide)]; exact r7
              · rw [show (q : Int) + 1 = ((q + 1 : Nat) : Int) by omega]; exact u8
            · rw [nts_ap, u9]
              have : nts [43] = 1 := rfl
              omega
            · rcases List.mem_append.mp hx with h | h
              · exact u10 x h
              · rw [List.mem_singleton.mp h]; decide
            · rw [List.length_append, List.length_singleton]; omega
      rw [if_neg a1] at kok kno
      by_cases a2 : kN1 tb n i = 4 ∧ vN1 tb n i = 91
      · rw [if_pos a2] at kok kno
        have im := tkM_lt hT him (by rw [a2.1]; decide)
        have gb : gB (o + 1) 0 ≤ gB o 2 ∧ gB (o + 1) 0 + 1 ≤ gB o 2 ∨ 7 ≤ o := by unfold gB; omega
        refine gd_o (i2 := i + 1) him h43 (Nat.lt_succ_self i) (fun Qo ql qd => op_in hL (fun I' h5 _ => by omega) (fun h12 => ?_))
        rw [if_pos ⟨t, bg⟩]
        refine op_brk hc hL h12 a2 (fun I6 hbr => ?_)
        have e6 := hbr.1 159 (by decide)
        refine m_opn (q := q) (o := o) hc (bgR_L hbr hL) (by rw [e6]; exact h12) im (by rw [e6]; exact h42) (by rw [e6]; exact h40) ho (fun o7 I' hn => qd 0 I' J (Or.inl rfl) (by have := hn.2.2.1; omega) (fun I'' fz fj => ?_)) (fun o7 I' J' hr => ql 0 I' J' (Or.inl rfl) hr.2.2.2.1 (fun I'' fz fj f43 => ?_))
        · rw [if_pos o7] at kno; exact kno I'' J 5 i rfl (mNo_43 (mNo_t (bgR_f (b := b) (q := q) hbr).1 (jK_r J) hn) fz fj)
        · rw [if_neg o7] at kok kno
          obtain ⟨fr, E1, b182, k178, k179, k180, k31, kself, k64⟩ := mE_open (w1 := 0) (f := f) (q := q) (o := o) im (Nat.le_succ i) hE ⟨2, hX, by omega⟩ o7 (bgR_f hbr) (by rw [e6]) hr fz fj f43
          have X1 := mX_tst (tb := tb) (n := n) (i' := i + 1) b182 k179 (by rw [k178]; exact Or.inr (Or.inl rfl)) k180 k64
          refine ih 0 0 (o + 1) (f + 1) q (i + 1) I'' J' (by omega) (by omega) E1 X1 (fun q => by omega) (fun I3 J3 j c e hA => ?_) (fun I3 J3 k i' e hN => kno I3 J3 k i' (by rw [e]; rfl) (mNo_t fr.1 hr.2.1 hN))
          refine m_close (rk := rkO 2) (len := gB o 2) hc hE fr hr.2.1 E1 X1 b182 k178 (Or.inr ⟨rfl, rfl, rfl⟩) k31 ⟨by rw [kself.1, hbr.1 178 (by decide)], by rw [kself.2.1, hbr.1 179 (by decide)], by rw [kself.2.2]; exact hbr.2.2⟩ hA (hok 0 0 (o + 1) (i + 1) (by omega) (by omega) im j c e) (fun I4 J4 eg hC h179 => kok I4 J4 (j + 1) c (by rw [e]; exact eg) ⟨⟨c, [], by rw [show opC [] = [] from rfl, List.append_nil], hC⟩, ⟨fun _ => Or.inr (by rw [h179, if_pos rfl]), fun q => by omega, fun q => by omega⟩, ⟨fun _ q => absurd (by rw [h179, if_pos rfl]) q, fun _ q => absurd (by rw [h179, if_pos rfl]) q, fun q => by omega, fun q => by omega⟩⟩) (fun I4 J4 eg hN => kno I4 J4 1 j (by rw [e]; exact eg) hN)
      rw [if_neg a2] at kok kno
      by_cases a3 : kN1 tb n i = 1 ∧ vN1 tb n i = 25
      · rw [if_pos a3] at kok kno
        have im := tkM_lt hT him (by rw [a3.1]; decide)
        refine gd_o (i2 := i + 1) him h43 (Nat.lt_succ_self i) (fun Qo ql qd => op_in hL (fun I' h5 _ => by omega) (fun h12 => ?_))
        rw [if_pos ⟨t, bg⟩]
        refine op_all (q := q) hc hL h12 a3 h31.1 (by omega) (fun I' J' r1 r2 r3 r4 r5 r6 r7 r8 r9 r10 r11 r12 => ql 1 I' J' (Or.inr rfl) r4 (fun I'' fz fj f43 => ?_))
        have fr : fR b f q I I'' := fR_t r1 (fR_43 fz fj) (Nat.le_refl f) (Nat.le_refl q)
        have p2 : I'' 179 f = 2 := by rw [fz 179 (by decide)]; exact r11
        refine kok I'' J' (i + 1) [(30, 0)] rfl ⟨⟨[(30, 0)], [], rfl, mC_nil fr r2 ⟨mS_f r3 (fz 160 (by decide)) (fun j _ _ => fj j (by omega)) rfl, im, (fj 8 (by decide)).trans r4, by rw [fr.1.2.1 32 (by omega)]; exact hL.2.2.2.1, by rw [fr.1.2.1 33 (by omega)]; exact hL.2.2.2.2.1, by rw [fj 39 (by decide), r5]; exact hL.2.2.2.2.2.1, hf8⟩ (by rw [fz 178 (by decide)]; exact r10) (by rw [fj 31 (by decide)]; exact r7) (segM_fr (fz 175 (by decide)) (fz 176 (by decide)) r9) (by rw [fj 42 (by decide), r6]; exact h42) (by rw [fj 40 (by decide), r8]; exact h40) f43 (by rw [fz 180 (by decide)]; exact r12)⟩, ⟨fun _ => Or.inr p2, fun q => by omega, fun q => by omega⟩, ⟨fun _ q => absurd p2 q, fun _ q => absurd p2 q, fun q => by omega, fun q => by omega⟩⟩
      rw [if_neg a3] at kok kno
      have gb : gB o 3 + 1 = gB o 2 := by unfold gB; omega
      refine ih 3 0 o f q i I J (by omega) (by omega) hE ⟨hX.1, fun _ => ⟨t, ph⟩, fun l => by omega, fun l => by omega, fun _ _ _ => ⟨a1, a2, a3⟩, by omega⟩ (fun q => by omega) (fun I' J' j c e hA => kok I' J' j c e ?_) kno
      obtain ⟨⟨c1, hs, hcc, hC⟩, hP, hS⟩ := hA
      exact ⟨⟨c1, hs, hcc, mC_wk hC (by decide) (by omega)⟩, ⟨fun _ => Or.inl (hP.2.1 rfl), fun q => by omega, fun q => by omega⟩, ⟨fun _ => hS.1 (by decide), fun _ => hS.2.1 (by decide), fun q => by omega, fun q => by omega⟩⟩
    · have t := (hX.2.1 (by decide)).1
      have ph := (hX.2.1 (by decide)).2
      have eg : gR (kN1 tb n) (vN1 tb n) fm (d + 1) 3 wd o i = rB (gR (kN1 tb n) (vN1 tb n) fm d 4 0 o i) (fun j c => if sCmp (kN1 tb n) (vN1 tb n) j = 0 then Sum.inl (1, j) else rB (gR (kN1 tb n) (vN1 tb n) fm d 4 0 o (j + 1)) (fun j2 c2 => Sum.inr (j2, c ++ (c2 ++ [(sCmp (kN1 tb n) (vN1 tb n) j, 0)])))) := rfl
      rw [eg] at kok kno
      have gb : gB o 4 + 1 = gB o 3 := by unfold gB; omega
      have X4 : mX tb n 4 q o f i I := ⟨hX.1.imp id (fun x => Int.lt_trans x (by decide)), fun l => by omega, fun l => by omega, fun _ => Or.inl ph, fun _ => hX.2.2.2.2.1 (by decide), by omega⟩
      refine ih 4 0 o f q i I J (by omega) (by omega) hE X4 (fun q => by omega) (fun I1 J1 j c e hA => ?_) (fun I1 J1 k i' e hN => kno I1 J1 k i' (by rw [e]; rfl) hN)
      rw [e, rB_r] at kok kno
      obtain ⟨⟨c1, hs, hcc, hC⟩, hP, hS⟩ := hA
      have ok := hok 4 0 o i (by omega) ho him j c e
      have lc : c.length = c1.length + hs.length := by rw [hcc, List.length_append, opC_len]
      have t1 : isT (I1 178 f) := by rw [hC.2.2.2.1]; exact t
      have p1 : I1 179 f = 0 := (hP.2.2 (by decide)).trans ph
      by_cases z : sCmp (kN1 tb n) (vN1 tb n) j = 0
      · rw [if_pos z] at kno
        exact gd_g (i2 := j + 1) ok.2.1 hC.2.2.2.2.2.2.2.2.2.2.2.1 (Nat.lt_succ_self j) (fun Qg kq kd' => go_ph0 hc hC.2.2.1 t1 p1 ⟨hS.2.1 (by decide) (by omega), hS.1 (by decide) (by omega)⟩ z (fun I' hn => kd' I' J1 (kno I' J1 1 j rfl (mNo_t hC.1.1 hC.2.1 hn))))
      · rw [if_neg z] at kok kno
        have sk := sCmp_k z
        have jm := tkM_lt hT ok.2.1 (by rw [sk.1]; decide)
        have hH : mH f q 5 hs I1 := mC_H hE hX hC (by decide) (by decide) (by omega) ok.2.1 hm (by omega)
        refine gd_g (i2 := j + 1) ok.2.1 hC.2.2.2.2.2.2.2.2.2.2.2.1 (Nat.lt_succ_self j) (fun Qg kq kd' => go_cmp hc hC.2.2.1 t1 p1 z hH (fun I2 J2 hr => kq I2 J2 (by rw [hr.1.2.1]; exact hC.2.2.1.2.2.1) ?_))
        have hC' := hC
        have hr' := hr
        obtain ⟨a1, a2, a3, a4, a5, a6, a7, a8, a9, a10, a11, a12, a13⟩ := hC'
        obtain ⟨⟨d1, d2, d3, d4, d5, d6, d7, d8, d9, d10, d11⟩, d12, d13, d14⟩ := hr'
        have k182 : I2 182 f = I 182 f := by rw [(d1.2.1 f (Int.le_refl _)).1, (a1.2.1 f (Int.le_refl _)).1]
        have L2 : mL tb n m b fm f (j + 1) I2 J2 := ⟨d13, jm, d2.trans a3.2.2.1, by rw [d1.1.2.1 32 (by omega)]; exact a3.2.2.2.1, by rw [d1.1.2.1 33 (by omega)]; exact a3.2.2.2.2.1, d3.trans a3.2.2.2.2.2.1, hf8⟩
        have E2 : mE tb n m b fm f (q + 1) o (j + 1) I2 J2 := ⟨L2, by rw [d4]; omega, by rw [d7]; omega, by rw [k182]; have := hE.2.2.2.1; omega, by omega, hfo, ho, d14⟩
        have rkop : rkF (sCmp (kN1 tb n) (vN1 tb n) j) = 4 ∧ sCmp (kN1 tb n) (vN1 tb n) j ≠ 43 := by
          rcases sk.2 with x | x | x <;> rw [x.2] <;> decide
        have X2 : mX tb n 4 (q + 1) o f (j + 1) I2 := ⟨Or.inr (by rw [show ((q + 1 : Nat) : Int) - 1 = (q : Int) by omega, d5, rkop.1]; decide), fun l => by omega, fun l => by omega, fun _ => Or.inr d10, fun _ _ bz => absurd (d11.trans a13) bz, by omega⟩
        refine ih 4 0 o f (q + 1) (j + 1) I2 J2 (by omega) (by omega) E2 X2 (fun q => by omega) (fun I3 J3 j3 c3 e3 hA3 => ?_) (fun I3 J3 k i' e3 hN => kno I3 J3 k i' (by rw [e3]; rfl) (mNo_t (mfr_t a1.1 d1.1) (jK_t a2 d12) hN))
        obtain ⟨⟨c2, hs2, hc2, hC2⟩, hP2, hS2⟩ := hA3
        have hC3 := mC_op (rk := rkO 3) (len := gB o 3) rkop.2 (by rw [rkop.1]; decide) (by decide) (by omega) (mC_wk hC (by decide) (by omega)) hr hC2
        refine kok I3 J3 j3 (c ++ (c3 ++ [(sCmp (kN1 tb n) (vN1 tb n) j, 0)])) (by rw [e3]; rfl) ⟨⟨(c1 ++ opC hs) ++ c2, hs2 ++ [sCmp (kN1 tb n) (vN1 tb n) j], ?_, hC3⟩, ⟨fun q => by omega, fun _ => (hP2.2.2 (by decide)).trans d10, fun q => by omega⟩, ⟨fun _ => hS2.1 (by decide), fun _ => hS2.2.1 (by decide), fun q => by omega, fun q => by omega⟩⟩
        rw [opC_ap, hcc, hc2, List.append_assoc, List.append_assoc, List.append_assoc, List.append_assoc]; rfl
    · exact lv (by decide) rfl
    · exact lv (by decide) rfl
    · have eg : gR (kN1 tb n) (vN1 tb n) fm (d + 1) 6 wd o i = (if kN1 tb n i = 3 then Sum.inr (i + 1, [(0, vN1 tb n i)])
       else if kN1 tb n i = 1 ∧ gVar fm (vN1 tb n i) ≠ 0 then Sum.inr (i + 1, [(gVar fm (vN1 tb n i), 0)])
       else if kN1 tb n i = 4 ∧ vN1 tb n i = 40 then (if 7 ≤ o then Sum.inl (5, i) else rB (gR (kN1 tb n) (vN1 tb n) fm d 4 0 (o + 1) (i + 1)) (fun j c => gEx (kN1 tb n) (vN1 tb n) 41 j c))
       else if kN1 tb n i = 1 ∧ (vN1 tb n i = 26 ∨ vN1 tb n i = 27 ∨ vN1 tb n i = 21) then gR (kN1 tb n) (vN1 tb n) fm d 7 (vN1 tb n i) o i
       else Sum.inl (1, i)) := rfl
      rw [eg] at kok kno
      by_cases ch : kN1 tb n i = 1 ∧ (vN1 tb n i = 26 ∨ vN1 tb n i = 27 ∨ vN1 tb n i = 21)
      · have g0 : gVar fm (vN1 tb n i) = 0 := gVar_0 (by omega)
        rw [if_neg (by omega), if_neg (fun q => q.2 g0), if_neg (by omega), if_pos ch] at kok kno
        have gb : gB o 7 + 1 = gB o 6 := by unfold gB; omega
        refine ih 7 (vN1 tb n i) o f q i I J (by omega) (by omega) hE ⟨hX.1, fun l => by omega, fun l => by omega, fun _ => hX.2.2.2.1 (by decide), fun _ => hX.2.2.2.2.1 (by decide), by omega⟩ (fun _ => ⟨ch.1, rfl, ch.2⟩) (fun I' J' j c e hA => kok I' J' j c e ?_) kno
        obtain ⟨⟨c1, hs, hcc, hC⟩, hP, hS⟩ := hA
        exact ⟨⟨c1, hs, hcc, mC_wk hC (by decide) (by omega)⟩, ⟨fun q => by omega, fun q => by omega, fun _ => hP.2.2 (by decide)⟩, ⟨fun q => by omega, fun q => by omega, fun q => by omega, fun q => by omega⟩⟩
      refine gd_o (i2 := i + 1) him h43 (Nat.lt_succ_self i) (fun Qo ql qd => op_in hL (fun I' h5 hn => qd 1 I' J (Or.inr rfl) (by have := hn.2.2.1; omega) (fun I'' fz fj => ?_)) (fun h12 => op_part hc hL h12 ?_ (fun I6 hbr => ?_)))
      · rw [if_neg (by omega), if_neg (by omega), if_neg (by omega), if_neg ch] at kno
        exact kno I'' J 1 i rfl (mNo_43 hn fz fj)
      · by_cases tt : isT (I 178 f) ∧ I 180 f ≠ 0
        · rw [if_pos tt]; exact Or.inr ⟨rfl, hX.2.2.2.2.1 (by decide) tt.1 tt.2⟩
        · rw [if_neg tt]; exact Or.inl rfl
      have L6 := bgR_L hbr hL
      have e6 := hbr.1 159 (by decide)
      have h12' : I6 159 12 = -1 := by rw [e6]; exact h12
      by_cases par : kN1 tb n i = 4 ∧ vN1 tb n i = 40
      · rw [if_neg (by omega), if_neg (by omega), if_pos par] at kok kno
        have im := tkM_lt hT him (by rw [par.1]; decide)
        have gb : gB (o + 1) 4 + 1 ≤ gB o 6 ∧ gB (o + 1) 4 ≤ gB o 6 ∨ 7 ≤ o := by unfold gB; omega
        refine pt_par L6 par (m_opn (q := q) (o := o) hc L6 h12' im (by rw [e6]; exact h42) (by rw [e6]; exact h40) ho (fun o7 I' hn => qd 0 I' J (Or.inl rfl) (by have := hn.2.2.1; omega) (fun I'' fz fj => ?_)) (fun o7 I' J' hr => ql 0 I' J' (Or.inl rfl) hr.2.2.2.1 (fun I'' fz fj f43 => ?_)))
        · rw [if_pos o7] at kno; exact kno I'' J 5 i rfl (mNo_43 (mNo_t (bgR_f (b := b) (q := q) hbr).1 (jK_r J) hn) fz fj)
        · rw [if_neg o7] at kok kno
          obtain ⟨fr, E1, b182, k178, k179, k180, k31, kself, k64⟩ := mE_open (w1 := 4) (f := f) (q := q) (o := o) im (Nat.le_succ i) hE ⟨6, hX, by omega⟩ o7 (bgR_f hbr) (by rw [e6]) hr fz fj f43
          have X1 := mX_sum (tb := tb) (n := n) (i' := i + 1) b182 k179 (by rw [k178]; decide) k64
          refine ih 4 0 (o + 1) (f + 1) q (i + 1) I'' J' (by omega) (by omega) E1 X1 (fun q => by omega) (fun I3 J3 j c e hA => ?_) (fun I3 J3 k i' e hN => kno I3 J3 k i' (by rw [e]; rfl) (mNo_t fr.1 hr.2.1 hN))
          refine m_close (rk := rkO 6) (len := gB o 6) hc hE fr hr.2.1 E1 X1 b182 k178 (Or.inl ⟨rfl, rfl, rfl, k179⟩) k31 ⟨by rw [kself.1, hbr.1 178 (by decide)], by rw [kself.2.1, hbr.1 179 (by decide)], by rw [kself.2.2]; exact hbr.2.2⟩ hA (hok 4 0 (o + 1) (i + 1) (by omega) (by omega) im j c e) (fun I4 J4 eg hC h179 => kok I4 J4 (j + 1) c (by rw [e]; exact eg) ⟨⟨c, [], by rw [show opC [] = [] from rfl, List.append_nil], hC⟩, ⟨fun q => by omega, fun q => by omega, fun _ => by rw [h179, if_neg (by decide)]⟩, ⟨fun q => by omega, fun q => by omega, fun q => by omega, fun q => by omega⟩⟩) (fun I4 J4 eg hN => kno I4 J4 1 j (by rw [e]; exact eg) hN)
      -- a number, a variable
      have c0 : 0 ≤ I6 159 31 := by rw [e6]; exact h31.1
      have fin : ∀ (s v : Int) (I' J' : mI), kN1 tb n i ≠ 0 ∧ kN1 tb n i ≠ 5 → (∀ (I' J' : mI), mA tb n m b fm f q o 6 I I' J J' (i + 1) [(s, v)] → GD m Q (i + 1) I' J') → addR tb n b f i q s v I6 I' J J' → Qo 1 I' J' := fun s v I' J' kk kok2 hr => by
        obtain ⟨r1, r2, r3, r4, r5, r6, r7, r8, r9, r10, r11, r12⟩ := hr
        have im := tkM_lt hT him kk
        refine ql 1 I' J' (Or.inr rfl) r4 (fun I'' fz fj f43 => ?_)
        have fr : fR b f q I I'' := fR_t (bgR_f hbr) (fR_t r1 (fR_43 fz fj) (Nat.le_refl f) (Nat.le_refl q)) (Nat.le_refl f) (Nat.le_refl q)
        rw [e6] at r5 r6 r7 r8 r9
        refine kok2 I'' J' ⟨⟨[(s, v)], [], rfl, mC_nil fr r2 ⟨mS_f r3 (fz 160 (by decide)) (fun j _ _ => fj j (by omega)) rfl, im, (fj 8 (by decide)).trans r4, by rw [fr.1.2.1 32 (by omega)]; exact hL.2.2.2.1, by rw [fr.1.2.1 33 (by omega)]; exact hL.2.2.2.2.1, by rw [fj 39 (by decide), r5]; exact hL.2.2.2.2.2.1, hf8⟩ (by rw [fz 178 (by decide), r10, hbr.1 178 (by decide)]) (by rw [fj 31 (by decide)]; exact r7) (segM_fr (fz 175 (by decide)) (fz 176 (by decide)) r9) (by rw [fj 42 (by decide), r6]; exact h42) (by rw [fj 40 (by decide), r8]; exact h40) f43 (by rw [fz 180 (by decide), r12]; exact hbr.2.2)⟩, ⟨fun q => by omega, fun q => by omega, fun _ => by rw [fz 179 (by decide), r11, hbr.1 179 (by decide)]⟩, ⟨fun q => by omega, fun q => by omega, fun q => by omega, fun q => by omega⟩⟩
      refine pt_sort hf hc L6 h12' par ch ?_
      by_cases k3 : kN1 tb n i = 3
      · rw [if_pos k3] at kok ⊢
        have im := tkM_lt hT him (by rw [k3]; decide)
        exact pt_add (q := q) hc L6 (by decide) (m_v3 L6.1 k3) im c0 (by rw [e6]; omega) (fun I' J' hr => fin 0 _ I' J' (by rw [k3]; decide) (fun I'' J'' hA => kok I'' J'' (i + 1) _ rfl hA) hr)
      rw [if_neg k3] at kok kno ⊢
      by_cases kv : kN1 tb n i = 1 ∧ gVar fm (vN1 tb n i) ≠ 0
      · rw [if_pos kv] at kok
        have vr := (gVar_rg hf kv.2).1
        have im := tkM_lt hT him (by rw [kv.1]; decide)
        rw [if_pos kv.1, show gS fm (vN1 tb n i) = gVar fm (vN1 tb n i) by unfold gS; rw [if_pos kv.2]]
        exact pt_add (q := q) hc L6 (by omega) (m_v1 L6.1 kv.1) im c0 (by rw [e6]; omega) (fun I' J' hr => fin _ _ I' J' (by rw [kv.1]; decide) (fun I'' J'' hA => kok I'' J'' (i + 1) _ rfl hA) hr)
      rw [if_neg kv, if_neg par, if_neg ch] at kno
      have em1 : (if kN1 tb n i = 1 then gS fm (vN1 tb n i) else -1) = -1 := by
        by_cases k1 : kN1 tb n i = 1
        · rw [if_pos k1]
          unfold gS
          rw [if_neg (fun q => kv ⟨k1, q⟩)]
        · rw [if_neg k1]
      rw [em1]
      exact pt_bad L6 h12' (fun I' hn => qd 1 I' J (Or.inr rfl) (by have := hn.2.2.1; omega) (fun I'' fz fj => kno I'' J 1 i rfl (mNo_43 (mNo_t (bgR_f (b := b) (q := q) hbr).1 (jK_r J) hn) fz fj)))
    · have eg : gR (kN1 tb n) (vN1 tb n) fm (d + 1) 7 wd o i = (if kN1 tb n (i + 1) = 4 ∧ vN1 tb n (i + 1) = 40 then (if 7 ≤ o then Sum.inl (5, i + 1) else if wd = 21 then rB (gR (kN1 tb n) (vN1 tb n) fm d 0 0 (o + 1) (i + 2)) (fun j c => rB (gEx (kN1 tb n) (vN1 tb n) 44 j c) (fun j c => gTl (kN1 tb n) (vN1 tb n) (gR (kN1 tb n) (vN1 tb n) fm d 4 0 (o + 1)) (gOp wd) j c)) else gTl (kN1 tb n) (vN1 tb n) (gR (kN1 tb n) (vN1 tb n) fm d 4 0 (o + 1)) (gOp wd) (i + 2) []) else Sum.inl (1, i + 1)) := rfl
      rw [eg] at kok kno
      obtain ⟨k1, kv, kw⟩ := h7 rfl
      have im := tkM_lt hT him (by rw [k1]; decide)
      refine gd_o (i2 := i + 2) him h43 (by omega) (fun Qo ql qd => op_in hL (fun I' h5 hn => by omega) (fun h12 => op_part hc hL h12 ?_ (fun I6 hbr => ?_)))
      · by_cases tt : isT (I 178 f) ∧ I 180 f ≠ 0
        · rw [if_pos tt]; exact Or.inr ⟨rfl, by omega, by omega, by omega⟩
        · rw [if_neg tt]; exact Or.inl rfl
      have L6 := bgR_L hbr hL
      have e6 := hbr.1 159 (by decide)
      have h12' : I6 159 12 = -1 := by rw [e6]; exact h12
      have bf := (bgR_f (b := b) (q := q) hbr).1
      refine pt_ch (q := q) (o := o) hc L6 h12' (by rw [e6]; exact h42) (by rw [e6]; exact h40) ho ⟨k1, by omega⟩ (fun nb I' J' hn => qd 0 I' J' (Or.inl rfl) (by have := hn.2.2.1; omega) (fun I'' fz fj => ?_)) (fun a o7 I' J' hn => qd 0 I' J' (Or.inl rfl) (by have := hn.2.2.1; omega) (fun I'' fz fj => ?_)) (fun a o7 I' J' hr h181 => ql 0 I' J' (Or.inl rfl) hr.2.2.2.1 (fun I'' fz fj f43 => ?_))
      · rw [if_neg nb] at kno
        exact kno I'' J' 1 (i + 1) rfl (mNo_43 (mNo_t bf (jK_r J) hn) fz fj)
      · rw [if_pos a, if_pos o7] at kno
        exact kno I'' J' 5 (i + 1) rfl (mNo_43 (mNo_t bf (jK_r J) hn) fz fj)
      rw [if_pos a, if_neg o7] at kok kno
      have im1 : i + 1 < m := tkM_lt hT im (by rw [a.1]; decide)
      have gb : gB (o + 1) 0 + 1 ≤ gB o 7 ∧ gB (o + 1) 4 ≤ gB (o + 1) 0 := by unfold gB; omega
      obtain ⟨fr, E1, b182, k178, k179, k180, k31, kself, k64⟩ := mE_open (w1 := 0) (f := f) (q := q) (o := o) (i1 := i + 2) (by omega) (by omega) hE ⟨7, hX, by omega⟩ o7 (bgR_f hbr) (by rw [e6]) hr fz fj f43
      have T0 : mT tb n m b fm f q o (gOp wd) (if wd = 21 then 6 else 3) I I'' J J' (i + 2) [] := ⟨fr, hr.2.1, E1, b182, by rw [k31]; show I 159 31 = I 159 31 + 0; omega, trivial, by rw [k178, kv], k179, by rw [fz 181 (by decide), h181, kv], ⟨by rw [kself.1, hbr.1 178 (by decide)], by rw [kself.2.1, hbr.1 179 (by decide)], by rw [kself.2.2]; exact hbr.2.2⟩, k64⟩
      have tail : ∀ (I1 J1 : mI) (j : Nat) (c : List (Int × Int)), mT tb n m b fm f q o (gOp wd) 3 I I1 J J1 j c → c.length + i + 1 ≤ j → (∀ (I' J' : mI) (j' : Nat) (cs : List (Int × Int)), gTl (kN1 tb n) (vN1 tb n) (gR (kN1 tb n) (vN1 tb n) fm d 4 0 (o + 1)) (gOp wd) j c = Sum.inr (j', cs) → mA tb n m b fm f q o 7 I I' J J' j' cs → GD m Q j' I' J') → (∀ (I' J' : mI) (k : Int) (i' : Nat), gTl (kN1 tb n) (vN1 tb n) (gR (kN1 tb n) (vN1 tb n) fm d 4 0 (o + 1)) (gOp wd) j c = Sum.inl (k, i') → mNo b I I' J J' k (lN1 tb n i') → Q I' J') → GD m Q j I1 J1 := fun I1 J1 j c hTT hcl tok tno => by
        have hjm : j ≤ m := hTT.2.2.1.1.2.1
        unfold gTl at tok tno
        refine ih 4 0 (o + 1) (f + 1) q j I1 J1 (by omega) (by omega) hTT.2.2.1 (mX_sum hTT.2.2.2.1 hTT.2.2.2.2.2.2.2.1 (by rw [hTT.2.2.2.2.2.2.1]; decide) (by omega)) (fun q => by omega) (fun I3 J3 j2 c2 e2 hA => ?_) (fun I3 J3 k i' e hN => tno I3 J3 k i' (by rw [e]; rfl) (mNo_t hTT.1.1 hTT.2.1 hN))
        rw [e2, rB_r] at tok tno
        have ok2 := hok 4 0 (o + 1) j (by omega) (by omega) hjm j2 c2 e2
        refine m_piece (kd := 3) (w1 := 4) hc h31 hTT hcl (Or.inl ⟨rfl, rfl⟩) hA ok2 (fun I4 J4 eg hT4 => ?_) (fun I4 J4 eg hN => tno I4 J4 1 j2 (by rw [eg]; rfl) hN)
        rw [eg, rB_r] at tok tno
        have hT4' : mT tb n m b fm f q o (gOp wd) 4 I I4 J J4 (j2 + 1) (c ++ c2) := hT4
        have j2m : j2 + 1 ≤ m := hT4'.2.2.1.1.2.1
        refine ih 4 0 (o + 1) (f + 1) q (j2 + 1) I4 J4 (by omega) (by omega) hT4'.2.2.1 (mX_sum hT4'.2.2.2.1 hT4'.2.2.2.2.2.2.2.1 (by rw [hT4'.2.2.2.2.2.2.1]; decide) (by omega)) (fun q => by omega) (fun I5 J5 j4 c4 e4 hA4 => ?_) (fun I5 J5 k i' e hN => tno I5 J5 k i' (by rw [e]; rfl) (mNo_t hT4'.1.1 hT4'.2.1 hN))
        rw [e4, rB_r] at tok tno
        have ok4 := hok 4 0 (o + 1) (j2 + 1) (by omega) (by omega) j2m j4 c4 e4
        refine m_last (rk := rkO 7) (len := gB o 7) hc h31 hf8 hT4' (by rw [List.length_append]; omega) hA4 ok4 (fun I6 J6 eg2 hC h179 => tok I6 J6 (j4 + 1) _ (by rw [eg2]; rfl) ⟨⟨_, [], by rw [show opC [] = [] from rfl, List.append_nil], hC⟩, ⟨fun q => by omega, fun q => by omega, fun _ => h179⟩, ⟨fun q => by omega, fun q => by omega, fun q => by omega, fun q => by omega⟩⟩) (fun I6 J6 eg2 hN => tno I6 J6 1 j4 (by rw [eg2]; rfl) hN)
      by_cases c21 : wd = 21
      · rw [if_pos c21] at kok kno T0
        refine ih 0 0 (o + 1) (f + 1) q (i + 2) I'' J' (by omega) (by omega) E1 (mX_tst b182 k179 (by rw [k178, kv, if_pos c21]; exact Or.inr (Or.inr rfl)) k180 k64) (fun q => by omega) (fun I3 J3 j c e hA => ?_) (fun I3 J3 k i' e hN => kno I3 J3 k i' (by rw [e]; rfl) (mNo_t fr.1 hr.2.1 hN))
        rw [e, rB_r] at kok kno
        have ok := hok 0 0 (o + 1) (i + 2) (by omega) (by omega) (by omega) j c e
        refine m_piece (kd := 6) (w1 := 0) hc h31 T0 (by rw [List.length_nil]; omega) (Or.inr ⟨rfl, rfl⟩) hA ok (fun I4 J4 eg hT4 => ?_) (fun I4 J4 eg hN => ?_)
        · have eg' : gEx (kN1 tb n) (vN1 tb n) 44 j c = Sum.inr (j + 1, c) := eg
          rw [eg', rB_r] at kok kno
          exact tail I4 J4 (j + 1) c hT4 (by omega) kok kno
        · have eg' : gEx (kN1 tb n) (vN1 tb n) 44 j c = Sum.inl (1, j) := eg
          exact kno I4 J4 1 j (by rw [eg']; rfl) hN
      · rw [if_neg c21] at kok kno T0
        exact tail I'' J' (i + 2) [] T0 (by rw [List.length_nil]; omega) kok kno
end
