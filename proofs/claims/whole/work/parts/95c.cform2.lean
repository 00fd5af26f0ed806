/-! THE READERS: the class reads a sum or a test, by the grammar -/
def cPo (P : Nat → Int) (h : Nat) (I : mI) (o : Nat) (Q : mI → Prop) (r : Rs) : Prop := (∀ (I' : mI) (j : Nat) (cs : List (Int × Int)), r = Sum.inr (j, cs) → cOk h I I' j o cs → Q I') ∧ ∀ (I' : mI) (k : Int) (i' : Nat), r = Sum.inl (k, i') → cNo h I I' k (P i') → Q I'
theorem enc_op {s : Int} (h : 31 ≤ s) : enc (s, 0) = 21 - s := by
  unfold enc
  rw [if_neg (show ¬ s = 0 by omega), if_neg (show ¬ s ≤ 9 by omega), if_neg (show ¬ s = 30 by omega)]
theorem c_loop {K V P : Nat → Int} {m : Nat} {fm : Int} {h : Nat} {R : mR} {o : Nat} (hh : isLd h) (hR : R 141 2 = h) {I0 : mI} (h03 : I0 141 3 = (o : Int)) {Q : mI → Prop} {rc : RTrd2} {wn : Nat} {rd : Nat → Rs} {st : Nat → Int} {lp : Nat → Int → mI → Prop}
    (hrd : ∀ (i : Nat) (I : mI) (Q' : mI → Prop), LV K V P m fm h I i o → cPo P h I o Q' (rd i) → rc wn 0 I R Q')
    (hok : ∀ i, i ≤ m → ∀ j cs, rd i = Sum.inr (j, cs) → i < j ∧ j ≤ m ∧ cs.length + i ≤ j)
    (hst : ∀ i, i ≤ m → st i ≠ 0 → i < m ∧ 31 ≤ st i)
    (hlive : ∀ (f : Nat) (l : Int) (i : Nat) (I : mI), l < 1600 → LV K V P m fm h I i o → (st i = 0 → Q I) → (st i ≠ 0 → p10_step I (fun I2 => rc wn 0 I2 R (fun I3 => p6_emit (21 - st i) I3 R (fun I4 => rg (l + 1) ∧ lp f (l + 1) I4)))) → lp (f + 1) l I)
    (hcap : ∀ (f : Nat) (l : Int) (I : mI), 1600 ≤ l → Q I → lp (f + 1) l I)
    (hdead : ∀ (f : Nat) (l : Int) (I : mI), I 142 5 = I 142 3 → Q I → lp (f + 1) l I) :
    ∀ (f : Nat) (l : Int) (i : Nat) (I : mI) (cs : List (Int × Int)), l + f = 1600 → 0 ≤ l → LV K V P m fm h I i o → cOk h I0 I i o cs → cPo P h I0 o Q (gLp rd st f i cs) → lp (f + 1) l I
  | 0, l, i, I, cs, hl, h0, lv, hk, hp => hcap 0 l I (by omega) (hp.1 I i cs rfl hk)
  | f + 1, l, i, I, cs, hl, h0, lv, hk, hp => by
    refine hlive (f + 1) l i I (by omega) lv (fun z => hp.1 I i cs (by unfold gLp; rw [if_pos z]) hk) (fun z => ?_)
    have hs := hst i lv.2.2.1 z
    have ho := lv.2.2.2.2.1
    have hm := lv.1.2.1
    have l8 := lv.2.2.2.2.2.2.2
    have hp' : cPo P h I0 o Q (rB (rd (i + 1)) (fun j c => gLp rd st f j (cs ++ (c ++ [(st i, 0)])))) := by
      unfold gLp at hp; rw [if_neg z] at hp; exact hp
    refine c_stepT hh lv hs.1 (fun I2 k2 => ?_)
    have lv2 := LV_go hh lv k2 (by omega) ho (by rw [List.length_nil]; omega)
    refine hrd (i + 1) I2 _ lv2 ⟨fun I3 j c e k3 => ?_, fun I3 k i' e n3 => ?_⟩
    · have ok := hok (i + 1) (by omega) j c e
      have lv3 := LV_go hh lv2 k3 ok.2.1 ho ok.2.2
      have e2 := k2.2.2.2.2.2.1
      have e3 := k3.2.2.2.2.2.1
      rw [List.length_nil] at e2
      refine c_emitT hh hR (q := (st i, 0)) (enc_op hs.2).symm lv3 (by omega) (fun I4 k4 => ⟨by omega, ?_⟩)
      have k24 : cOk h I I4 j o (c ++ [(st i, 0)]) := by have x := cOk_t k2 (cOk_t k3 k4); exact x
      have lv4 := LV_go hh lv k24 ok.2.1 ho (by rw [List.length_append, List.length_singleton]; omega)
      have i4 := c_loop hh hR h03 hrd hok hst hlive hcap hdead f (l + 1) j I4 (cs ++ (c ++ [(st i, 0)])) (by omega) (by omega) lv4 (cOk_t hk k24) (by rw [e] at hp'; exact hp')
      exact i4
    · exact d_emit hh hR (I0 := I0) (cNo_t (cOk_t hk k2) (by omega) n3) (fun I4 n4 => ⟨by omega, hdead f (l + 1) I4 n4.2.1 (hp'.2 I4 k i' (by rw [e]; rfl) n4)⟩)
theorem c_ownH {K V P : Nat → Int} {m : Nat} {fm : Int} {h : Nat} {I : mI} {i o : Nat} {Q : Int → Prop} (hl : LV K V P m fm h I i o) (kk : Q (if K i = 1 then V i else -1)) : p6_ownHere I Q := by
  unfold p6_ownHere
  refine c_sort hl (zs (fun a => c_valu hl ?_) (fun a => ?_))
  · rw [if_pos a] at kk; exact kk
  · rw [if_neg a] at kk; exact kk
theorem c_vari {fm w : Int} {I : mI} {Q : Int → Prop} (h4 : I 141 4 = fm) (kk : Q (-(gVar fm w))) : p6_variable w I Q := by
  unfold p6_variable
  rw [h4]
  unfold gVar at kk
  refine zs (fun a => by rw [if_pos a] at kk; exact kk) (fun n15 => ?_)
  rw [if_neg n15] at kk
  refine zs (fun a => ?_) (fun a => ?_)
  · rw [if_pos a] at kk
    refine zs (fun b => by rw [if_pos b] at kk; exact kk) (fun b => ?_)
    rw [if_neg b] at kk
    refine zs (fun c => by rw [if_pos c] at kk; exact kk) (fun c => ?_)
    rw [if_neg c] at kk; exact kk
  rw [if_neg a] at kk
  refine zs (fun b => by rw [if_pos b] at kk; exact kk) (fun n16 => ?_)
  rw [if_neg n16] at kk
  refine zs (fun b => by rw [if_pos b] at kk; exact kk) (fun b => ?_)
  rw [if_neg b] at kk
  refine zs (fun b => by rw [if_pos b] at kk; exact kk) (fun b => ?_)
  rw [if_neg b] at kk
  refine zs (fun b => by rw [if_pos b] at kk; exact kk) (fun b => ?_)
  rw [if_neg b] at kk
  refine zf n15 (zf n16 ?_)
  refine zs (fun b => by rw [if_pos b] at kk; exact kk) (fun b => ?_)
  rw [if_neg b] at kk
  refine zs (fun b => by rw [if_pos b] at kk; exact kk) (fun b => ?_)
  rw [if_neg b] at kk
  refine zs (fun b => by rw [if_pos b] at kk; exact kk) (fun b => ?_)
  rw [if_neg b] at kk; exact kk
theorem gVar_m1 {fm : Int} : gVar fm (-1) = 0 := by
  unfold gVar
  rw [if_neg (by decide)]
  by_cases e : fm = 2
  · rw [if_pos e, if_neg (by decide), if_neg (by decide)]
  · rw [if_neg e, if_neg (by decide), if_neg (by decide)]
    by_cases e : fm = 1
    · rw [if_pos e]
    · rw [if_neg e, if_neg (by decide), if_neg (by decide), if_neg (by decide), if_neg (by decide)]
section
variable {K V P : Nat → Int} {m : Nat} {fm : Int} {h : Nat} {R : mR}
/-- the end of min, max, if, when nothing is read any more -/
theorem d_tail {wd : Int} {d o i0 j1 : Nat} {I0 I1 I : mI} {c1 : List (Int × Int)} {k pl : Int} {Q : mI → Prop} (hh : isLd h) (hR : R 141 2 = h) (hd : 3 ≤ d) (hl : LV K V P m fm h I0 i0 o) (k1 : cOk h I0 I1 j1 (o + 1) c1) (n : cNo h I1 I k pl) (kk : ∀ I', cNo h I0 I' k pl → Q I') : p6_readChosen_b46 (pGrd d) wd I R Q := by
  have nz : I 141 6 ≠ 0 := by rw [n.2.2.1.1]; exact n.2.2.1.2
  unfold p6_readChosen_b46
  exact dRd d 4 0 I _ (by omega) n.2.1 nz (d_expt n.2.1 nz (dRd d 4 0 I _ (by omega) n.2.1 nz (d_clos hh hl k1 n (fun I9 n9 => d_expt n9.2.1 (by rw [n9.2.2.1.1]; exact n9.2.2.1.2) (zs (fun _ => d_emit hh hR n9 kk) (fun _ => zs (fun _ => d_emit hh hR n9 kk) (fun _ => d_emit hh hR n9 kk)))))))
/-- the end of min, max, if -/
theorem c_tail {wd : Int} {rd : Nat → Rs} {d : Nat} {o : Nat} (hh : isLd h) (hR : R 141 2 = h) (hT : tkM K V m) (hd : 3 ≤ d) (hwd : wd = 21 ∨ wd = 26 ∨ wd = 27)
    (hrd : ∀ (i : Nat) (I : mI) (Q' : mI → Prop), LV K V P m fm h I i (o + 1) → cPo P h I (o + 1) Q' (rd i) → pGrd d 4 0 I R Q')
    (hok : ∀ i, i ≤ m → ∀ j cs, rd i = Sum.inr (j, cs) → i < j ∧ j ≤ m ∧ cs.length + i ≤ j)
    {I0 I : mI} {i0 j : Nat} {c : List (Int × Int)} {Q : mI → Prop} (hl : LV K V P m fm h I0 i0 o) (hk : cOk h I0 I j (o + 1) c) (hc : c.length + i0 + 1 ≤ j) (lv : LV K V P m fm h I j (o + 1)) (hp : cPo P h I0 o Q (gTl K V rd (gOp wd) j c)) : p6_readChosen_b46 (pGrd d) wd I R Q := by
  have ho := lv.2.2.2.2.1
  have hm := lv.1.2.1
  have l8 := hl.2.2.2.2.2.2.2
  have l3 := hl.2.2.2.1
  -- the last step, dead
  have em : ∀ (I10 : mI) (k : Int) (i' : Nat), gTl K V rd (gOp wd) j c = Sum.inl (k, i') → cNo h I0 I10 k (P i') → (if wd = 26 then (p6_emit (-15) I10 R (fun I13 => (Q I13))) else (if wd = 27 then (p6_emit (-16) I10 R (fun I12 => (Q I12))) else (p6_emit (-23) I10 R (fun I11 => (Q I11))))) := fun I10 k i' e n => zs (fun _ => d_emit hh hR n (fun I' n' => hp.2 I' k i' e n')) (fun _ => zs (fun _ => d_emit hh hR n (fun I' n' => hp.2 I' k i' e n')) (fun _ => d_emit hh hR n (fun I' n' => hp.2 I' k i' e n')))
  -- both rounds, dead
  have d2 : ∀ (I7 : mI) (k : Int) (i' : Nat) (I6 : mI) (j6 : Nat) (c6 : List (Int × Int)), gTl K V rd (gOp wd) j c = Sum.inl (k, i') → cOk h I0 I6 j6 (o + 1) c6 → cNo h I6 I7 k (P i') → (rg ((I7 141 3) - 1) ∧ (wLet (up I7 141 3 ((I7 141 3) - 1)) (fun I9 => (p6_expect 41 I9 (fun I10 => (if wd = 26 then (p6_emit (-15) I10 R (fun I13 => (Q I13))) else (if wd = 27 then (p6_emit (-16) I10 R (fun I12 => (Q I12))) else (p6_emit (-23) I10 R (fun I11 => (Q I11)))))))))) := fun I7 k i' I6 j6 c6 e k6 n7 => d_clos (I1 := I6) hh hl k6 n7 (fun I9 n9 => d_expt n9.2.1 (by rw [n9.2.2.1.1]; exact n9.2.2.1.2) (em I9 k i' e n9))
  have d1 : ∀ (I7 : mI) (k : Int) (i' : Nat) (I6 : mI) (j6 : Nat) (c6 : List (Int × Int)), gTl K V rd (gOp wd) j c = Sum.inl (k, i') → cOk h I0 I6 j6 (o + 1) c6 → cNo h I6 I7 k (P i') → (pGrd d 4 0 I7 R (fun I8 => (rg ((I8 141 3) - 1) ∧ (wLet (up I8 141 3 ((I8 141 3) - 1)) (fun I9 => (p6_expect 41 I9 (fun I10 => (if wd = 26 then (p6_emit (-15) I10 R (fun I13 => (Q I13))) else (if wd = 27 then (p6_emit (-16) I10 R (fun I12 => (Q I12))) else (p6_emit (-23) I10 R (fun I11 => (Q I11)))))))))))) := fun I7 k i' I6 j6 c6 e k6 n7 => dRd d 4 0 I7 _ (by omega) n7.2.1 (by rw [n7.2.2.1.1]; exact n7.2.2.1.2) (d2 I7 k i' I6 j6 c6 e k6 n7)
  unfold gTl at hp em d1 d2
  unfold p6_readChosen_b46
  refine hrd j I _ lv ⟨fun I6 j2 c2 e2 k6 => ?_, fun I6 k i' e n6 => ?_⟩
  rotate_left
  · refine d_expt n6.2.1 (by rw [n6.2.2.1.1]; exact n6.2.2.1.2) (d1 I6 k i' I j c ?_ hk n6)
    rw [e]; rfl
  rw [e2] at hp em d1 d2
  have ok2 := hok j lv.2.2.1 j2 c2 e2
  have lv6 := LV_go hh lv k6 ok2.2.1 ho ok2.2.2
  have k06 := cOk_t hk k6
  have len6 : (c ++ c2).length + i0 + 1 ≤ j2 := by rw [List.length_append]; omega
  have hp2 : cPo P h I0 o Q (rB (gEx K V 44 j2 (c ++ c2)) (fun j3 c3 => rB (rd j3) (fun j4 c4 => rB (gEx K V 41 j4 (c3 ++ c4)) (fun j5 c5 => Sum.inr (j5, c5 ++ [(gOp wd, 0)]))))) := hp
  have em2 : ∀ (I10 : mI) (k : Int) (i' : Nat), rB (gEx K V 44 j2 (c ++ c2)) (fun j3 c3 => rB (rd j3) (fun j4 c4 => rB (gEx K V 41 j4 (c3 ++ c4)) (fun j5 c5 => Sum.inr (j5, c5 ++ [(gOp wd, 0)])))) = Sum.inl (k, i') → _ := em
  refine c_expt hh lv6 (fun a => tkM_lt hT ok2.2.1 (by rw [a.1]; decide)) (fun I7 a k7 => ?_) (fun I7 a n7 => ?_)
  rotate_left
  · refine d1 I7 1 j2 I6 j2 _ ?_ k06 n7
    rw [rB_r]
    unfold gEx; rw [if_neg a]; rfl
  have g1 : gEx K V 44 j2 (c ++ c2) = Sum.inr (j2 + 1, c ++ c2) := by unfold gEx; rw [if_pos a]
  have j2m := tkM_lt hT ok2.2.1 (by rw [a.1]; decide)
  rw [g1] at hp2
  have k07 : cOk h I0 I7 (j2 + 1) (o + 1) (c ++ c2) := by
    have x := cOk_t k06 k7
    rw [List.append_nil] at x; exact x
  have lv7 := LV_go hh lv6 k7 j2m ho (by rw [List.length_nil]; omega)
  refine hrd (j2 + 1) I7 _ lv7 ⟨fun I8 j4 c4 e4 k8 => ?_, fun I8 k i' e n8 => ?_⟩
  rotate_left
  · refine d2 I8 k i' I7 (j2 + 1) _ ?_ k07 n8
    rw [rB_r, g1, rB_r, e]; rfl
  have hp3 : cPo P h I0 o Q (rB (rd (j2 + 1)) (fun j4 c4 => rB (gEx K V 41 j4 ((c ++ c2) ++ c4)) (fun j5 c5 => Sum.inr (j5, c5 ++ [(gOp wd, 0)])))) := hp2
  rw [e4] at hp3
  have hp4 : cPo P h I0 o Q (rB (gEx K V 41 j4 ((c ++ c2) ++ c4)) (fun j5 c5 => Sum.inr (j5, c5 ++ [(gOp wd, 0)]))) := hp3
  have ok4 := hok (j2 + 1) (by omega) j4 c4 e4
  have k08 := cOk_t k07 k8
  have len8 : ((c ++ c2) ++ c4).length + i0 + 1 ≤ j4 := by rw [List.length_append]; omega
  refine c_clos hh hl k08 (fun I9 k9 => ?_)
  have lv9 := LV_go hh hl k9 ok4.2.1 (by omega) (by omega)
  refine c_expt hh lv9 (fun a => tkM_lt hT ok4.2.1 (by rw [a.1]; decide)) (fun I10 a2 k10 => ?_) (fun I10 a2 n10 => ?_)
  rotate_left
  · refine em I10 1 j4 ?_ (cNo_t k9 (by omega) n10)
    rw [rB_r, g1, rB_r, e4, rB_r]
    unfold gEx; rw [if_neg a2]; rfl
  have g2 : gEx K V 41 j4 ((c ++ c2) ++ c4) = Sum.inr (j4 + 1, (c ++ c2) ++ c4) := by unfold gEx; rw [if_pos a2]
  have j4m := tkM_lt hT ok4.2.1 (by rw [a2.1]; decide)
  rw [g2] at hp4
  have k010 : cOk h I0 I10 (j4 + 1) o ((c ++ c2) ++ c4) := by
    have x := cOk_t k9 k10
    rw [List.append_nil] at x; exact x
  have lv10 := LV_go hh hl k010 j4m (by omega) (by omega)
  have e10 := k010.2.2.2.2.2.1
  have fin : ∀ I11 : mI, cOk h I10 I11 (j4 + 1) o [(gOp wd, 0)] → Q I11 := fun I11 k11 => hp4.1 I11 (j4 + 1) _ rfl (cOk_t k010 k11)
  refine zs (fun w => ?_) (fun w => zs (fun w2 => ?_) (fun w2 => ?_))
  · exact c_emitT hh hR (q := (gOp wd, 0)) (by rw [w]; rfl) lv10 (by omega) fin
  · exact c_emitT hh hR (q := (gOp wd, 0)) (by rw [w2]; rfl) lv10 (by omega) fin
  · have w3 : wd = 21 := by omega
    exact c_emitT hh hR (q := (gOp wd, 0)) (by rw [w3]; rfl) lv10 (by omega) fin
theorem cRd (hh : isLd h) (hR : R 141 2 = h) (hT : tkM K V m) (hf : fm = 0 ∨ fm = 1 ∨ fm = 2) : ∀ (d w : Nat) (wd : Int) (o i : Nat) (I : mI) (Q : mI → Prop), w ≤ 7 → gB o w ≤ d → LV K V P m fm h I i o → (w = 7 → i < m ∧ (wd = 21 ∨ wd = 26 ∨ wd = 27)) → cPo P h I o Q (gR K V fm d w wd o i) → pGrd d w wd I R Q
  | 0, w, wd, o, i, I, Q, hw, hb, hl, h7, hp => by
    unfold gB at hb
    have := hl.2.2.2.2.1
    have w7 : w = 7 ∨ w ≤ 6 := by omega
    omega
  | d + 1, w, wd, o, i, I, Q, hw, hb, hl, h7, hp => by
    have ih := cRd hh hR hT hf d
    have ho := hl.2.2.2.2.1
    have him := hl.2.2.1
    have hm := hl.1.2.1
    have l8 := hl.2.2.2.2.2.2.2
    have l4 := hl.2.2.2.2.2.2.1
    have l3 := hl.2.2.2.1
    have hok : ∀ (w : Nat) (wd : Int) (o i : Nat), w ≤ 6 → o ≤ 7 → i ≤ m → ∀ j cs, gR K V fm d w wd o i = Sum.inr (j, cs) → i < j ∧ j ≤ m ∧ cs.length + i ≤ j := fun w wd o i a b c j cs e => by
      have g := g_ok hT hf d w wd o i (by omega) b c (fun q => by omega) j cs e
      exact ⟨g.1, g.2.1, g.2.2.1⟩
    have hcase : w = 0 ∨ w = 1 ∨ w = 2 ∨ w = 3 ∨ w = 4 ∨ w = 5 ∨ w = 6 ∨ w = 7 := by omega
    rcases hcase with rfl | rfl | rfl | rfl | rfl | rfl | rfl | rfl
    · show p6_readTest (pGrd d) I R Q
      have hp' : cPo P h I o Q (rB (gR K V fm d 1 0 o i) (fun j c => gLp (gR K V fm d 1 0 o) (sOr K V) 1600 j c)) := hp
      unfold p6_readTest
      refine ih 1 0 o i I _ (by omega) (by unfold gB at hb ⊢; omega) hl (fun q => by omega) ⟨fun I1 j c e k1 => ⟨1601, ?_⟩, fun I1 k i' e n1 => ⟨1, ?_⟩⟩
      · rw [e] at hp'
        have ok := hok 1 0 o i (by omega) ho him j c e
        refine c_loop hh hR l3 (rc := pGrd d) (wn := 1) (rd := gR K V fm d 1 0 o) (st := sOr K V) (lp := p6_readTest_b6 (pGrd d) R Q) (fun i I Q' lv hp => ih 1 0 o i I Q' (by omega) (by unfold gB at hb ⊢; omega) lv (fun q => by omega) hp) (fun i a => hok 1 0 o i (by omega) ho a) (fun i a z => ⟨tkM_lt hT a (by rw [(sOr_k z).1.1]; decide), by rw [(sOr_k z).2]; decide⟩) (fun f l i I hlt lv z0 z1 => ?_) (fun f l I a q => ?_) (fun f l I a q => ?_) 1600 0 j I1 c (by decide) (by decide) (LV_go hh hl k1 ok.2.1 ho ok.2.2) k1 hp'
        · show p6_readTest_b6_body (pGrd d) R Q (p6_readTest_b6 (pGrd d) R Q f) l I
          unfold p6_readTest_b6_body
          refine zf (by omega) (c_isOw lv (fun a => zf (by decide) ?_) (fun a => zt rfl (z0 ?_)))
          · have e : sOr K V i = 42 := by unfold sOr; rw [if_pos a]
            rw [e] at z1; exact z1 (by decide)
          · unfold sOr; rw [if_neg a]
        · show p6_readTest_b6_body (pGrd d) R Q (p6_readTest_b6 (pGrd d) R Q f) l I
          unfold p6_readTest_b6_body
          exact zt a q
        · show p6_readTest_b6_body (pGrd d) R Q (p6_readTest_b6 (pGrd d) R Q f) l I
          unfold p6_readTest_b6_body
          exact zs (fun _ => q) (fun _ => d_isOw a (zt rfl q))
      · show p6_readTest_b6_body (pGrd d) R Q (p6_readTest_b6 (pGrd d) R Q 0) 0 I1
        unfold p6_readTest_b6_body
        exact zf (by decide) (d_isOw n1.2.1 (zt rfl (hp'.2 I1 k i' (by rw [e]; rfl) n1)))
    · show p6_readBoth (pGrd d) I R Q
      have hp' : cPo P h I o Q (rB (gR K V fm d 2 0 o i) (fun j c => gLp (gR K V fm d 2 0 o) (sAnd K V) 1600 j c)) := hp
      unfold p6_readBoth
      refine ih 2 0 o i I _ (by omega) (by unfold gB at hb ⊢; omega) hl (fun q => by omega) ⟨fun I1 j c e k1 => ⟨1601, ?_⟩, fun I1 k i' e n1 => ⟨1, ?_⟩⟩
      · rw [e] at hp'
        have ok := hok 2 0 o i (by omega) ho him j c e
        refine c_loop hh hR l3 (rc := pGrd d) (wn := 2) (rd := gR K V fm d 2 0 o) (st := sAnd K V) (lp := p6_readBoth_b6 (pGrd d) R Q) (fun i I Q' lv hp => ih 2 0 o i I Q' (by omega) (by unfold gB at hb ⊢; omega) lv (fun q => by omega) hp) (fun i a => hok 2 0 o i (by omega) ho a) (fun i a z => ⟨tkM_lt hT a (by rw [(sAnd_k z).1.1]; decide), by rw [(sAnd_k z).2]; decide⟩) (fun f l i I hlt lv z0 z1 => ?_) (fun f l I a q => ?_) (fun f l I a q => ?_) 1600 0 j I1 c (by decide) (by decide) (LV_go hh hl k1 ok.2.1 ho ok.2.2) k1 hp'
        · show p6_readBoth_b6_body (pGrd d) R Q (p6_readBoth_b6 (pGrd d) R Q f) l I
          unfold p6_readBoth_b6_body
          refine zf (by omega) (c_isOw lv (fun a => zf (by decide) ?_) (fun a => zt rfl (z0 ?_)))
          · have e : sAnd K V i = 41 := by unfold sAnd; rw [if_pos a]
            rw [e] at z1; exact z1 (by decide)
          · unfold sAnd; rw [if_neg a]
        · show p6_readBoth_b6_body (pGrd d) R Q (p6_readBoth_b6 (pGrd d) R Q f) l I
          unfold p6_readBoth_b6_body
          exact zt a q
        · show p6_readBoth_b6_body (pGrd d) R Q (p6_readBoth_b6 (pGrd d) R Q f) l I
          unfold p6_readBoth_b6_body
          exact zs (fun _ => q) (fun _ => d_isOw a (zt rfl q))
      · show p6_readBoth_b6_body (pGrd d) R Q (p6_readBoth_b6 (pGrd d) R Q 0) 0 I1
        unfold p6_readBoth_b6_body
        exact zf (by decide) (d_isOw n1.2.1 (zt rfl (hp'.2 I1 k i' (by rw [e]; rfl) n1)))
    · show p6_readFact (pGrd d) I R Q
      have hp' : cPo P h I o Q (if K i = 1 ∧ V i = 24 then (if 7 ≤ o then Sum.inl (5, i) else rB (gR K V fm d 2 0 (o + 1) (i + 1)) (fun j c => Sum.inr (j, c ++ [(43, 0)])))
       else if K i = 4 ∧ V i = 91 then (if 7 ≤ o then Sum.inl (5, i) else rB (gR K V fm d 0 0 (o + 1) (i + 1)) (fun j c => gEx K V 93 j c))
       else if K i = 1 ∧ V i = 25 then Sum.inr (i + 1, [(30, 0)])
       else gR K V fm d 3 0 o i) := hp
      unfold p6_readFact
      refine c_isOw hl (fun a => zf (by decide) ?_) (fun a => zt rfl (c_isSg hl (fun a2 => zf (by decide) ?_) (fun a2 => zt rfl (c_isOw hl (fun a3 => zf (by decide) ?_) (fun a3 => zt rfl ?_)))))
      · rw [if_pos a] at hp'
        have im := tkM_lt hT him (by rw [a.1]; decide)
        refine c_opnT hh hl im (fun I8 no k8 => zf (by decide) ?_) (fun I8 yes n8 => zt rfl ?_)
        · rw [if_neg no] at hp'
          have lv8 := LV_go hh hl k8 im (by omega) (by rw [List.length_nil]; omega)
          refine ih 2 0 (o + 1) (i + 1) I8 _ (by omega) (by unfold gB at hb ⊢; omega) lv8 (fun q => by omega) ⟨fun I9 j c e k9 => ?_, fun I9 k i' e n9 => ?_⟩
          · rw [e] at hp'
            have ok := hok 2 0 (o + 1) (i + 1) (by omega) (by omega) im j c e
            refine c_clos hh hl (cOk_t k8 k9) (fun I10 k10 => ?_)
            have k10' : cOk h I I10 j o c := k10
            have lv10 := LV_go hh hl k10' ok.2.1 ho (by omega)
            have e10 := k10'.2.2.2.2.2.1
            exact c_emitT hh hR (q := (43, 0)) rfl lv10 (by omega) (fun I11 k11 => hp'.1 I11 j (c ++ [(43, 0)]) rfl (cOk_t k10' k11))
          · refine d_clos hh hl k8 n9 (fun I10 n10 => d_emit hh hR n10 (fun I11 n11 => hp'.2 I11 k i' (by rw [e]; rfl) n11))
        · rw [if_pos yes] at hp'
          exact hp'.2 I8 5 i rfl n8
      · rw [if_neg a, if_pos a2] at hp'
        have im := tkM_lt hT him (by rw [a2.1]; decide)
        refine c_opnT hh hl im (fun I8 no k8 => zf (by decide) ?_) (fun I8 yes n8 => zt rfl ?_)
        · rw [if_neg no] at hp'
          have lv8 := LV_go hh hl k8 im (by omega) (by rw [List.length_nil]; omega)
          refine ih 0 0 (o + 1) (i + 1) I8 _ (by omega) (by unfold gB at hb ⊢; omega) lv8 (fun q => by omega) ⟨fun I9 j c e k9 => ?_, fun I9 k i' e n9 => ?_⟩
          · rw [e] at hp'
            have hp2 : cPo P h I o Q (gEx K V 93 j c) := hp'
            have ok := hok 0 0 (o + 1) (i + 1) (by omega) (by omega) im j c e
            refine c_clos hh hl (cOk_t k8 k9) (fun I10 k10 => ?_)
            have k10' : cOk h I I10 j o c := k10
            have lv10 := LV_go hh hl k10' ok.2.1 ho (by omega)
            unfold gEx at hp2
            refine c_expt hh lv10 (fun b => tkM_lt hT ok.2.1 (by rw [b.1]; decide)) (fun I11 b k11 => ?_) (fun I11 b n11 => ?_)
            · rw [if_pos b] at hp2
              have x := cOk_t k10' k11
              rw [List.append_nil] at x
              exact hp2.1 I11 (j + 1) c rfl x
            · rw [if_neg b] at hp2
              exact hp2.2 I11 1 j rfl (cNo_t k10' (by omega) n11)
          · refine d_clos hh hl k8 n9 (fun I10 n10 => d_expt n10.2.1 (by rw [n10.2.2.1.1]; exact n10.2.2.1.2) (hp'.2 I10 k i' (by rw [e]; rfl) n10))
        · rw [if_pos yes] at hp'
          exact hp'.2 I8 5 i rfl n8
      · rw [if_neg a, if_neg a2, if_pos a3] at hp'
        have im := tkM_lt hT him (by rw [a3.1]; decide)
        exact c_emSt hh hR (q := (30, 0)) rfl hl im (fun I2 k2 => hp'.1 I2 (i + 1) _ rfl k2)
      · rw [if_neg a, if_neg a2, if_neg a3] at hp'
        exact ih 3 0 o i I _ (by omega) (by unfold gB at hb ⊢; omega) hl (fun q => by omega) hp'
    · show p6_readComparison (pGrd d) I R Q
      have hp' : cPo P h I o Q (rB (gR K V fm d 4 0 o i) (fun j c => if sCmp K V j = 0 then Sum.inl (1, j) else rB (gR K V fm d 4 0 o (j + 1)) (fun j2 c2 => Sum.inr (j2, c ++ (c2 ++ [(sCmp K V j, 0)]))))) := hp
      unfold p6_readComparison
      refine ih 4 0 o i I _ (by omega) (by unfold gB at hb ⊢; omega) hl (fun q => by omega) ⟨fun I1 j c e k1 => ?_, fun I1 k i' e n1 => ?_⟩
      · rw [e] at hp'
        have hp2 : cPo P h I o Q (if sCmp K V j = 0 then Sum.inl (1, j) else rB (gR K V fm d 4 0 o (j + 1)) (fun j2 c2 => Sum.inr (j2, c ++ (c2 ++ [(sCmp K V j, 0)])))) := hp'
        have ok := hok 4 0 o i (by omega) ho him j c e
        have lv1 := LV_go hh hl k1 ok.2.1 ho ok.2.2
        have go : sCmp K V j ≠ 0 → p6_readComparison_b56 (pGrd d) (21 - sCmp K V j) I1 R Q := fun z => by
          rw [if_neg z] at hp2
          have sk := sCmp_k z
          have jm := tkM_lt hT ok.2.1 (by rw [sk.1]; decide)
          unfold p6_readComparison_b56
          refine c_stepT hh lv1 jm (fun I3 k3 => ?_)
          have lv3 := LV_go hh lv1 k3 jm ho (by rw [List.length_nil]; omega)
          refine ih 4 0 o (j + 1) I3 _ (by omega) (by unfold gB at hb ⊢; omega) lv3 (fun q => by omega) ⟨fun I4 j4 c4 e4 k4 => ?_, fun I4 k i' e4 n4 => ?_⟩
          · rw [e4] at hp2
            have ok4 := hok 4 0 o (j + 1) (by omega) ho jm j4 c4 e4
            have lv4 := LV_go hh lv3 k4 ok4.2.1 ho ok4.2.2
            have e3 := k3.2.2.2.2.2.1
            have e5 := k4.2.2.2.2.2.1
            have e1 := k1.2.2.2.2.2.1
            rw [List.length_nil] at e3
            refine c_emitT hh hR (q := (sCmp K V j, 0)) (enc_op (by omega)).symm lv4 (by omega) (fun I5 k5 => ?_)
            have kx : cOk h I1 I5 j4 o (c4 ++ [(sCmp K V j, 0)]) := by have x := cOk_t k3 (cOk_t k4 k5); exact x
            exact hp2.1 I5 j4 _ rfl (cOk_t k1 kx)
          · exact d_emit hh hR (I0 := I) (cNo_t (cOk_t k1 k3) (by omega) n4) (fun I5 n5 => hp2.2 I5 k i' (by rw [e4]; rfl) n5)
        refine c_isSg lv1 (fun a => zf (by decide) ?_) (fun a => zt rfl (c_isSg lv1 (fun a2 => zf (by decide) ?_) (fun a2 => zt rfl ?_)))
        · have e : sCmp K V j = 38 := by unfold sCmp; rw [if_pos a]
          unfold p6_readComparison_b34
          refine zf (by decide) ?_
          rw [e] at go; exact go (by decide)
        · have e : sCmp K V j = 39 := by unfold sCmp; rw [if_neg a, if_pos a2]
          unfold p6_readComparison_b34
          refine zf (by decide) ?_
          rw [e] at go; exact go (by decide)
        · unfold p6_readComparison_b34
          refine zt rfl (c_isSg lv1 (fun a3 => zf (by decide) ?_) (fun a3 => zt rfl ?_))
          · have e : sCmp K V j = 40 := by unfold sCmp; rw [if_neg a, if_neg a2, if_pos a3]
            rw [e] at go; exact go (by decide)
          · have e : sCmp K V j = 0 := by unfold sCmp; rw [if_neg a, if_neg a2, if_neg a3]
            rw [if_pos e] at hp2
            exact c_fail hh lv1 (by decide) (fun I2 n2 => hp2.2 I2 1 j rfl (cNo_t k1 (by omega) n2))
      · refine d_isSg n1.2.1 (zt rfl (d_isSg n1.2.1 (zt rfl ?_)))
        unfold p6_readComparison_b34
        exact zt rfl (d_isSg n1.2.1 (zt rfl (d_fail n1.2.1 (by rw [n1.2.2.1.1]; exact n1.2.2.1.2) (hp'.2 I1 k i' (by rw [e]; rfl) n1))))
    · show p6_readSum (pGrd d) I R Q
      have hp' : cPo P h I o Q (rB (gR K V fm d 5 0 o i) (fun j c => gLp (gR K V fm d 5 0 o) (sSum K V) 1600 j c)) := hp
      unfold p6_readSum
      refine ih 5 0 o i I _ (by omega) (by unfold gB at hb ⊢; omega) hl (fun q => by omega) ⟨fun I1 j c e k1 => ⟨1601, ?_⟩, fun I1 k i' e n1 => ⟨1, ?_⟩⟩
      · rw [e] at hp'
        have ok := hok 5 0 o i (by omega) ho him j c e
        refine c_loop hh hR l3 (rc := pGrd d) (wn := 5) (rd := gR K V fm d 5 0 o) (st := sSum K V) (lp := p6_readSum_b6 (pGrd d) R Q) (fun i I Q' lv hp => ih 5 0 o i I Q' (by omega) (by unfold gB at hb ⊢; omega) lv (fun q => by omega) hp) (fun i a => hok 5 0 o i (by omega) ho a) (fun i a z => ⟨tkM_lt hT a (by rw [(sSum_k z).1]; decide), by have := sSum_k z; omega⟩) (fun f l i I hlt lv z0 z1 => ?_) (fun f l I a q => ?_) (fun f l I a q => ?_) 1600 0 j I1 c (by decide) (by decide) (LV_go hh hl k1 ok.2.1 ho ok.2.2) k1 hp'
        · show p6_readSum_b6_body (pGrd d) R Q (p6_readSum_b6 (pGrd d) R Q f) l I
          unfold p6_readSum_b6_body
          refine zf (by omega) (c_isSg lv (fun a => zf (by decide) ?_) (fun a => zt rfl (c_isSg lv (fun a2 => zf (by decide) ?_) (fun a2 => zt rfl (z0 ?_)))))
          · have e : sSum K V i = 31 := by unfold sSum; rw [if_pos a]
            rw [e] at z1
            unfold p6_readSum_b31
            refine c_isSg lv (fun _ => zf (by decide) ?_) (fun b => absurd a b)
            unfold p6_readSum_b47
            exact z1 (by decide)
          · have e : sSum K V i = 32 := by unfold sSum; rw [if_neg a, if_pos a2]
            rw [e] at z1
            unfold p6_readSum_b31
            refine c_isSg lv (fun b => absurd b a) (fun _ => zt rfl ?_)
            unfold p6_readSum_b47
            exact z1 (by decide)
          · unfold sSum; rw [if_neg a, if_neg a2]
        · show p6_readSum_b6_body (pGrd d) R Q (p6_readSum_b6 (pGrd d) R Q f) l I
          unfold p6_readSum_b6_body
          exact zt a q
        · show p6_readSum_b6_body (pGrd d) R Q (p6_readSum_b6 (pGrd d) R Q f) l I
          unfold p6_readSum_b6_body
          exact zs (fun _ => q) (fun _ => d_isSg a (zt rfl (d_isSg a (zt rfl q))))
      · show p6_readSum_b6_body (pGrd d) R Q (p6_readSum_b6 (pGrd d) R Q 0) 0 I1
        unfold p6_readSum_b6_body
        exact zf (by decide) (d_isSg n1.2.1 (zt rfl (d_isSg n1.2.1 (zt rfl (hp'.2 I1 k i' (by rw [e]; rfl) n1)))))
    · show p6_readProduct (pGrd d) I R Q
      have hp' : cPo P h I o Q (rB (gR K V fm d 6 0 o i) (fun j c => gLp (gR K V fm d 6 0 o) (sPro K V) 1600 j c)) := hp
      unfold p6_readProduct
      refine ih 6 0 o i I _ (by omega) (by unfold gB at hb ⊢; omega) hl (fun q => by omega) ⟨fun I1 j c e k1 => ⟨1601, ?_⟩, fun I1 k i' e n1 => ⟨1, ?_⟩⟩
      · rw [e] at hp'
        have ok := hok 6 0 o i (by omega) ho him j c e
        refine c_loop hh hR l3 (rc := pGrd d) (wn := 6) (rd := gR K V fm d 6 0 o) (st := sPro K V) (lp := p6_readProduct_b6 (pGrd d) R Q) (fun i I Q' lv hp => ih 6 0 o i I Q' (by omega) (by unfold gB at hb ⊢; omega) lv (fun q => by omega) hp) (fun i a => hok 6 0 o i (by omega) ho a) (fun i a z => ⟨tkM_lt hT a (by rw [(sPro_k z).1]; decide), by have := sPro_k z; omega⟩) (fun f l i I hlt lv z0 z1 => ?_) (fun f l I a q => ?_) (fun f l I a q => ?_) 1600 0 j I1 c (by decide) (by decide) (LV_go hh hl k1 ok.2.1 ho ok.2.2) k1 hp'
        · show p6_readProduct_b6_body (pGrd d) R Q (p6_readProduct_b6 (pGrd d) R Q f) l I
          unfold p6_readProduct_b6_body
          have go : sPro K V i ≠ 0 → p6_readProduct_b40 (pGrd d) l I R (p6_readProduct_b6 (pGrd d) R Q f) Q := fun z => by
            unfold p6_readProduct_b40
            have z2 := z1 z
            unfold sPro at z2
            refine c_isSg lv (fun a => zf (by decide) ?_) (fun a => zt rfl (c_isSg lv (fun a2 => zf (by decide) ?_) (fun a2 => zt rfl ?_)))
            · rw [if_pos a] at z2
              unfold p6_readProduct_b70
              exact z2
            · rw [if_neg a, if_pos a2] at z2
              unfold p6_readProduct_b70
              exact z2
            · have a3 : K i = 4 ∧ V i = 37 := by
                have sk := sPro_k z
                refine ⟨sk.1, ?_⟩
                rcases sk.2 with q | q | q
                · exact absurd ⟨sk.1, q.1⟩ a
                · exact absurd ⟨sk.1, q.1⟩ a2
                · exact q.1
              rw [if_neg a, if_neg a2, if_pos a3] at z2
              unfold p6_readProduct_b70
              exact z2
          refine zf (by omega) (c_isSg lv (fun a => zf (by decide) (go ?_)) (fun a => zt rfl (c_isSg lv (fun a2 => zf (by decide) (go ?_)) (fun a2 => zt rfl (c_isSg lv (fun a3 => zf (by decide) (go ?_)) (fun a3 => zt rfl (z0 ?_)))))))
          · unfold sPro; rw [if_pos a]; decide
          · unfold sPro; rw [if_neg a, if_pos a2]; decide
          · unfold sPro; rw [if_neg a, if_neg a2, if_pos a3]; decide
          · unfold sPro; rw [if_neg a, if_neg a2, if_neg a3]
        · show p6_readProduct_b6_body (pGrd d) R Q (p6_readProduct_b6 (pGrd d) R Q f) l I
          unfold p6_readProduct_b6_body
          exact zt a q
        · show p6_readProduct_b6_body (pGrd d) R Q (p6_readProduct_b6 (pGrd d) R Q f) l I
          unfold p6_readProduct_b6_body
          exact zs (fun _ => q) (fun _ => d_isSg a (zt rfl (d_isSg a (zt rfl (d_isSg a (zt rfl q))))))
      · show p6_readProduct_b6_body (pGrd d) R Q (p6_readProduct_b6 (pGrd d) R Q 0) 0 I1
        unfold p6_readProduct_b6_body
        exact zf (by decide) (d_isSg n1.2.1 (zt rfl (d_isSg n1.2.1 (zt rfl (d_isSg n1.2.1 (zt rfl (hp'.2 I1 k i' (by rw [e]; rfl) n1)))))))
    · show p6_readPart (pGrd d) I R Q
      have hp' : cPo P h I o Q (if K i = 3 then Sum.inr (i + 1, [(0, V i)])
       else if K i = 1 ∧ gVar fm (V i) ≠ 0 then Sum.inr (i + 1, [(gVar fm (V i), 0)])
       else if K i = 4 ∧ V i = 40 then (if 7 ≤ o then Sum.inl (5, i) else rB (gR K V fm d 4 0 (o + 1) (i + 1)) (fun j c => gEx K V 41 j c))
       else if K i = 1 ∧ (V i = 26 ∨ V i = 27 ∨ V i = 21) then gR K V fm d 7 (V i) o i
       else Sum.inl (1, i)) := hp
      unfold p6_readPart
      refine c_ownH hl (c_vari l4 (c_sort hl (zs (fun a => ?_) (fun a => zs (fun b => ?_) (fun b => ?_)))))
      · rw [if_pos a] at hp'
        have im := tkM_lt hT him (by rw [a]; decide)
        exact c_valu hl (c_emSt hh hR (q := (0, V i)) rfl hl im (fun I2 k2 => hp'.1 I2 (i + 1) _ rfl k2))
      · have nv : ¬ (K i = 1 ∧ gVar fm (V i) ≠ 0) := fun q => by
          rw [if_pos q.1] at b
          exact q.2 (by omega)
        rw [if_neg a, if_neg nv] at hp'
        have ch : K i = 1 ∧ (V i = 26 ∨ V i = 27 ∨ V i = 21) → ¬ (K i = 4 ∧ V i = 40) → p6_ownHere I (fun r => pGrd d 7 r I R Q) := fun q nq => by
          rw [if_neg nq, if_pos q] at hp'
          have im := tkM_lt hT him (by rw [q.1]; decide)
          refine c_ownH hl ?_
          rw [if_pos q.1]
          exact ih 7 (V i) o i I Q (by omega) (by unfold gB at hb ⊢; omega) hl (fun _ => ⟨im, by omega⟩) hp'
        refine c_isSg hl (fun a2 => zf (by decide) ?_) (fun a2 => zt rfl (c_isOw hl (fun a3 => zf (by decide) (ch ⟨a3.1, Or.inl a3.2⟩ a2)) (fun a3 => zt rfl (c_isOw hl (fun a4 => zf (by decide) (ch ⟨a4.1, Or.inr (Or.inl a4.2)⟩ a2)) (fun a4 => zt rfl (c_isOw hl (fun a5 => zf (by decide) (ch ⟨a5.1, Or.inr (Or.inr a5.2)⟩ a2)) (fun a5 => zt rfl ?_)))))))
        · rw [if_pos a2] at hp'
          have im := tkM_lt hT him (by rw [a2.1]; decide)
          refine c_opnT hh hl im (fun I8 no k8 => zf (by decide) ?_) (fun I8 yes n8 => zt rfl ?_)
          · rw [if_neg no] at hp'
            have lv8 := LV_go hh hl k8 im (by omega) (by rw [List.length_nil]; omega)
            refine ih 4 0 (o + 1) (i + 1) I8 _ (by omega) (by unfold gB at hb ⊢; omega) lv8 (fun q => by omega) ⟨fun I9 j c e k9 => ?_, fun I9 k i' e n9 => ?_⟩
            · rw [e] at hp'
              have hp2 : cPo P h I o Q (gEx K V 41 j c) := hp'
              have ok := hok 4 0 (o + 1) (i + 1) (by omega) (by omega) im j c e
              refine c_clos hh hl (cOk_t k8 k9) (fun I10 k10 => ?_)
              have k10' : cOk h I I10 j o c := k10
              have lv10 := LV_go hh hl k10' ok.2.1 ho (by omega)
              unfold gEx at hp2
              refine c_expt hh lv10 (fun b => tkM_lt hT ok.2.1 (by rw [b.1]; decide)) (fun I11 b k11 => ?_) (fun I11 b n11 => ?_)
              · rw [if_pos b] at hp2
                have x := cOk_t k10' k11
                rw [List.append_nil] at x
                exact hp2.1 I11 (j + 1) c rfl x
              · rw [if_neg b] at hp2
                exact hp2.2 I11 1 j rfl (cNo_t k10' (by omega) n11)
            · refine d_clos hh hl k8 n9 (fun I10 n10 => d_expt n10.2.1 (by rw [n10.2.2.1.1]; exact n10.2.2.1.2) (hp'.2 I10 k i' (by rw [e]; rfl) n10))
          · rw [if_pos yes] at hp'
            exact hp'.2 I8 5 i rfl n8
        · have nc : ¬ (K i = 1 ∧ (V i = 26 ∨ V i = 27 ∨ V i = 21)) := fun q => by
            rcases q.2 with x | x | x
            · exact a3 ⟨q.1, x⟩
            · exact a4 ⟨q.1, x⟩
            · exact a5 ⟨q.1, x⟩
          rw [if_neg a2, if_neg nc] at hp'
          exact c_fail hh hl (by decide) (fun I2 n2 => hp'.2 I2 1 i rfl n2)
      · have k1 : K i = 1 := by
          by_cases e : K i = 1
          · exact e
          · rw [if_neg e, gVar_m1] at b; exact absurd rfl b
        rw [if_pos k1] at b ⊢
        have v0 : gVar fm (V i) ≠ 0 := fun q => b (by rw [q]; rfl)
        rw [if_neg a, if_pos ⟨k1, v0⟩] at hp'
        have im := tkM_lt hT him (by rw [k1]; decide)
        have vr := (gVar_rg hf v0).1
        refine c_emSt hh hR (q := (gVar fm (V i), 0)) ?_ hl im (fun I2 k2 => hp'.1 I2 (i + 1) _ rfl k2)
        unfold enc
        rw [if_neg (show ¬ gVar fm (V i) = 0 by omega), if_pos (show gVar fm (V i) ≤ 9 by omega)]
    · show p6_readChosen (pGrd d) wd I R Q
      have hp' : cPo P h I o Q (if K (i + 1) = 4 ∧ V (i + 1) = 40 then (if 7 ≤ o then Sum.inl (5, i + 1) else if wd = 21 then rB (gR K V fm d 0 0 (o + 1) (i + 2)) (fun j c => rB (gEx K V 44 j c) (fun j c => gTl K V (gR K V fm d 4 0 (o + 1)) (gOp wd) j c)) else gTl K V (gR K V fm d 4 0 (o + 1)) (gOp wd) (i + 2) [])
    else Sum.inl (1, i + 1)) := hp
      obtain ⟨im, hwd⟩ := h7 rfl
      unfold p6_readChosen
      refine c_stepT hh hl im (fun I1 k1 => ?_)
      have lv1 := LV_go hh hl k1 im ho (by rw [List.length_nil]; omega)
      refine c_isSg lv1 (fun a => zf (by decide) ?_) (fun a => zt rfl ?_)
      rotate_left
      · rw [if_neg a] at hp'
        exact c_fail hh lv1 (by decide) (fun I2 n2 => hp'.2 I2 1 (i + 1) rfl (cNo_t k1 (by omega) n2))
      rw [if_pos a] at hp'
      have im1 := tkM_lt hT (show i + 1 ≤ m by omega) (by rw [a.1]; decide)
      refine c_opnT hh lv1 im1 (fun I2 no k2 => zf (by decide) ?_) (fun I2 yes n2 => zt rfl ?_)
      rotate_left
      · rw [if_pos yes] at hp'
        exact hp'.2 I2 5 (i + 1) rfl (cNo_t k1 (by omega) n2)
      rw [if_neg no] at hp'
      have k02 : cOk h I I2 (i + 2) (o + 1) [] := cOk_t k1 k2
      have lv2 := LV_go hh hl k02 (by omega) (by omega) (by rw [List.length_nil]; omega)
      have d8 : 8 ≤ d := by unfold gB at hb; omega
      have rdh : ∀ (i : Nat) (I : mI) (Q' : mI → Prop), LV K V P m fm h I i (o + 1) → cPo P h I (o + 1) Q' (gR K V fm d 4 0 (o + 1) i) → pGrd d 4 0 I R Q' := fun i I Q' lv hp => ih 4 0 (o + 1) i I Q' (by omega) (by unfold gB at hb ⊢; omega) lv (fun q => by omega) hp
      have rok : ∀ i, i ≤ m → ∀ j cs, gR K V fm d 4 0 (o + 1) i = Sum.inr (j, cs) → i < j ∧ j ≤ m ∧ cs.length + i ≤ j := fun i a => hok 4 0 (o + 1) i (by omega) (by omega) a
      refine zs (fun c => ?_) (fun c => ?_)
      · rw [if_pos c] at hp'
        refine ih 0 0 (o + 1) (i + 2) I2 _ (by omega) (by unfold gB at hb ⊢; omega) lv2 (fun q => by omega) ⟨fun I3 j c3 e k3 => ?_, fun I3 k i' e n3 => ?_⟩
        · rw [e] at hp'
          have hp2 : cPo P h I o Q (rB (gEx K V 44 j c3) (fun j c => gTl K V (gR K V fm d 4 0 (o + 1)) (gOp wd) j c)) := hp'
          have ok := hok 0 0 (o + 1) (i + 2) (by omega) (by omega) (by omega) j c3 e
          have k03 : cOk h I I3 j (o + 1) c3 := cOk_t k02 k3
          have lv3 := LV_go hh lv2 k3 ok.2.1 (by omega) ok.2.2
          refine c_expt hh lv3 (fun b => tkM_lt hT ok.2.1 (by rw [b.1]; decide)) (fun I4 b k4 => ?_) (fun I4 b n4 => ?_)
          · have g1 : gEx K V 44 j c3 = Sum.inr (j + 1, c3) := by unfold gEx; rw [if_pos b]
            rw [g1] at hp2
            have k04 := cOk_t k03 k4
            rw [List.append_nil] at k04
            have jm := tkM_lt hT ok.2.1 (by rw [b.1]; decide)
            exact c_tail hh hR hT (by omega) hwd rdh rok hl k04 (by omega) (LV_go hh lv3 k4 jm (by omega) (by rw [List.length_nil]; omega)) hp2
          · refine d_tail hh hR (by omega) hl k03 n4 (fun I' n' => hp2.2 I' 1 j ?_ n')
            unfold gEx; rw [if_neg b]; rfl
        · exact d_expt n3.2.1 (by rw [n3.2.2.1.1]; exact n3.2.2.1.2) (d_tail hh hR (by omega) hl k02 n3 (fun I' n' => hp'.2 I' k i' (by rw [e]; rfl) n'))
      · rw [if_neg c] at hp'
        exact c_tail hh hR hT (by omega) hwd rdh rok hl k02 (by rw [List.length_nil]; omega) lv2 hp'
end
