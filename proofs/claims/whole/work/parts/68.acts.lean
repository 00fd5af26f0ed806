/-! WHAT EACH PART OF THE INVARIANT RESTS ON -/
theorem fr_lan {I I' J J' : mI} {R R' : mR} {h sp : Nat} {bk : Int} {V : mI} {F : Int → List (Int × Int)} (hl : iLan I J R h sp bk V F) (e1 : ∀ z, 123 ≤ z → z ≤ 140 → I' z = I z) (e2 : I' 146 8 = I 146 8) (e3 : I' 159 13 = I 159 13) (e4 : ∀ z, 161 ≤ z → z ≤ 176 → I' z = I z) (e5 : I' 192 = I 192) (hJ : J' 177 = J 177) (hR : R' 1 = R 1) : iLan I' J' R' h sp bk V F := by
  obtain ⟨a1, a2, a3, a4, a5, a6, a7, a8, a9⟩ := hl
  refine ⟨by rw [hR]; exact a1, ?_, a3, a4, ldM_fr e3 e4 a5, a6, by unfold iNam; rw [hJ]; exact a7, by unfold twM; rw [e5]; exact a8, by rw [e2]; exact a9⟩
  obtain ⟨l0, l1, l2, l3, l4, l5, l6, l7, l8⟩ := a2
  have hx : ∀ j, j ≤ 8 → I' (h + j) = I (h + j) := fun j hj => e1 _ (by omega) (by omega)
  exact ⟨(hx 0 (by omega)).trans l0, (hx 1 (by omega)).trans l1, (hx 2 (by omega)).trans l2, (hx 3 (by omega)).trans l3, (hx 4 (by omega)).trans l4, (hx 5 (by omega)).trans l5, (hx 6 (by omega)).trans l6, (hx 7 (by omega)).trans l7, (hx 8 (by omega)).trans l8⟩
theorem fr_sta {I I' V S : mI} (hs : iSta I V S) (e1 : ∀ z, 7 ≤ z → z ≤ 11 → I' z = I z) (e2 : ∀ z, 185 ≤ z → z ≤ 191 → I' z = I z) : iSta I' V S :=
  ⟨stC_of (fun j hj => e1 _ (by omega) (by omega)) hs.1, stM_fr e2 hs.2.1, hs.2.2⟩
theorem fr_tap {I I' : mI} (h : iTap I) (e1 : I' 2 1 = I 2 1) (e2 : I' 3 = I 3) (e3 : I' 159 1 = I 159 1) (e4 : I' 160 = I 160) : iTap I' := by
  unfold iTap; rw [e1, e2, e3, e4]; exact h
theorem fr_ref {t t' : Nat} {I I' : mI} (h : iRef t I) (ht : t ≤ t') (e1 : I' 122 = I 122) (e2 : I' 184 = I 184) : iRef t' I' := by
  intro k k0 k6
  have := h k k0 k6
  rw [e1, e2]; omega
theorem fr_fau {I I' : mI} (h : iFau I) (e1 : I' 1 14 = I 1 14) (e2 : I' 1 15 = I 1 15) (e3 : I' 159 10 = I 159 10) (e4 : I' 159 11 = I 159 11) : iFau I' := by
  unfold iFau; rw [e1, e2, e3, e4]; exact h
theorem fr_die {I I' J J' : mI} (h : iDie I J) (e1 : I' 1 16 = I 1 16) (e2 : J' 159 54 = J 159 54) : iDie I' J' := by
  unfold iDie; rw [e1, e2]; exact h
theorem fr_pas {I I' V : mI} {P : Int → mI} (h : iPas I V P) (e1 : ∀ z, 17 ≤ z → z ≤ 118 → I' z = I z) (e2 : I' 159 52 = I 159 52) (e3 : I' 159 53 = I 159 53) (e4 : ∀ w S, 2 ≤ w → S 0 2 ≤ 40 → stM V I w S → stM V I' w S) : iPas I' V P := by
  obtain ⟨a1, a2, a3, a4, a5⟩ := h
  have e17 := e1 17 (by omega) (by omega)
  unfold iPas
  rw [e17, e2, e3]
  refine ⟨a1, a2, a3, a4, fun j j0 j1 => ?_⟩
  obtain ⟨b1, b2, b3⟩ := a5 j j0 j1
  have m1 := th_rg (y := I 17 1 + 19 - j) (n := 20) (by omega) (by omega)
  have m2 := th_rg (y := I 159 52 + (I 17 2 - 1 - j)) (n := 20) (by omega) (by omega)
  exact ⟨stC_of (fun i hi => e1 _ (by omega) (by omega)) b1, e4 _ _ (by omega) b3.2.2.1.2 b2, b3⟩
theorem fr_pic {I I' : mI} (h : iPic I) (e1 : I' 119 1 = I 119 1) (e2 : I' 120 = I 120) (e3 : I' 159 68 = I 159 68) (e4 : I' 203 = I 203) : iPic I' := by
  unfold iPic; rw [e1, e2, e3, e4]; exact h
theorem fr_met {I I' V : mI} (h : iMet I V) (e1 : I' 151 5 = I 151 5) (e2 : I' 157 = I 157) (e3 : I' 159 62 = I 159 62) (e4 : ∀ z, 199 ≤ z → z ≤ 201 → I' z = I z) : iMet I' V := by
  unfold iMet; rw [e1, e2, e3, e4 199 (by decide) (by decide), e4 200 (by decide) (by decide), e4 201 (by decide) (by decide)]; exact h
/-! refusals -/
theorem c_refuse {I : mI} {k : Int} {Q : Int → mI → Prop} (h0 : 0 ≤ k) (h6 : k < 6) (hr : 0 ≤ I 122 k ∧ I 122 k ≤ 600) (hq : ∀ I' : mI, I' 122 k = I 122 k + 1 → (∀ j, j ≠ k → I' 122 j = I 122 j) → (∀ z, z ≠ 122 → I' z = I z) → Q (-1) I') : p11_refuse k I Q := by
  unfold p11_refuse
  exact zf (by omega) (zf (by omega) ⟨by omega, by omega, by omega,  m_putK hq⟩)
theorem m_refuse {I : mI} {k : Int} {Q : Int → mI → Prop} (h0 : 0 ≤ k) (h6 : k < 6) (hr : 0 ≤ I 184 k ∧ I 184 k ≤ 600) (hq : ∀ I' : mI, I' 184 k = I 184 k + 1 → (∀ j, j ≠ k → I' 184 j = I 184 j) → (∀ z, z ≠ 184 → I' z = I z) → Q (-1) I') : p12_refuses k I Q := by
  unfold p12_refuses
  exact ⟨by omega, by omega, by omega,  m_putK hq⟩
theorem inv_ref {t : Nat} {I I1 I2 J : mI} {R : mR} {k : Int} (hI : Inv t I J R) (a1 : I1 122 k = I 122 k + 1) (a2 : ∀ j, j ≠ k → I1 122 j = I 122 j) (a3 : ∀ z, z ≠ 122 → I1 z = I z) (b1 : I2 184 k = I1 184 k + 1) (b2 : ∀ j, j ≠ k → I2 184 j = I1 184 j) (b3 : ∀ z, z ≠ 184 → I2 z = I1 z) : Inv (t + 1) I2 J R := by
  obtain ⟨h, sp, bk, V, F, S, P, hl, hs, r1, r2, r3, r4, r5, r6, r7⟩ := hI
  have e : ∀ z, z ≠ 122 → z ≠ 184 → I2 z = I z := fun z h1 h2 => (b3 z h2).trans (a3 z h1)
  have e1 := e 1 (by decide) (by decide)
  have e159 := e 159 (by decide) (by decide)
  refine ⟨h, sp, bk, V, F, S, P, fr_lan hl (fun z _ _ => e z (by omega) (by omega)) (by rw [e 146 (by decide) (by decide)]) (by rw [e159]) (fun z _ _ => e z (by omega) (by omega)) (e 192 (by decide) (by decide)) rfl rfl, fr_sta hs (fun z _ _ => e z (by omega) (by omega)) (fun z _ _ => e z (by omega) (by omega)), fr_tap r1 (by rw [e 2 (by decide) (by decide)]) (e 3 (by decide) (by decide)) (by rw [e159]) (e 160 (by decide) (by decide)), ?_, fr_fau r3 (by rw [e1]) (by rw [e1]) (by rw [e159]) (by rw [e159]), fr_die r4 (by rw [e1]) rfl, fr_pas r5 (fun z _ _ => e z (by omega) (by omega)) (by rw [e159]) (by rw [e159]) (fun w S' _ _ hst => stM_fr (fun z _ _ => e z (by omega) (by omega)) hst), fr_pic r6 (by rw [e 119 (by decide) (by decide)]) (e 120 (by decide) (by decide)) (by rw [e159]) (e 203 (by decide) (by decide)), fr_met r7 (by rw [e 151 (by decide) (by decide)]) (e 157 (by decide) (by decide)) (by rw [e159]) (fun z _ _ => e z (by omega) (by omega))⟩
  intro j j0 j6
  have hj := r2 j j0 j6
  rw [b3 122 (by decide)]
  by_cases ej : j = k
  · subst ej
    rw [a1, b1, a3 184 (by decide)]; omega
  · rw [a2 j ej, b2 j ej, a3 184 (by decide)]; omega
/-- both refuse -/
theorem laR {L t : Nat} {X : Int → Int} {i : Int} {I J : mI} {R : mR} {K : mI → mI → mR → Prop} (H : LaH L t X i I J R K) {k : Int} (h0 : 0 ≤ k) (h6 : k < 6) {Q : Int → mI → Prop} (hq : ∀ I1 : mI, (∀ z, z ≠ 122 → I1 z = I z) → (∀ Q2 : Int → mI → Prop, (∀ I2, K I2 J R → Q2 (-1) I2) → p12_refuses k I1 Q2) → Q (-1) I1) : p11_refuse k I Q := by
  have hr : iRef t I := by
    obtain ⟨-, -, -, -, -, ⟨h, sp, bk, V, F, S, P, hl, hs, r1, r2, -⟩, -⟩ := H
    exact r2
  have ht := H.2.2.2.2.1
  have hk := hr k h0 h6
  refine c_refuse h0 h6 (by omega) (fun I1 a1 a2 a3 => hq I1 a3 (fun Q2 hq2 => ?_))
  refine m_refuse h0 h6 (by rw [a3 184 (by decide)]; omega) (fun I2 b1 b2 b3 => hq2 I2 ?_)
  exact H.2.2.2.2.2.2 I2 J R (inv_ref H.2.2.2.2.2.1 a1 a2 a3 b1 b2 b3)
theorem laRI {L t : Nat} {X : Int → Int} {i : Int} {I J : mI} {R : mR} {K : mI → mI → mR → Prop} (H : LaH L t X i I J R K) {k : Int} (h0 : 0 ≤ k) (h6 : k < 6) {Q : Int → mI → Prop} (hq : ∀ I1 : mI, (∀ z, z ≠ 122 → I1 z = I z) → (∀ Q2 : Int → mI → Prop, (∀ I2, K I2 J R → Q2 (-1) I2) → p12_refuses k I1 Q2) → Q 0 I1) : p11_refuseIt k I Q := by
  unfold p11_refuseIt
  exact laR H h0 h6 hq
/-! feed, end, seed -/
theorem la_29 {L t : Nat} {X : Int → Int} {i : Int} {I J : mI} {R : mR} {K : mI → mI → mR → Prop} (H : LaH L t X i I J R K) : plaw_29 L X i I J R K := by
  have H' := H
  obtain ⟨hL, hX, h0, h1, ht, ⟨h, sp, bk, V, F, S, P, hl, hs, r1, r2, r3, r4, r5, r6, r7⟩, hK⟩ := H
  have hx := hX (i + 1)
  unfold plaw_29
  refine ⟨by omega, by omega, ?_⟩
  revert hx
  generalize X (i + 1) = x
  intro hx
  unfold p11_seed p12_seed
  refine zs (fun e => m_putK (fun I1 q1 g1 f1 => ⟨by omega, by omega,  zt e (m_putK (fun J1 q2 g2 f2 => zt rfl (hK I1 J1 R ?_)))⟩)) (fun e => ?_)
  · have e0 : ∀ z, z ≠ 1 → I1 z = I z := f1
    refine ⟨h, sp, bk, V, F, S, P, fr_lan hl (fun z _ _ => e0 z (by omega)) (by rw [e0 146 (by decide)]) (by rw [e0 159 (by decide)]) (fun z _ _ => e0 z (by omega)) (e0 192 (by decide)) (f2 177 (by decide)) rfl, fr_sta hs (fun z _ _ => e0 z (by omega)) (fun z _ _ => e0 z (by omega)), fr_tap r1 (by rw [e0 2 (by decide)]) (e0 3 (by decide)) (by rw [e0 159 (by decide)]) (e0 160 (by decide)), fr_ref r2 (by omega) (e0 122 (by decide)) (e0 184 (by decide)), fr_fau r3 (g1 14 (by decide)) (g1 15 (by decide)) (by rw [e0 159 (by decide)]) (by rw [e0 159 (by decide)]), ⟨q1.trans q2.symm, by omega, by omega⟩, fr_pas r5 (fun z _ _ => e0 z (by omega)) (by rw [e0 159 (by decide)]) (by rw [e0 159 (by decide)]) (fun w S' _ _ hst => stM_fr (fun z _ _ => e0 z (by omega)) hst), fr_pic r6 (by rw [e0 119 (by decide)]) (e0 120 (by decide)) (by rw [e0 159 (by decide)]) (e0 203 (by decide)), fr_met r7 (by rw [e0 151 (by decide)]) (e0 157 (by decide)) (by rw [e0 159 (by decide)]) (fun z _ _ => e0 z (by omega))⟩
  · refine laRI H' (by decide) (by decide) (fun I1 _ kk => ⟨Or.inl rfl, ⟨by omega, by omega,  zf e (kk _ (fun I2 hk2 => zt (by decide) (zt rfl hk2)))⟩⟩)
theorem la_1 {L t : Nat} {X : Int → Int} {i : Int} {I J : mI} {R : mR} {K : mI → mI → mR → Prop} (H : LaH L t X i I J R K) : plaw_1 L X i I J R K := by
  have H' := H
  obtain ⟨hL, hX, h0, h1, ht, ⟨h, sp, bk, V, F, S, P, hl, hs, r1, r2, r3, r4, r5, r6, r7⟩, hK⟩ := H
  unfold plaw_1
  refine ⟨by omega, by omega, ?_⟩
  generalize X (i + 1) = x
  obtain ⟨t1, t2, t3, t4⟩ := id r1
  unfold p11_end p12_end p12_end_b12
  have no : (x < 0 ∨ ¬ x ≤ I 2 1) → ∀ I1 : mI, (∀ z, z ≠ 122 → I1 z = I z) → (∀ Q2 : Int → mI → Prop, (∀ I2, K I2 J R → Q2 (-1) I2) → p12_refuses 0 I1 Q2) → (if x < 0 then p12_refuses 0 I1 (fun r1 I2 => if r1 < 0 then (fun r2 I2 => if (0 : Int) = r2 then K I2 J R else False) 0 I2 else (fun r2 I2 => if (0 : Int) = r2 then K I2 J R else False) 1 I2) else if x ≤ I1 159 1 then wLet (up I1 159 1 x) (fun I2 => (fun r2 I2 => if (0 : Int) = r2 then K I2 J R else False) 1 I2) else p12_refuses 0 I1 (fun r1 I2 => if r1 < 0 then (fun r2 I2 => if (0 : Int) = r2 then K I2 J R else False) 0 I2 else (fun r2 I2 => if (0 : Int) = r2 then K I2 J R else False) 1 I2)) := fun q I1 f1 kk => by
    have e1 : I1 159 1 = I 2 1 := by rw [f1 159 (by decide)]; exact t1
    have fin := kk (fun r1 I2 => if r1 < 0 then (if (0 : Int) = 0 then K I2 J R else False) else (if (0 : Int) = 1 then K I2 J R else False)) (fun I2 hk2 => zt (by decide) (zt rfl hk2))
    refine zs (fun _ => fin) (fun e => zf (by omega) fin)
  refine zs (fun e => laRI H' (by decide) (by decide) (fun I1 f1 kk => ⟨Or.inl rfl, ⟨by omega, by omega,  no (Or.inl e) I1 f1 kk⟩⟩)) (fun e => zs (fun e2 => ?_) (fun e2 => laRI H' (by decide) (by decide) (fun I1 f1 kk => ⟨Or.inl rfl, ⟨by omega, by omega,  no (Or.inr e2) I1 f1 kk⟩⟩)))
  refine m_putK (fun I1 q1 g1 f1 => ⟨by omega, by omega,  zf e (zt (by rw [f1 159 (by decide)]; omega) (m_putK (fun I2 q2 g2 f2 => zt rfl (hK I2 J R ?_))))⟩)
  have e0 : ∀ z, z ≠ 2 → z ≠ 159 → I2 z = I z := fun z h2 h9 => (f2 z h9).trans (f1 z h2)
  have e9 : ∀ j, j ≠ 1 → I2 159 j = I 159 j := fun j hj => by rw [g2 j hj, f1 159 (by decide)]
  refine ⟨h, sp, bk, V, F, S, P, fr_lan hl (fun z _ _ => e0 z (by omega) (by omega)) (by rw [e0 146 (by decide) (by decide)]) (e9 13 (by decide)) (fun z _ _ => e0 z (by omega) (by omega)) (e0 192 (by decide) (by decide)) rfl rfl, fr_sta hs (fun z _ _ => e0 z (by omega) (by omega)) (fun z _ _ => e0 z (by omega) (by omega)), ?_, fr_ref r2 (by omega) (e0 122 (by decide) (by decide)) (e0 184 (by decide) (by decide)), fr_fau r3 (by rw [e0 1 (by decide) (by decide)]) (by rw [e0 1 (by decide) (by decide)]) (e9 10 (by decide)) (e9 11 (by decide)), fr_die r4 (by rw [e0 1 (by decide) (by decide)]) rfl, fr_pas r5 (fun z _ _ => e0 z (by omega) (by omega)) (e9 52 (by decide)) (e9 53 (by decide)) (fun w S' _ _ hst => stM_fr (fun z _ _ => e0 z (by omega) (by omega)) hst), fr_pic r6 (by rw [e0 119 (by decide) (by decide)]) (e0 120 (by decide) (by decide)) (e9 68 (by decide)) (e0 203 (by decide) (by decide)), fr_met r7 (by rw [e0 151 (by decide) (by decide)]) (e0 157 (by decide) (by decide)) (e9 62 (by decide)) (fun z _ _ => e0 z (by omega) (by omega))⟩
  have eq : I2 2 1 = x := by rw [f2 2 (by decide)]; exact q1
  refine ⟨q2.trans eq.symm, by omega, by omega, fun k k0 k1 => ?_⟩
  rw [e0 3 (by decide) (by decide), e0 160 (by decide) (by decide)]
  exact t4 k k0 (by omega)
