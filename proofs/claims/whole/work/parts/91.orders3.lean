/-! order, orders -/
theorem ctC_121 {I I' : mI} {R : mR} {h a : Nat} {V S : mI} {tw : Int → Int} {th : Int} (hf : ∀ z, z ≠ 121 → I' z = I z) (hC : ctC I R h a V S tw th) : ctC I' R h a V S tw th := by
  obtain ⟨r4, r5, hh, ha, e6, hL, hS, hT⟩ := hC
  have hlh : h = 123 ∨ h = 132 := hh
  have e : I' 146 = I 146 := hf 146 (by decide)
  have hx : ∀ j, j ≤ 8 → I' (h + j) = I (h + j) := fun j hj => hf _ (by omega)
  refine ⟨r4, r5, hh, ha, by rw [e]; exact e6, ?_, stC_of (fun j hj => ?_) hS, by rw [e]; exact hT⟩
  · obtain ⟨l0, l1, l2, l3, l4, l5, l6, l7, l8⟩ := hL
    exact ⟨(hx 0 (by omega)).trans l0, (hx 1 (by omega)).trans l1, (hx 2 (by omega)).trans l2, (hx 3 (by omega)).trans l3, (hx 4 (by omega)).trans l4, (hx 5 (by omega)).trans l5, (hx 6 (by omega)).trans l6, (hx 7 (by omega)).trans l7, (hx 8 (by omega)).trans l8⟩
  · refine hf _ ?_
    rcases ha with rfl | rfl | rfl | ⟨i, hi, rfl⟩ <;> omega
def orI (n k : Nat) (j : Int) : Int := (rw6 n k j.toNat : Nat)
/-- what the council would choose, read in the k-th order -/
def chO (V : mI) (F : Int → List (Int × Int)) (S : mI) (tw : Int → Int) (th : Int) (n k : Nat) : Int := chF (asF V F S tw th (orI n k) (bShl 1 (V 1 0) - 1)).1 (V 1 1)
theorem orI_in {n k : Nat} (hn : n < 7) (hk : k < fac n) {j : Int} (j0 : 0 ≤ j) (j1 : j < n) : 0 ≤ orI n k j ∧ orI n k j < n := by
  have x := (rw_in hn hk (show j.toNat < n by omega)).1
  unfold orI; omega
theorem rowC_o {I : mI} {o n k : Nat} (h : rowC I o n (rw6 n k)) {j : Int} (j0 : 0 ≤ j) (j1 : j < n) : I o j = orI n k j := by
  have x := h j.toNat (by omega)
  rw [show ((j.toNat : Nat) : Int) = j by omega] at x
  exact x
def cfr (I I' : mI) : Prop := ∀ a, a ≠ 5 → a ≠ 121 → a ≠ 147 → a ≠ 148 → a ≠ 149 → I' a = I a
theorem cfr_r (I : mI) : cfr I I := fun _ _ _ _ _ _ => rfl
theorem cfr_t {I1 I2 I3 : mI} (h1 : cfr I1 I2) (h2 : cfr I2 I3) : cfr I1 I3 := fun a q1 q2 q3 q4 q5 => (h2 a q1 q2 q3 q4 q5).trans (h1 a q1 q2 q3 q4 q5)
theorem cfr_a {I I' : mI} (h : afr I I') : cfr I I' := fun a q1 _ q3 q4 q5 => h a q1 q3 q4 q5
theorem cfr_1 {I I' : mI} (h : ∀ z, z ≠ 121 → I' z = I z) : cfr I I' := fun a _ q2 _ _ _ => h a q2
theorem qf_cf {I I' : mI} (h : cfr I I') : qf I I' := qf_c (fun z z5 z1 _ z7 z8 z9 _ _ _ _ => h z z5 z1 z7 z8 z9) (by rw [h 146 (by decide) (by decide) (by decide) (by decide) (by decide)]) (by rw [h 151 (by decide) (by decide) (by decide) (by decide) (by decide)])
/-- the class's state between two orders -/
def coC (I0 J0 I J : mI) (R : mR) (h : Nat) (V : mI) (F : Int → List (Int × Int)) (S : mI) (tw : Int → Int) (th : Int) (n k : Nat) : Prop := cfr I0 I ∧ jfr 6 J0 J ∧ ctC I R h 7 V S tw th ∧ cntC I V F S ∧ kno I V F S tw th ∧ (k < fac n → rowC I 121 n (rw6 n k))
theorem co_ask {I0 J0 I J : mI} {R : mR} {h : Nat} {V : mI} {F : Int → List (Int × Int)} {S : mI} {tw : Int → Int} {th : Int} {n k : Nat} {Q : Int → mI → mI → Prop} (H : coC I0 J0 I J R h V F S tw th n k) (hw : wfs V F S tw) (hth : 0 ≤ th ∧ th < V 1 2) (hV : V 1 0 = (n : Int)) (hn : n < 7) (hk : k < fac n)
    (q : ∀ I' J' : mI, coC I0 J0 I' J' R h V F S tw th n k → Q (chO V F S tw th n k) I' J') : p1_ask 121 (bShl 1 (V 1 0) - 1) I J R Q := by
  have hr := H.2.2.2.2.2 hk
  refine c_ask (o := orI n k) H.2.2.1 H.2.2.2.1 H.2.2.2.2.1 hw hth (by decide) (fun j a b => rowC_o hr a (by omega)) (fun j a b => by rw [hV]; exact orI_in hn hk a (by omega)) (fun I2 J2 f2 j2 k2 _ _ => q I2 J2 ⟨cfr_t H.1 (cfr_a f2), jfr_t H.2.1 j2, ctC_a f2 H.2.2.1, ?_, k2, fun _ j hj => ?_⟩)
  · unfold cntC; rw [f2 146 (by decide) (by decide) (by decide) (by decide)]; exact H.2.2.2.1
  · rw [f2 121 (by decide) (by decide) (by decide) (by decide)]; exact hr j hj
theorem co_next {I0 J0 I J : mI} {R : mR} {h : Nat} {V : mI} {F : Int → List (Int × Int)} {S : mI} {tw : Int → Int} {th : Int} {n k : Nat} {Q : mI → Prop} (H : coC I0 J0 I J R h V F S tw th n k) (hV : V 1 0 = (n : Int)) (hn : n < 7) (hk : k < fac n)
    (q : ∀ I' : mI, coC I0 J0 I' J R h V F S tw th n (k + 1) → Q I') : p1_nextOrder 121 I R Q := by
  have hr := H.2.2.2.2.2 hk
  have e : I (h + 1) 0 = (n : Int) := by rw [H.2.2.1.2.2.2.2.2.1.2.1, hV]
  refine c_next H.2.2.1.1 H.2.2.1.2.2.1 e hn hr (fun I1 f1 r1 => q I1 ⟨cfr_t H.1 (cfr_1 f1), H.2.1, ctC_121 f1 H.2.2.1, ?_, kno_eq (by rw [f1 147 (by decide)]) H.2.2.2.2.1, fun hk2 j hj => ?_⟩)
  · unfold cntC; rw [f1 146 (by decide)]; exact H.2.2.2.1
  · rw [r1 j hj]
    have := rw_nx hn hk2 hj
    omega
theorem co_begin {I J : mI} {R : mR} {h : Nat} {V : mI} {F : Int → List (Int × Int)} {S : mI} {tw : Int → Int} {th : Int} {n : Nat} {Q : Int → mI → Prop} (hC : ctC I R h 7 V S tw th) (hN : cntC I V F S) (hK : kno I V F S tw th) (hV : V 1 0 = (n : Int)) (hn : n < 7)
    (q : ∀ I' : mI, coC I J I' J R h V F S tw th n 0 → Q (fac n) I') : p1_beginOrders 121 I R Q := by
  have e : I (h + 1) 0 = (n : Int) := by rw [hC.2.2.2.2.2.1.2.1, hV]
  refine c_begin hC.1 hC.2.2.1 e hn (fun I1 f1 r1 => q I1 ⟨cfr_1 f1, jfr_r 6 J, ctC_121 f1 hC, ?_, kno_eq (by rw [f1 147 (by decide)]) hK, fun _ j hj => ?_⟩)
  · unfold cntC; rw [f1 146 (by decide)]; exact hN
  · rw [r1 j (by omega) (by omega), rw_0 hn hj]
theorem bs_rg {V : mI} {n : Nat} (hV : V 1 0 = (n : Int)) (hn : n < 7) : rg (bShl 1 (V 1 0) - 1) := by
  have := evb_rg (show 0 ≤ V 1 0 ∧ V 1 0 ≤ 6 by omega)
  omega
theorem c_fstGo {I0 J0 : mI} {R : mR} {h : Nat} {V : mI} {F : Int → List (Int × Int)} {S : mI} {tw : Int → Int} {th y : Int} {n : Nat} {Q : Int → mI → mI → Prop} (hw : wfs V F S tw) (hth : 0 ≤ th ∧ th < V 1 2) (hV : V 1 0 = (n : Int)) (hn : n < 7)
    (q1 : ∀ k, k < fac n → chO V F S tw th n k = y → (∀ k', k' < k → chO V F S tw th n k' ≠ y) → ∀ I J : mI, coC I0 J0 I J R h V F S tw th n k → Q 1 I J)
    (q0 : (∀ k, k < fac n → chO V F S tw th n k ≠ y) → ∀ (I J : mI) (k : Nat), coC I0 J0 I J R h V F S tw th n k → Q 0 I J) :
    ∀ (d k : Nat) (I J : mI), k + d = fac n → coC I0 J0 I J R h V F S tw th n k → (∀ k', k' < k → chO V F S tw th n k' ≠ y) → p1_firstOrder_b9 121 y (fac n) R Q (d + 1) k I J
  | 0, k, I, J, hd, H, hp => by
    show p1_firstOrder_b9_body 121 y (fac n) R Q (p1_firstOrder_b9 121 y (fac n) R Q 0) k I J
    unfold p1_firstOrder_b9_body
    exact zt (by omega) (q0 (fun k' a => hp k' (by omega)) I J k H)
  | d + 1, k, I, J, hd, H, hp => by
    show p1_firstOrder_b9_body 121 y (fac n) R Q (p1_firstOrder_b9 121 y (fac n) R Q (d + 1)) k I J
    unfold p1_firstOrder_b9_body
    have r4 := H.2.2.1.1
    have hh := H.2.2.1.2.2.1
    have fb := fac_b n hn
    rw [r4]
    refine zf (by omega) ⟨hh, ?_⟩
    unfold p3_everybody
    rw [H.2.2.1.2.2.2.2.2.1.2.1]
    refine ⟨bs_rg hV hn, co_ask H hw hth hV hn (by omega) (fun I2 J2 H2 => zs (fun e => q1 k (by omega) e hp I2 J2 H2) (fun e => co_next H2 hV hn (by omega) (fun I3 H3 => ⟨by omega, ?_⟩)))⟩
    exact c_fstGo hw hth hV hn q1 q0 d (k + 1) I3 J2 (by omega) H3 (fun k' hk' => by
      by_cases ek : k' = k
      · rw [ek]; exact e
      · exact hp k' (by omega))
/-- how many orders before the k-th have this choice -/
def cnO (f : Nat → Int) (y : Int) : Nat → Int
  | 0 => 0
  | k + 1 => cnO f y k + if f k = y then 1 else 0
theorem cnO_rg (f : Nat → Int) (y : Int) : ∀ k : Nat, 0 ≤ cnO f y k ∧ cnO f y k ≤ k
  | 0 => ⟨Int.le_refl 0, Int.le_refl 0⟩
  | k + 1 => by
    have i := cnO_rg f y k
    unfold cnO
    split <;> omega
theorem c_cntGo {I0 J0 : mI} {R : mR} {h : Nat} {V : mI} {F : Int → List (Int × Int)} {S : mI} {tw : Int → Int} {th y : Int} {n : Nat} {Q : Int → mI → mI → Prop} (hw : wfs V F S tw) (hth : 0 ≤ th ∧ th < V 1 2) (hV : V 1 0 = (n : Int)) (hn : n < 7)
    (q : ∀ (I J : mI) (k : Nat), coC I0 J0 I J R h V F S tw th n k → Q (cnO (chO V F S tw th n) y (fac n)) I J) :
    ∀ (d k : Nat) (I J : mI), k + d = fac n → coC I0 J0 I J R h V F S tw th n k → p1_countOrders_b12 121 y (fac n) R Q (d + 1) (cnO (chO V F S tw th n) y k) k I J
  | 0, k, I, J, hd, H => by
    show p1_countOrders_b12_body 121 y (fac n) R Q (p1_countOrders_b12 121 y (fac n) R Q 0) _ k I J
    unfold p1_countOrders_b12_body
    rw [show k = fac n by omega] at H ⊢
    exact zt (by omega) (q I J _ H)
  | d + 1, k, I, J, hd, H => by
    show p1_countOrders_b12_body 121 y (fac n) R Q (p1_countOrders_b12 121 y (fac n) R Q (d + 1)) _ k I J
    unfold p1_countOrders_b12_body
    have r4 := H.2.2.1.1
    have hh := H.2.2.1.2.2.1
    have fb := fac_b n hn
    have cb := cnO_rg (chO V F S tw th n) y k
    rw [r4]
    refine zf (by omega) ⟨hh, ?_⟩
    unfold p3_everybody
    rw [H.2.2.1.2.2.2.2.2.1.2.1]
    have go : ∀ (x : Int) (I2 J2 : mI), x = (if chO V F S tw th n k = y then 1 else 0) → coC I0 J0 I2 J2 R h V F S tw th n k → p1_countOrders_b41 121 y (fac n) k (cnO (chO V F S tw th n) y k) x I2 J2 R (p1_countOrders_b12 121 y (fac n) R Q (d + 1)) Q := fun x I2 J2 hx H2 => by
      unfold p1_countOrders_b41
      have x01 : 0 ≤ x ∧ x ≤ 1 := by rw [hx]; split <;> omega
      refine ⟨by omega, co_next H2 hV hn (by omega) (fun I3 H3 => ⟨by omega, ?_⟩)⟩
      have i := c_cntGo hw hth hV hn q d (k + 1) I3 J2 (by omega) H3
      unfold cnO at i
      rw [← hx] at i
      exact i
    exact ⟨bs_rg hV hn, co_ask H hw hth hV hn (by omega) (fun I2 J2 H2 => zs (fun e => go 1 I2 J2 (by rw [if_pos e]) H2) (fun e => go 0 I2 J2 (by rw [if_neg e]) H2))⟩
/-- the model between two orders -/
theorem m_askO {I J : mI} {bk : Int} {V : mI} {F : Int → List (Int × Int)} {S : mI} {tw : Int → Int} {th : Int} {n k : Nat} {P : Int → mI → mI → Prop} (hC : ctM I bk 0 V F S tw) (hw : wfs V F S tw) (hth : 0 ≤ th ∧ th < V 1 2) (hV : V 1 0 = (n : Int)) (hn : n < 7) (hk : k < fac n)
    (q : ∀ I' J' : mI, ofr I I' → jfr 193 J J' → rowC I' 197 n (rw6 n k) → P (chO V F S tw th n k) I' J') : p12_laysOrder k I (fun I1 => p12_everybody I1 (fun r5 => p12_chosen 0 th r5 I1 J P)) := by
  obtain ⟨m1, m2, m3, -⟩ := id hC.1
  rw [hV] at m3
  refine m_order m1 m2 m3 hn hk (fun I1 f1 r1 => ?_)
  have o1 : ofr I I1 := fun z _ _ _ z7 => f1 z z7
  have hC1 := ctM_o o1 hC
  obtain ⟨k1, k2, k3, -⟩ := id hC1.1
  unfold p12_everybody
  rw [k1, k3]
  refine ⟨by omega, bs_rg hV hn, m_chosen (o := orI n k) hC1 hw hth (fun j a b => rowC_o r1 a (by omega)) (fun j a b => by rw [hV]; exact orI_in hn hk a (by omega)) (fun I2 J2 f2 j2 _ _ => q I2 J2 (ofr_t o1 (qfr_o f2)) j2 (fun j hj => ?_))⟩
  rw [f2 197 (by decide) (by decide) (by decide)]; exact r1 j hj
theorem m_fsoGo {I0 J0 : mI} {bk : Int} {V : mI} {F : Int → List (Int × Int)} {S : mI} {tw : Int → Int} {th y z : Int} {n : Nat} {Q : Int → mI → mI → Prop} (h0 : ctM I0 bk 0 V F S tw) (hw : wfs V F S tw) (hth : 0 ≤ th ∧ th < V 1 2) (hV : V 1 0 = (n : Int)) (hn : n < 7) (hz : 0 ≤ z ∧ z < n)
    (q1 : ∀ k, k < fac n → chO V F S tw th n k = y → (∀ k', k' < k → chO V F S tw th n k' ≠ y) → ∀ I J : mI, ofr I0 I → jfr 193 J0 J → Q (orI n k z) I J)
    (q0 : (∀ k, k < fac n → chO V F S tw th n k ≠ y) → ∀ I J : mI, ofr I0 I → jfr 193 J0 J → Q (-1) I J) :
    ∀ (d k : Nat) (I J : mI), k + d = fac n → ofr I0 I → jfr 193 J0 J → (∀ k', k' < k → chO V F S tw th n k' ≠ y) → p12_order_b40 th y z Q (d + 1) k I J
  | 0, k, I, J, hd, hf, hj, hp => by
    obtain ⟨m1, m2, m3, -⟩ := id (ctM_o hf h0).1
    rw [hV] at m3
    show p12_order_b40_body th y z Q (p12_order_b40 th y z Q 0) k I J
    unfold p12_order_b40_body
    exact m_rows m1 m2 m3 hn (zt (by omega) (q0 (fun k' a => hp k' (by omega)) I J hf hj))
  | d + 1, k, I, J, hd, hf, hj, hp => by
    have hC := ctM_o hf h0
    obtain ⟨m1, m2, m3, -⟩ := id hC.1
    rw [hV] at m3
    have fb := fac_b n hn
    show p12_order_b40_body th y z Q (p12_order_b40 th y z Q (d + 1)) k I J
    unfold p12_order_b40_body
    refine m_rows m1 m2 m3 hn (zf (by omega) (m_askO hC hw hth hV hn (by omega) (fun I2 J2 f2 j2 r2 => zs (fun e => ⟨by omega, ?_⟩) (fun e => ⟨by omega, ?_⟩))))
    · rw [rowC_o r2 hz.1 hz.2]
      exact q1 k (by omega) e hp I2 J2 (ofr_t hf f2) (jfr_t hj j2)
    · exact m_fsoGo h0 hw hth hV hn hz q1 q0 d (k + 1) I2 J2 (by omega) (ofr_t hf f2) (jfr_t hj j2) (fun k' hk' => by
        by_cases ek : k' = k
        · rw [ek]; exact e
        · exact hp k' (by omega))
theorem m_ordGo {I0 J0 : mI} {bk : Int} {V : mI} {F : Int → List (Int × Int)} {S : mI} {tw : Int → Int} {th y : Int} {n : Nat} {Q : Int → mI → mI → Prop} (h0 : ctM I0 bk 0 V F S tw) (hw : wfs V F S tw) (hth : 0 ≤ th ∧ th < V 1 2) (hV : V 1 0 = (n : Int)) (hn : n < 7)
    (q : ∀ I J : mI, ofr I0 I → jfr 193 J0 J → Q (cnO (chO V F S tw th n) y (fac n)) I J) :
    ∀ (d k : Nat) (I J : mI), k + d = fac n → ofr I0 I → jfr 193 J0 J → p12_orders_b23 th y Q (d + 1) (cnO (chO V F S tw th n) y k) k I J
  | 0, k, I, J, hd, hf, hj => by
    obtain ⟨m1, m2, m3, -⟩ := id (ctM_o hf h0).1
    rw [hV] at m3
    show p12_orders_b23_body th y Q (p12_orders_b23 th y Q 0) _ k I J
    unfold p12_orders_b23_body
    rw [show k = fac n by omega]
    exact m_rows m1 m2 m3 hn (zt (by omega) (q I J hf hj))
  | d + 1, k, I, J, hd, hf, hj => by
    have hC := ctM_o hf h0
    obtain ⟨m1, m2, m3, -⟩ := id hC.1
    rw [hV] at m3
    have fb := fac_b n hn
    have cb := cnO_rg (chO V F S tw th n) y k
    show p12_orders_b23_body th y Q (p12_orders_b23 th y Q (d + 1)) _ k I J
    unfold p12_orders_b23_body
    refine m_rows m1 m2 m3 hn (zf (by omega) (m_askO hC hw hth hV hn (by omega) (fun I2 J2 f2 j2 r2 => ?_)))
    have i := m_ordGo h0 hw hth hV hn q d (k + 1) I2 J2 (by omega) (ofr_t hf f2) (jfr_t hj j2)
    unfold cnO at i
    refine zs (fun e => ?_) (fun e => ?_)
    · rw [if_pos e] at i
      exact ⟨by omega, by omega,  i⟩
    · rw [if_neg e] at i
      exact ⟨by omega, by omega,  i⟩
theorem la_15 {L t : Nat} {X : Int → Int} {i : Int} {I J : mI} {R : mR} {K : mI → mI → mR → Prop} (H : LaH L t X i I J R K) : plaw_15 L X i I J R K := by
  have hk := laK H
  have H' := H
  obtain ⟨hL, hX, h0, h1, ht, ⟨h, sp, bk, V, F, S, P, hl, hs, hr⟩, -⟩ := H
  have hh := iLan_ld hl
  have hw := iWfs hl hs
  have hCM := iCtM hl hs
  have hT := iTwC hl
  obtain ⟨⟨r12, -, -⟩, hLd, hV, hF, hM, hN, hNam, hTw, hSup⟩ := hl
  obtain ⟨hC, hSM, hSt⟩ := hs
  have nn := hV.1
  obtain ⟨n, hn⟩ : ∃ n : Nat, V 1 0 = n := ⟨(V 1 0).toNat, by omega⟩
  have n7 : n < 7 := by omega
  obtain ⟨m1, m2, m3, -⟩ := id hM
  unfold plaw_15
  refine ⟨by omega, by omega, by omega, by omega, by omega, by omega, ?_⟩
  generalize X (i + 1) = x
  generalize X (i + 2) = y
  generalize X (i + 3) = z
  have no : ¬ ((0 ≤ x ∧ x < V 1 2) ∧ (0 ≤ y ∧ y < V 1 1) ∧ 0 ≤ z ∧ z < V 1 0) → p12_order x y z I J (fun r2 I2 J2 => if (-1 : Int) = r2 then K I2 J2 R else False) := fun q => by
    unfold p12_order
    refine m_isThing hM (fun _ => zt rfl (zt rfl hk)) (fun q1 => zf (by decide) (m_isColour hM (fun _ => zt rfl (zt rfl hk)) (fun q2 => zf (by decide) ?_)))
    rw [m1, m3]
    exact ⟨by omega, by omega,  m_is (fun _ => zt rfl (zt rfl hk)) (fun q3 => absurd ⟨q1, q2, by omega⟩ q)⟩
  unfold p11_order
  rw [r12]
  refine ⟨hh, c_there hLd (fun q => zt rfl ⟨by omega, by omega, by omega, by omega, by omega, by omega,  no (by omega)⟩) (fun q => zf (by decide) ⟨hh, c_there hLd (fun q2 => zt rfl ⟨by omega, by omega, by omega, by omega, by omega, by omega,  no (by omega)⟩) (fun q2 => zf (by decide) ⟨hh, c_there hLd (fun q3 => zt rfl ⟨by omega, by omega, by omega, by omega, by omega, by omega,  no (by omega)⟩) (fun q3 => zf (by decide) ⟨hh, ?_⟩)⟩)⟩)⟩
  refine c_sit hh isSt_7 hLd hC hT hw (fun I1 J1 f1 j1 hC1 hK1 hN1 _ => ?_)
  have fin : ∀ (r : Int) (I3 J3 : mI), (∀ k, k < fac n → chO V F S (tw0 V) x n k = y → (∀ k', k' < k → chO V F S (tw0 V) x n k' ≠ y) → r = orI n k z) → ((∀ k, k < fac n → chO V F S (tw0 V) x n k ≠ y) → r = -1) → cfr I1 I3 → jfr 6 J1 J3 → p12_order x y z I3 J3 (fun r2 I2 J2 => if r = r2 then K I2 J2 (up (up R 146 4 h) 146 5 7) else False) := fun r I3 J3 e1 e0 f3 j3 => by
    have q13 := qf_t (qf_si f1) (qf_cf f3)
    have hCM3 := ctM_q q13 (by decide) hSt.2.2.1.2 hCM
    have a0 : ofr I3 I3 := fun _ _ _ _ _ => rfl
    obtain ⟨k1, k2, k3, -⟩ := id hCM3.1
    have kk : ∀ I4 J4 : mI, ofr I3 I4 → jfr 193 J3 J4 → K I4 J4 (up (up R 146 4 h) 146 5 7) := fun I4 J4 f4 j4 => laQ H' (qf_t q13 (qf_o f4)) (jqt (jqt (jq6 j1) (jq6 j3)) (jq193 j4)) (r_sit R h 7)
    unfold p12_order
    refine m_isThing hCM3.1 (fun q4 => by omega) (fun _ => zf (by decide) (m_isColour hCM3.1 (fun q4 => by omega) (fun _ => zf (by decide) ?_)))
    rw [k1, k3]
    refine ⟨by omega, by omega,  m_is (fun q4 => by omega) (fun _ => zf (by decide) ⟨fac n + 1, ?_⟩)⟩
    exact m_fsoGo hCM3 hw q.2.2 hn n7 (by omega) (fun k a b c I4 J4 f4 j4 => zt (e1 k a b c) (kk I4 J4 f4 j4)) (fun a I4 J4 f4 j4 => zt (e0 a) (kk I4 J4 f4 j4)) (fac n) 0 I3 J3 (by omega) a0 (jfr_r 193 J3) (fun k' hk' => by omega)
  show p1_firstOrder 121 y I1 J1 (up (up R 146 4 h) 146 5 7) _
  unfold p1_firstOrder
  refine co_begin (J := J1) hC1 hN1 hK1 hn n7 (fun I2 H2 => ⟨fac n + 1, ?_⟩)
  refine c_fstGo hw q.2.2 hn n7 (fun k a b c I3 J3 H3 => zf (by decide) ?_) (fun a I3 J3 k H3 => zt rfl ⟨by omega, by omega, by omega, by omega, by omega, by omega,  ?_⟩) (fac n) 0 I2 J1 (by omega) H2 (fun k' hk' => by omega)
  · rw [rowC_o (j := z) (H3.2.2.2.2.2 a) (by omega) (by omega)]
    refine ⟨by omega, ⟨by omega, by omega, by omega, by omega, by omega, by omega,  fin _ I3 J3 (fun k2 a2 b2 c2 => ?_) (fun z => absurd b (z k a)) H3.1 H3.2.1⟩⟩
    rcases Nat.lt_trichotomy k k2 with e | e | e
    · exact absurd b (c2 k e)
    · rw [e]
    · exact absurd b2 (c k2 e)
  · exact fin _ I3 J3 (fun k2 a2 b2 c2 => absurd b2 (a k2 a2)) (fun _ => rfl) H3.1 H3.2.1
theorem la_16 {L t : Nat} {X : Int → Int} {i : Int} {I J : mI} {R : mR} {K : mI → mI → mR → Prop} (H : LaH L t X i I J R K) : plaw_16 L X i I J R K := by
  have hk := laK H
  have H' := H
  obtain ⟨hL, hX, h0, h1, ht, ⟨h, sp, bk, V, F, S, P, hl, hs, hr⟩, -⟩ := H
  have hh := iLan_ld hl
  have hw := iWfs hl hs
  have hCM := iCtM hl hs
  have hT := iTwC hl
  obtain ⟨⟨r12, -, -⟩, hLd, hV, hF, hM, hN, hNam, hTw, hSup⟩ := hl
  obtain ⟨hC, hSM, hSt⟩ := hs
  have nn := hV.1
  obtain ⟨n, hn⟩ : ∃ n : Nat, V 1 0 = n := ⟨(V 1 0).toNat, by omega⟩
  have n7 : n < 7 := by omega
  unfold plaw_16
  refine ⟨by omega, by omega, by omega, by omega, ?_⟩
  generalize X (i + 1) = x
  generalize X (i + 2) = y
  have no : ¬ ((0 ≤ x ∧ x < V 1 2) ∧ 0 ≤ y ∧ y < V 1 1) → p12_orders x y I J (fun r2 I2 J2 => if (-1 : Int) = r2 then K I2 J2 R else False) := fun q => by
    unfold p12_orders
    exact m_isThing hM (fun _ => zt rfl (zt rfl hk)) (fun q1 => zf (by decide) (m_isColour hM (fun _ => zt rfl (zt rfl hk)) (fun q2 => absurd ⟨q1, q2⟩ q)))
  unfold p11_orders
  rw [r12]
  refine ⟨hh, c_there hLd (fun q => zt rfl ⟨by omega, by omega, by omega, by omega,  no (by omega)⟩) (fun q => zf (by decide) ⟨hh, c_there hLd (fun q2 => zt rfl ⟨by omega, by omega, by omega, by omega,  no (by omega)⟩) (fun q2 => zf (by decide) ⟨hh, ?_⟩)⟩)⟩
  refine c_sit hh isSt_7 hLd hC hT hw (fun I1 J1 f1 j1 hC1 hK1 hN1 _ => ?_)
  show p1_countOrders 121 y I1 J1 (up (up R 146 4 h) 146 5 7) _
  unfold p1_countOrders
  refine co_begin (J := J1) hC1 hN1 hK1 hn n7 (fun I2 H2 => ⟨fac n + 1, ?_⟩)
  refine c_cntGo hw q.2.2 hn n7 (fun I3 J3 k H3 => ⟨by omega, by omega, by omega, by omega,  ?_⟩) (fac n) 0 I2 J1 (by omega) H2
  have q13 := qf_t (qf_si f1) (qf_cf H3.1)
  have hCM3 := ctM_q q13 (by decide) hSt.2.2.1.2 hCM
  have a0 : ofr I3 I3 := fun _ _ _ _ _ => rfl
  unfold p12_orders
  refine m_isThing hCM3.1 (fun q4 => by omega) (fun _ => zf (by decide) (m_isColour hCM3.1 (fun q4 => by omega) (fun _ => zf (by decide) ⟨fac n + 1, ?_⟩)))
  exact m_ordGo hCM3 hw q.2.2 hn n7 (fun I4 J4 f4 j4 => zt rfl (laQ H' (qf_t q13 (qf_o f4)) (jqt (jqt (jq6 j1) (jq6 H3.2.1)) (jq193 j4)) (r_sit R h 7))) (fac n) 0 I3 J3 (by omega) a0 (jfr_r 193 J3)
