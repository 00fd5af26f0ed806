/-! THE CALLS, one by one: those that only ask -/
def LaH (L t : Nat) (X : Int → Int) (i : Int) (I J : mI) (R : mR) (K : mI → mI → mR → Prop) : Prop := L ≤ 3072 ∧ (∀ x, rg (X x)) ∧ 0 ≤ i ∧ i ≤ (L : Int) - 6 ∧ t < 600 ∧ Inv t I J R ∧ ∀ I' J' R', Inv (t + 1) I' J' R' → K I' J' R'
theorem laQ {L t : Nat} {X : Int → Int} {i : Int} {I J : mI} {R : mR} {K : mI → mI → mR → Prop} (H : LaH L t X i I J R K) {I' J' : mI} {R' : mR} (hf : qf I I') (hJ : J' 159 = J 159 ∧ J' 177 = J 177) (hR : rfr R R') : K I' J' R' := H.2.2.2.2.2.2 I' J' R' (inv_q H.2.2.2.2.2.1 hf hJ hR)
theorem laK {L t : Nat} {X : Int → Int} {i : Int} {I J : mI} {R : mR} {K : mI → mI → mR → Prop} (H : LaH L t X i I J R K) : K I J R := laQ H (qf_r I) ⟨rfl, rfl⟩ (rfr_r R)
theorem stM0 {V : mI} {I S : mI} (h : stM V I 0 S) : (∀ k, 0 ≤ k → (k < 6 ∧ (k < V 1 0 ∨ k < V 1 2)) → I 187 k = S 1 k ∧ I 188 k = S 2 k ∧ I 189 k = S 3 k) ∧ (∀ k, 0 ≤ k → k < 3 * S 0 2 → I 191 k = S 4 k) := by
  obtain ⟨c0, c1, c2, c3, c4⟩ := h
  refine ⟨fun k k0 k6 => ?_, fun k k0 k1 => ?_⟩
  · have h3 : I 187 (6 * 0 + k) = S 1 k ∧ I 188 (6 * 0 + k) = S 2 k ∧ I 189 (6 * 0 + k) = S 3 k := c3 k k0 k6
    rw [show (6 : Int) * 0 + k = k by omega] at h3; exact h3
  · have h4 : I 191 (120 * 0 + k) = S 4 k := c4 k k0 k1
    rw [show (120 : Int) * 0 + k = k by omega] at h4; exact h4
theorem stM1 {V : mI} {I S : mI} (h : stM V I 1 S) : (∀ k, 0 ≤ k → (k < 6 ∧ (k < V 1 0 ∨ k < V 1 2)) → I 187 (6 + k) = S 1 k ∧ I 188 (6 + k) = S 2 k ∧ I 189 (6 + k) = S 3 k) ∧ (∀ k, 0 ≤ k → k < 3 * S 0 2 → I 191 (120 + k) = S 4 k) := by
  obtain ⟨c0, c1, c2, c3, c4⟩ := h
  exact ⟨fun k k0 k6 => c3 k k0 k6, fun k k0 k1 => c4 k k0 k1⟩
theorem la_3 {L t : Nat} {X : Int → Int} {i : Int} {I J : mI} {R : mR} {K : mI → mI → mR → Prop} (H : LaH L t X i I J R K) : plaw_3 L X i I J R K := by
  have hk := laK H
  obtain ⟨hL, hX, h0, h1, ht, ⟨h, sp, bk, V, F, S, P, hl, hs, hr⟩, -⟩ := H
  unfold plaw_3
  refine ⟨by omega, by omega, ?_⟩
  unfold p11_fault p12_fault
  refine zs (fun e => ⟨by omega, by omega,  zt e (zt hr.2.2.1.1 hk)⟩) (fun e => zs (fun e2 => ⟨by omega, by omega,  zf e (zt e2 (zt hr.2.2.1.2 hk))⟩) (fun e2 => ⟨by omega, by omega,  zf e (zf e2 (zt rfl hk))⟩))
theorem la_34 {L t : Nat} {X : Int → Int} {i : Int} {I J : mI} {R : mR} {K : mI → mI → mR → Prop} (H : LaH L t X i I J R K) : plaw_34 L X i I J R K := by
  have hk := laK H
  obtain ⟨hL, hX, h0, h1, ht, ⟨h, sp, bk, V, F, S, P, hl, hs, hr⟩, -⟩ := H
  unfold plaw_34
  refine ⟨by omega, by omega, ?_⟩
  unfold p11_status p12_status
  refine zs (fun e => ⟨by omega, by omega,  m_is (fun _ => zt rfl (zt rfl hk)) (fun q => by omega)⟩) (fun e => zs (fun e2 => ⟨by omega, by omega,  m_is (fun _ => zt rfl (zt rfl hk)) (fun q => by omega)⟩) (fun e2 => ⟨by omega, ⟨by omega, by omega,  m_is (fun q => by omega) (fun q => zf (by decide) ⟨by omega, zt (hr.2.1 _ (by omega) (by omega)).1 hk⟩)⟩⟩))
theorem la_32 {L t : Nat} {X : Int → Int} {i : Int} {I J : mI} {R : mR} {K : mI → mI → mR → Prop} (H : LaH L t X i I J R K) : plaw_32 L X i I J R K := by
  have hk := laK H
  obtain ⟨hL, hX, h0, h1, ht, ⟨h, sp, bk, V, F, S, P, hl, hs, hr⟩, -⟩ := H
  obtain ⟨p1, p2, p3, p4⟩ := hr.2.2.2.2.2.1
  unfold plaw_32
  refine ⟨by omega, by omega, ?_⟩
  unfold p11_octet p12_octet p5_byteAt
  rw [← p1]
  refine zs (fun e => ⟨by omega, by omega, by omega,  m_is (fun _ => zt rfl (zt rfl hk)) (fun q => by omega)⟩) (fun e => zs (fun e2 => ⟨by omega, by omega, by omega,  m_is (fun _ => zt rfl (zt rfl hk)) (fun q => by omega)⟩) (fun e2 => zs (fun e3 => by omega) (fun e3 => ⟨by omega, ⟨by omega, by omega, by omega,  m_is (fun q => by omega) (fun q => zf (by decide) ⟨by omega, zt (p4 _ (by omega) (by omega)) hk⟩)⟩⟩)))
theorem la_30 {L t : Nat} {X : Int → Int} {i : Int} {I J : mI} {R : mR} {K : mI → mI → mR → Prop} (H : LaH L t X i I J R K) : plaw_30 L X i I J R K := by
  have hk := laK H
  obtain ⟨hL, hX, h0, h1, ht, ⟨h, sp, bk, V, F, S, P, hl, hs, hr⟩, -⟩ := H
  obtain ⟨⟨c0, c1, c2, c3, c4⟩, hM, hSt⟩ := hs
  obtain ⟨d0, d1, d2, d3, d4⟩ := id hM
  have s2 := hSt.2.2.1
  unfold plaw_30
  refine ⟨by omega, by omega, by omega, by omega, ?_⟩
  unfold p11_kept p12_kept p7_keptOf
  rw [c2, d2]
  refine zs (fun e => ⟨by omega, by omega, by omega, by omega, by omega,  m_is (fun _ => zt rfl (zt rfl hk)) (fun q => by omega)⟩) (fun e => zs (fun e2 => ⟨by omega, by omega, by omega, by omega, by omega,  m_is (fun _ => zt rfl (zt rfl hk)) (fun q => by omega)⟩) (fun e2 => zs (fun e3 => ⟨by omega, by omega, by omega, by omega, by omega,  m_is (fun q => by omega) (fun q => zf (by decide) (m_is (fun _ => zt rfl (zt rfl hk)) (fun q2 => by omega)))⟩) (fun e3 => zs (fun e4 => ⟨by omega, by omega, by omega,  ⟨by omega, by omega, by omega, by omega, by omega,  m_is (fun q => by omega) (fun q => zf (by decide) (m_is (fun q2 => by omega) (fun q2 => zf (by decide) ⟨by omega, by omega, by omega,  zt ?_ hk⟩)))⟩⟩) (fun e4 => ⟨by omega, by omega, by omega, by omega, by omega,  m_is (fun q => by omega) (fun q => zf (by decide) (m_is (fun _ => zt rfl (zt rfl hk)) (fun q2 => by omega)))⟩))))
  have a1 := c4 (3 * X (i + 1) + X (i + 2)) (by omega) (by omega)
  have a2 := (stM0 hM).2 (3 * X (i + 1) + X (i + 2)) (by omega) (by omega)
  exact a1.trans a2.symm
