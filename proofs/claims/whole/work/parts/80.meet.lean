/-! meet -/
def mrP (V : mI) (tb : Int → Int) (i : Int) : Prop := tb (3 * i) ≤ 30 ∧ (0 ≤ tb (3 * i + 1) ∧ tb (3 * i + 1) < V 1 2) ∧ (tb (3 * i + 2) = 255 ∨ (0 ≤ tb (3 * i + 2) ∧ tb (3 * i + 2) < V 1 1))
def meP (V : mI) (n : Int) (tb : Int → Int) : Prop := (1 ≤ Int.tdiv n 3 ∧ Int.tdiv n 3 ≤ 16) ∧ Int.tmod n 3 = 0 ∧ ∀ i, 0 ≤ i → i < Int.tdiv n 3 → mrP V tb i
theorem c_metGo {n told : Int} {tb : Int → Int} {Q : Int → mI → Prop} {I0 : mI} (ht : tbC I0 n tb) (hn : n = 3 * told) (h16 : told ≤ 16)
    (k : ∀ I' : mI, (∀ z, z ≠ 151 → z ≠ 157 → I' z = I0 z) → (∀ j, j ≠ 5 → I' 151 j = I0 151 j) → I' 151 5 = told → (∀ j, 0 ≤ j → j < n → I' 157 j = tb j) → Q 1 I') :
    ∀ (d : Nat) (l : Int) (I : mI), 0 ≤ l → l + d = n → (∀ z, z ≠ 157 → I z = I0 z) → (∀ j, 0 ≤ j → j < l → I 157 j = tb j) → p2_take_b110 told Q (d + 1) l I
  | 0, l, I, h0, h1, hf, hp => by
    show p2_take_b110_body told Q (p2_take_b110 told Q 0) l I
    unfold p2_take_b110_body
    exact ⟨by omega, zt (by omega) (m_putK (fun I1 q1 g1 f1 => k I1 (fun z a b => by rw [f1 z a]; exact hf z b) (fun j hj => by rw [g1 j hj, hf 151 (by decide)]) q1 (fun j j0 j1 => by rw [f1 157 (by decide)]; exact hp j j0 (by omega))))⟩
  | d + 1, l, I, h0, h1, hf, hp => by
    have htI : tbC I n tb := by
      unfold tbC
      rw [hf 2 (by decide), hf 3 (by decide)]; exact ht
    show p2_take_b110_body told Q (p2_take_b110 told Q (d + 1)) l I
    unfold p2_take_b110_body
    refine ⟨by omega, zf (by omega) (c_byte htI h0 (by omega) ⟨by omega, m_putK (fun I1 q1 g1 f1 => ⟨by omega, c_metGo ht hn h16 k d (l + 1) I1 (by omega) (by omega) (fun z hz => (f1 z hz).trans (hf z hz)) (fun j j0 j1 => ?_)⟩)⟩)⟩
    by_cases e : j = l
    · rw [e]; exact q1
    · rw [g1 j e]; exact hp j j0 (by omega)
theorem c_takeGo {h : Nat} {V : mI} {n told : Int} {tb : Int → Int} {Q : Int → mI → Prop} {I : mI} (ht : tbC I n tb) (hL : ldC I h V) (hn : n = 3 * told) (h16 : told ≤ 16)
    (k1 : (∀ i, 0 ≤ i → i < told → mrP V tb i) → ∀ I' : mI, (∀ z, z ≠ 151 → z ≠ 157 → I' z = I z) → (∀ j, j ≠ 5 → I' 151 j = I 151 j) → I' 151 5 = told → (∀ j, 0 ≤ j → j < n → I' 157 j = tb j) → Q 1 I') (k0 : ¬ (∀ i, 0 ≤ i → i < told → mrP V tb i) → Q 0 I) :
    ∀ (d : Nat) (l : Int), 0 ≤ l → l + d = told → (∀ i, 0 ≤ i → i < l → mrP V tb i) → p2_take_b32 h told I Q (d + 1) l
  | 0, l, h0, h1, hp => by
    show p2_take_b32_body h told I Q (p2_take_b32 h told I Q 0) l
    unfold p2_take_b32_body
    exact zt (by omega) ⟨n.toNat + 1, c_metGo ht hn h16 (k1 (fun i i0 i1 => hp i i0 (by omega))) _ 0 I (by omega) (by omega) (fun _ _ => rfl) (fun j j0 j1 => by omega)⟩
  | d + 1, l, h0, h1, hp => by
    show p2_take_b32_body h told I Q (p2_take_b32 h told I Q (d + 1)) l
    unfold p2_take_b32_body
    have go : mrP V tb l → p2_take_b32 h told I Q (d + 1) (l + 1) := fun m => c_takeGo ht hL hn h16 k1 k0 d (l + 1) (by omega) (by omega) (fun i i0 i1 => by
      by_cases e : i = l
      · rw [e]; exact m
      · exact hp i i0 (by omega))
    have no : ¬ mrP V tb l → Q 0 I := fun q => k0 (fun z => q (z l h0 (by omega)))
    refine zf (by omega) ⟨by omega, by omega,  c_byte ht (by omega) (by omega) ⟨by omega, c_byte ht (by omega) (by omega) (zs (fun e => no (fun m => by have := m.1; omega)) (fun e => ⟨by omega, by omega,  c_byte ht (by omega) (by omega) (c_there hL (fun q => zt rfl (no (fun m => q (by have := m.2.1; omega)))) (fun q => zf (by decide) (zs (fun e2 => ⟨by omega, go ⟨by omega, q.2.2, Or.inl e2⟩⟩) (fun e2 => c_there hL (fun q2 => zt rfl (no (fun m => ?_))) (fun q2 => zf (by decide) ⟨by omega, go ⟨by omega, q.2.2, Or.inr q2.2.2⟩⟩)))))⟩))⟩⟩
    rcases m.2.2 with m1 | m1
    · exact e2 m1
    · exact q2 ⟨by omega, by omega, m1⟩
theorem m_metGo {n told : Int} {tb : Int → Int} {Q : Int → mI → Prop} {I0 : mI} (ht : tbM I0 n tb) (hn : n = 3 * told) (h16 : told ≤ 16) (h62 : I0 159 62 = told)
    (k : ∀ I' : mI, (∀ z, z ≠ 199 → z ≠ 200 → z ≠ 201 → I' z = I0 z) → (∀ j, 0 ≤ j → j < told → I' 199 j = tb (3 * j) ∧ I' 200 j = tb (3 * j + 1) ∧ I' 201 j = if tb (3 * j + 2) = 255 then -1 else tb (3 * j + 2)) → Q told I') :
    ∀ (d : Nat) (l : Int) (I : mI), 0 ≤ l → l + d = told → (∀ z, z ≠ 199 → z ≠ 200 → z ≠ 201 → I z = I0 z) → (∀ j, 0 ≤ j → j < l → I 199 j = tb (3 * j) ∧ I 200 j = tb (3 * j + 1) ∧ I 201 j = if tb (3 * j + 2) = 255 then -1 else tb (3 * j + 2)) → p12_meet_b129 Q (d + 1) l I
  | 0, l, I, h0, h1, hf, hp => by
    show p12_meet_b129_body Q (p12_meet_b129 Q 0) l I
    unfold p12_meet_b129_body
    rw [hf 159 (by decide) (by decide) (by decide), h62]
    exact zt (by omega) (k I hf (fun j j0 j1 => hp j j0 (by omega)))
  | d + 1, l, I, h0, h1, hf, hp => by
    show p12_meet_b129_body Q (p12_meet_b129 Q (d + 1)) l I
    unfold p12_meet_b129_body
    have t0 := ht (3 * l) (by omega) (by omega)
    have t1 := ht (3 * l + 1) (by omega) (by omega)
    have t2 := ht (3 * l + 2) (by omega) (by omega)
    have e160 := hf 160 (by decide) (by decide) (by decide)
    rw [hf 159 (by decide) (by decide) (by decide), h62, e160, t0.1]
    refine zf (by omega) ⟨by omega, by omega, by omega,  m_putK (fun I4 q4 g4 f4 => ?_)⟩
    rw [f4 160 (by decide), e160, t1.1]
    refine ⟨by omega, by omega, by omega, by omega,  m_putK (fun I5 q5 g5 f5 => ?_)⟩
    rw [f5 160 (by decide), f4 160 (by decide), e160, t2.1]
    have fin : ∀ x, x = (if tb (3 * l + 2) = 255 then -1 else tb (3 * l + 2)) → wLet (up I5 201 l x) (fun I7 => rg (l + 1) ∧ p12_meet_b129 Q (d + 1) (l + 1) I7) := fun x hx =>
      m_putK (fun I6 q6 g6 f6 => ⟨by omega, m_metGo ht hn h16 h62 k d (l + 1) I6 (by omega) (by omega) (fun z a b c => by rw [f6 z c, f5 z b, f4 z a]; exact hf z a b c) (fun j j0 j1 => by
        by_cases e : j = l
        · subst e
          refine ⟨?_, ?_, ?_⟩
          · rw [f6 199 (by decide), f5 199 (by decide)]; exact q4
          · rw [f6 200 (by decide)]; exact q5
          · rw [q6]; exact hx
        · have a := hp j j0 (by omega)
          refine ⟨?_, ?_, ?_⟩
          · rw [f6 199 (by decide), f5 199 (by decide), g4 j e]; exact a.1
          · rw [f6 200 (by decide), g5 j e, f4 200 (by decide)]; exact a.2.1
          · rw [g6 j e, f5 201 (by decide), f4 201 (by decide)]; exact a.2.2)⟩)
    refine ⟨by omega, by omega, by omega,  zs (fun e => ⟨by omega, fin _ (by rw [if_pos e])⟩) (fun e => ⟨by omega, by omega, by omega, by omega,  fin _ (by rw [if_neg e])⟩)⟩
theorem m_meetGo {bk : Int} {V : mI} {F : Int → List (Int × Int)} {n told : Int} {tb : Int → Int} {Q : Int → mI → Prop} {I : mI} (ht : tbM I n tb) (hM : ldM I bk V F) (hn : n = 3 * told) (h16 : 1 ≤ told ∧ told ≤ 16)
    (k1 : (∀ i, 0 ≤ i → i < told → mrP V tb i) → p12_meet_b110 n 1 I Q) (k0 : ¬ (∀ i, 0 ≤ i → i < told → mrP V tb i) → p12_meet_b110 n 0 I Q) :
    ∀ (d : Nat) (l : Int), 0 ≤ l → l + d = told → (∀ i, 0 ≤ i → i < l → mrP V tb i) → p12_meet_b34 n I Q (d + 1) 1 (3 * l)
  | 0, l, h0, h1, hp => by
    show p12_meet_b34_body n I Q (p12_meet_b34 n I Q 0) 1 (3 * l)
    unfold p12_meet_b34_body
    exact zt (by omega) (k1 (fun i i0 i1 => hp i i0 (by omega)))
  | d + 1, l, h0, h1, hp => by
    have t0 := ht (3 * l) (by omega) (by omega)
    have t1 := ht (3 * l + 1) (by omega) (by omega)
    have t2 := ht (3 * l + 2) (by omega) (by omega)
    show p12_meet_b34_body n I Q (p12_meet_b34 n I Q (d + 1)) 1 (3 * l)
    unfold p12_meet_b34_body
    rw [t0.1, t1.1, t2.1]
    have go : mrP V tb l → p12_meet_b34 n I Q (d + 1) 1 (3 * l + 3) := fun m => by
      rw [show 3 * l + 3 = 3 * (l + 1) by omega]
      exact m_meetGo ht hM hn h16 k1 k0 d (l + 1) (by omega) (by omega) (fun i i0 i1 => by
        by_cases e : i = l
        · rw [e]; exact m
        · exact hp i i0 (by omega))
    have no : ¬ mrP V tb l → p12_meet_b34 n I Q (d + 1) 0 (3 * l + 3) := fun q => by
      show p12_meet_b34_body n I Q (p12_meet_b34 n I Q d) 0 (3 * l + 3)
      unfold p12_meet_b34_body
      have z := k0 (fun z => q (z l h0 (by omega)))
      exact zs (fun _ => z) (fun _ => zt rfl z)
    refine zf (by omega) (zf (by decide) ⟨by omega, zs (fun e => ⟨by omega, no (fun m => by have := m.1; omega)⟩) (fun e => ⟨by omega, by omega,  m_isThing hM (fun q => zt rfl ⟨by omega, no (fun m => q m.2.1)⟩) (fun q => zf (by decide) ⟨by omega, by omega,  m_isColour hM (fun q2 => zt rfl ⟨by omega, by omega,  zs (fun e2 => ⟨by omega, go ⟨by omega, q, Or.inl e2⟩⟩) (fun e2 => ⟨by omega, no (fun m => m.2.2.elim e2 q2)⟩)⟩) (fun q2 => zf (by decide) ⟨by omega, go ⟨by omega, q, Or.inr q2⟩⟩)⟩)⟩)⟩)
theorem la_20 {L t : Nat} {X : Int → Int} {i : Int} {I J : mI} {R : mR} {K : mI → mI → mR → Prop} (H : LaH L t X i I J R K) : plaw_20 L X i I J R K := by
  obtain ⟨hL, hX, h0, h1, ht, hI, hK⟩ := H
  obtain ⟨h, sp, bk, V, F, S, P, hl, hs, hr⟩ := id hI
  obtain ⟨r1, r2, r3, r4, r5, r6, r7⟩ := hr
  have hh := iLan_ld hl
  obtain ⟨⟨r12, -, -⟩, hLd, hV, hF, hLM, -⟩ := id hl
  obtain ⟨hC, hSM, hSt⟩ := id hs
  obtain ⟨t1, t2, t3, t4⟩ := id r1
  have htC : tbC I (I 2 1) (I 160) := ⟨rfl, ⟨t2, t3⟩, fun j j0 j1 => t4 j j0 j1⟩
  have hlh : h = 123 ∨ h = 132 := hh
  have hd : Int.tdiv (I 2 1) 3 = I 2 1 / 3 := Int.tdiv_eq_ediv_of_nonneg t2
  have hm : Int.tmod (I 2 1) 3 = I 2 1 % 3 := Int.tmod_eq_emod_of_nonneg t2
  -- refused
  have no : ¬ meP V (I 2 1) (I 160) → wLet (up I 2 1 0) (fun I2 => if (0 : Int) = 0 then p11_refuse 5 I2 (fun r2 I3 => p12_meet I3 (fun r3 I4 => if r2 = r3 then K I4 J R else False)) else p12_meet I2 (fun r3 I4 => if I2 151 5 = r3 then K I4 J R else False)) := fun q => by
    refine m_putK (fun I1 q1 g1 f1 => zt rfl ?_)
    have hrf := r2 5 (by decide) (by decide)
    refine c_refuse (by decide) (by decide) (by rw [f1 122 (by decide)]; omega) (fun I2 a1 a2 a3 => ?_)
    have F2 : ∀ z, z ≠ 2 → z ≠ 122 → I2 z = I z := fun z a b => by rw [a3 z b, f1 z a]
    have e9 : I2 159 = I 159 := F2 159 (by decide) (by decide)
    unfold p12_meet
    rw [e9, t1]
    refine m_putK (fun I4 q4 g4 f4 => ?_)
    have F4 : ∀ z, z ≠ 2 → z ≠ 122 → z ≠ 159 → I4 z = I z := fun z a b c => by rw [f4 z c, F2 z a b]
    have hLM4 : ldM I4 bk V F := ldM_fr (by rw [g4 13 (by decide), e9]) (fun z _ _ => F4 z (by omega) (by omega) (by omega)) hLM
    have htM4 : tbM I4 (I 2 1) (I 160) := fun j j0 j1 => by rw [F4 160 (by decide) (by decide) (by decide)]; exact ⟨rfl, (t4 j j0 j1).2⟩
    have fin : p12_meet_b110 (I 2 1) 0 I4 (fun r3 I4 => if (-1 : Int) = r3 then K I4 J R else False) := by
      unfold p12_meet_b110
      refine zt rfl (m_refuse (by decide) (by decide) (by rw [F4 184 (by decide) (by decide) (by decide)]; omega) (fun I6 b1 b2 b3 => zt rfl (hK I6 J R ?_)))
      refine inv_t5 (dl := fun j => if j = 5 then 1 else 0) hI (fun z hz a b c d => by rw [b3 z d, F4 z a b c]) (fun j hj => by rw [b3 159 (by decide), g4 j hj, e9]) (by rw [b3 2 (by decide), f4 2 (by decide), a3 2 (by decide)]; exact q1) (by rw [b3 159 (by decide)]; exact q4) (fun j => ?_) (by rw [b3 146 (by decide), F4 146 (by decide) (by decide) (by decide)]) (by rw [b3 151 (by decide), F4 151 (by decide) (by decide) (by decide)]) (fun _ w S' w1 s2 hst => stM_fr (fun z z0 z1 => by rw [b3 z (by omega), F4 z (by omega) (by omega) (by omega)]) hst)
      have x1 : I6 122 = I2 122 := by rw [b3 122 (by decide), f4 122 (by decide)]
      have x2 : I4 184 = I 184 := F4 184 (by decide) (by decide) (by decide)
      rw [x1]
      by_cases ej : j = 5
      · subst ej
        rw [a1, b1, x2, f1 122 (by decide)]
        show I 122 5 + 1 = I 122 5 + (if (5 : Int) = 5 then 1 else 0) ∧ I 184 5 + 1 = I 184 5 + (if (5 : Int) = 5 then 1 else 0) ∧ 0 ≤ (if (5 : Int) = 5 then (1 : Int) else 0) ∧ (if (5 : Int) = 5 then (1 : Int) else 0) ≤ 1
        rw [if_pos rfl]; omega
      · rw [a2 j ej, b2 j ej, x2, f1 122 (by decide)]
        show I 122 j = I 122 j + (if j = 5 then 1 else 0) ∧ I 184 j = I 184 j + (if j = 5 then 1 else 0) ∧ 0 ≤ (if j = 5 then (1 : Int) else 0) ∧ (if j = 5 then (1 : Int) else 0) ≤ 1
        rw [if_neg ej]; omega
    have fin0 : ∃ f, p12_meet_b34 (I 2 1) I4 (fun r3 I4 => if (-1 : Int) = r3 then K I4 J R else False) f 0 0 := by
      refine ⟨1, ?_⟩
      show p12_meet_b34_body (I 2 1) I4 _ _ 0 0
      unfold p12_meet_b34_body
      exact zs (fun _ => fin) (fun _ => zt rfl fin)
    refine zs (fun _ => fin0) (fun e => zs (fun e2 => zs (fun _ => fin0) (fun e3 => ?_)) (fun _ => fin0))
    refine ⟨(Int.tdiv (I 2 1) 3).toNat + 1, ?_⟩
    have hn3 : I 2 1 = 3 * Int.tdiv (I 2 1) 3 := by rw [hd]; rw [hm] at e2; omega
    have go := m_meetGo (Q := fun r3 I4 => if (-1 : Int) = r3 then K I4 J R else False) htM4 hLM4 hn3 (by rw [hd]; rw [hm] at e2; omega) (fun z => absurd ⟨by rw [hd]; rw [hm] at e2; omega, e2, z⟩ q) (fun _ => fin) (Int.tdiv (I 2 1) 3).toNat 0 (by omega) (by rw [hd]; omega) (fun i a b => by omega)
    exact go
  have yes : meP V (I 2 1) (I 160) → ∀ I1 : mI, (∀ z, z ≠ 151 → z ≠ 157 → I1 z = I z) → (∀ j, j ≠ 5 → I1 151 j = I 151 j) → I1 151 5 = Int.tdiv (I 2 1) 3 → (∀ j, 0 ≤ j → j < I 2 1 → I1 157 j = I 160 j) → wLet (up I1 2 1 0) (fun I2 => if (1 : Int) = 0 then p11_refuse 5 I2 (fun r2 I3 => p12_meet I3 (fun r3 I4 => if r2 = r3 then K I4 J R else False)) else p12_meet I2 (fun r3 I4 => if I2 151 5 = r3 then K I4 J R else False)) := fun q I1 f1 g1 d5 w1 => by
    obtain ⟨qa, qb, qc⟩ := q
    refine m_putK (fun I2 q2 g2 f2 => zf (by decide) ?_)
    have F2 : ∀ z, z ≠ 2 → z ≠ 151 → z ≠ 157 → I2 z = I z := fun z a b c => by rw [f2 z a, f1 z b c]
    have e9 : I2 159 = I 159 := F2 159 (by decide) (by decide) (by decide)
    have e5 : I2 151 5 = Int.tdiv (I 2 1) 3 := by rw [f2 151 (by decide)]; exact d5
    rw [e5]
    unfold p12_meet
    rw [e9, t1]
    refine m_putK (fun I4 q4 g4 f4 => ?_)
    have F4 : ∀ z, z ≠ 2 → z ≠ 151 → z ≠ 157 → z ≠ 159 → I4 z = I z := fun z a b c d => by rw [f4 z d, F2 z a b c]
    have hLM4 : ldM I4 bk V F := ldM_fr (by rw [g4 13 (by decide), e9]) (fun z _ _ => F4 z (by omega) (by omega) (by omega) (by omega)) hLM
    have htM4 : tbM I4 (I 2 1) (I 160) := fun j j0 j1 => by rw [F4 160 (by decide) (by decide) (by decide) (by decide)]; exact ⟨rfl, (t4 j j0 j1).2⟩
    have hn3 : I 2 1 = 3 * Int.tdiv (I 2 1) 3 := by rw [hd]; rw [hm] at qb; omega
    refine zf (by omega) (zt qb (zf (by omega) ⟨(Int.tdiv (I 2 1) 3).toNat + 1, ?_⟩))
    refine m_meetGo htM4 hLM4 hn3 qa (fun _ => ?_) (fun z => absurd qc z) (Int.tdiv (I 2 1) 3).toNat 0 (by omega) (by omega) (fun i a b => by omega)
    unfold p12_meet_b110
    refine zf (by decide) (m_putK (fun I5 q5 g5 f5 => ⟨(Int.tdiv (I 2 1) 3).toNat + 1, ?_⟩))
    have htM5 : tbM I5 (I 2 1) (I 160) := fun j j0 j1 => by rw [f5 160 (by decide)]; exact htM4 j j0 j1
    refine m_metGo htM5 hn3 qa.2 q5 (fun I6 f6 w6 => zt rfl (hK I6 J R ?_)) _ 0 I5 (by omega) (by omega) (fun _ _ _ _ => rfl) (fun j a b => by omega)
    have e : ∀ z, z ≠ 2 → z ≠ 151 → z ≠ 157 → z ≠ 159 → z ≠ 199 → z ≠ 200 → z ≠ 201 → I6 z = I z := fun z a b c d u v w => by rw [f6 z u v w, f5 z d, F4 z a b c d]
    have e99 : ∀ j, j ≠ 1 → j ≠ 62 → I6 159 j = I 159 j := fun j a b => by rw [f6 159 (by decide) (by decide) (by decide), g5 j b, g4 j a, e9]
    have e1 : I6 1 = I 1 := e 1 (by decide) (by decide) (by decide) (by decide) (by decide) (by decide) (by decide)
    have s2 : I6 2 1 = 0 := by rw [f6 2 (by decide) (by decide) (by decide), f5 2 (by decide), f4 2 (by decide)]; exact q2
    have s151 : I6 151 5 = Int.tdiv (I 2 1) 3 := by rw [f6 151 (by decide) (by decide) (by decide), f5 151 (by decide), f4 151 (by decide)]; exact e5
    have s157 : I6 157 = I1 157 := by rw [f6 157 (by decide) (by decide) (by decide), f5 157 (by decide), f4 157 (by decide), f2 157 (by decide)]
    refine ⟨h, sp, bk, V, F, S, P, fr_lan hl (fun z _ _ => e z (by omega) (by omega) (by omega) (by omega) (by omega) (by omega) (by omega)) (by rw [e 146 (by decide) (by decide) (by decide) (by decide) (by decide) (by decide) (by decide)]) (e99 13 (by decide) (by decide)) (fun z _ _ => e z (by omega) (by omega) (by omega) (by omega) (by omega) (by omega) (by omega)) (e 192 (by decide) (by decide) (by decide) (by decide) (by decide) (by decide) (by decide)) rfl rfl, fr_sta hs (fun z _ _ => e z (by omega) (by omega) (by omega) (by omega) (by omega) (by omega) (by omega)) (fun z _ _ => e z (by omega) (by omega) (by omega) (by omega) (by omega) (by omega) (by omega)), ⟨?_, by rw [s2]; omega, by rw [s2]; omega, fun k k0 k1 => by rw [s2] at k1; omega⟩, fr_ref r2 (by omega) (e 122 (by decide) (by decide) (by decide) (by decide) (by decide) (by decide) (by decide)) (e 184 (by decide) (by decide) (by decide) (by decide) (by decide) (by decide) (by decide)), fr_fau r3 (by rw [e1]) (by rw [e1]) (e99 10 (by decide) (by decide)) (e99 11 (by decide) (by decide)), fr_die r4 (by rw [e1]) rfl, fr_pas r5 (fun z _ _ => e z (by omega) (by omega) (by omega) (by omega) (by omega) (by omega) (by omega)) (e99 52 (by decide) (by decide)) (e99 53 (by decide) (by decide)) (fun w S' _ _ hst => stM_fr (fun z _ _ => e z (by omega) (by omega) (by omega) (by omega) (by omega) (by omega) (by omega)) hst), fr_pic r6 (by rw [e 119 (by decide) (by decide) (by decide) (by decide) (by decide) (by decide) (by decide)]) (e 120 (by decide) (by decide) (by decide) (by decide) (by decide) (by decide) (by decide)) (e99 68 (by decide) (by decide)) (e 203 (by decide) (by decide) (by decide) (by decide) (by decide) (by decide) (by decide)), ?_⟩
    · rw [s2, f6 159 (by decide) (by decide) (by decide), g5 1 (by decide)]; exact q4
    · have x62 : I6 159 62 = Int.tdiv (I 2 1) 3 := by rw [f6 159 (by decide) (by decide) (by decide)]; exact q5
      refine ⟨s151.trans x62.symm, by omega, by omega, fun j j0 j1 => ?_⟩
      rw [s151] at j1
      obtain ⟨c1, c2, c3⟩ := w6 j j0 j1
      obtain ⟨p1, p2, p3⟩ := qc j j0 j1
      have b0 := (t4 (3 * j) (by omega) (by omega)).2
      rw [s157, w1 (3 * j) (by omega) (by omega), w1 (3 * j + 1) (by omega) (by omega), w1 (3 * j + 2) (by omega) (by omega), c1, c2, c3]
      refine ⟨⟨rfl, by omega, p1⟩, ⟨rfl, p2⟩, rfl, ?_⟩
      have nn := hV.1.2.1
      rcases p3 with p | p
      · rw [if_pos p]; omega
      · rw [if_neg (by omega)]; omega
  unfold plaw_20 p11_meet
  rw [r12]
  refine ⟨hh, ?_⟩
  unfold p2_take
  refine zs (fun e => no (fun q => by have := q.1; omega)) (fun e => zs (fun e2 => no (fun q => by have := q.1; omega)) (fun e2 => zs (fun e3 => ?_) (fun e3 => no (fun q => e3 q.2.1))))
  have hn3 : I 2 1 = 3 * Int.tdiv (I 2 1) 3 := by rw [hd]; rw [hm] at e3; omega
  exact ⟨(Int.tdiv (I 2 1) 3).toNat + 1, c_takeGo htC hLd hn3 (by omega) (fun a I1 f1 g1 d5 w1 => yes ⟨⟨by omega, by omega⟩, e3, a⟩ I1 f1 g1 d5 w1) (fun a => no (fun q => a q.2.2)) _ 0 (by omega) (by omega) (fun i a b => by omega)⟩
