/-! colour, thing, blind -/
theorem la_7 {L t : Nat} {X : Int → Int} {i : Int} {I J : mI} {R : mR} {K : mI → mI → mR → Prop} (H : LaH L t X i I J R K) : plaw_7 L X i I J R K := by
  have hk := laK H
  obtain ⟨hL, hX, h0, h1, ht, ⟨h, sp, bk, V, F, S, P, hl, hs, hr⟩, -⟩ := H
  have hh := iLan_ld hl
  obtain ⟨⟨r12, -, -⟩, hLd, hV, hF, hM, hN, hNam, hTw, hSup⟩ := hl
  obtain ⟨hC, hSM, hSt⟩ := hs
  have n := hV.1
  unfold plaw_7
  refine ⟨by omega, by omega, by omega, by omega, ?_⟩
  generalize X (i + 1) = x
  generalize X (i + 2) = y
  unfold p11_colour
  rw [r12]
  have hbk := hM.2.1
  have no : ¬ (0 ≤ x ∧ x < V 1 1 ∧ 0 ≤ y ∧ y ≤ 4) → p12_colour x y I (fun r2 => if (-1 : Int) = r2 then K I J R else False) := fun q => by
    unfold p12_colour
    refine m_isColour hM (fun _ => zt rfl (zt rfl hk)) (fun q2 => zf (by decide) (zf (by omega) (zf (by omega) (zf (by omega) (zf (by omega) (zf (by omega) (zt rfl hk)))))))
  have yes : 0 ≤ x ∧ x < V 1 1 → 0 ≤ y → y ≤ 3 → p12_colour x y I (fun r2 => if tr V 1 x y = r2 then K I J R else False) := fun q y0 y3 => by
    obtain ⟨m1, m2, m3, m4, m5, m6, m7, m8, m9, -⟩ := id hM
    unfold p12_colour
    refine m_isColour hM (fun q2 => absurd q q2) (fun q2 => zf (by decide) ?_)
    rw [m1]
    by_cases e0 : y = 0
    · refine zt e0 ⟨by omega, by omega, by omega, by omega, by omega,  zt ?_ hk⟩
      rw [m7 x y q.1 q.2 (by omega) (by omega)]
    refine zf e0 ?_
    by_cases e1 : y = 1
    · refine zt e1 ⟨by omega, by omega, by omega, by omega, by omega,  zt ?_ hk⟩
      rw [m7 x y q.1 q.2 (by omega) (by omega)]
    refine zf e1 ?_
    by_cases e2 : y = 2
    · refine zt e2 ⟨by omega, by omega, by omega, by omega, by omega,  zt ?_ hk⟩
      rw [m7 x y q.1 q.2 (by omega) (by omega)]
    refine zf e2 (zt (by omega) ⟨by omega, by omega, by omega,  zt ?_ hk⟩)
    rw [m9 x q.1 q.2, show y = 3 by omega]
  refine ⟨hh, c_there hLd (fun q => zt rfl ⟨by omega, by omega, by omega, by omega,  no (by omega)⟩) (fun q => zf (by decide) ?_)⟩
  refine zs (fun e => ⟨by omega, by omega, by omega, by omega,  no (by omega)⟩) (fun e => zs (fun e2 => ?_) (fun e2 => ⟨by omega, by omega, by omega, by omega,  no (by omega)⟩))
  by_cases e4 : y = 4
  · refine zt e4 ⟨hh, c_worn hC (by rw [hLd.2.1]) n.2.2 ⟨by omega, by omega, by omega, by omega, ?_⟩⟩
    unfold p12_colour
    refine m_isColour hM (fun q2 => by omega) (fun q2 => zf (by decide) (zf (by omega) (zf (by omega) (zf (by omega) (zf (by omega) (zt e4 (m_worn hM hSM (by omega) n.2.2 (zt rfl hk))))))))
  · exact zf e4 ⟨hh, c_trait hLd (by omega) (by omega) (by omega) ⟨by omega, by omega, by omega, by omega,  yes (by omega) (by omega) (by omega)⟩⟩
theorem bit_step : ∀ k : Nat, k < 64 → k ≠ 0 → (0 ≤ bAnd (k : Int) ((k : Int) - 1) ∧ bAnd (k : Int) ((k : Int) - 1) < (k : Int)) ∧ bc (k : Int) = 1 + bc (bAnd (k : Int) ((k : Int) - 1)) := by decide +kernel
theorem m_bitsGo {Q : Int → Prop} : ∀ (f : Nat) (k acc : Int), 0 ≤ k → k ≤ f → k < 64 → 0 ≤ acc → acc + f ≤ 200 → Q (acc + bc k) → p12_bits_b4 Q (f + 1) acc k
  | 0, k, acc, h0, h1, h2, h3, h4, hq => by
    have e : k = 0 := by omega
    subst e
    show p12_bits_b4_body Q (p12_bits_b4 Q 0) acc 0
    unfold p12_bits_b4_body
    rw [show bc 0 = 0 by decide +kernel, Int.add_zero] at hq
    exact zt rfl hq
  | f + 1, k, acc, h0, h1, h2, h3, h4, hq => by
    show p12_bits_b4_body Q (p12_bits_b4 Q (f + 1)) acc k
    unfold p12_bits_b4_body
    by_cases e : k = 0
    · subst e
      rw [show bc 0 = 0 by decide +kernel, Int.add_zero] at hq
      exact zt rfl hq
    · obtain ⟨k', rfl⟩ : ∃ n : Nat, k = n := ⟨k.toNat, by omega⟩
      obtain ⟨⟨b1, b2⟩, b3⟩ := bit_step k' (by omega) (by omega)
      refine zf e ⟨by omega, by omega,  m_bitsGo f _ (acc + 1) b1 (by omega) (by omega) (by omega) (by omega) ?_⟩
      rw [b3, ← Int.add_assoc] at hq; exact hq
theorem m_bits {k : Int} {Q : Int → Prop} (h0 : 0 ≤ k) (h1 : k < 64) (hq : Q (bc k)) : p12_bits k Q := ⟨65, m_bitsGo 64 k 0 h0 (by omega) h1 (by omega) (by omega) (by rw [Int.zero_add]; exact hq)⟩
theorem la_8 {L t : Nat} {X : Int → Int} {i : Int} {I J : mI} {R : mR} {K : mI → mI → mR → Prop} (H : LaH L t X i I J R K) : plaw_8 L X i I J R K := by
  have hk := laK H
  obtain ⟨hL, hX, h0, h1, ht, ⟨h, sp, bk, V, F, S, P, hl, hs, hr⟩, -⟩ := H
  have hh := iLan_ld hl
  obtain ⟨⟨r12, -, -⟩, hLd, hV, hF, hM, hN, hNam, hTw, hSup⟩ := hl
  obtain ⟨hC, hSM, hSt⟩ := hs
  have n := hV.1
  unfold plaw_8
  refine ⟨by omega, by omega, by omega, by omega, ?_⟩
  generalize X (i + 1) = x
  generalize X (i + 2) = y
  unfold p11_thing
  rw [r12]
  have hbk := hM.2.1
  obtain ⟨m1, m2, m3, m4, m5, m6, m7, m8, m9, m10, m11, -⟩ := id hM
  have no : ¬ (0 ≤ x ∧ x < V 1 2 ∧ 0 ≤ y ∧ y ≤ 4) → p12_thing x y I (fun r2 => if (-1 : Int) = r2 then K I J R else False) := fun q => by
    unfold p12_thing
    refine m_isThing hM (fun _ => zt rfl (zt rfl hk)) (fun q2 => zf (by decide) (zf (by omega) (zf (by omega) (zf (by omega) (zf (by omega) (zf (by omega) (zt rfl hk)))))))
  have yes : 0 ≤ x ∧ x < V 1 2 → 0 ≤ y → y ≤ 2 → p12_thing x y I (fun r2 => if tr V 2 x y = r2 then K I J R else False) := fun q y0 y3 => by
    unfold p12_thing
    refine m_isThing hM (fun q2 => absurd q q2) (fun q2 => zf (by decide) ?_)
    rw [m1]
    by_cases e0 : y = 0
    · refine zt e0 ⟨by omega, by omega, by omega, by omega, by omega,  zt ?_ hk⟩
      rw [m8 x y q.1 q.2 (by omega) (by omega)]
    refine zf e0 ?_
    by_cases e1 : y = 1
    · refine zt e1 ⟨by omega, by omega, by omega, by omega, by omega,  zt ?_ hk⟩
      rw [m8 x y q.1 q.2 (by omega) (by omega)]
    refine zf e1 (zt (by omega) ⟨by omega, by omega, by omega, by omega, by omega,  zt ?_ hk⟩)
    rw [m8 x y q.1 q.2 (by omega) (by omega)]
  refine ⟨hh, c_there hLd (fun q => zt rfl ⟨by omega, by omega, by omega, by omega,  no (by omega)⟩) (fun q => zf (by decide) ?_)⟩
  refine zs (fun e => ⟨by omega, by omega, by omega, by omega,  no (by omega)⟩) (fun e => zs (fun e2 => ?_) (fun e2 => ⟨by omega, by omega, by omega, by omega,  no (by omega)⟩))
  by_cases e3 : y = 3
  · refine zt e3 ⟨by omega, ⟨by omega, by omega, by omega, by omega, ?_⟩⟩
    unfold p12_thing
    refine m_isThing hM (fun q2 => by omega) (fun q2 => zf (by decide) (zf (by omega) (zf (by omega) (zf (by omega) (zt e3 ⟨by omega, zt ?_ hk⟩)))))
    have a1 : I 10 x = S 3 x := (hC.2.2.2.1 x (by omega) (by omega)).2.2
    have a2 := ((stM0 hSM).1 x (by omega) (by omega)).2.2
    exact a1.trans a2.symm
  refine zf e3 ?_
  by_cases e4 : y = 4
  · have nr := hV.2.2.2.2.2.2.1 x (by omega) (by omega)
    have e5 : I (h + 4) x = V 4 x := by rw [hLd.2.2.2.2.1]
    rw [e5]
    refine zt e4 ⟨hh, by omega, nr, ⟨by omega, by omega, by omega, by omega, ?_⟩⟩
    unfold p12_thing
    refine m_isThing hM (fun q2 => by omega) (fun q2 => zf (by decide) (zf (by omega) (zf (by omega) (zf (by omega) (zf e3 (zt e4 ?_))))))
    unfold p12_nearSet
    rw [m1, (m11 x (by omega) (by omega)).1]
    exact ⟨by omega, by omega, by omega,  m_bits nr.1 nr.2 (zt rfl hk)⟩
  · exact zf e4 ⟨hh, c_trait hLd (by omega) (by omega) (by omega) ⟨by omega, by omega, by omega, by omega,  yes (by omega) (by omega) (by omega)⟩⟩
def plR (o : Int → Int) (x : Int) : Nat → Int → Int
  | 0, _ => -1
  | d + 1, l => if o l = x then l else plR o x d (l + 1)
theorem c_placeGo {I : mI} {x n : Int} {o : Int → Int} {Q : Int → Prop} (ho : ∀ k, 0 ≤ k → k < 6 → I 8 k = o k) (hn : n ≤ 6) (Q2 : Int → Prop) (I2 : mI) {bk : Int} (hb : I2 159 13 = bk) (hb2 : bk = 0 ∨ bk = 1) (h1 : I2 161 bk = n) (ho2 : ∀ k, 0 ≤ k → k < n → I2 187 k = o k) :
    ∀ (d : Nat) (l : Int), 0 ≤ l → l + d = n → (Q (plR o x d l) → p7_placeOf_b2 7 x n I Q (d + 1) l) ∧ (Q2 (plR o x d l) → p12_placeOf_b2 x I2 Q2 (d + 1) l)
  | 0, l, h0, hl => by
    refine ⟨fun q => ?_, fun q => ?_⟩
    · show p7_placeOf_b2_body 7 x n I Q (p7_placeOf_b2 7 x n I Q 0) l
      unfold p7_placeOf_b2_body
      exact zt (by omega) q
    · show p12_placeOf_b2_body x I2 Q2 (p12_placeOf_b2 x I2 Q2 0) l
      unfold p12_placeOf_b2_body
      rw [hb, h1]
      exact ⟨by omega, zt (by omega) q⟩
  | d + 1, l, h0, hl => by
    obtain ⟨g1, g2⟩ := c_placeGo (Q := Q) (x := x) ho hn Q2 I2 hb hb2 h1 ho2 d (l + 1) (by omega) (by omega)
    by_cases e : o l = x
    · unfold plR
      rw [if_pos e]
      refine ⟨fun q => ?_, fun q => ?_⟩
      · show p7_placeOf_b2_body 7 x n I Q (p7_placeOf_b2 7 x n I Q (d + 1)) l
        unfold p7_placeOf_b2_body
        exact zf (by omega) (zf (by omega) ⟨by omega, zt ((ho l h0 (by omega)).trans e) q⟩)
      · show p12_placeOf_b2_body x I2 Q2 (p12_placeOf_b2 x I2 Q2 (d + 1)) l
        unfold p12_placeOf_b2_body
        rw [hb, h1, ho2 l h0 (by omega)]
        exact ⟨by omega, zf (by omega) ⟨by omega, zt e q⟩⟩
    · unfold plR
      rw [if_neg e]
      refine ⟨fun q => ?_, fun q => ?_⟩
      · show p7_placeOf_b2_body 7 x n I Q (p7_placeOf_b2 7 x n I Q (d + 1)) l
        unfold p7_placeOf_b2_body
        exact zf (by omega) (zf (by omega) ⟨by omega, zf (fun q2 => e ((ho l h0 (by omega)).symm.trans q2)) ⟨by omega, g1 q⟩⟩)
      · show p12_placeOf_b2_body x I2 Q2 (p12_placeOf_b2 x I2 Q2 (d + 1)) l
        unfold p12_placeOf_b2_body
        rw [hb, h1, ho2 l h0 (by omega)]
        exact ⟨by omega, zf (by omega) ⟨by omega, zf e ⟨by omega, g2 q⟩⟩⟩
theorem iTwC {I J : mI} {R : mR} {h sp : Nat} {bk : Int} {V : mI} {F : Int → List (Int × Int)} (hl : iLan I J R h sp bk V F) : twC I V (tw0 V) := by
  intro b b0 b1
  rw [if_neg (by rw [hl.2.2.2.2.2.2.2.2]; omega)]
  unfold tw0
  rw [if_pos ⟨b0, b1⟩]
theorem jq6 {J J' : mI} (h : jfr 6 J J') : J' 159 = J 159 ∧ J' 177 = J 177 := ⟨h 159 (by decide), h 177 (by decide)⟩
theorem jq193 {J J' : mI} (h : jfr 193 J J') : J' 159 = J 159 ∧ J' 177 = J 177 := ⟨h 159 (by decide), h 177 (by decide)⟩
theorem jqt {J1 J2 J3 : mI} (h1 : J2 159 = J1 159 ∧ J2 177 = J1 177) (h2 : J3 159 = J2 159 ∧ J3 177 = J2 177) : J3 159 = J1 159 ∧ J3 177 = J1 177 := ⟨h2.1.trans h1.1, h2.2.trans h1.2⟩
theorem iCtM {I J : mI} {R : mR} {h sp : Nat} {bk : Int} {V S : mI} {F : Int → List (Int × Int)} (hl : iLan I J R h sp bk V F) (hs : iSta I V S) : ctM I bk 0 V F S (tw0 V) := ⟨hl.2.2.2.2.1, hs.2.1, hl.2.2.2.2.2.2.2.1, by decide, by decide⟩
theorem iWfs {I J : mI} {R : mR} {h sp : Nat} {bk : Int} {V S : mI} {F : Int → List (Int × Int)} (hl : iLan I J R h sp bk V F) (hs : iSta I V S) : wfs V F S (tw0 V) := ⟨hl.2.2.1, hl.2.2.2.1, hs.2.2, tw0_rg hl.2.2.1⟩
