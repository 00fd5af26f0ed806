/-! letters -/
theorem shb : ∀ m : Nat, m < 6 → (((Int32.ofInt (8 * (m : Int))).toInt64 &&& 63).toBitVec.smod 64) = BitVec.ofNat 64 (8 * m) := by decide +kernel
theorem bmod64 {x : Int} (h0 : 0 ≤ x) (h1 : x < 9223372036854775808) : Int.bmod x (2 ^ 64) = x := by
  have e : ((2 ^ 64 : Nat) : Int) = 18446744073709551616 := by decide
  rw [Int.bmod_def, e, Int.emod_eq_of_lt h0 (by omega), if_pos (by omega)]
theorem lShr8 {x : Int} (h0 : 0 ≤ x) (h1 : x < 9223372036854775808) (m : Nat) (hm : m < 6) : lShr x (8 * (m : Int)) = x / ((2 ^ (8 * m) : Nat) : Int) := by
  unfold lShr
  show (Int64.ofInt x >>> ((Int32.ofInt (8 * (m : Int))).toInt64 &&& 63)).toBitVec.toInt = _
  rw [Int64.toBitVec_shiftRight, shb m hm, BitVec.toInt_sshiftRight']
  have e1 : (Int64.ofInt x).toBitVec.toInt = x := by
    show (BitVec.ofInt 64 x).toInt = x
    rw [BitVec.toInt_ofInt, bmod64 h0 h1]
  have e2 : (BitVec.ofNat 64 (8 * m)).toNat = 8 * m := by
    rw [BitVec.toNat_ofNat]; omega
  rw [e1, e2, Int.shiftRight_eq_div_pow]
theorem lAnd255 {x : Int} (h0 : 0 ≤ x) (h1 : x < 9223372036854775808) : lAnd x 255 = x % 256 := by
  unfold lAnd
  have h : (Int64.ofInt x &&& Int64.ofInt 255).toBitVec.toNat = x.toNat % 256 := by
    rw [Int64.toBitVec_and, BitVec.toNat_and]
    have e1 : (Int64.ofInt x).toBitVec.toNat = (x % 18446744073709551616).toNat := BitVec.toNat_ofInt x
    have e2 : (Int64.ofInt 255).toBitVec.toNat = 2 ^ 8 - 1 := by decide
    rw [e1, e2, Nat.and_two_pow_sub_one_eq_mod, Int.emod_eq_of_lt h0 (by omega)]
  have h2 : (Int64.ofInt x &&& Int64.ofInt 255).toInt = ((Int64.ofInt x &&& Int64.ofInt 255).toBitVec.toNat : Int) := by
    show (Int64.ofInt x &&& Int64.ofInt 255).toBitVec.toInt = _
    rw [BitVec.toInt_eq_toNat_of_lt (by rw [h]; omega)]
  rw [h2, h]; omega
def lvOK (ls : List Int) : Prop := ∀ x ∈ ls, 1 ≤ x ∧ x ≤ 26
theorem lvOK_t {x : Int} {r : List Int} (h : lvOK (x :: r)) : (1 ≤ x ∧ x ≤ 26) ∧ lvOK r := ⟨h x List.mem_cons_self, fun y hy => h y (List.mem_cons_of_mem _ hy)⟩
/-- the numbers' size: below 27 (256) to the length -/
theorem na27 : ∀ (ls : List Int), lvOK ls → 0 ≤ naP 27 ls ∧ (naP 27 ls = 0 ↔ ls = [])
  | [], _ => ⟨Int.le_refl 0, ⟨fun _ => rfl, fun _ => rfl⟩⟩
  | x :: r, h => by
    obtain ⟨hx, hr⟩ := lvOK_t h
    have i := na27 r hr
    have e : naP 27 (x :: r) = naP 27 r * 27 + x := rfl
    exact ⟨by omega, ⟨fun q => by omega, fun q => by cases q⟩⟩
theorem na27_t {x : Int} {r : List Int} (h : lvOK (x :: r)) : Int.tdiv (naP 27 (x :: r)) 27 = naP 27 r ∧ Int.tmod (naP 27 (x :: r)) 27 = x := by
  obtain ⟨hx, hr⟩ := lvOK_t h
  have i := na27 r hr
  have e : naP 27 (x :: r) = naP 27 r * 27 + x := rfl
  rw [e, Int.tdiv_eq_ediv_of_nonneg (by omega), Int.tmod_eq_emod_of_nonneg (by omega)]
  omega
theorem na27_b : ∀ (ls : List Int), lvOK ls → ls.length ≤ 6 → naP 27 ls ≤ 387420488 := by
  have step : ∀ (n : Nat) (b : Int), (∀ ls : List Int, lvOK ls → ls.length ≤ n → naP 27 ls ≤ b) → 0 ≤ b → ∀ ls : List Int, lvOK ls → ls.length ≤ n + 1 → naP 27 ls ≤ b * 27 + 26 := fun n b hb b0 ls h hl => by
    match ls, h, hl with
    | [], _, _ => show (0 : Int) ≤ b * 27 + 26; omega
    | x :: r, h, hl =>
      obtain ⟨hx, hr⟩ := lvOK_t h
      have := hb r hr (by rw [List.length_cons] at hl; omega)
      show naP 27 r * 27 + x ≤ b * 27 + 26
      omega
  have h0 : ∀ ls : List Int, lvOK ls → ls.length ≤ 0 → naP 27 ls ≤ 0 := fun ls _ hl => by
    rw [List.length_eq_zero_iff.mp (by omega : ls.length = 0)]; exact Int.le_refl 0
  have h6 := step 5 _ (step 4 _ (step 3 _ (step 2 _ (step 1 _ (step 0 0 h0 (by decide)) (by decide)) (by decide)) (by decide)) (by decide)) (by decide)
  intro ls h hl
  have := h6 ls h hl
  omega
theorem na256 : ∀ (ls : List Int), lvOK ls → 0 ≤ naP 256 (ls.map (· + 96)) ∧ (naP 256 (ls.map (· + 96)) = 0 ↔ ls = [])
  | [], _ => ⟨Int.le_refl 0, ⟨fun _ => rfl, fun _ => rfl⟩⟩
  | x :: r, h => by
    obtain ⟨hx, hr⟩ := lvOK_t h
    have i := na256 r hr
    have e : naP 256 ((x :: r).map (· + 96)) = naP 256 (r.map (· + 96)) * 256 + (x + 96) := rfl
    exact ⟨by omega, ⟨fun q => by omega, fun q => by cases q⟩⟩
theorem na256_t {x : Int} {r : List Int} (h : lvOK (x :: r)) : naP 256 ((x :: r).map (· + 96)) / 256 = naP 256 (r.map (· + 96)) ∧ naP 256 ((x :: r).map (· + 96)) % 256 = x + 96 := by
  obtain ⟨hx, hr⟩ := lvOK_t h
  have i := na256 r hr
  have e : naP 256 ((x :: r).map (· + 96)) = naP 256 (r.map (· + 96)) * 256 + (x + 96) := rfl
  rw [e]
  omega
theorem na256_b : ∀ (ls : List Int), lvOK ls → ls.length ≤ 6 → naP 256 (ls.map (· + 96)) < 281474976710656 := by
  have step : ∀ (n : Nat) (b : Int), (∀ ls : List Int, lvOK ls → ls.length ≤ n → naP 256 (ls.map (· + 96)) < b) → 0 < b → ∀ ls : List Int, lvOK ls → ls.length ≤ n + 1 → naP 256 (ls.map (· + 96)) < b * 256 := fun n b hb b0 ls h hl => by
    match ls, h, hl with
    | [], _, _ => show (0 : Int) < b * 256; omega
    | x :: r, h, hl =>
      obtain ⟨hx, hr⟩ := lvOK_t h
      have := hb r hr (by rw [List.length_cons] at hl; omega)
      show naP 256 (r.map (· + 96)) * 256 + (x + 96) < b * 256
      omega
  have h0 : ∀ ls : List Int, lvOK ls → ls.length ≤ 0 → naP 256 (ls.map (· + 96)) < 1 := fun ls _ hl => by
    rw [List.length_eq_zero_iff.mp (by omega : ls.length = 0)]; show (0 : Int) < 1; decide
  have h6 := step 5 _ (step 4 _ (step 3 _ (step 2 _ (step 1 _ (step 0 1 h0 (by decide)) (by decide)) (by decide)) (by decide)) (by decide)) (by decide)
  intro ls h hl
  have := h6 ls h hl
  omega
/-- the m-th digit from the last on -/
theorem na256_d : ∀ (m : Nat) (ls : List Int), lvOK ls → m < ls.length → (naP 256 (ls.map (· + 96)) / ((2 ^ (8 * m) : Nat) : Int)) % 256 = (ls.drop m).headD 0 + 96
  | 0, [], _, h => absurd h (by decide)
  | 0, x :: r, h, _ => by
    rw [show ((2 ^ (8 * 0) : Nat) : Int) = 1 by decide, Int.ediv_one]
    exact (na256_t h).2
  | m + 1, [], _, h => absurd h (by simp)
  | m + 1, x :: r, h, hm => by
    have hr := (lvOK_t h).2
    have i := na256_d m r hr (by rw [List.length_cons] at hm; omega)
    have e : ((2 ^ (8 * (m + 1)) : Nat) : Int) = 256 * ((2 ^ (8 * m) : Nat) : Int) := by
      rw [show 8 * (m + 1) = 8 + 8 * m by omega, Nat.pow_add, Int.natCast_mul, show ((2 ^ 8 : Nat) : Int) = 256 by decide]
    rw [e, ← Int.ediv_ediv_of_nonneg (by decide), (na256_t h).1]
    exact i
theorem c_letB {k : Int} {I : mI} {Q : Int → Prop} (hk : 0 ≤ k) : ∀ (ls : List Int), lvOK ls → ls ≠ [] → k < ls.length → ls.length ≤ 6 → ∀ m : Nat, (m : Int) = ls.length - 1 - k → Q ((ls.drop m).headD 0) → p3_letterOf_b72 k I Q (m + 1) (naP 27 ls) (ls.length - 1)
  | [], _, h, _, _, _, _, _ => absurd rfl h
  | x :: r, h, _, hk1, hl, m, hm, hq => by
    obtain ⟨t1, t2⟩ := na27_t h
    have hlen : (((x :: r).length : Nat) : Int) = (r.length : Int) + 1 := by rw [List.length_cons]; omega
    match m, hm, hq with
    | 0, hm, hq =>
      show p3_letterOf_b72_body k I Q (p3_letterOf_b72 k I Q 0) (naP 27 (x :: r)) _
      unfold p3_letterOf_b72_body
      rw [t2]
      exact zt (by omega) hq
    | m + 1, hm, hq =>
      show p3_letterOf_b72_body k I Q (p3_letterOf_b72 k I Q (m + 1)) (naP 27 (x :: r)) _
      unfold p3_letterOf_b72_body
      rw [t1]
      have hne : r ≠ [] := fun e => by subst e; rw [show (([x] : List Int).length : Int) = 1 from rfl] at hm hk1; omega
      have i := c_letB (I := I) hk r (lvOK_t h).2 hne (by omega) (by rw [List.length_cons] at hl; omega) m (by omega) hq
      refine zf (by omega) ⟨by omega, ?_⟩
      rw [show (((x :: r).length : Nat) : Int) - 1 + -1 = (r.length : Int) - 1 by omega]
      exact i
theorem c_letA {k w : Int} {I : mI} {Q : Int → Prop} {n : Int} (hq : p3_letterOf_b58 k w n I Q) : ∀ (ls : List Int) (acc : Int), lvOK ls → 0 ≤ acc → acc + ls.length = n → n ≤ 6 → p3_letterOf_b33 k w I Q (ls.length + 1) acc (naP 27 ls)
  | [], acc, h, h0, h1, h6 => by
    show p3_letterOf_b33_body k w I Q (p3_letterOf_b33 k w I Q 0) acc 0
    unfold p3_letterOf_b33_body
    have e : acc = n := by rw [show ((([] : List Int).length : Nat) : Int) = 0 from rfl] at h1; omega
    rw [e]
    exact zt (by decide) hq
  | x :: r, acc, h, h0, h1, h6 => by
    have hlen : (((x :: r).length : Nat) : Int) = (r.length : Int) + 1 := by rw [List.length_cons]; omega
    obtain ⟨t1, t2⟩ := na27_t h
    have z := na27 (x :: r) h
    have nz : naP 27 (x :: r) ≠ 0 := fun q => by cases z.2.mp q
    show p3_letterOf_b33_body k w I Q (p3_letterOf_b33 k w I Q (r.length + 1)) acc (naP 27 (x :: r))
    unfold p3_letterOf_b33_body
    rw [t1]
    exact zf (by omega) (zf (by omega) ⟨by omega, c_letA hq r (acc + 1) (lvOK_t h).2 (by omega) (by omega) h6⟩)
def leF (ls : List Int) (k : Int) : Int := if k < ls.length then (ls.drop (ls.length - 1 - k).toNat).headD 0 else 0
theorem m_letA {k w : Int} {I J : mI} {Q : Int → Prop} {n : Int} {lw : List Int} (hk : 0 ≤ k ∧ k ≤ 5) (hw : w = naP 256 (lw.map (· + 96))) (hlw : lvOK lw) (hn : n = lw.length) (h6 : n ≤ 6) (hq : Q (leF lw k)) : ∀ (ls : List Int) (acc : Int), lvOK ls → 0 ≤ acc → acc + ls.length = n → p12_letter_b89 k w I J Q (ls.length + 1) acc (naP 256 (ls.map (· + 96)))
  | [], acc, h, h0, h1 => by
    have e : acc = n := by rw [show ((([] : List Int).length : Nat) : Int) = 0 from rfl] at h1; omega
    have wb := na256_b lw hlw (by omega)
    have w0 := (na256 lw hlw).1
    show p12_letter_b89_body k w I J Q (p12_letter_b89 k w I J Q 0) acc 0
    unfold p12_letter_b89_body
    unfold leF at hq
    rw [e]
    refine zt (by decide) (zs (fun q => ?_) (fun q => ?_))
    · rw [if_pos (by omega)] at hq
      obtain ⟨m, hm⟩ : ∃ m : Nat, (m : Int) = n - 1 - k := ⟨(n - 1 - k).toNat, by omega⟩
      have d := na256_d m lw hlw (by omega)
      have s1 := lShr8 (x := w) (by omega) (by omega) m (by omega)
      have s2 : 0 ≤ w / ((2 ^ (8 * m) : Nat) : Int) ∧ w / ((2 ^ (8 * m) : Nat) : Int) ≤ w := ⟨Int.ediv_nonneg (by omega) (Int.natCast_nonneg _), Int.ediv_le_self _ (by omega)⟩
      rw [← hm, s1, lAnd255 s2.1 (by omega), hw, d]
      rw [show ((lw.length : Int) - 1 - k).toNat = m by omega] at hq
      have dr : 1 ≤ (lw.drop m).headD 0 ∧ (lw.drop m).headD 0 ≤ 26 := by
        have hne : lw.drop m ≠ [] := fun q2 => by
          have := congrArg List.length q2
          rw [List.length_drop] at this
          simp at this; omega
        match hd : lw.drop m, hne with
        | y :: ys, _ =>
          exact hlw y (List.mem_of_mem_drop (by rw [hd]; exact List.mem_cons_self))
      refine ⟨by omega, by omega, by omega, by omega, by omega, by omega, ?_⟩
      rw [show (lw.drop m).headD 0 + 96 - 97 + 1 = (lw.drop m).headD 0 by omega]
      exact hq
    · rw [if_neg (by omega)] at hq; exact hq
  | x :: r, acc, h, h0, h1 => by
    have hlen : (((x :: r).length : Nat) : Int) = (r.length : Int) + 1 := by rw [List.length_cons]; omega
    obtain ⟨t1, t2⟩ := na256_t h
    have z := na256 (x :: r) h
    have zb := na256_b (x :: r) h (by omega)
    have nz : naP 256 ((x :: r).map (· + 96)) ≠ 0 := fun q => by cases z.2.mp q
    have s1 := lShr8 (x := naP 256 ((x :: r).map (· + 96))) z.1 (by omega) 1 (by decide)
    rw [show (8 : Int) * ((1 : Nat) : Int) = 8 from rfl, show ((2 ^ (8 * 1) : Nat) : Int) = 256 by decide, t1] at s1
    show p12_letter_b89_body k w I J Q (p12_letter_b89 k w I J Q (r.length + 1)) acc (naP 256 ((x :: r).map (· + 96)))
    unfold p12_letter_b89_body
    rw [s1]
    exact zf (by omega) ⟨by omega, m_letA hk hw hlw hn h6 hq r (acc + 1) (lvOK_t h).2 (by omega) (by omega)⟩
theorem la_5 {L t : Nat} {X : Int → Int} {i : Int} {I J : mI} {R : mR} {K : mI → mI → mR → Prop} (H : LaH L t X i I J R K) : plaw_5 L X i I J R K := by
  have hk := laK H
  obtain ⟨hL, hX, h0, h1, ht, ⟨h, sp, bk, V, F, S, P, hl, hs, hr⟩, -⟩ := H
  have hh := iLan_ld hl
  obtain ⟨⟨r12, -, -⟩, hLd, hV, hF, hM, hN, hNam, hTw, hSup⟩ := hl
  have n := hV.1
  unfold plaw_5
  refine ⟨by omega, by omega, by omega, by omega, by omega, by omega, ?_⟩
  generalize X (i + 1) = kd
  generalize X (i + 2) = w
  generalize X (i + 3) = k
  obtain ⟨m1, m2, m3, m4, m5, -⟩ := id hM
  have no : ¬ ((0 ≤ kd ∧ kd < 3 ∧ 0 ≤ w ∧ w < V 1 kd) ∧ 0 ≤ k ∧ k ≤ 5) → p12_letter kd w k I J (fun r2 => if (-1 : Int) = r2 then K I J R else False) := fun q => by
    unfold p12_letter p12_letter_b42 p12_letter_b43
    refine zs (fun e => ?_) (fun e => zs (fun e2 => ?_) (fun e2 => zs (fun e3 => ?_) (fun e3 => zt rfl (zt rfl hk))))
    · subst e
      exact m_isBlind hM (fun _ => zt rfl (zt rfl hk)) (fun q2 => zf (by decide) (m_is (fun _ => zt rfl (zt rfl hk)) (fun q3 => absurd ⟨⟨by omega, by omega, q2⟩, q3⟩ q)))
    · subst e2
      exact m_isColour hM (fun _ => zt rfl (zt rfl hk)) (fun q2 => zf (by decide) (m_is (fun _ => zt rfl (zt rfl hk)) (fun q3 => absurd ⟨⟨by omega, by omega, q2⟩, q3⟩ q)))
    · subst e3
      exact m_isThing hM (fun _ => zt rfl (zt rfl (zt rfl hk))) (fun q2 => zf (by decide) (zf (by decide) (m_is (fun _ => zt rfl (zt rfl hk)) (fun q3 => absurd ⟨⟨by omega, by omega, q2⟩, q3⟩ q))))
  unfold p11_letter
  rw [r12]
  refine ⟨hh, c_there hLd (fun q => zt rfl ⟨by omega, by omega, by omega, by omega, by omega, by omega,  no (by omega)⟩) (fun q => zf (by decide) (zs (fun e => ⟨by omega, by omega, by omega, by omega, by omega, by omega,  no (by omega)⟩) (fun e => zs (fun e2 => ⟨hh, ?_⟩) (fun e2 => ⟨by omega, by omega, by omega, by omega, by omega, by omega,  no (by omega)⟩))))⟩
  obtain ⟨ls, l6, lne, lok, lp, lq⟩ := hNam kd w q.1 q.2.1 q.2.2.1 q.2.2.2
  have hV1 : V 1 kd ≤ 6 := by
    have : kd = 0 ∨ kd = 1 ∨ kd = 2 := by omega
    rcases this with rfl | rfl | rfl <;> omega
  have hlen0 : 0 < ls.length := List.length_pos_iff.mpr lne
  have fin : p12_letter kd w k I J (fun r2 => if leF ls k = r2 then K I J R else False) := by
    have go : p12_letter_b43 kd w k 1 I J (fun r2 => if leF ls k = r2 then K I J R else False) := by
      unfold p12_letter_b43
      refine zf (by decide) (m_is (fun q3 => by omega) (fun _ => zf (by decide) ?_))
      rw [m1, lq]
      exact ⟨by omega, by omega, by omega, by omega, by omega,  wLet_r ⟨ls.length + 1, m_letA ⟨by omega, by omega⟩ rfl lok rfl (by omega) (zt rfl hk) ls 0 lok (by omega) (by omega)⟩⟩
    unfold p12_letter
    refine zs (fun e => ?_) (fun e => zs (fun e2 => ?_) (fun e2 => zs (fun e3 => ?_) (fun e3 => by omega)))
    · subst e; exact m_isBlind hM (fun q2 => by omega) (fun _ => go)
    · subst e2; exact m_isColour hM (fun q2 => by omega) (fun _ => go)
    · subst e3; exact m_isThing hM (fun q2 => by omega) (fun _ => zf (by decide) go)
  unfold p3_letterOf
  refine c_there hLd (fun q2 => absurd q q2) (fun _ => zf (by decide) ⟨by omega, by omega, by omega,  wLet_r ?_⟩)
  rw [hLd.2.2.1, lp]
  refine ⟨ls.length + 1, c_letA (n := ls.length) ?_ ls 0 lok (by omega) (by omega) (by omega)⟩
  unfold p3_letterOf_b58
  have fin' : rg (i + 1) ∧ (0 ≤ i + 1 ∧ i + 1 < (L : Int)) ∧ rg (i + 2) ∧ (0 ≤ i + 2 ∧ i + 2 < (L : Int)) ∧ rg (i + 3) ∧ (0 ≤ i + 3 ∧ i + 3 < (L : Int)) ∧ p12_letter kd w k I J (fun r2 => if leF ls k = r2 then K I J R else False) := ⟨by omega, by omega, by omega, by omega, by omega, by omega,  fin⟩
  refine zs (fun e3 => ⟨by omega, (ls.length - 1 - k).toNat + 1, ?_⟩) (fun e3 => ?_)
  · refine c_letB (by omega) ls lok lne e3 l6 _ (by omega) ?_
    unfold leF at fin'
    rw [if_pos e3] at fin'
    exact fin'
  · unfold leF at fin'
    rw [if_neg e3] at fin'
    exact fin'
