/-! tells: the call -/
def st3 (I : mI) (s : Int × Int × Int) : Prop := I 151 8 = s.2.2 ∧ (s.2.2 ≠ -1 → I 151 6 = s.1 ∧ I 151 7 = s.2.1)
def tg (I I' : mI) : Prop := (∀ z, z ≠ 151 → I' z = I z) ∧ (∀ j, j ≠ 6 → j ≠ 7 → j ≠ 8 → I' 151 j = I 151 j)
theorem tg_t {I1 I2 I3 : mI} (h1 : tg I1 I2) (h2 : tg I2 I3) : tg I1 I3 := ⟨fun z hz => (h2.1 z hz).trans (h1.1 z hz), fun j a b c => (h2.2 j a b c).trans (h1.2 j a b c)⟩
theorem tg_r (I : mI) : tg I I := ⟨fun _ _ => rfl, fun _ _ _ _ => rfl⟩
theorem c_f33 {n i nt ys : Int} {cT : Int → Int} {I : mI} {k7 k21 : Int → mI → Prop} {Q : mI → Prop} {s : Int × Int × Int} {ms : Int → Int → Int} (hn : 1 ≤ n ∧ n ≤ 30) (hi : 0 ≤ i ∧ i < 6) (hT : ∀ look, 0 ≤ look → look < 7 → I 158 ((((n - 1) * 6) + i) * 7 + look) = cT look) (hs : st3 I s) (hm : mxR cT 7 0 0 = ms n i)
    (kk : ∀ I' : mI, tg I I' → st3 I' (teS ms n i s) → k21 (i + 1) I') :
    ∀ (d : Nat) (acc look : Int), 0 ≤ look → look + d = 7 → mxR cT d acc look = ms n i → p2_findTelling_b33 nt ys n i I k7 k21 Q (d + 1) acc look
  | 0, acc, look, h0, h1, he => by
    have he' : acc = ms n i := he
    show p2_findTelling_b33_body nt ys n i I k7 k21 Q (p2_findTelling_b33 nt ys n i I k7 k21 Q 0) acc look
    unfold p2_findTelling_b33_body
    have put : (s.2.2 = -1 ∨ ¬ s.2.2 ≤ ms n i) → p2_findTelling_b95 nt ys n i acc I k7 k21 Q := fun q => by
      unfold p2_findTelling_b95
      refine m_putK (fun I1 q1 g1 f1 => m_putK (fun I2 q2 g2 f2 => m_putK (fun I3 q3 g3 f3 => ⟨by omega, kk I3 ⟨fun z hz => by rw [f3 z hz, f2 z hz, f1 z hz], fun j a b c => by rw [g3 j c, g2 j b, g1 j a]⟩ ?_⟩)))
      have e : teS ms n i s = (n, i, ms n i) := by
        unfold teS
        rcases q with q | q
        · rw [if_pos q]
        · by_cases q2 : s.2.2 = -1
          · rw [if_pos q2]
          · rw [if_neg q2, if_neg q]
      rw [e]
      refine ⟨q3.trans he', fun _ => ⟨?_, ?_⟩⟩
      · rw [g3 6 (by decide), g2 6 (by decide)]; exact q1
      · rw [g3 7 (by decide)]; exact q2
    refine zt (by omega) ?_
    rw [hs.1]
    refine zs (fun e => put (Or.inl e)) (fun e => zs (fun e2 => ⟨by omega, kk I (tg_r I) ?_⟩) (fun e2 => put (Or.inr (by omega))))
    have e3 : teS ms n i s = s := by
      unfold teS
      rw [if_neg e, if_pos (by omega)]
    rw [e3]; exact hs
  | d + 1, acc, look, h0, h1, he => by
    show p2_findTelling_b33_body nt ys n i I k7 k21 Q (p2_findTelling_b33 nt ys n i I k7 k21 Q (d + 1)) acc look
    unfold p2_findTelling_b33_body p2_slotOf
    unfold mxR at he
    refine zf (by omega) ⟨by omega, by omega, by omega, by omega, by omega, by omega, ?_⟩
    rw [hT look h0 (by omega)]
    refine zs (fun e => ⟨by omega, ?_⟩) (fun e => ⟨by omega, ?_⟩)
    · rw [if_pos e] at he
      exact c_f33 hn hi hT hs hm kk d acc (look + 1) (by omega) (by omega) he
    · rw [if_neg e] at he
      exact c_f33 hn hi hT hs hm kk d (cT look) (look + 1) (by omega) (by omega) he
theorem c_f21 {n nt ys : Int} {T : Int → Int → Int} {ms : Int → Int → Int} {k7 : Int → mI → Prop} {Q : mI → Prop} (hn : 1 ≤ n ∧ n ≤ 30) (hnt : nt ≤ 6) (hm : ∀ i, 0 ≤ i → i < nt → mxR (T i) 7 0 0 = ms n i)
    {I0 : mI} (hT : ∀ i look, 0 ≤ i → i < nt → 0 ≤ look → look < 7 → I0 158 ((((n - 1) * 6) + i) * 7 + look) = T i look) :
    ∀ (d : Nat) (i : Int) (I : mI) (s : Int × Int × Int), 0 ≤ i → i + d = nt → tg I0 I → st3 I s → (∀ I' : mI, tg I0 I' → st3 I' (teI ms n d i s) → k7 (n + 1) I') → p2_findTelling_b21 nt ys n k7 Q (d + 1) i I
  | 0, i, I, s, h0, h1, hf, hs, kk => by
    show p2_findTelling_b21_body nt ys n k7 Q (p2_findTelling_b21 nt ys n k7 Q 0) i I
    unfold p2_findTelling_b21_body
    exact zt (by omega) ⟨by omega, kk I hf hs⟩
  | d + 1, i, I, s, h0, h1, hf, hs, kk => by
    show p2_findTelling_b21_body nt ys n k7 Q (p2_findTelling_b21 nt ys n k7 Q (d + 1)) i I
    unfold p2_findTelling_b21_body
    refine zf (by omega) ⟨8, c_f33 (cT := T i) hn ⟨h0, by omega⟩ (fun look a b => by rw [hf.1 158 (by decide)]; exact hT i look h0 (by omega) a b) hs (hm i h0 (by omega)) (fun I1 f1 s1 => ?_) 7 0 0 (by omega) (by omega) (hm i h0 (by omega))⟩
    exact c_f21 hn hnt hm hT d (i + 1) I1 _ (by omega) (by omega) (tg_t hf f1) s1 kk
theorem c_f7 {nt ys N : Int} {T : Int → Int → Int → Int} {ms : Int → Int → Int} {Q : mI → Prop} (hN : N ≤ 30) (hnt : 0 ≤ nt ∧ nt ≤ 6) (hys : ys = N ∨ (N = 30 ∧ 30 ≤ ys)) (hm : ∀ n i, 1 ≤ n → n ≤ N → 0 ≤ i → i < nt → mxR (T n i) 7 0 0 = ms n i)
    {I0 : mI} (hT : ∀ n i look, 1 ≤ n → n ≤ N → 0 ≤ i → i < nt → 0 ≤ look → look < 7 → I0 158 ((((n - 1) * 6) + i) * 7 + look) = T n i look) :
    ∀ (d : Nat) (n : Int) (I : mI) (s : Int × Int × Int), 1 ≤ n → n + d = N + 1 → tg I0 I → st3 I s → (∀ I' : mI, tg I0 I' → st3 I' (teN ms nt d n s) → Q I') → p2_findTelling_b7 nt ys Q (d + 1) n I
  | 0, n, I, s, h0, h1, hf, hs, kk => by
    show p2_findTelling_b7_body nt ys Q (p2_findTelling_b7 nt ys Q 0) n I
    unfold p2_findTelling_b7_body
    have k := kk I hf hs
    exact zs (fun _ => k) (fun e => zt (by omega) k)
  | d + 1, n, I, s, h0, h1, hf, hs, kk => by
    show p2_findTelling_b7_body nt ys Q (p2_findTelling_b7 nt ys Q (d + 1)) n I
    unfold p2_findTelling_b7_body
    refine zf (by omega) (zf (by omega) ⟨nt.toNat + 1, c_f21 (T := T n) (ms := ms) ⟨h0, by omega⟩ hnt.2 (fun i a b => hm n i h0 (by omega) a b) (I0 := I) (fun i look a b c e => by rw [hf.1 158 (by decide)]; exact hT n i look h0 (by omega) a b c e) _ 0 I s (by omega) (by omega) (tg_r I) hs (fun I1 f1 s1 => ?_)⟩)
    exact c_f7 hN hnt hys hm hT d (n + 1) I1 _ (by omega) (by omega) (tg_t hf f1) s1 kk
/-! the model tells -/
theorem m_b19 {set k i acc a : Int} {w : Int → Int} {I : mI} {k6 : Int → Int → Prop} {Q : Int → Prop} (hk : 1 ≤ k ∧ k ≤ 30) (hi : 0 ≤ i ∧ i < 6) (ha : 0 ≤ a ∧ a ≤ 9) (hw : ∀ t, 0 ≤ t → t ≤ 9 → I 202 (6 * (31 * t + k) + i) = w t) {g : Int} (kk : (g ≤ acc → k6 acc (a + 1)) ∧ (¬ g ≤ acc → k6 g (a + 1))) :
    ∀ (d : Nat) (c t : Int), 0 ≤ t → t + d = 10 → 0 ≤ c → c ≤ t → c + (if has1 set a = 1 then smR (fun t => if has1 set t = 1 ∧ w a = w t then 1 else 0) d t else 0) = g → p12_mostBy_b19 set k i acc a I k6 Q (d + 1) c t
  | 0, c, t, h0, h1, h2, h3, he => by
    show p12_mostBy_b19_body set k i acc a I k6 Q (p12_mostBy_b19 set k i acc a I k6 Q 0) c t
    unfold p12_mostBy_b19_body
    have e : c = g := by
      rw [← he]
      by_cases q : has1 set a = 1
      · rw [if_pos q]; show c = c + 0; omega
      · rw [if_neg q]; omega
    rw [e]
    exact zt (by omega) (zs (fun q => ⟨by omega, kk.1 q⟩) (fun q => ⟨by omega, kk.2 q⟩))
  | d + 1, c, t, h0, h1, h2, h3, he => by
    show p12_mostBy_b19_body set k i acc a I k6 Q (p12_mostBy_b19 set k i acc a I k6 Q (d + 1)) c t
    unfold p12_mostBy_b19_body p12_has2
    rw [hw a ha.1 ha.2, hw t h0 (by omega)]
    refine zf (by omega) ?_
    by_cases q : has1 set a = 1
    · rw [if_pos q] at he
      have he' : c + ((if has1 set t = 1 ∧ w a = w t then 1 else 0) + smR (fun t => if has1 set t = 1 ∧ w a = w t then 1 else 0) d (t + 1)) = g := he
      have go : ∀ x, x = (if has1 set t = 1 ∧ w a = w t then (1 : Int) else 0) → (x = 0 ∨ x = 1) → rg (c + x) ∧ rg (t + 1) ∧ p12_mostBy_b19 set k i acc a I k6 Q (d + 1) (c + x) (t + 1) := fun x hx hx2 => ⟨by omega, by omega,  m_b19 hk hi ha hw kk d (c + x) (t + 1) (by omega) (by omega) (by omega) (by omega) (by rw [if_pos q, hx]; omega)⟩
      refine zt q (zf (by decide) ?_)
      by_cases q2 : has1 set t = 1
      · refine zt q2 (zf (by decide) ⟨by omega, by omega, by omega, by omega, by omega, by omega, by omega, by omega, by omega, by omega,  zs (fun e => go 1 (by rw [if_pos ⟨q2, e⟩]) (Or.inr rfl)) (fun e => go 0 (by rw [if_neg (fun z => e z.2)]) (Or.inl rfl))⟩)
      · exact zf q2 (zt rfl (go 0 (by rw [if_neg (fun z => q2 z.1)]) (Or.inl rfl)))
    · rw [if_neg q] at he
      exact zf q (zt rfl ⟨by omega, by omega,  m_b19 hk hi ha hw kk d (c + 0) (t + 1) (by omega) (by omega) (by omega) (by omega) (by rw [if_neg q]; omega)⟩)
theorem m_b6 {V : mI} {F : Int → List (Int × Int)} {S : mI} {b set k i : Int} {I : mI} {Q : Int → Prop} (hk : 1 ≤ k ∧ k ≤ 30) (hi : 0 ≤ i ∧ i < 6) (hw : ∀ t, 0 ≤ t → t ≤ 9 → I 202 (6 * (31 * t + k) + i) = wnF V F S b t k i) :
    ∀ (d : Nat) (acc a : Int), 0 ≤ a → a + d = 10 → Q (mxR (c2F V F S b set k i) d acc a) → p12_mostBy_b6 set k i I Q (d + 1) acc a
  | 0, acc, a, h0, h1, hq => by
    show p12_mostBy_b6_body set k i I Q (p12_mostBy_b6 set k i I Q 0) acc a
    unfold p12_mostBy_b6_body
    exact zt (by omega) hq
  | d + 1, acc, a, h0, h1, hq => by
    show p12_mostBy_b6_body set k i I Q (p12_mostBy_b6 set k i I Q (d + 1)) acc a
    unfold p12_mostBy_b6_body
    unfold mxR at hq
    refine zf (by omega) ⟨11, m_b19 (w := fun t => wnF V F S b t k i) (g := c2F V F S b set k i a) hk hi ⟨h0, by omega⟩ hw ⟨fun q => ?_, fun q => ?_⟩ 10 0 0 (by omega) (by omega) (by omega) (by omega) ?_⟩
    · rw [if_pos q] at hq
      exact m_b6 hk hi hw d acc (a + 1) (by omega) (by omega) hq
    · rw [if_neg q] at hq
      exact m_b6 hk hi hw d _ (a + 1) (by omega) (by omega) hq
    · unfold c2F; omega
def t4F (s : Int × Int × Int) : Int := if s.2.2 = -1 then -1 else 6 * s.1 + s.2.1
def t5F (s : Int × Int × Int) : Int := if s.2.2 = -1 then 100000000 else s.2.2
def sOK (s : Int × Int × Int) : Prop := s.2.2 = -1 ∨ ((1 ≤ s.1 ∧ s.1 ≤ 30) ∧ (0 ≤ s.2.1 ∧ s.2.1 < 6) ∧ 0 ≤ s.2.2 ∧ s.2.2 ≤ 10)
theorem m_t55 {bk : Int} {V : mI} {F : Int → List (Int × Int)} {S : mI} {b what set n : Int} {I J : mI} {k36 : Int → Int → Int → Prop} {Q : Int → mI → mI → Prop} (hM : ldM I bk V F) (hV : ldOK V) (hn : vlP S n) (hw : wrM I V F S b 10 0) :
    ∀ (d : Nat) (i : Int) (s : Int × Int × Int), 0 ≤ i → i + d = V 1 2 → sOK s → (∀ s', s' = teI (msF V F S b set) n d i s → sOK s' → k36 (t4F s') (t5F s') (n + 1)) → p12_tells_b55 what set n I J k36 Q (d + 1) (t4F s) (t5F s) i
  | 0, i, s, h0, h1, hs, kk => by
    obtain ⟨m1, m2, m3, m4, m5, -⟩ := id hM
    obtain ⟨n1, n2, n3⟩ := id hn
    show p12_tells_b55_body what set n I J k36 Q (p12_tells_b55 what set n I J k36 Q 0) (t4F s) (t5F s) i
    unfold p12_tells_b55_body
    rw [m1, m5]
    exact ⟨by omega, zt (by omega) ⟨by omega, kk s rfl hs⟩⟩
  | d + 1, i, s, h0, h1, hs, kk => by
    obtain ⟨m1, m2, m3, m4, m5, -⟩ := id hM
    obtain ⟨n1, n2, n3⟩ := id hn
    have nn := hV.1
    have mr := ms_rg V F S b set n i
    show p12_tells_b55_body what set n I J k36 Q (p12_tells_b55 what set n I J k36 Q (d + 1)) (t4F s) (t5F s) i
    unfold p12_tells_b55_body
    rw [m1, m5]
    refine ⟨by omega, zf (by omega) ⟨11, m_b6 ⟨n1, n2⟩ ⟨h0, by omega⟩ (fun t t0 t9 => hw t n i t0 (by omega) n2 n3 h0 (by omega) (by omega)) 10 0 0 (by omega) (by omega) ?_⟩⟩
    show (if msF V F S b set n i < t5F s then _ else _)
    have go : ∀ s1, s1 = teS (msF V F S b set) n i s → sOK s1 → p12_tells_b55 what set n I J k36 Q (d + 1) (t4F s1) (t5F s1) (i + 1) := fun s1 e1 o1 => m_t55 hM hV hn hw d (i + 1) s1 (by omega) (by omega) o1 (fun s' e' o' => kk s' (by rw [e', e1]; rfl) o')
    have take : (s.2.2 = -1 ∨ ¬ s.2.2 ≤ msF V F S b set n i) → teS (msF V F S b set) n i s = (n, i, msF V F S b set n i) := fun q => by
      unfold teS
      rcases q with q | q
      · rw [if_pos q]
      · by_cases q2 : s.2.2 = -1
        · rw [if_pos q2]
        · rw [if_neg q2, if_neg q]
    have ok : sOK (n, i, msF V F S b set n i) := Or.inr ⟨⟨n1, n2⟩, ⟨h0, by show i < 6; omega⟩, mr⟩
    have e4 : t4F (n, i, msF V F S b set n i) = 6 * n + i := by
      unfold t4F
      rw [if_neg (by show ¬ msF V F S b set n i = -1; omega)]
    have e5 : t5F (n, i, msF V F S b set n i) = msF V F S b set n i := by
      unfold t5F
      rw [if_neg (by show ¬ msF V F S b set n i = -1; omega)]
    by_cases q : s.2.2 = -1
    · have e : t5F s = 100000000 := by unfold t5F; rw [if_pos q]
      have g := go _ (take (Or.inl q)).symm ok
      rw [e4, e5] at g
      rw [e]
      exact zt (by omega) ⟨by omega, by omega, by omega,  g⟩
    · have e : t5F s = s.2.2 := by unfold t5F; rw [if_neg q]
      by_cases q2 : s.2.2 ≤ msF V F S b set n i
      · refine zf (by omega) ⟨by omega, go s ?_ hs⟩
        unfold teS
        rw [if_neg q, if_pos q2]
      · have g := go _ (take (Or.inr q2)).symm ok
        rw [e4, e5] at g
        exact zt (by omega) ⟨by omega, by omega, by omega,  g⟩
def tfF (what : Int) (s : Int × Int × Int) : Int := if s.2.2 = -1 then -1 else if what = 0 then s.1 else if what = 1 then s.2.1 else s.2.2
theorem m_t116 {what set : Int} {I J : mI} {Q : Int → mI → mI → Prop} {s : Int × Int × Int} (hs : sOK s) (hq : Q (tfF what s) I J) : p12_tells_b116 what (t4F s) (t5F s) I J Q := by
  unfold p12_tells_b116 t4F t5F
  unfold tfF at hq
  by_cases q : s.2.2 = -1
  · rw [if_pos q] at hq ⊢
    exact zt rfl hq
  · rw [if_neg q] at hq
    rw [if_neg q, if_neg q]
    obtain ⟨a1, a2, a3⟩ := hs.resolve_left q
    refine zf (by omega) (zs (fun e => ?_) (fun e => zs (fun e2 => ?_) (fun e2 => ?_)))
    · rw [if_pos e] at hq
      rw [Int.tdiv_eq_ediv_of_nonneg (by omega), show (6 * s.1 + s.2.1) / 6 = s.1 by omega]; exact hq
    · rw [if_neg e, if_pos e2] at hq
      rw [Int.tmod_eq_emod_of_nonneg (by omega), show (6 * s.1 + s.2.1) % 6 = s.2.1 by omega]; exact hq
    · rw [if_neg e, if_neg e2] at hq; exact hq
theorem m_t36 {bk : Int} {V : mI} {F : Int → List (Int × Int)} {S : mI} {b what set N : Int} {I J : mI} {Q : Int → mI → mI → Prop} (hM : ldM I bk V F) (hV : ldOK V) (hSt : stOK V S) (hS0 : stM V I 0 S) (hw : wrM I V F S b 10 0) (hset : set ≠ 0) (hN : N ≤ 30 ∧ (N = 30 ∨ S 0 0 + N = 999) ∧ S 0 0 + N ≤ 999) :
    ∀ (d : Nat) (n : Int) (s : Int × Int × Int), 1 ≤ n → n + d = N + 1 → sOK s → (∀ s', s' = teN (msF V F S b set) (V 1 2) d n s → Q (tfF what s') I J) → p12_tells_b36 what set I J Q (d + 1) (t4F s) (t5F s) n
  | 0, n, s, h0, h1, hs, kk => by
    show p12_tells_b36_body what set I J Q (p12_tells_b36 what set I J Q 0) (t4F s) (t5F s) n
    unfold p12_tells_b36_body
    exact m_isAhead hS0.1 hSt.1 (by decide) (by decide) (fun _ => zt rfl (m_t116 (set := set) hs (kk s rfl))) (fun q => by omega)
  | d + 1, n, s, h0, h1, hs, kk => by
    have nn := hV.1
    show p12_tells_b36_body what set I J Q (p12_tells_b36 what set I J Q (d + 1)) (t4F s) (t5F s) n
    unfold p12_tells_b36_body
    refine m_isAhead hS0.1 hSt.1 (by decide) (by decide) (fun q => by omega) (fun q => zf (by decide) (zf hset ⟨(V 1 2).toNat + 1, ?_⟩))
    exact m_t55 hM hV ⟨h0, by omega, by omega⟩ hw _ 0 s (by omega) (by omega) hs (fun s1 e1 o1 => m_t36 hM hV hSt hS0 hw hset hN d (n + 1) s1 (by omega) (by omega) o1 (fun s' e' => kk s' (by rw [e', e1]; rfl)))
theorem teI_none {ms : Int → Int → Int} {n : Int} (hms : ∀ i, ms n i ≠ -1) : ∀ (d : Nat) (i : Int) (s : Int × Int × Int), (s.2.2 ≠ -1 ∨ 0 < d) → (teI ms n d i s).2.2 ≠ -1
  | 0, i, s, h => h.elim id (fun q => absurd q (by decide))
  | d + 1, i, s, h => by
    refine teI_none hms d (i + 1) (teS ms n i s) (Or.inl ?_)
    unfold teS
    by_cases q : s.2.2 = -1
    · rw [if_pos q]; exact hms i
    · rw [if_neg q]
      split
      · exact q
      · exact hms i
theorem teN_none {ms : Int → Int → Int} {nt : Int} (hnt : 0 < nt) (hms : ∀ n i, ms n i ≠ -1) : ∀ (d : Nat) (n : Int) (s : Int × Int × Int), (s.2.2 ≠ -1 ∨ 0 < d) → (teN ms nt d n s).2.2 ≠ -1
  | 0, n, s, h => h.elim id (fun q => absurd q (by decide))
  | d + 1, n, s, h => teN_none hnt hms d (n + 1) _ (Or.inl (teI_none (hms n) _ _ _ (Or.inr (by omega))))
theorem teN_0 {ms : Int → Int → Int} : ∀ (d : Nat) (n : Int) (s : Int × Int × Int), teN ms 0 d n s = s
  | 0, _, _ => rfl
  | d + 1, n, s => teN_0 d (n + 1) s
theorem qf_w {I I' : mI} (hu : wfr I I') (h8 : I' 146 8 = I 146 8) : qf I I' := qf_c (fun z z5 _ z6 z7 z8 z9 _ _ zc zd => hu z z5 z6 z7 z8 z9 zc zd) h8 (by rw [hu 151 (by decide) (by decide) (by decide) (by decide) (by decide) (by decide) (by decide)])
theorem qf_tg {I I' : mI} (h : tg I I') : qf I I' := qf_c (fun z _ _ _ _ _ _ z1 _ _ _ => h.1 z z1) (by rw [h.1 146 (by decide)]) (h.2 5 (by decide) (by decide) (by decide))
theorem la_22 {L t : Nat} {X : Int → Int} {i : Int} {I J : mI} {R : mR} {K : mI → mI → mR → Prop} (H : LaH L t X i I J R K) : plaw_22 L X i I J R K := by
  have H' := H
  obtain ⟨hL, hX, h0, h1, ht, ⟨h, sp, bk, V, F, S, P, hl, hs, hr⟩, -⟩ := H
  have hh := iLan_ld hl
  obtain ⟨⟨r12, -, -⟩, hLd, hV, hF, hM, hN, hNam, hTw, hSup⟩ := hl
  obtain ⟨hC, hSM, hSt⟩ := hs
  obtain ⟨-, -, -, -, -, -, b1, b2, b3, b4⟩ := hr
  have n := hV.1
  have s1 := hSt.1
  have hmC : metC I (I 151 5) (I 199) (I 200) (I 201) := ⟨rfl, ⟨b2, b3⟩, fun j j0 j1 => by
    obtain ⟨⟨a1, a2⟩, ⟨a3, a4⟩, a5, a6⟩ := b4 j j0 j1
    exact ⟨a1, a3, a5, a2, by omega, by omega⟩⟩
  -- the model, behind what the class did
  have mod : ∀ (x what r : Int) (I1 J1 : mI) (R1 : mR), qf I I1 → (J1 159 = J 159 ∧ J1 177 = J 177) → rfr R R1 → (¬ ((0 ≤ x ∧ x < V 1 0) ∧ 0 ≤ what ∧ what ≤ 2) → r = -1) → ((0 ≤ x ∧ x < V 1 0) → 0 ≤ what → what ≤ 2 → (taF V F S x (I 151 5) (I 199) (I 200) (I 201) = 0 ∨ ¬ S 0 0 < 999 → r = -1) ∧ (taF V F S x (I 151 5) (I 199) (I 200) (I 201) ≠ 0 → S 0 0 < 999 → r = tfF what (teN (msF V F S x (taF V F S x (I 151 5) (I 199) (I 200) (I 201))) (V 1 2) (if S 0 0 ≤ 969 then 30 else (999 - S 0 0).toNat) 1 (-1, -1, -1)))) → p12_tells x what I1 J1 (fun r2 I2 J2 => if r = r2 then K I2 J2 R1 else False) := fun x what r I1 J1 R1 q1 j1 rr hno hyes => by
    have hM1 := ldM_q q1 hM
    have hS1 := stM_q q1 (by decide) hSt.2.2.1.2 hSM
    have hk1 : K I1 J1 R1 := laQ H' q1 j1 rr
    unfold p12_tells
    refine m_isBlind hM1 (fun q => zt rfl (zt (hno (fun z => q z.1)) hk1)) (fun qb => zf (by decide) (m_is (fun q => zt rfl (zt (hno (fun z => q z.2)) hk1)) (fun qw => zf (by decide) ?_)))
    obtain ⟨ha, hb⟩ := hyes qb qw.1 qw.2
    have hmM : metM V I1 (I 151 5) (I 199) (I 200) (I 201) := by
      unfold metM
      rw [q1.1 159 (by unfold psO; omega), q1.1 199 (by unfold psO; omega), q1.1 200 (by unfold psO; omega), q1.1 201 (by unfold psO; omega)]
      exact ⟨b1.symm, ⟨b2, b3⟩, fun j j0 j1 => by
        obtain ⟨⟨a1, a2⟩, ⟨a3, a4⟩, a5, a6⟩ := b4 j j0 j1
        exact ⟨rfl, rfl, rfl, a2, by omega, by omega⟩⟩
    refine m_taste hV hF hSt qb hM1 hS1 hmM (by unfold twM; rw [q1.1 192 (by unfold psO; omega)]; exact hTw) (fun I2 J2 q2 j2 w2 => ?_)
    have hM2 := ldM_q q2 hM1
    have hS2 := stM_q q2 (by decide) hSt.2.2.1.2 hS1
    have hk2 : K I2 J2 R1 := laQ H' (qf_t q1 q2) (jqt j1 (jq193 j2)) rr
    have ini : sOK (-1, -1, -1) := Or.inl rfl
    revert ha hb
    generalize taF V F S x (I 151 5) (I 199) (I 200) (I 201) = set
    intro ha hb
    by_cases hset : set = 0
    · refine ⟨1, ?_⟩
      show p12_tells_b36_body what set I2 J2 _ _ (t4F (-1, -1, -1)) (t5F (-1, -1, -1)) 1
      unfold p12_tells_b36_body
      have z := m_t116 (what := what) (set := set) (I := I2) (J := J2) (Q := fun r2 I2 J2 => if r = r2 then K I2 J2 R1 else False) ini (zt (ha (Or.inl hset)) hk2)
      exact m_isAhead hS2.1 s1 (by decide) (by decide) (fun _ => zt rfl z) (fun _ => zf (by decide) (zt hset z))
    · by_cases hy : S 0 0 < 999
      · have er := hb hset hy
        refine ⟨(if S 0 0 ≤ 969 then 30 else (999 - S 0 0).toNat) + 1, ?_⟩
        have z := m_t36 (what := what) (N := if S 0 0 ≤ 969 then 30 else 999 - S 0 0) (Q := fun r2 I2 J2 => if r = r2 then K I2 J2 R1 else False) hM2 hV hSt hS2 w2 hset (by split <;> omega) (if S 0 0 ≤ 969 then 30 else (999 - S 0 0).toNat) 1 (-1, -1, -1) (by omega) (by split <;> omega) ini (fun s' e' => zt (by rw [er, e']) hk2)
        exact z
      · refine ⟨1, ?_⟩
        show p12_tells_b36_body what set I2 J2 _ _ (t4F (-1, -1, -1)) (t5F (-1, -1, -1)) 1
        unfold p12_tells_b36_body
        have z := m_t116 (what := what) (set := set) (I := I2) (J := J2) (Q := fun r2 I2 J2 => if r = r2 then K I2 J2 R1 else False) ini (zt (ha (Or.inr hy)) hk2)
        exact m_isAhead hS2.1 s1 (by decide) (by decide) (fun _ => zt rfl z) (fun q => by omega)
  unfold plaw_22
  refine ⟨by omega, by omega, by omega, by omega, ?_⟩
  generalize X (i + 1) = x
  generalize X (i + 2) = what
  unfold p11_tells
  rw [r12]
  have none : (¬ ((0 ≤ x ∧ x < V 1 0) ∧ 0 ≤ what ∧ what ≤ 2) ∨ V 1 2 = 0 ∨ ¬ S 0 0 < 999) → rg (i + 1) ∧ (0 ≤ i + 1 ∧ i + 1 < (L : Int)) ∧ rg (i + 2) ∧ (0 ≤ i + 2 ∧ i + 2 < (L : Int)) ∧ p12_tells x what I J (fun r2 I2 J2 => if (-1 : Int) = r2 then K I2 J2 R else False) := fun q => by
    refine ⟨by omega, by omega, by omega, by omega,  mod x what (-1) I J R (qf_r I) ⟨rfl, rfl⟩ (rfr_r R) (fun _ => rfl) (fun a1 a2 a3 => ⟨fun _ => rfl, fun a4 a5 => ?_⟩)⟩
    rcases q with q | q | q
    · exact absurd ⟨a1, a2, a3⟩ q
    · rw [q, teN_0]; rfl
    · exact absurd a5 q
  refine ⟨hh, c_there hLd (fun q => zt rfl (none (Or.inl (by omega)))) (fun q => zf (by decide) (zs (fun e => none (Or.inl (by omega))) (fun e => zs (fun e2 => none (Or.inl (by omega))) (fun e2 => ⟨hh, ?_⟩))))⟩
  rw [hLd.2.1, hC.1]
  refine zs (fun e3 => none (Or.inr (Or.inl e3))) (fun e3 => zs (fun e4 => ⟨hh, (I 151 5).toNat + 1, ?_⟩) (fun e4 => none (Or.inr (Or.inr e4))))
  refine c_left6 hh hV hF hSt q.2.2 hLd hmC hC hSup (fun I1 J1 R1 u1 e8 j1 rr => ?_) _ 0 0 (by omega) (by omega) (by omega) (by omega) (fun j a c => by omega) (Or.inl rfl)
  have q1 := qf_u u1 (e8.trans hSup.symm)
  have hL1 := ldC_q hh q1 hLd
  have hC1 : stC I1 7 S := stC_of (fun j hj => q1.1 _ (by unfold psO; omega)) hC
  have hr1 : R1 1 12 = h := by rw [rr 1 (by decide)]; exact r12
  refine zs (fun e5 => ⟨by omega, by omega, by omega, by omega,  mod x what (-1) I1 J1 R1 q1 (jq6 j1) rr (fun _ => rfl) (fun _ _ _ => ⟨fun _ => rfl, fun a4 _ => absurd e5 a4⟩)⟩) (fun e5 => ?_)
  rw [hr1]
  refine ⟨hh, ?_⟩
  unfold p2_count
  refine wLet_r ⟨11, c_t11 (S := S) hh hV hF hSt e4 10 0 (fil I1 158 1260 0) J1 R1 (by omega) (by omega) ?_ ?_ (fun n' i' look a1 a2 a3 a4 a5 => ?_) (fun I2 J2 R2 w2 e8' j2 r2 t2 => ?_)⟩
  · have u : wfr I1 (fil I1 158 1260 0) := fun z _ _ _ _ _ _ z8 => fil_ne z8
    exact ldC_w hh u hL1
  · have u : wfr I1 (fil I1 158 1260 0) := fun z _ _ _ _ _ _ z8 => fil_ne z8
    exact stC7_w u hC1
  · obtain ⟨v1, v2, v3⟩ := id a1
    rw [fil_in (by omega) (by omega)]; rfl
  · have u : wfr I1 (fil I1 158 1260 0) := fun z _ _ _ _ _ _ z8 => fil_ne z8
    have w12 := wfr_t u w2
    have q2 := qf_w w12 (e8'.trans e8.symm)
    have q12 := qf_t q1 q2
    have hL2 := ldC_q hh q12 hLd
    have hC2 : stC I2 7 S := stC_of (fun j hj => q12.1 _ (by unfold psO; omega)) hC
    have hr2 : R2 1 12 = h := by rw [r2 1 (by decide)]; exact hr1
    rw [hr2]
    refine ⟨hh, ?_⟩
    rw [hL2.2.1, hC2.1]
    refine ⟨by omega, ?_⟩
    unfold p2_findTelling
    refine m_putK (fun I3 q3 g3 f3 => ⟨(if S 0 0 ≤ 969 then 30 else (999 - S 0 0).toNat) + 1, ?_⟩)
    have t3 : tg I2 I3 := ⟨f3, fun j _ _ a => g3 j a⟩
    have fin : ∀ (r : Int) (I4 : mI), tg I2 I4 → r = tfF what (teN (msF V F S x (taF V F S x (I 151 5) (I 199) (I 200) (I 201))) (V 1 2) (if S 0 0 ≤ 969 then 30 else (999 - S 0 0).toNat) 1 (-1, -1, -1)) → rg (i + 1) ∧ (0 ≤ i + 1 ∧ i + 1 < (L : Int)) ∧ rg (i + 2) ∧ (0 ≤ i + 2 ∧ i + 2 < (L : Int)) ∧ p12_tells x what I4 J2 (fun r2 I2 J2 => if r = r2 then K I2 J2 R2 else False) := fun r I4 t4 er =>
      ⟨by omega, by omega, by omega, by omega,  mod x what r I4 J2 R2 (qf_t q12 (qf_tg t4)) (jqt (jq6 j1) (jq6 j2)) (rfr_t rr r2) (fun z => absurd ⟨q.2.2, by omega, by omega⟩ z) (fun _ _ _ => ⟨fun z => z.elim (fun z1 => absurd z1 e5) (fun z1 => absurd e4 z1), fun _ _ => er⟩)⟩
    refine c_f7 (N := if S 0 0 ≤ 969 then 30 else 999 - S 0 0) (T := fun n' i' look => smR (inT V F S x (taF V F S x (I 151 5) (I 199) (I 200) (I 201)) n' i' look) 10 0) (ms := msF V F S x (taF V F S x (I 151 5) (I 199) (I 200) (I 201))) (by split <;> omega) n.2.2 (by split <;> omega) (fun n' i' a1 a2 a3 a4 => ?_) (I0 := I3) (fun n' i' look a1 a2 a3 a4 a5 a6 => ?_) (if S 0 0 ≤ 969 then 30 else (999 - S 0 0).toNat) 1 I3 (-1, -1, -1) (by omega) (by split <;> omega) (tg_r I3) ⟨q3, fun z => absurd rfl z⟩ (fun I4 t4 s4 => ?_)
    · exact ms_eq hV hSt ⟨a1, by split at a2 <;> omega, by split at a2 <;> omega⟩ ⟨a3, by omega⟩
    · rw [f3 158 (by decide)]
      exact t2 n' i' look ⟨a1, by split at a2 <;> omega, by split at a2 <;> omega⟩ a3 a4 a5 a6
    · have nn := teN_none (ms := msF V F S x (taF V F S x (I 151 5) (I 199) (I 200) (I 201))) (nt := V 1 2) (by omega) (fun n' i' => by have := ms_rg V F S x (taF V F S x (I 151 5) (I 199) (I 200) (I 201)) n' i'; omega) (if S 0 0 ≤ 969 then 30 else (999 - S 0 0).toNat) 1 (-1, -1, -1) (Or.inr (by split <;> omega))
      obtain ⟨c8, c67⟩ := s4
      obtain ⟨c6, c7⟩ := c67 nn
      have t34 := tg_t t3 t4
      refine zs (fun e6 => fin _ I4 t34 ?_) (fun e6 => zs (fun e7 => fin _ I4 t34 ?_) (fun e7 => fin _ I4 t34 ?_))
      · unfold tfF; rw [if_neg nn, if_pos e6]; exact c6
      · unfold tfF; rw [if_neg nn, if_neg e6, if_pos e7]; exact c7
      · unfold tfF; rw [if_neg nn, if_neg e6, if_neg e7]; exact c8
