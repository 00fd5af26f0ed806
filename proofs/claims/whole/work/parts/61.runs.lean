/-! YEARS AHEAD -/
def ruF (V : mI) (F : Int → List (Int × Int)) (tw : Int → Int) : Nat → mI → mI
  | 0, S => S
  | d + 1, S => ruF V F tw d (paF V F tw (-1) S).2
theorem ruF_ok {V : mI} {F : Int → List (Int × Int)} {tw : Int → Int} (hV : ldOK V) : ∀ (d : Nat) (S : mI), stOK V S → S 0 0 + d ≤ 999 → stOK V (ruF V F tw d S) ∧ ruF V F tw d S 0 0 = S 0 0 + d
  | 0, S, h, hy => ⟨h, by show S 0 0 = S 0 0 + ((0 : Nat) : Int); omega⟩
  | d + 1, S, h, hy => by
    have h1 := (stOK_pa (F := F) (tw := tw) (sil := -1) hV h (by omega)).1
    have hy1 := pa_year (V := V) (F := F) (tw := tw) (sil := -1) (S := S)
    have h2 := ruF_ok (F := F) (tw := tw) hV d _ h1 (by omega)
    exact ⟨h2.1, by show ruF V F tw d (paF V F tw (-1) S).2 0 0 = _; rw [h2.2]; omega⟩
theorem ldC_p {I I' : mI} {h a : Nat} {V : mI} (hh : isLd h) (ha : isSt a) (hf : pfr a I I') (hL : ldC I h V) : ldC I' h V := by
  obtain ⟨l0, l1, l2, l3, l4, l5, l6, l7, l8⟩ := hL
  have f0 := st_far ha 0 (by omega)
  have f4 := st_far ha 4 (by omega)
  have hlh : h = 123 ∨ h = 132 := hh
  have hx : ∀ j, j ≤ 8 → I' (h + j) = I (h + j) := fun j hj => hf.1 _ (by omega) (by omega) (by omega) (by omega) (by omega) (by omega)
  exact ⟨(hx 0 (by omega)).trans l0, (hx 1 (by omega)).trans l1, (hx 2 (by omega)).trans l2, (hx 3 (by omega)).trans l3, (hx 4 (by omega)).trans l4, (hx 5 (by omega)).trans l5, (hx 6 (by omega)).trans l6, (hx 7 (by omega)).trans l7, (hx 8 (by omega)).trans l8⟩
theorem pfr_t {a : Nat} {I1 I2 I3 : mI} (h1 : pfr a I1 I2) (h2 : pfr a I2 I3) : pfr a I1 I3 := ⟨fun z q1 q2 q3 q4 q5 q6 => (h2.1 z q1 q2 q3 q4 q5 q6).trans (h1.1 z q1 q2 q3 q4 q5 q6), fun k k6 k7 => (h2.2 k k6 k7).trans (h1.2 k k6 k7)⟩
theorem rfr_t {R1 R2 R3 : mR} (h1 : rfr R1 R2) (h2 : rfr R2 R3) : rfr R1 R3 := fun a ha => (h2 a ha).trans (h1 a ha)
theorem rfr_r (R : mR) : rfr R R := fun _ _ => rfl
def twC (I V : mI) (tw : Int → Int) : Prop := ∀ b, 0 ≤ b → b < V 1 0 → (if b = I 146 8 then I 146 9 else tr V 0 b 0) = tw b
theorem twC_p {I I' V : mI} {a : Nat} {tw : Int → Int} (hf : pfr a I I') (h : twC I V tw) : twC I' V tw := by
  unfold twC; rw [hf.2 8 (by decide) (by decide), hf.2 9 (by decide) (by decide)]; exact h
theorem c_aheadGo {n : Int} {h : Nat} {V : mI} {F : Int → List (Int × Int)} {tw : Int → Int} {Q : mI → mI → mR → Prop} (hh : isLd h) (hV : ldOK V) (hF : foOK V F) (htw : ∀ b, 0 ≤ tw b ∧ tw b ≤ 9) (hn : n ≤ 1000) :
    ∀ (d : Nat) (l : Int) (S : mI) (I J : mI) (R : mR), 0 ≤ l → l + d = n → R 1 12 = h → ldC I h V → twC I V tw → stC I 12 S → stOK V S → S 0 0 + d ≤ 999 →
    (∀ (I' J' : mI) (R' : mR), pfr 12 I I' → jfr 6 J J' → rfr R R' → stC I' 12 (ruF V F tw d S) → Q I' J' R') → p11_lookAhead_b13 n Q (d + 1) l I J R
  | 0, l, S, I, J, R, hl0, hl, hR, hL, hT, hS, hSt, hy, k => by
    show p11_lookAhead_b13_body n Q (p11_lookAhead_b13 n Q 0) l I J R
    unfold p11_lookAhead_b13_body
    exact zt (by omega) (k I J R ⟨fun _ _ _ _ _ _ _ => rfl, fun _ _ _ => rfl⟩ (jfr_r _ _) (rfr_r _) hS)
  | d + 1, l, S, I, J, R, hl0, hl, hR, hL, hT, hS, hSt, hy, k => by
    show p11_lookAhead_b13_body n Q (p11_lookAhead_b13 n Q (d + 1)) l I J R
    unfold p11_lookAhead_b13_body
    rw [hR]
    refine zf (by omega) ⟨hh, c_pass hh isSt_12 hL hS hT ⟨hV, hF, hSt, htw⟩ (by omega) (fun I' J' R' pf jf rf hS' => ⟨by omega, ?_⟩)⟩
    have hy1 := pa_year (V := V) (F := F) (tw := tw) (sil := -1) (S := S)
    exact c_aheadGo hh hV hF htw hn d (l + 1) _ I' J' R' (by omega) (by omega) (by rw [rf 1 (by decide)]; exact hR) (ldC_p hh isSt_12 pf hL) (twC_p pf hT) hS' (stOK_pa hV hSt (by omega)).1 (by omega) (fun I2 J2 R2 p2 j2 r2 s2 => k I2 J2 R2 (pfr_t pf p2) (jfr_t jf j2) (rfr_t rf r2) s2)
theorem c_ahead {n : Int} {h : Nat} {V : mI} {F : Int → List (Int × Int)} {tw : Int → Int} {Q : mI → mI → mR → Prop} {S I J : mI} {R : mR} (hh : isLd h) (hV : ldOK V) (hF : foOK V F) (htw : ∀ b, 0 ≤ tw b ∧ tw b ≤ 9) (hn : 0 ≤ n ∧ n ≤ 40) (hR : R 1 12 = h) (hL : ldC I h V) (hT : twC I V tw) (hS : stC I 7 S) (hSt : stOK V S) (hy : S 0 0 + n ≤ 999)
    (k : ∀ (I' J' : mI) (R' : mR), pfr 12 I I' → jfr 6 J J' → rfr R R' → stC I' 12 (ruF V F tw n.toNat S) → Q I' J' R') : p11_lookAhead n I J R Q := by
  have s2 := hSt.2.2.1
  unfold p11_lookAhead
  refine c_take (by omega) hS s2.2 (fun I1 f1 hS1 => ⟨n.toNat + 1, ?_⟩)
  have pf : pfr 12 I I1 := ⟨fun z _ _ _ _ _ hz => f1 z hz, fun j _ _ => by rw [f1 146 (by omega)]⟩
  exact c_aheadGo hh hV hF htw (by omega) n.toNat 0 S I1 J R (by omega) (by omega) hR (ldC_p hh isSt_12 pf hL) (twC_p pf hT) hS1 hSt (by omega) (fun I2 J2 R2 p2 j2 r2 s2 => k I2 J2 R2 (pfr_t pf p2) j2 r2 s2)
theorem m_aheadGo {n bk : Int} {V : mI} {F : Int → List (Int × Int)} {tw : Int → Int} {Q : mI → mI → Prop} (hV : ldOK V) (hF : foOK V F) (htw : ∀ b, 0 ≤ tw b ∧ tw b ≤ 9) (hn : n ≤ 1000) :
    ∀ (d : Nat) (l : Int) (S : mI) (I J : mI), 0 ≤ l → l + d = n → ctM I bk 1 V F S tw → stOK V S → S 0 0 + d ≤ 999 →
    (∀ (I' J' : mI), gfr 1 I I' → jfr 193 J J' → stM V I' 1 (ruF V F tw d S) → Q I' J') → p12_runsOn_b2 n Q (d + 1) l I J
  | 0, l, S, I, J, hl0, hl, hC, hSt, hy, k => by
    show p12_runsOn_b2_body n Q (p12_runsOn_b2 n Q 0) l I J
    unfold p12_runsOn_b2_body
    exact zt (by omega) (k I J (gfr_r _ _) (jfr_r _ _) hC.2.1)
  | d + 1, l, S, I, J, hl0, hl, hC, hSt, hy, k => by
    show p12_runsOn_b2_body n Q (p12_runsOn_b2 n Q (d + 1)) l I J
    unfold p12_runsOn_b2_body
    refine zf (by omega) (m_tick hC ⟨hV, hF, hSt, htw⟩ (fun I' J' lf jf hS' => ⟨by omega, ?_⟩))
    have hy1 := pa_year (V := V) (F := F) (tw := tw) (sil := -1) (S := S)
    exact m_aheadGo hV hF htw hn d (l + 1) _ I' J' (by omega) (by omega) ⟨ldM_l lf hC.1, hS', twM_l lf hC.2.2.1, hC.2.2.2⟩ (stOK_pa hV hSt (by omega)).1 (by omega) (fun I2 J2 g2 j2 s2 => k I2 J2 (gfr_t (lfr_g lf) g2) (jfr_t jf j2) s2)
theorem m_ahead {n bk : Int} {V : mI} {F : Int → List (Int × Int)} {tw : Int → Int} {Q : mI → mI → Prop} {S I J : mI} (hV : ldOK V) (hF : foOK V F) (htw : ∀ b, 0 ≤ tw b ∧ tw b ≤ 9) (hn : 0 ≤ n ∧ n ≤ 40) (hC : ctM I bk 0 V F S tw) (hSt : stOK V S) (hy : S 0 0 + n ≤ 999)
    (k : ∀ (I' J' : mI), gfr 1 I I' → jfr 193 J J' → stM V I' 1 (ruF V F tw n.toNat S) → Q I' J') : p12_copies 1 0 I (fun I1 => p12_runsOn n I1 J (fun I2 J2 => Q I2 J2)) := by
  refine m_copy (by omega) (by omega) (by omega) hC.2.1 hSt.2.2.1 (fun I1 g1 f1 hS1 => ⟨n.toNat + 1, ?_⟩)
  exact m_aheadGo hV hF htw (by omega) n.toNat 0 S I1 J (by omega) (by omega) ⟨ldM_g g1 hC.1, hS1, twM_g g1 hC.2.2.1, by omega, by omega⟩ hSt (by omega) (fun I2 J2 g2 j2 s2 => k I2 J2 (gfr_t g1 g2) j2 s2)
/-! what may be asked -/
theorem c_there {I : mI} {h : Nat} {V : mI} {kd w : Int} {Q : Int → Prop} (hL : ldC I h V) (h0 : ¬ (0 ≤ kd ∧ kd < 3 ∧ 0 ≤ w ∧ w < V 1 kd) → Q 0) (h1 : (0 ≤ kd ∧ kd < 3 ∧ 0 ≤ w ∧ w < V 1 kd) → Q 1) : p3_isThere h kd w I Q := by
  unfold p3_isThere
  rw [hL.2.1]
  refine zs (fun e => h0 (by omega)) (fun e => zs (fun e2 => h0 (by omega)) (fun e2 => zs (fun e3 => h0 (by omega)) (fun e3 => ⟨by omega, zs (fun e4 => h0 (by omega)) (fun e4 => h1 (by omega))⟩)))
theorem c_canPass {I : mI} {n y : Int} {Q : Int → Prop} (hy : I 7 0 = y) (hr : 0 ≤ y ∧ y ≤ 999) (h0 : ¬ (0 ≤ n ∧ n ≤ 40 ∧ y + n ≤ 999) → Q 0) (h1 : (0 ≤ n ∧ n ≤ 40 ∧ y + n ≤ 999) → Q 1) : p11_canPass n I Q := by
  unfold p11_canPass
  rw [hy]
  exact zs (fun e => h0 (by omega)) (fun e => zs (fun e2 => h0 (by omega)) (fun e2 => ⟨by omega, zs (fun e3 => h0 (by omega)) (fun e3 => h1 (by omega))⟩))
theorem m_isAhead {I : mI} {n lo hi y : Int} {Q : Int → Prop} (hy : I 185 0 = y) (hr : 0 ≤ y ∧ y ≤ 999) (hl : 0 ≤ lo) (hh : hi ≤ 100) (h0 : ¬ (lo ≤ n ∧ n ≤ hi ∧ y + n ≤ 999) → Q 0) (h1 : (lo ≤ n ∧ n ≤ hi ∧ y + n ≤ 999) → Q 1) : p12_isAhead n lo hi I Q := by
  unfold p12_isAhead p12_is
  rw [hy]
  exact zs (fun e => zt rfl (h0 (by omega))) (fun e => zs (fun e2 => zt rfl (h0 (by omega))) (fun e2 => zf (by decide) ⟨by omega, zs (fun e3 => h0 (by omega)) (fun e3 => h1 (by omega))⟩))
theorem m_isBlind {I : mI} {bk : Int} {V : mI} {F : Int → List (Int × Int)} {w : Int} {Q : Int → Prop} (hM : ldM I bk V F) (h0 : ¬ (0 ≤ w ∧ w < V 1 0) → Q 0) (h1 : (0 ≤ w ∧ w < V 1 0) → Q 1) : p12_isBlind w I Q := by
  obtain ⟨m1, m2, m3, m4, m5, -⟩ := hM
  unfold p12_isBlind
  rw [m1, m3]
  exact zs (fun e => h0 (by omega)) (fun e => ⟨by omega, zs (fun e2 => h0 (by omega)) (fun e2 => h1 (by omega))⟩)
theorem m_isColour {I : mI} {bk : Int} {V : mI} {F : Int → List (Int × Int)} {w : Int} {Q : Int → Prop} (hM : ldM I bk V F) (h0 : ¬ (0 ≤ w ∧ w < V 1 1) → Q 0) (h1 : (0 ≤ w ∧ w < V 1 1) → Q 1) : p12_isColour w I Q := by
  obtain ⟨m1, m2, m3, m4, m5, -⟩ := hM
  unfold p12_isColour
  rw [m1, m4]
  exact zs (fun e => h0 (by omega)) (fun e => ⟨by omega, zs (fun e2 => h0 (by omega)) (fun e2 => h1 (by omega))⟩)
theorem m_isThing {I : mI} {bk : Int} {V : mI} {F : Int → List (Int × Int)} {w : Int} {Q : Int → Prop} (hM : ldM I bk V F) (h0 : ¬ (0 ≤ w ∧ w < V 1 2) → Q 0) (h1 : (0 ≤ w ∧ w < V 1 2) → Q 1) : p12_isThing w I Q := by
  obtain ⟨m1, m2, m3, m4, m5, -⟩ := hM
  unfold p12_isThing
  rw [m1, m5]
  exact zs (fun e => h0 (by omega)) (fun e => ⟨by omega, zs (fun e2 => h0 (by omega)) (fun e2 => h1 (by omega))⟩)
theorem m_is {n lo hi : Int} {Q : Int → Prop} (h0 : ¬ (lo ≤ n ∧ n ≤ hi) → Q 0) (h1 : (lo ≤ n ∧ n ≤ hi) → Q 1) : p12_is n lo hi Q := by
  unfold p12_is
  exact zs (fun e => h0 (by omega)) (fun e => zs (fun e2 => h0 (by omega)) (fun e2 => h1 (by omega)))
