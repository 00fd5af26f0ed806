/-! TASTES -/
def twS (V : mI) (b wm x : Int) : Int := if x = b then wm else tw0 V x
theorem twS_rg {V : mI} {b wm : Int} (hV : ldOK V) (hw : 0 ≤ wm ∧ wm ≤ 9) (x : Int) : 0 ≤ twS V b wm x ∧ twS V b wm x ≤ 9 := by
  unfold twS
  split
  · exact hw
  · exact tw0_rg hV x
theorem ruF_snoc {V : mI} {F : Int → List (Int × Int)} {tw : Int → Int} : ∀ (d : Nat) (S : mI), ruF V F tw (d + 1) S = (paF V F tw (-1) (ruF V F tw d S)).2
  | 0, _ => rfl
  | d + 1, S => by
    show ruF V F tw (d + 1) (paF V F tw (-1) S).2 = _
    rw [ruF_snoc d]; rfl
/-- one row agrees -/
def roP (V : mI) (F : Int → List (Int × Int)) (S : mI) (tw : Int → Int) (my mt mc : Int → Int) (i : Int) : Prop := ruF V F tw (my i).toNat S 3 (mt i) = mc i
def alR (V : mI) (F : Int → List (Int × Int)) (S : mI) (tw : Int → Int) (my mt mc : Int → Int) : Nat → Int → Int
  | 0, _ => 1
  | d + 1, i => if S 0 0 + my i ≤ 999 ∧ ruF V F tw (my i).toNat S 3 (mt i) = mc i then alR V F S tw my mt mc d (i + 1) else 0
theorem alR_iff {V : mI} {F : Int → List (Int × Int)} {S : mI} {tw : Int → Int} {my mt mc : Int → Int} : ∀ (d : Nat) (i : Int), (alR V F S tw my mt mc d i = 0 ∨ alR V F S tw my mt mc d i = 1) ∧ (alR V F S tw my mt mc d i = 1 ↔ ∀ j, i ≤ j → j < i + d → S 0 0 + my j ≤ 999 ∧ roP V F S tw my mt mc j)
  | 0, i => ⟨Or.inr rfl, ⟨fun _ j h1 h2 => by omega, fun _ => rfl⟩⟩
  | d + 1, i => by
    have ih := alR_iff (V := V) (F := F) (S := S) (tw := tw) (my := my) (mt := mt) (mc := mc) d (i + 1)
    unfold alR
    by_cases e : S 0 0 + my i ≤ 999 ∧ ruF V F tw (my i).toNat S 3 (mt i) = mc i
    · rw [if_pos e]
      refine ⟨ih.1, ⟨fun q j h1 h2 => ?_, fun q => ih.2.mpr (fun j h1 h2 => q j (by omega) (by omega))⟩⟩
      by_cases ej : j = i
      · rw [ej]; exact e
      · exact ih.2.mp q j (by omega) (by omega)
    · rw [if_neg e]
      exact ⟨Or.inl rfl, ⟨fun q => absurd (show (0 : Int) = 1 from q) (by decide), fun q => absurd (q i (by omega) (by omega)) e⟩⟩
def bsR (ok : Int → Int) : Nat → Int → Int → Int
  | 0, set, _ => set
  | d + 1, set, t => bsR ok d (bOr set (if ok t = 0 then 0 else bShl 1 t)) (t + 1)
theorem bsR_congr {ok ok' : Int → Int} : ∀ (d : Nat) (set t : Int), (∀ j, t ≤ j → j < t + d → (ok j = 0 ↔ ok' j = 0)) → bsR ok d set t = bsR ok' d set t
  | 0, _, _, _ => rfl
  | d + 1, set, t, h => by
    have h0 := h t (by omega) (by omega)
    unfold bsR
    rw [bsR_congr d _ _ (fun j h1 h2 => h j (by omega) (by omega))]
    by_cases e : ok t = 0
    · rw [if_pos e, if_pos (h0.mp e)]
    · rw [if_neg e, if_neg (fun q => e (h0.mpr q))]
def okF (V : mI) (F : Int → List (Int × Int)) (S : mI) (b m : Int) (my mt mc : Int → Int) (t : Int) : Int := alR V F S (twS V b t) my mt mc m.toNat 0
def taF (V : mI) (F : Int → List (Int × Int)) (S : mI) (b m : Int) (my mt mc : Int → Int) : Int := bsR (okF V F S b m my mt mc) 10 0 0
theorem bs_all : bsR (fun _ => 1) 10 0 0 = 1023 := by decide +kernel
theorem bs_none : bsR (fun _ => 0) 10 0 0 = 0 := by decide +kernel
def metC (I : mI) (m : Int) (my mt mc : Int → Int) : Prop := I 151 5 = m ∧ (0 ≤ m ∧ m ≤ 16) ∧ ∀ i, 0 ≤ i → i < m → I 157 (3 * i) = my i ∧ I 157 (3 * i + 1) = mt i ∧ (if I 157 (3 * i + 2) = 255 then -1 else I 157 (3 * i + 2)) = mc i ∧ (0 ≤ my i ∧ my i ≤ 30) ∧ (0 ≤ mt i ∧ mt i < 6)
theorem c_agreeGo {I : mI} {n m : Int} {my mt mc : Int → Int} {S : mI} {Q : Int → Prop} (hm : metC I m my mt mc) (hS : stC I 152 S) (k1 : (∀ i, 0 ≤ i → i < m → my i = n → S 3 (mt i) = mc i) → Q 1) (k0 : ¬ (∀ i, 0 ≤ i → i < m → my i = n → S 3 (mt i) = mc i) → Q 0) :
    ∀ (d : Nat) (l : Int), 0 ≤ l → l + d = m → (∀ i, 0 ≤ i → i < l → my i = n → S 3 (mt i) = mc i) → p2_agrees_b2 n I Q (d + 1) l
  | 0, l, h0, h1, hp => by
    show p2_agrees_b2_body n I Q (p2_agrees_b2 n I Q 0) l
    unfold p2_agrees_b2_body
    rw [hm.1]
    exact zt (by omega) (k1 (fun i i0 i1 e => hp i i0 (by omega) e))
  | d + 1, l, h0, h1, hp => by
    obtain ⟨m1, m2, m3⟩ := id hm
    obtain ⟨a1, a2, a3, a4, a5⟩ := m3 l h0 (by omega)
    show p2_agrees_b2_body n I Q (p2_agrees_b2 n I Q (d + 1)) l
    unfold p2_agrees_b2_body
    rw [m1]
    have go : ∀ s0, s0 = mc l → p2_agrees_b40 n l s0 I (p2_agrees_b2 n I Q (d + 1)) Q := fun s0 hs => by
      have ew : I 155 (mt l) = S 3 (mt l) := (hS.2.2.2.1 (mt l) a5.1 a5.2).2.2
      unfold p2_agrees_b40
      rw [a1, a2, ew]
      have nx : (my l = n → S 3 (mt l) = mc l) → p2_agrees_b2 n I Q (d + 1) (l + 1) := fun q => c_agreeGo hm hS k1 k0 d (l + 1) (by omega) (by omega) (fun i i0 i1 e => by
        by_cases ei : i = l
        · rw [ei] at e ⊢; exact q e
        · exact hp i i0 (by omega) e)
      refine ⟨by omega, by omega,  zs (fun e => ⟨by omega, by omega, by omega, by omega,  zs (fun e2 => ⟨by omega, nx (fun _ => e2.trans hs)⟩) (fun e2 => k0 (fun z => e2 ((z l h0 (by omega) e).trans hs.symm)))⟩) (fun e => ⟨by omega, nx (fun q => absurd q e)⟩)⟩
    refine zf (by omega) ⟨by omega, by omega, by omega, ?_⟩
    by_cases e : I 157 (3 * l + 2) = 255
    · rw [if_pos e] at a3; exact zt e (go _ a3)
    · rw [if_neg e] at a3; exact zf e ⟨by omega, by omega, by omega,  go _ a3⟩
theorem c_agree {I : mI} {n m : Int} {my mt mc : Int → Int} {S : mI} {Q : Int → Prop} (hm : metC I m my mt mc) (hS : stC I 152 S) (k1 : (∀ i, 0 ≤ i → i < m → my i = n → S 3 (mt i) = mc i) → Q 1) (k0 : ¬ (∀ i, 0 ≤ i → i < m → my i = n → S 3 (mt i) = mc i) → Q 0) : p2_agrees n I Q := by
  have := hm.2.1
  exact ⟨m.toNat + 1, c_agreeGo hm hS k1 k0 _ 0 (by omega) (by omega) (fun i a b => by omega)⟩
/-- what guessing writes in the class -/
def ufr (I I' : mI) : Prop := ∀ z, z ≠ 5 → z ≠ 146 → z ≠ 147 → z ≠ 148 → z ≠ 149 → ¬ (152 ≤ z ∧ z ≤ 156) → I' z = I z
theorem ufr_t {I1 I2 I3 : mI} (h1 : ufr I1 I2) (h2 : ufr I2 I3) : ufr I1 I3 := fun z q1 q2 q3 q4 q5 q6 => (h2 z q1 q2 q3 q4 q5 q6).trans (h1 z q1 q2 q3 q4 q5 q6)
theorem ufr_p {I I' : mI} (h : pfr 152 I I') : ufr I I' := h.1
theorem metC_u {I I' : mI} {m : Int} {my mt mc : Int → Int} (hf : ufr I I') (hm : metC I m my mt mc) : metC I' m my mt mc := by
  unfold metC
  rw [hf 151 (by decide) (by decide) (by decide) (by decide) (by decide) (by decide), hf 157 (by decide) (by decide) (by decide) (by decide) (by decide) (by decide)]; exact hm
theorem ldC_u {I I' : mI} {h : Nat} {V : mI} (hh : isLd h) (hf : ufr I I') (hL : ldC I h V) : ldC I' h V := by
  obtain ⟨l0, l1, l2, l3, l4, l5, l6, l7, l8⟩ := hL
  have hlh : h = 123 ∨ h = 132 := hh
  have hx : ∀ j, j ≤ 8 → I' (h + j) = I (h + j) := fun j hj => hf _ (by omega) (by omega) (by omega) (by omega) (by omega) (by omega)
  exact ⟨(hx 0 (by omega)).trans l0, (hx 1 (by omega)).trans l1, (hx 2 (by omega)).trans l2, (hx 3 (by omega)).trans l3, (hx 4 (by omega)).trans l4, (hx 5 (by omega)).trans l5, (hx 6 (by omega)).trans l6, (hx 7 (by omega)).trans l7, (hx 8 (by omega)).trans l8⟩
theorem stC7_u {I I' S : mI} (hf : ufr I I') (hS : stC I 7 S) : stC I' 7 S := stC_of (fun j hj => hf _ (by omega) (by omega) (by omega) (by omega) (by omega) (by omega)) hS
/-- the years of one taste -/
theorem c_canGo {h : Nat} {V : mI} {F : Int → List (Int × Int)} {S : mI} {b lo set t m : Int} {my mt mc : Int → Int} {k83 : Int → Int → mI → mI → mR → Prop} {Q : Int → mI → mI → mR → Prop} (hh : isLd h) (hV : ldOK V) (hF : foOK V F) (hSt : stOK V S) (ht : 0 ≤ t ∧ t ≤ 9) (hlo : 0 ≤ lo ∧ lo ≤ 30) (hy : S 0 0 + lo ≤ 999) (hmy : ∀ i, 0 ≤ i → i < m → my i ≤ lo) :
    ∀ (d : Nat) (n can : Int) (I J : mI) (R : mR), 1 ≤ n → n + d = lo + 1 → ldC I h V → twC I V (twS V b t) → metC I m my mt mc → stC I 152 (ruF V F (twS V b t) (n - 1).toNat S) → (can = 1 → ∀ i, 0 ≤ i → i < m → my i < n → roP V F S (twS V b t) my mt mc i) → (can = 0 → ∃ i, 0 ≤ i ∧ i < m ∧ ¬ roP V F S (twS V b t) my mt mc i) → (can = 0 ∨ can = 1) →
    (∀ (I' J' : mI) (R' : mR) (x : Int), ufr I I' → jfr 6 J J' → rfr R R' → (x = 0 ∨ x = bShl 1 t) → (x = bShl 1 t → ∀ i, 0 ≤ i → i < m → roP V F S (twS V b t) my mt mc i) → (x = 0 → ∃ i, 0 ≤ i ∧ i < m ∧ ¬ roP V F S (twS V b t) my mt mc i) → k83 (bOr set x) (t + 1) I' J' R') → p2_left_b118 h 7 b lo set t k83 Q (d + 1) can n I J R
  | 0, n, can, I, J, R, h0, h1, hL, hT, hm, hS, hc1, hc0, hc, k => by
    have hb : bShl 1 t ≠ 0 := by
      obtain ⟨t', rfl⟩ : ∃ k : Nat, t = k := ⟨t.toNat, by omega⟩
      have : ∀ x : Nat, x ≤ 9 → bShl 1 (x : Int) ≠ 0 := by decide +kernel
      exact this t' (by omega)
    show p2_left_b118_body h 7 b lo set t k83 Q (p2_left_b118 h 7 b lo set t k83 Q 0) can n I J R
    unfold p2_left_b118_body p2_left_b158
    refine zt (by omega) (zs (fun e => ⟨by omega, k I J R 0 (fun _ _ _ _ _ _ _ => rfl) (jfr_r _ _) (rfr_r _) (Or.inl rfl) (fun q => absurd q.symm hb) (fun _ => hc0 e)⟩) (fun e => ⟨by omega, k I J R _ (fun _ _ _ _ _ _ _ => rfl) (jfr_r _ _) (rfr_r _) (Or.inr rfl) (fun _ i i0 i1 => hc1 (hc.resolve_left e) i i0 i1 (by have := hmy i i0 i1; omega)) (fun q => absurd q hb)⟩))
  | d + 1, n, can, I, J, R, h0, h1, hL, hT, hm, hS, hc1, hc0, hc, k => by
    have hb : bShl 1 t ≠ 0 := by
      obtain ⟨t', rfl⟩ : ∃ k : Nat, t = k := ⟨t.toNat, by omega⟩
      have : ∀ x : Nat, x ≤ 9 → bShl 1 (x : Int) ≠ 0 := by decide +kernel
      exact this t' (by omega)
    have ok := ruF_ok (F := F) (tw := twS V b t) hV (n - 1).toNat S hSt (by omega)
    show p2_left_b118_body h 7 b lo set t k83 Q (p2_left_b118 h 7 b lo set t k83 Q (d + 1)) can n I J R
    unfold p2_left_b118_body p2_left_b158
    refine zf (by omega) (zs (fun e => zt e ⟨by omega, k I J R 0 (fun _ _ _ _ _ _ _ => rfl) (jfr_r _ _) (rfr_r _) (Or.inl rfl) (fun q => absurd q.symm hb) (fun _ => hc0 e)⟩) (fun e => ?_))
    refine c_pass hh isSt_152 hL hS hT ⟨hV, hF, ok.1, twS_rg hV ht⟩ (by omega) (fun I' J' R' pf jf rf hS' => ?_)
    rw [← ruF_snoc, show (n - 1).toNat + 1 = n.toNat by omega] at hS'
    have hm' := metC_u (ufr_p pf) hm
    have go : ∀ r, ((r = 1 ∧ ∀ i, 0 ≤ i → i < m → my i = n → ruF V F (twS V b t) n.toNat S 3 (mt i) = mc i) ∨ (r = 0 ∧ ¬ ∀ i, 0 ≤ i → i < m → my i = n → ruF V F (twS V b t) n.toNat S 3 (mt i) = mc i)) → p2_left_b118 h 7 b lo set t k83 Q (d + 1) r (n + 1) I' J' R' := fun r hr => by
      refine c_canGo hh hV hF hSt ht hlo hy hmy d (n + 1) r I' J' R' (by omega) (by omega) (ldC_u hh (ufr_p pf) hL) (twC_p pf hT) hm' (by rw [show n + 1 - 1 = n by omega]; exact hS') (fun e1 i i0 i1 i2 => ?_) (fun e0 => ?_) (by omega) (fun I2 J2 R2 x f2 j2 r2 a1 a2 a3 => k I2 J2 R2 x (ufr_t (ufr_p pf) f2) (jfr_t jf j2) (rfr_t rf r2) a1 a2 a3)
      · rcases hr with ⟨_, q⟩ | ⟨q, _⟩
        · by_cases ei : my i = n
          · unfold roP; rw [ei]; exact q i i0 i1 ei
          · exact hc1 (hc.resolve_left e) i i0 i1 (by omega)
        · omega
      · rcases hr with ⟨q, _⟩ | ⟨_, q⟩
        · omega
        · refine Classical.byContradiction (fun z => q (fun i i0 i1 ei => ?_))
          have z2 : roP V F S (twS V b t) my mt mc i := Classical.byContradiction (fun z3 => z ⟨i, i0, i1, z3⟩)
          unfold roP at z2
          rw [ei] at z2; exact z2
    exact c_agree hm' hS' (fun q => ⟨by omega, go 1 (Or.inl ⟨rfl, q⟩)⟩) (fun q => ⟨by omega, go 0 (Or.inr ⟨rfl, q⟩)⟩)
theorem c_leftGo {h : Nat} {V : mI} {F : Int → List (Int × Int)} {S : mI} {b lo m : Int} {my mt mc : Int → Int} {Q : Int → mI → mI → mR → Prop} (hh : isLd h) (hV : ldOK V) (hF : foOK V F) (hSt : stOK V S) (hb : 0 ≤ b ∧ b < V 1 0) (hlo : 0 ≤ lo ∧ lo ≤ 30) (hy : S 0 0 + lo ≤ 999) (hmy : ∀ i, 0 ≤ i → i < m → my i ≤ lo) :
    ∀ (d : Nat) (set t : Int) (I J : mI) (R : mR), 0 ≤ t → t + d = 10 → ldC I h V → metC I m my mt mc → stC I 7 S →
    (∀ (I' J' : mI) (R' : mR), ufr I I' → I' 146 8 = -1 → jfr 6 J J' → rfr R R' → Q (bsR (okF V F S b m my mt mc) d set t) I' J' R') → p2_left_b83 h 7 b lo Q (d + 1) set t I J R
  | 0, set, t, I, J, R, h0, h1, hL, hm, hS, k => by
    show p2_left_b83_body h 7 b lo Q (p2_left_b83 h 7 b lo Q 0) set t I J R
    unfold p2_left_b83_body p1_suppose
    exact zt (by omega) (m_putK (fun I1 q1 g1 f1 => m_putK (fun I2 q2 g2 f2 => k I2 J R (fun z z5 z6 _ _ _ _ => (f2 z z6).trans (f1 z z6)) (by rw [g2 8 (by decide)]; exact q1) (jfr_r _ _) (rfr_r _))))
  | d + 1, set, t, I, J, R, h0, h1, hL, hm, hS, k => by
    have s2 := hSt.2.2.1
    show p2_left_b83_body h 7 b lo Q (p2_left_b83 h 7 b lo Q (d + 1)) set t I J R
    unfold p2_left_b83_body p1_suppose
    refine zf (by omega) (m_putK (fun I1 q1 g1 f1 => m_putK (fun I2 q2 g2 f2 => ?_)))
    have F2 : ∀ z, z ≠ 146 → I2 z = I z := fun z hz => (f2 z hz).trans (f1 z hz)
    refine c_take (by omega) (stC_of (fun j hj => F2 _ (by omega)) hS) s2.2 (fun I3 f3 hS3 => ?_)
    have u3 : ufr I I3 := fun z _ z6 _ _ _ za => by rw [f3 z (by omega), F2 z z6]
    have hm3 := metC_u u3 hm
    have hL3 := ldC_u hh u3 hL
    have e8 : I3 146 8 = b := by rw [f3 146 (by omega), g2 8 (by decide)]; exact q1
    have e9 : I3 146 9 = t := by rw [f3 146 (by omega)]; exact q2
    have hT3 : twC I3 V (twS V b t) := fun x x0 x1 => by
      rw [e8, e9]
      unfold twS tw0
      by_cases ex : x = b
      · rw [if_pos ex, if_pos ex]
      · rw [if_neg ex, if_neg ex, if_pos ⟨x0, x1⟩]
    unfold bsR at k
    have al := alR_iff (V := V) (F := F) (S := S) (tw := twS V b t) (my := my) (mt := mt) (mc := mc) m.toNat 0
    have hm2 := hm.2.1
    have go : ∀ can, ((can = 1 ∧ ∀ i, 0 ≤ i → i < m → my i = 0 → S 3 (mt i) = mc i) ∨ (can = 0 ∧ ¬ ∀ i, 0 ≤ i → i < m → my i = 0 → S 3 (mt i) = mc i)) → ∃ f, p2_left_b118 h 7 b lo set t (p2_left_b83 h 7 b lo Q (d + 1)) Q f can 1 I3 J R := fun can hc => by
      refine ⟨lo.toNat + 1, c_canGo (S := S) (m := m) (my := my) (mt := mt) (mc := mc) hh hV hF hSt (by omega) hlo hy hmy _ 1 can I3 J R (by omega) (by omega) hL3 hT3 hm3 hS3 (fun e1 i i0 i1 i2 => ?_) (fun e0 => ?_) (by omega) (fun I4 J4 R4 x f4 j4 r4 a1 a2 a3 => ?_)⟩
      · rcases hc with ⟨_, q⟩ | ⟨q, _⟩
        · have m0 := (hm.2.2 i i0 i1).2.2.2.1
          have e0 : my i = 0 := by omega
          unfold roP; rw [e0]; exact q i i0 i1 e0
        · omega
      · rcases hc with ⟨q, _⟩ | ⟨_, q⟩
        · omega
        · refine Classical.byContradiction (fun z => q (fun i i0 i1 ei => ?_))
          have z2 : roP V F S (twS V b t) my mt mc i := Classical.byContradiction (fun z3 => z ⟨i, i0, i1, z3⟩)
          unfold roP at z2
          rw [ei] at z2; exact z2
      · have ex : x = (if okF V F S b m my mt mc t = 0 then 0 else bShl 1 t) := by
          unfold okF
          rcases a1 with e | e
          · obtain ⟨i, i0, i1, i2⟩ := a3 e
            have : alR V F S (twS V b t) my mt mc m.toNat 0 = 0 := al.1.resolve_right (fun q => i2 ((al.2.mp q i i0 (by omega)).2))
            rw [this, if_pos rfl]; exact e
          · have : alR V F S (twS V b t) my mt mc m.toNat 0 = 1 := al.2.mpr (fun j j0 j1 => ⟨by have := hmy j j0 (by omega); omega, a2 e j j0 (by omega)⟩)
            rw [this, if_neg (by decide)]; exact e
        rw [ex]
        exact c_leftGo hh hV hF hSt hb hlo hy hmy d _ (t + 1) I4 J4 R4 (by omega) (by omega) (ldC_u hh f4 hL3) (metC_u f4 hm3) (stC7_u (ufr_t u3 f4) hS) (fun I5 J5 R5 f5 g5 j5 r5 => k I5 J5 R5 (ufr_t u3 (ufr_t f4 f5)) g5 (jfr_t j4 j5) (rfr_t r4 r5))
    exact c_agree hm3 hS3 (fun q => go 1 (Or.inl ⟨rfl, q⟩)) (fun q => go 0 (Or.inr ⟨rfl, q⟩))
theorem c_left6 {h : Nat} {V : mI} {F : Int → List (Int × Int)} {S : mI} {b m : Int} {my mt mc : Int → Int} {Q : Int → mI → mI → mR → Prop} {I J : mI} {R : mR} (hh : isLd h) (hV : ldOK V) (hF : foOK V F) (hSt : stOK V S) (hb : 0 ≤ b ∧ b < V 1 0) (hL : ldC I h V) (hm : metC I m my mt mc) (hS : stC I 7 S) (h8 : I 146 8 = -1)
    (k : ∀ (I' J' : mI) (R' : mR), ufr I I' → I' 146 8 = -1 → jfr 6 J J' → rfr R R' → Q (taF V F S b m my mt mc) I' J' R') :
    ∀ (d : Nat) (lo l : Int), 0 ≤ l → l + d = m → 0 ≤ lo → lo ≤ 30 → (∀ i, 0 ≤ i → i < l → my i ≤ lo) → (lo = 0 ∨ ∃ i, 0 ≤ i ∧ i < l ∧ my i = lo) → p2_left_b6 h 7 b I J R Q (d + 1) lo l
  | 0, lo, l, h0, h1, l0, l30, hp, hx => by
    have y := hS.1
    have hm2 := hm.2.1
    show p2_left_b6_body h 7 b I J R Q (p2_left_b6 h 7 b I J R Q 0) lo l
    unfold p2_left_b6_body
    rw [hm.1, y]
    have s1 := hSt.1
    refine zt (by omega) (zs (fun e => ?_) (fun e => ⟨by omega, zs (fun e2 => ?_) (fun e2 => ?_)⟩))
    · have er : taF V F S b m my mt mc = 1023 := by
        unfold taF
        rw [bsR_congr (ok' := fun _ => 1) 10 0 0 (fun j _ _ => ?_)]
        · exact bs_all
        · unfold okF
          rw [e]
          exact ⟨fun q => absurd (show (1 : Int) = 0 from q) (by decide), fun q => absurd (show (1 : Int) = 0 from q) (by decide)⟩
      rw [er] at k
      exact k I J R (fun _ _ _ _ _ _ _ => rfl) h8 (jfr_r _ _) (rfr_r _)
    · exact ⟨11, c_leftGo hh hV hF hSt hb ⟨l0, l30⟩ e2 (fun i i0 i1 => hp i i0 (by omega)) 10 0 0 I J R (by omega) (by omega) hL hm hS (fun I' J' R' f g j r => k I' J' R' f g j r)⟩
    · have er : taF V F S b m my mt mc = 0 := by
        unfold taF
        rw [bsR_congr (ok' := fun _ => 0) 10 0 0 (fun j _ _ => ⟨fun _ => rfl, fun _ => ?_⟩)]
        · exact bs_none
        · have al := alR_iff (V := V) (F := F) (S := S) (tw := twS V b j) (my := my) (mt := mt) (mc := mc) m.toNat 0
          refine al.1.resolve_right (fun q => ?_)
          rcases hx with e3 | ⟨i, i0, i1, i2⟩
          · omega
          · have := (al.2.mp q i i0 (by omega)).1; omega
      rw [er] at k
      exact k I J R (fun _ _ _ _ _ _ _ => rfl) h8 (jfr_r _ _) (rfr_r _)
  | d + 1, lo, l, h0, h1, l0, l30, hp, hx => by
    obtain ⟨m1, m2, m3⟩ := id hm
    obtain ⟨a1, a2, a3, a4, a5⟩ := m3 l h0 (by omega)
    show p2_left_b6_body h 7 b I J R Q (p2_left_b6 h 7 b I J R Q (d + 1)) lo l
    unfold p2_left_b6_body
    rw [m1, a1]
    refine zf (by omega) ⟨by omega, by omega,  zs (fun e => ⟨by omega, ?_⟩) (fun e => ⟨by omega, by omega, by omega, ?_⟩)⟩
    · refine c_left6 hh hV hF hSt hb hL hm hS h8 k d lo (l + 1) (by omega) (by omega) l0 l30 (fun i i0 i1 => ?_) ?_
      · by_cases ei : i = l
        · rw [ei]; exact e
        · exact hp i i0 (by omega)
      · rcases hx with q | ⟨i, i0, i1, i2⟩
        · exact Or.inl q
        · exact Or.inr ⟨i, i0, by omega, i2⟩
    · refine c_left6 hh hV hF hSt hb hL hm hS h8 k d (my l) (l + 1) (by omega) (by omega) a4.1 a4.2 (fun i i0 i1 => ?_) (Or.inr ⟨l, h0, by omega, rfl⟩)
      by_cases ei : i = l
      · rw [ei]; exact Int.le_refl _
      · have := hp i i0 (by omega); omega
