/-! THE READERS: the model reads a sum or a test, by the grammar -/
def rkI (w : Nat) : Int := if w = 0 then 1 else if w = 1 then 2 else if w ≤ 3 then 4 else if w = 4 then 5 else if w = 5 then 6 else 7
def rkO (w : Nat) : Int := if w = 0 then 1 else if w = 1 then 2 else if w = 2 then 3 else if w = 3 then 4 else if w = 4 then 5 else if w = 5 then 6 else 7
def mE (tb : Int → Int) (n : Int) (m : Nat) (b fm : Int) (f q o i : Nat) (I J : mI) : Prop := mL tb n m b fm f i I J ∧ I 159 42 = q ∧ I 159 40 = o ∧ (0 ≤ I 182 f ∧ I 182 f ≤ (q : Int)) ∧ (0 ≤ I 159 31 ∧ I 159 31 ≤ (i : Int)) ∧ f ≤ o ∧ o ≤ 7 ∧ I 159 43 = 0
def mX (tb : Int → Int) (n : Int) (w q o f i : Nat) (I : mI) : Prop := (I 182 f = (q : Int) ∨ rkF (I 183 ((q : Int) - 1)) < rkI w) ∧ (w ≤ 3 → isT (I 178 f) ∧ I 179 f = 0) ∧ (w ≤ 2 → I 180 f ≠ 0) ∧ (4 ≤ w → I 179 f = 0 ∨ I 179 f = 1) ∧ (3 ≤ w → isT (I 178 f) → I 180 f ≠ 0 → ¬ (kN1 tb n i = 1 ∧ vN1 tb n i = 24) ∧ ¬ (kN1 tb n i = 4 ∧ vN1 tb n i = 91) ∧ ¬ (kN1 tb n i = 1 ∧ vN1 tb n i = 25)) ∧ q + gB o w ≤ 64
def mC (tb : Int → Int) (n : Int) (m : Nat) (b fm : Int) (f q o : Nat) (rk : Int) (len : Nat) (I I' J J' : mI) (j : Nat) (c1 : List (Int × Int)) (hs : List Int) : Prop := fR b f q I I' ∧ jK J J' ∧ mL tb n m b fm f j I' J' ∧ I' 178 f = I 178 f ∧ I' 159 31 = I 159 31 + (c1.length : Int) ∧ segM I' (1600 * b + I 159 31) c1 ∧ I' 159 42 = (q : Int) + (hs.length : Int) ∧ stO I' q hs ∧ I' 159 40 = (o : Int) + nts hs ∧ (∀ x ∈ hs, rk ≤ rkF x) ∧ hs.length ≤ len ∧ I' 159 43 = 1 ∧ I' 180 f = 0
def PH (w f : Nat) (I I' : mI) : Prop := (w ≤ 2 → I' 179 f = 1 ∨ I' 179 f = 2) ∧ (w = 3 → I' 179 f = 1) ∧ (4 ≤ w → I' 179 f = I 179 f)
def SP (tb : Int → Int) (n : Int) (w f j : Nat) (I' : mI) : Prop := (w ≤ 5 → I' 179 f ≠ 2 → sPro (kN1 tb n) (vN1 tb n) j = 0) ∧ (w ≤ 4 → I' 179 f ≠ 2 → sSum (kN1 tb n) (vN1 tb n) j = 0) ∧ (w ≤ 1 → sAnd (kN1 tb n) (vN1 tb n) j = 0) ∧ (w = 0 → sOr (kN1 tb n) (vN1 tb n) j = 0)
def mA (tb : Int → Int) (n : Int) (m : Nat) (b fm : Int) (f q o w : Nat) (I I' J J' : mI) (j : Nat) (cs : List (Int × Int)) : Prop := (∃ (c1 : List (Int × Int)) (hs : List Int), cs = c1 ++ opC hs ∧ mC tb n m b fm f q o (rkO w) (gB o w) I I' J J' j c1 hs) ∧ PH w f I I' ∧ SP tb n w f j I'
def GD (m : Nat) (Q : mI → mI → Prop) (i : Nat) (I J : mI) : Prop := ∀ g : Nat, m + 2 ≤ g + i → p12_reads_b43 Q g 1 I J
section
variable {tb : Int → Int} {n : Int} {m : Nat} {b fm : Int} {f q o i : Nat} {I J : mI}
theorem gd_o {Q : mI → mI → Prop} {i2 : Nat} (him : i ≤ m) (h43 : I 159 43 = 0) (hi2 : i < i2) (hk : ∀ Qo : Int → mI → mI → Prop, (∀ (r : Int) (I' J' : mI), (r = 0 ∨ r = 1) → I' 159 8 = 0 → (∀ I'' : mI, (∀ z, z ≠ 159 → I'' z = I' z) → (∀ j, j ≠ 43 → I'' 159 j = I' 159 j) → I'' 159 43 = r → GD m Q i2 I'' J') → Qo r I' J') → (∀ (r : Int) (I' J' : mI), (r = 0 ∨ r = 1) → 0 < I' 159 8 → (∀ I'' : mI, (∀ z, z ≠ 159 → I'' z = I' z) → (∀ j, j ≠ 43 → I'' 159 j = I' 159 j) → Q I'' J') → Qo r I' J') → p12_operand I J Qo) : GD m Q i I J := by
  intro g hg
  obtain ⟨g2, rfl⟩ : ∃ g2, g = g2 + 2 := ⟨g - 2, by omega⟩
  show p12_reads_b43_body Q (p12_reads_b43 Q (g2 + 1)) 1 I J
  unfold p12_reads_b43_body
  refine zf (by decide) (zt h43 (hk _ (fun r I' J' hr h8 hg2 => ⟨hr, m_putK (fun I9 q9 g9 f9 => ?_)⟩) (fun r I' J' hr h8 hq => ⟨hr, m_putK (fun I9 q9 g9 f9 => ?_)⟩)))
  · unfold p12_reads_b70
    exact zf (by decide) (zt ((g9 8 (by decide)).trans h8) (hg2 I9 f9 g9 q9 (g2 + 1) (by omega)))
  · unfold p12_reads_b70
    refine zf (by decide) (zf (by rw [g9 8 (by decide)]; omega) ?_)
    show p12_reads_b43_body Q (p12_reads_b43 Q g2) 0 I9 J'
    unfold p12_reads_b43_body
    exact zt rfl (hq I9 f9 g9)
theorem gd_g {Q : mI → mI → Prop} {i2 : Nat} (him : i ≤ m) (h43 : I 159 43 = 1) (hi2 : i < i2) (hk : ∀ Qg : Int → mI → mI → Prop, (∀ I' J' : mI, I' 159 8 = 0 → GD m Q i2 I' J' → Qg 1 I' J') → (∀ I' J' : mI, Q I' J' → Qg 0 I' J') → p12_goesOn I J Qg) : GD m Q i I J := by
  intro g hg
  obtain ⟨g2, rfl⟩ : ∃ g2, g = g2 + 2 := ⟨g - 2, by omega⟩
  show p12_reads_b43_body Q (p12_reads_b43 Q (g2 + 1)) 1 I J
  unfold p12_reads_b43_body
  refine zf (by decide) (zf (by omega) (hk _ (fun I' J' h8 hg2 => ?_) (fun I' J' hq => ?_)))
  · unfold p12_reads_b70
    exact zf (by decide) (zt h8 (hg2 (g2 + 1) (by omega)))
  · unfold p12_reads_b70
    refine zt rfl ?_
    show p12_reads_b43_body Q (p12_reads_b43 Q g2) 0 I' J'
    unfold p12_reads_b43_body
    exact zt rfl hq
/-- two pieces with an operator between -/
theorem mC_op {rk rk2 : Int} {len len2 : Nat} {op ph bg : Int} {I1 I2 I3 J1 J2 J3 : mI} {j j3 : Nat} {c1 c2 : List (Int × Int)} {hs hs2 : List Int} (hop : op ≠ 43) (hrk : rk ≤ rkF op) (hrk2 : rk ≤ rk2) (hlen : len2 + 1 ≤ len) (a : mC tb n m b fm f q o rk len I I1 J J1 j c1 hs) (d : opR tb n b f j q hs op ph bg I1 I2 J1 J2) (e : mC tb n m b fm f (q + 1) o rk2 len2 I2 I3 J2 J3 j3 c2 hs2) : mC tb n m b fm f q o rk len I I3 J J3 j3 ((c1 ++ opC hs) ++ c2) (hs2 ++ [op]) := by
  obtain ⟨a1, a2, a3, a4, a5, a6, a7, a8, a9, a10, a11, a12, a13⟩ := a
  obtain ⟨⟨d1, d2, d3, d4, d5, d6, d7, d8, d9, d10, d11⟩, d12, d13, d14⟩ := d
  obtain ⟨e1, e2, e3, e4, e5, e6, e7, e8, e9, e10, e11, e12, e13⟩ := e
  have l1 : ((c1 ++ opC hs) ++ c2).length = c1.length + hs.length + c2.length := by rw [List.length_append, List.length_append, opC_len]
  have l2 : (hs2 ++ [op]).length = hs2.length + 1 := by rw [List.length_append, List.length_singleton]
  have nn : nts (hs2 ++ [op]) = nts hs2 := by
    rw [nts_ap]
    have : nts [op] = (if op = 43 then 1 else 0) + 0 := rfl
    rw [if_neg hop] at this
    omega
  refine ⟨fR_t a1 (fR_t d1 e1 (Nat.le_refl f) (Nat.le_succ q)) (Nat.le_refl f) (Nat.le_refl q), jK_t a2 (jK_t d12 e2), e3, e4.trans (d9.trans a4), by rw [l1, e5, d6, a5]; omega, ?_, by rw [l2, e7]; omega, ?_, by rw [nn, e9], fun x hx => ?_, by omega, e12, e13⟩
  · refine segM_ap (segM_ap (segM_lo (fun z _ h => ?_) a6) (segM_lo (I := I2) (fun z _ h => ?_) ?_)) ?_
    · have x := d1.2.2.2.2.2 z (by omega)
      have y := e1.2.2.2.2.2 z (by omega)
      exact ⟨y.1.trans x.1, y.2.trans x.2⟩
    · rw [opC_len] at h
      exact e1.2.2.2.2.2 z (by omega)
    · rw [show 1600 * b + I 159 31 + (c1.length : Int) = 1600 * b + I1 159 31 by omega]; exact d8
    · rw [List.length_append, opC_len, show 1600 * b + I 159 31 + ((c1.length + hs.length : Nat) : Int) = 1600 * b + I2 159 31 by omega]; exact e6
  · refine stO_ap ?_ ?_
    · rw [e1.2.2.2.1 q (by omega)]; exact d5
    · rw [show (q : Int) + 1 = ((q + 1 : Nat) : Int) by omega]; exact e8
  · rcases List.mem_append.mp hx with h | h
    · have := e10 x h; omega
    · rw [List.mem_singleton.mp h]; exact hrk
theorem mC_wk {rk rk' : Int} {len len' : Nat} {I1 J1 : mI} {j : Nat} {c1 : List (Int × Int)} {hs : List Int} (h : mC tb n m b fm f q o rk len I I1 J J1 j c1 hs) (h1 : rk' ≤ rk) (h2 : len ≤ len') : mC tb n m b fm f q o rk' len' I I1 J J1 j c1 hs := by
  obtain ⟨a1, a2, a3, a4, a5, a6, a7, a8, a9, a10, a11, a12, a13⟩ := h
  exact ⟨a1, a2, a3, a4, a5, a6, a7, a8, a9, fun x hx => by have := a10 x hx; omega, by omega, a12, a13⟩
/-- nothing is held back -/
theorem mC_nil {rk : Int} {len : Nat} {I1 J1 : mI} {j : Nat} {c1 : List (Int × Int)} (a1 : fR b f q I I1) (a2 : jK J J1) (a3 : mL tb n m b fm f j I1 J1) (a4 : I1 178 f = I 178 f) (a5 : I1 159 31 = I 159 31 + (c1.length : Int)) (a6 : segM I1 (1600 * b + I 159 31) c1) (a7 : I1 159 42 = q) (a8 : I1 159 40 = o) (a12 : I1 159 43 = 1) (a13 : I1 180 f = 0) : mC tb n m b fm f q o rk len I I1 J J1 j c1 [] :=
  ⟨a1, a2, a3, a4, a5, a6, by rw [a7, List.length_nil]; omega, trivial, by rw [a8]; show (o : Int) = o + 0; omega, fun x hx => (by cases hx), by rw [List.length_nil]; omega, a12, a13⟩
theorem mC_H {rk least : Int} {len w : Nat} {I1 J1 : mI} {j : Nat} {c1 : List (Int × Int)} {hs : List Int} (hE : mE tb n m b fm f q o i I J) (hX : mX tb n w q o f i I) (h : mC tb n m b fm f q o rk len I I1 J J1 j c1 hs) (h1 : least ≤ rk) (h2 : rkI w ≤ least) (hl : len ≤ 64) (hj : j ≤ m) (hm : m ≤ 1600) (hc : c1.length + hs.length + i ≤ j) : mH f q least hs I1 := by
  obtain ⟨a1, a2, a3, a4, a5, a6, a7, a8, a9, a10, a11, a12, a13⟩ := h
  obtain ⟨e1, e2, e3, e4, e5, e6, e7, e8⟩ := hE
  obtain ⟨x1, x2, x3, x4, x5, x6⟩ := hX
  have nr := nts_rg hs
  refine ⟨a7, a8, ?_, by omega, by omega, by omega, by omega, fun x hx => by have := a10 x hx; omega, ?_⟩
  · rw [(a1.2.1 f (Int.le_refl _)).1]; exact e4
  · rw [(a1.2.1 f (Int.le_refl _)).1, a1.2.2.2.1 ((q : Int) - 1) (by omega)]
    rcases x1 with h | h
    · exact Or.inl h
    · exact Or.inr (by omega)
theorem mC_H0 {rk least : Int} {len : Nat} {I1 J1 : mI} {j : Nat} {c1 : List (Int × Int)} {hs : List Int} (hE : mE tb n m b fm f q o i I J) (hbase : I 182 f = (q : Int)) (h : mC tb n m b fm f q o rk len I I1 J J1 j c1 hs) (h1 : least ≤ rk) (hq : q + len ≤ 300) (hj : j ≤ m) (hm : m ≤ 1600) (hc : c1.length + hs.length + i ≤ j) : mH f q least hs I1 := by
  obtain ⟨a1, a2, a3, a4, a5, a6, a7, a8, a9, a10, a11, a12, a13⟩ := h
  obtain ⟨e1, e2, e3, e4, e5, e6, e7, e8⟩ := hE
  have nr := nts_rg hs
  refine ⟨a7, a8, ?_, by omega, by omega, by omega, by omega, fun x hx => by have := a10 x hx; omega, ?_⟩
  · rw [(a1.2.1 f (Int.le_refl _)).1]; exact e4
  · rw [(a1.2.1 f (Int.le_refl _)).1]; exact Or.inl hbase
/-- the mode is set -/
theorem mL_43 {I' I'' J' : mI} (h : mL tb n m b fm f i I' J') (hz : ∀ z, z ≠ 159 → I'' z = I' z) (hj : ∀ j, j ≠ 43 → I'' 159 j = I' 159 j) : mL tb n m b fm f i I'' J' := by
  obtain ⟨a1, a2, a3, a4, a5, a6, a7⟩ := h
  exact ⟨mS_f a1 (hz 160 (by decide)) (fun j _ _ => hj j (by omega)) rfl, a2, (hj 8 (by decide)).trans a3, by rw [hj 32 (by decide)]; exact a4, (hj 33 (by decide)).trans a5, (hj 39 (by decide)).trans a6, a7⟩
theorem mNo_43 {I' I'' J' : mI} {k pl : Int} (h : mNo b I I' J J' k pl) (hz : ∀ z, z ≠ 159 → I'' z = I' z) (hj : ∀ j, j ≠ 43 → I'' 159 j = I' 159 j) : mNo b I I'' J J' k pl := by
  obtain ⟨a1, a2, a3, a4⟩ := h
  refine ⟨mfw_t a1 ⟨fun z a _ _ _ => hz z a, fun j a => hj j (by omega), fun j _ => by rw [hz 175 (by decide), hz 176 (by decide)]; exact ⟨rfl, rfl⟩⟩, a2, by rw [hj 8 (by decide)]; exact a3, by rw [hj 9 (by decide)]; exact a4⟩
theorem fR_43 {I' I'' : mI} (hz : ∀ z, z ≠ 159 → I'' z = I' z) (hj : ∀ j, j ≠ 43 → I'' 159 j = I' 159 j) : fR b f q I' I'' := fR_1 hz (fun j a => hj j (by omega)) (hj 31 (by decide))
/-- the level's operators -/
def stW (K V : Nat → Int) (w : Nat) : Nat → Int := if w = 0 then sOr K V else if w = 1 then sAnd K V else if w = 4 then sSum K V else sPro K V
theorem m_opw {w : Nat} {I1 J1 : mI} {j : Nat} {hs : List Int} {Qg : Int → mI → mI → Prop} (hw : w = 0 ∨ w = 1 ∨ w = 4 ∨ w = 5) (hc : ctD tb n m) (hL : mL tb n m b fm f j I1 J1) (hH : mH f q (rkO w) hs I1) (hlo : w ≤ 1 → isT (I1 178 f) ∧ (I1 179 f = 1 ∨ I1 179 f = 2)) (hhi : 4 ≤ w → I1 179 f = 0 ∨ I1 179 f = 1) (z : stW (kN1 tb n) (vN1 tb n) w j ≠ 0)
    (kk : ∀ I' J', opR tb n b f j q hs (stW (kN1 tb n) (vN1 tb n) w j) (if w ≤ 1 then 0 else I1 179 f) (if w ≤ 1 then 1 else I1 180 f) I1 I' J1 J' → Qg 1 I' J') : p12_goesOn I1 J1 Qg := by
  rcases hw with rfl | rfl | rfl | rfl
  · have e : stW (kN1 tb n) (vN1 tb n) 0 j = 42 := (sOr_k z).2
    rw [e] at kk
    exact go_lo hc hL (hlo (by decide)).1 (hlo (by decide)).2 (Or.inr ⟨e, rfl, rfl⟩) hH kk
  · have e : stW (kN1 tb n) (vN1 tb n) 1 j = 41 := (sAnd_k z).2
    rw [e] at kk
    exact go_lo hc hL (hlo (by decide)).1 (hlo (by decide)).2 (Or.inl ⟨e, rfl, rfl⟩) hH kk
  · exact go_sum hc hL (by have := hhi (by decide); omega) z hH kk
  · exact go_pro hc hL (by have := hhi (by decide); omega) z hH kk
theorem stW_k {w : Nat} (hw : w = 0 ∨ w = 1 ∨ w = 4 ∨ w = 5) (hc : ctD tb n m) {j : Nat} (hj : j ≤ m) (z : stW (kN1 tb n) (vN1 tb n) w j ≠ 0) : j < m ∧ stW (kN1 tb n) (vN1 tb n) w j ≠ 43 ∧ rkF (stW (kN1 tb n) (vN1 tb n) w j) = rkO w ∧ rkF (stW (kN1 tb n) (vN1 tb n) w j) < rkI (w + 1) := by
  have hT := tkM_of hc
  rcases hw with rfl | rfl | rfl | rfl
  · have e := sOr_k z
    have e2 : stW (kN1 tb n) (vN1 tb n) 0 j = 42 := e.2
    rw [e2]
    exact ⟨tkM_lt hT hj (by rw [e.1.1]; decide), by decide, by decide, by decide⟩
  · have e := sAnd_k z
    have e2 : stW (kN1 tb n) (vN1 tb n) 1 j = 41 := e.2
    rw [e2]
    exact ⟨tkM_lt hT hj (by rw [e.1.1]; decide), by decide, by decide, by decide⟩
  · have e := sSum_k z
    have e2 : stW (kN1 tb n) (vN1 tb n) 4 j = sSum (kN1 tb n) (vN1 tb n) j := rfl
    rw [e2]
    refine ⟨tkM_lt hT hj (by rw [e.1]; decide), ?_⟩
    rcases e.2 with x | x
    · rw [x.2]; decide
    · rw [x.2]; decide
  · have e := sPro_k z
    have e2 : stW (kN1 tb n) (vN1 tb n) 5 j = sPro (kN1 tb n) (vN1 tb n) j := rfl
    rw [e2]
    refine ⟨tkM_lt hT hj (by rw [e.1]; decide), ?_⟩
    rcases e.2 with x | x | x
    · rw [x.2]; decide
    · rw [x.2]; decide
    · rw [x.2]; decide
theorem SP_up {w : Nat} (hw : w = 0 ∨ w = 1 ∨ w = 4 ∨ w = 5) {j : Nat} {I1 : mI} (h : SP tb n (w + 1) f j I1) (z : stW (kN1 tb n) (vN1 tb n) w j = 0) : SP tb n w f j I1 := by
  obtain ⟨h1, h2, h3, h4⟩ := h
  rcases hw with rfl | rfl | rfl | rfl
  · exact ⟨fun _ => h1 (by decide), fun _ => h2 (by decide), fun _ => h3 (by decide), fun _ => z⟩
  · exact ⟨fun _ => h1 (by decide), fun _ => h2 (by decide), fun _ => z, fun q => absurd q (by decide)⟩
  · exact ⟨fun _ => h1 (by decide), fun _ _ => z, fun q => absurd q (by decide), fun q => absurd q (by decide)⟩
  · exact ⟨fun _ _ => z, fun q => absurd q (by decide), fun q => absurd q (by decide), fun q => absurd q (by decide)⟩
theorem m_loop {w : Nat} {Q : mI → mI → Prop} {rd : Nat → Rs} (hw : w = 0 ∨ w = 1 ∨ w = 4 ∨ w = 5) (hc : ctD tb n m) (hE : mE tb n m b fm f q o i I J) (hX : mX tb n w q o f i I)
    (hrd : ∀ (j : Nat) (I2 J2 : mI), mE tb n m b fm f (q + 1) o j I2 J2 → mX tb n (w + 1) (q + 1) o f j I2 → (∀ (I' J' : mI) (j' : Nat) (c : List (Int × Int)), rd j = Sum.inr (j', c) → mA tb n m b fm f (q + 1) o (w + 1) I2 I' J2 J' j' c → GD m Q j' I' J') → (∀ (I' J' : mI) (k : Int) (i' : Nat), rd j = Sum.inl (k, i') → mNo b I2 I' J2 J' k (lN1 tb n i') → Q I' J') → GD m Q j I2 J2)
    (hok : ∀ j, j ≤ m → ∀ j' c, rd j = Sum.inr (j', c) → j < j' ∧ j' ≤ m ∧ c.length + j ≤ j') :
    ∀ (g j : Nat) (c1 : List (Int × Int)) (hs : List Int) (I1 J1 : mI), m + 1 ≤ g + j → c1.length + hs.length + i ≤ j → mC tb n m b fm f q o (rkO w) (gB o w) I I1 J J1 j c1 hs → PH w f I I1 → SP tb n (w + 1) f j I1 →
      (∀ (I' J' : mI) (j' : Nat) (c : List (Int × Int)), gLp rd (stW (kN1 tb n) (vN1 tb n) w) g j (c1 ++ opC hs) = Sum.inr (j', c) → mA tb n m b fm f q o w I I' J J' j' c → GD m Q j' I' J') → (∀ (I' J' : mI) (k : Int) (i' : Nat), gLp rd (stW (kN1 tb n) (vN1 tb n) w) g j (c1 ++ opC hs) = Sum.inl (k, i') → mNo b I I' J J' k (lN1 tb n i') → Q I' J') → GD m Q j I1 J1
  | 0, j, c1, hs, I1, J1, hg, hlc, hC, hP, hS, kok, kno => by
    have := hC.2.2.1.2.1
    omega
  | g + 1, j, c1, hs, I1, J1, hg, hlc, hC, hP, hS, kok, kno => by
    have hjm := hC.2.2.1.2.1
    have hm := hc.1
    have w7 : w ≤ 5 := by omega
    have hI : rkI w = rkO w := by rcases hw with rfl | rfl | rfl | rfl <;> rfl
    by_cases z : stW (kN1 tb n) (vN1 tb n) w j = 0
    · refine kok I1 J1 j (c1 ++ opC hs) ?_ ⟨⟨c1, hs, rfl, hC⟩, hP, SP_up hw hS z⟩
      unfold gLp; rw [if_pos z]
    · have e0 : gLp rd (stW (kN1 tb n) (vN1 tb n) w) (g + 1) j (c1 ++ opC hs) = rB (rd (j + 1)) (fun j2 c => gLp rd (stW (kN1 tb n) (vN1 tb n) w) g j2 ((c1 ++ opC hs) ++ (c ++ [(stW (kN1 tb n) (vN1 tb n) w j, 0)]))) := by
        show (if stW (kN1 tb n) (vN1 tb n) w j = 0 then _ else _) = _
        rw [if_neg z]
      rw [e0] at kok kno
      obtain ⟨sw1, sw2, sw3, sw4⟩ := stW_k hw hc hjm z
      have gb : gB o (w + 1) + 1 = gB o w := by unfold gB; omega
      have hgB : gB o w ≤ 64 := by have := hX.2.2.2.2.2; omega
      have hH : mH f q (rkO w) hs I1 := mC_H hE hX hC (Int.le_refl _) (by omega) hgB hjm hm hlc
      refine gd_g hjm hC.2.2.2.2.2.2.2.2.2.2.2.1 (Nat.lt_succ_self j) (fun Qg kq _ => m_opw hw hc hC.2.2.1 hH (fun l => ⟨by rw [hC.2.2.2.1]; exact (hX.2.1 (by omega)).1, hP.1 (by omega)⟩) (fun l => by rw [hP.2.2 l]; exact hX.2.2.2.1 l) z (fun I2 J2 hr => kq I2 J2 ?_ ?_))
      · rw [hr.1.2.1]; exact hC.2.2.1.2.2.1
      · have hC' := hC
        have hr' := hr
        obtain ⟨a1, a2, a3, a4, a5, a6, a7, a8, a9, a10, a11, a12, a13⟩ := hC'
        obtain ⟨⟨d1, d2, d3, d4, d5, d6, d7, d8, d9, d10, d11⟩, d12, d13, d14⟩ := hr'
        obtain ⟨e1, e2, e3, e4, e5, e6, e7, e8⟩ := hE
        have k182 : I2 182 f = I 182 f := by rw [(d1.2.1 f (Int.le_refl _)).1, (a1.2.1 f (Int.le_refl _)).1]
        have L2 : mL tb n m b fm f (j + 1) I2 J2 := ⟨d13, sw1, d2.trans a3.2.2.1, by rw [d1.1.2.1 32 (by omega)]; exact a3.2.2.2.1, by rw [d1.1.2.1 33 (by omega)]; exact a3.2.2.2.2.1, d3.trans a3.2.2.2.2.2.1, a3.2.2.2.2.2.2⟩
        have E2 : mE tb n m b fm f (q + 1) o (j + 1) I2 J2 := ⟨L2, by rw [d4]; omega, by rw [d7]; omega, by rw [k182]; omega, by omega, e6, e7, d14⟩
        have X2 : mX tb n (w + 1) (q + 1) o f (j + 1) I2 := by
          refine ⟨Or.inr ?_, fun l => ⟨?_, ?_⟩, fun l => ?_, fun l => ?_, fun l t bz => ?_, by have := hX.2.2.2.2.2; omega⟩
          · rw [show ((q + 1 : Nat) : Int) - 1 = (q : Int) by omega, d5]; exact sw4
          · rw [d9, a4]; exact (hX.2.1 (by omega)).1
          · rw [d10, if_pos (by omega)]
          · rw [d11, if_pos (by omega)]; decide
          · rw [d10, if_neg (by omega), hP.2.2 (by omega)]; exact hX.2.2.2.1 (by omega)
          · rw [d11, if_neg (by omega)] at bz
            exact absurd a13 bz
        refine hrd (j + 1) I2 J2 E2 X2 (fun I3 J3 j3 c e hA => ?_) (fun I3 J3 k i' e hN => kno I3 J3 k i' (by rw [e]; rfl) (mNo_t (mfr_t a1.1 d1.1) (jK_t a2 d12) hN))
        obtain ⟨⟨c2, hs2, hc2, hC2⟩, hP2, hS2⟩ := hA
        have ok := hok (j + 1) sw1 j3 c e
        rw [e] at kok kno
        have hC3 := mC_op sw2 (by omega) (show rkO w ≤ rkO (w + 1) by rcases hw with rfl | rfl | rfl | rfl <;> decide) (by omega) hC hr hC2
        have ec : ((c1 ++ opC hs) ++ c2) ++ opC (hs2 ++ [stW (kN1 tb n) (vN1 tb n) w j]) = (c1 ++ opC hs) ++ (c ++ [(stW (kN1 tb n) (vN1 tb n) w j, 0)]) := by
          rw [opC_ap, hc2, List.append_assoc, List.append_assoc, List.append_assoc, List.append_assoc]; rfl
        refine m_loop hw hc ⟨e1, e2, e3, e4, e5, e6, e7, e8⟩ hX hrd hok g j3 ((c1 ++ opC hs) ++ c2) (hs2 ++ [stW (kN1 tb n) (vN1 tb n) w j]) I3 J3 (by omega) ?_ hC3 ⟨fun l => hP2.1 (by omega), fun l => by omega, fun l => ?_⟩ hS2 ?_ ?_
        · have lc : c.length = c2.length + hs2.length := by rw [hc2, List.length_append, opC_len]
          rw [List.length_append, List.length_append, List.length_append, opC_len, List.length_singleton]
          omega
        · rw [hP2.2.2 (by omega), d10, if_neg (by omega)]; exact hP.2.2 l
        · rw [ec]; exact kok
        · rw [ec]; exact kno
end
