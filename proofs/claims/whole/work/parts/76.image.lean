/-! images -/
def gbF (V S : mI) (j : Int) : Int := if j = 0 then Int.tdiv (S 0 0) 256 else if j = 1 then Int.tmod (S 0 0) 256 else if j = 2 then Int.tdiv (S 0 1) 256 else if j = 3 then Int.tmod (S 0 1) 256 else if j < 4 + V 1 0 then S 1 (j - 4) else if j < 4 + 2 * V 1 0 then S 2 (j - 4 - V 1 0) else (if S 3 (j - 4 - 2 * V 1 0) = -1 then 255 else S 3 (j - 4 - 2 * V 1 0))
def nbF (V : mI) : Int := 4 + 2 * V 1 0 + V 1 2
def ckR (g : Int → Int) : Nat → Int → Int → Int
  | 0, acc, _ => acc
  | d + 1, acc, k => ckR g d (Int.tmod (5 * acc + g k) 251) (k + 1)
def geF (V S : mI) (j : Int) : Int := if j < nbF V then gbF V S j else ckR (gbF V S) (nbF V).toNat 229 0
theorem gbF_rg {V S : mI} (hV : ldOK V) (hS : stOK V S) {j : Int} (h0 : 0 ≤ j) (h1 : j < nbF V) : 0 ≤ gbF V S j ∧ gbF V S j ≤ 255 := by
  obtain ⟨⟨n0, n1, n2⟩, -⟩ := hV
  obtain ⟨s1, s2, s3, s4, s5, s6, s7⟩ := hS
  unfold nbF at h1
  unfold gbF
  by_cases e0 : j = 0
  · rw [if_pos e0, Int.tdiv_eq_ediv_of_nonneg s1.1]; omega
  rw [if_neg e0]
  by_cases e1 : j = 1
  · rw [if_pos e1, Int.tmod_eq_emod_of_nonneg s1.1]; omega
  rw [if_neg e1]
  by_cases e2 : j = 2
  · rw [if_pos e2, Int.tdiv_eq_ediv_of_nonneg s2.1]; omega
  rw [if_neg e2]
  by_cases e3 : j = 3
  · rw [if_pos e3, Int.tmod_eq_emod_of_nonneg s2.1]; omega
  rw [if_neg e3]
  by_cases e4 : j < 4 + V 1 0
  · rw [if_pos e4]
    have := s4 (j - 4) (by omega) (by omega); omega
  rw [if_neg e4]
  by_cases e5 : j < 4 + 2 * V 1 0
  · rw [if_pos e5]
    have := s6 (j - 4 - V 1 0) (by omega) (by omega); omega
  rw [if_neg e5]
  have := s7 (j - 4 - 2 * V 1 0) (by omega) (by omega)
  split <;> omega
theorem ckR_rg {g : Int → Int} : ∀ (d : Nat) (acc k : Int), (∀ j, k ≤ j → j < k + d → 0 ≤ g j ∧ g j ≤ 255) → 0 ≤ acc → acc ≤ 250 → 0 ≤ ckR g d acc k ∧ ckR g d acc k ≤ 250
  | 0, acc, k, _, h0, h1 => ⟨h0, h1⟩
  | d + 1, acc, k, hg, h0, h1 => by
    have g0 := hg k (by omega) (by omega)
    have r := th_rg (y := 5 * acc + g k) (n := 251) (by omega) (by omega)
    exact ckR_rg d _ _ (fun j j0 j1 => hg j (by omega) (by omega)) r.1 (by omega)
theorem ckR_congr {g g' : Int → Int} : ∀ (d : Nat) (acc k : Int), (∀ j, k ≤ j → j < k + d → g j = g' j) → ckR g d acc k = ckR g' d acc k
  | 0, _, _, _ => rfl
  | d + 1, acc, k, h => by
    show ckR g d (Int.tmod (5 * acc + g k) 251) (k + 1) = ckR g' d (Int.tmod (5 * acc + g' k) 251) (k + 1)
    rw [h k (by omega) (by omega)]
    exact ckR_congr d _ _ (fun j j0 j1 => h j (by omega) (by omega))
def piC (I : mI) (n : Int) (g : Int → Int) : Prop := I 119 1 = n ∧ ∀ j, 0 ≤ j → j < n → I 120 j = g j
def piM (I : mI) (n : Int) (g : Int → Int) : Prop := I 159 68 = n ∧ ∀ j, 0 ≤ j → j < n → I 203 j = g j
def piCf (I I' : mI) : Prop := ∀ z, z ≠ 119 → z ≠ 120 → I' z = I z
def piMf (I I' : mI) : Prop := (∀ z, z ≠ 159 → z ≠ 203 → I' z = I z) ∧ ∀ j, j ≠ 68 → I' 159 j = I 159 j
theorem piCf_t {I1 I2 I3 : mI} (h1 : piCf I1 I2) (h2 : piCf I2 I3) : piCf I1 I3 := fun z a b => (h2 z a b).trans (h1 z a b)
theorem piMf_t {I1 I2 I3 : mI} (h1 : piMf I1 I2) (h2 : piMf I2 I3) : piMf I1 I3 := ⟨fun z a b => (h2.1 z a b).trans (h1.1 z a b), fun j hj => (h2.2 j hj).trans (h1.2 j hj)⟩
theorem c_padd {I : mI} {n x : Int} {g : Int → Int} {Q : mI → Prop} (hp : piC I n g) (h0 : 0 ≤ n) (h1 : n < 23) (hx : x = g n) (k : ∀ I' : mI, piCf I I' → piC I' (n + 1) g → Q I') : p5_add x I Q := by
  unfold p5_add
  rw [hp.1]
  refine zf (by omega) ⟨by omega, m_putK (fun I1 q1 g1 f1 => ?_)⟩
  rw [f1 119 (by decide), hp.1]
  refine ⟨by omega, m_putK (fun I2 q2 g2 f2 => k I2 (fun z a b => (f2 z a).trans (f1 z b)) ⟨q2, fun j j0 j1 => ?_⟩)⟩
  rw [f2 120 (by decide)]
  by_cases e : j = n
  · rw [e, q1]; exact hx
  · rw [g1 j e]; exact hp.2 j j0 (by omega)
theorem m_pwr {I : mI} {n x : Int} {g : Int → Int} {Q : mI → Prop} (hp : piM I n g) (h0 : 0 ≤ n) (h1 : n < 30) (hx : x % 256 = g n) (k : ∀ I' : mI, piMf I I' → piM I' (n + 1) g → Q I') : p12_writes x I Q := by
  unfold p12_writes
  rw [hp.1, and255]
  refine ⟨by omega, m_putK (fun I1 q1 g1 f1 => ?_)⟩
  rw [f1 159 (by decide), hp.1]
  refine ⟨by omega, m_putK (fun I2 q2 g2 f2 => k I2 ⟨fun z a b => (f2 z a).trans (f1 z b), fun j hj => by rw [g2 j hj, f1 159 (by decide)]⟩ ⟨q2, fun j j0 j1 => ?_⟩)⟩
  rw [f2 203 (by decide)]
  by_cases e : j = n
  · rw [e, q1]; exact hx
  · rw [g1 j e]; exact hp.2 j j0 (by omega)
theorem c_pckGo {I : mI} {n : Int} {g g' : Int → Int} {Q : mI → Prop} (hp : piC I n g') (hn : n < 23) (hg : ∀ j, 0 ≤ j → j < n → g' j = g j ∧ 0 ≤ g j ∧ g j ≤ 255) (k : ∀ I' : mI, piCf I I' → piC I' (n + 1) g' → Q I') :
    ∀ (d : Nat) (acc l : Int), 0 ≤ l → l + d = n → 0 ≤ acc → acc ≤ 250 → g' n = ckR g d acc l → p5_write_b168 I Q (d + 1) acc l
  | 0, acc, l, h0, h1, h2, h3, hq => by
    show p5_write_b168_body I Q (p5_write_b168 I Q 0) acc l
    unfold p5_write_b168_body
    rw [hp.1]
    exact zt (by omega) (c_padd hp (by omega) hn hq.symm k)
  | d + 1, acc, l, h0, h1, h2, h3, hq => by
    show p5_write_b168_body I Q (p5_write_b168 I Q (d + 1)) acc l
    unfold p5_write_b168_body
    have hgl := hg l h0 (by omega)
    have r := th_rg (y := 5 * acc + g l) (n := 251) (by omega) (by omega)
    rw [hp.1, hp.2 l h0 (by omega), hgl.1]
    exact zf (by omega) ⟨by omega, by omega, by omega,  wLet_r ⟨by omega, c_pckGo hp hn hg k d _ (l + 1) (by omega) (by omega) r.1 (by omega) hq⟩⟩
theorem m_pckGo {I : mI} {n : Int} {g g' : Int → Int} {Q : Int → mI → Prop} (hp : piM I n g') (hn : n < 23) (hg : ∀ j, 0 ≤ j → j < n → g' j = g j ∧ 0 ≤ g j ∧ g j ≤ 255) (k : ∀ I' : mI, piMf I I' → piM I' (n + 1) g' → Q (n + 1) I') :
    ∀ (d : Nat) (acc l : Int), 0 ≤ l → l + d = n → 0 ≤ acc → acc ≤ 250 → g' n = ckR g d acc l → p12_image_b150 I Q (d + 1) acc l
  | 0, acc, l, h0, h1, h2, h3, hq => by
    show p12_image_b150_body I Q (p12_image_b150 I Q 0) acc l
    unfold p12_image_b150_body
    have hq' : g' n = acc := hq
    rw [hp.1]
    refine zt (by omega) (m_pwr hp (by omega) (by omega) (by omega) (fun I' f p => ?_))
    show Q (I' 159 68) I'
    rw [p.1]; exact k I' f p
  | d + 1, acc, l, h0, h1, h2, h3, hq => by
    show p12_image_b150_body I Q (p12_image_b150 I Q (d + 1)) acc l
    unfold p12_image_b150_body
    have hgl := hg l h0 (by omega)
    have r := th_rg (y := 5 * acc + g l) (n := 251) (by omega) (by omega)
    rw [hp.1, hp.2 l h0 (by omega), hgl.1]
    exact zf (by omega) ⟨by omega, by omega, by omega,  wLet_r ⟨by omega, m_pckGo hp hn hg k d _ (l + 1) (by omega) (by omega) r.1 (by omega) hq⟩⟩
theorem ge_gb {V S : mI} (hV : ldOK V) (hS : stOK V S) : (∀ j, 0 ≤ j → j < nbF V → geF V S j = gbF V S j ∧ 0 ≤ gbF V S j ∧ gbF V S j ≤ 255) ∧ geF V S (nbF V) = ckR (gbF V S) (nbF V).toNat 229 0 := by
  refine ⟨fun j j0 j1 => ⟨if_pos j1, gbF_rg hV hS j0 j1⟩, if_neg (by omega)⟩
/-- the class writes, from each of its loops on -/
theorem c_wears {h : Nat} {V S : mI} {Q : mI → Prop} {I0 : mI} (hh : isLd h) (hV : ldOK V) (hSt : stOK V S) (hL : ldC I0 h V) (hS : stC I0 7 S) (k : ∀ I' : mI, piCf I0 I' → piC I' (nbF V + 1) (geF V S) → Q I') :
    ∀ (d : Nat) (l : Int) (I : mI), 0 ≤ l → l + d = V 1 2 → piCf I0 I → piC I (4 + 2 * V 1 0 + l) (geF V S) → p5_write_b115 h 7 Q (d + 1) l I
  | 0, l, I, h0, h1, hf, hp => by
    have n := hV.1
    have hlh : h = 123 ∨ h = 132 := hh
    have g := ge_gb hV hSt
    have en : 4 + 2 * V 1 0 + l = nbF V := by unfold nbF; omega
    rw [en] at hp
    have en2 : nbF V < 23 := by unfold nbF; omega
    have en3 : 0 ≤ nbF V := by unfold nbF; omega
    show p5_write_b115_body h 7 Q (p5_write_b115 h 7 Q 0) l I
    unfold p5_write_b115_body
    rw [hf (h + 1) (by omega) (by omega), hL.2.1]
    exact zt (by omega) ⟨(nbF V).toNat + 1, c_pckGo hp en2 g.1 (fun I' f p => k I' (piCf_t hf f) p) _ 229 0 (by omega) (by omega) (by omega) (by omega) g.2⟩
  | d + 1, l, I, h0, h1, hf, hp => by
    have n := hV.1
    have hlh : h = 123 ∨ h = 132 := hh
    have g := (ge_gb hV hSt).1 (4 + 2 * V 1 0 + l) (by omega) (by unfold nbF; omega)
    have ew : I 10 l = S 3 l := by rw [hf 10 (by decide) (by decide)]; exact (hS.2.2.2.1 l h0 (by omega)).2.2
    have eg : geF V S (4 + 2 * V 1 0 + l) = if S 3 l = -1 then 255 else S 3 l := by
      rw [g.1]; unfold gbF
      rw [if_neg (by omega), if_neg (by omega), if_neg (by omega), if_neg (by omega), if_neg (by omega), if_neg (by omega), show 4 + 2 * V 1 0 + l - 4 - 2 * V 1 0 = l by omega]
    have go : ∀ x, x = geF V S (4 + 2 * V 1 0 + l) → p5_add x I (fun I9 => rg (l + 1) ∧ p5_write_b115 h 7 Q (d + 1) (l + 1) I9) := fun x hx =>
      c_padd hp (by omega) (by omega) hx (fun I' f p => ⟨by omega, c_wears hh hV hSt hL hS k d (l + 1) I' (by omega) (by omega) (piCf_t hf f) (by rw [← Int.add_assoc]; exact p)⟩)
    show p5_write_b115_body h 7 Q (p5_write_b115 h 7 Q (d + 1)) l I
    unfold p5_write_b115_body
    rw [hf (h + 1) (by omega) (by omega), hL.2.1, ew]
    refine zf (by omega) ⟨by omega, ?_⟩
    by_cases e : S 3 l = -1
    · exact zt e (go 255 (by rw [eg, if_pos e]))
    · exact zf e ⟨by omega, go _ (by rw [eg, if_neg e])⟩
theorem c_pmood {h : Nat} {V S : mI} {Q : mI → Prop} {I0 : mI} (hh : isLd h) (hV : ldOK V) (hSt : stOK V S) (hL : ldC I0 h V) (hS : stC I0 7 S) (k : ∀ I' : mI, piCf I0 I' → piC I' (nbF V + 1) (geF V S) → Q I') :
    ∀ (d : Nat) (l : Int) (I : mI), 0 ≤ l → l + d = V 1 0 → piCf I0 I → piC I (4 + V 1 0 + l) (geF V S) → p5_write_b89 h 7 (V 1 0) Q (d + 1) l I
  | 0, l, I, h0, h1, hf, hp => by
    have n := hV.1
    show p5_write_b89_body h 7 (V 1 0) Q (p5_write_b89 h 7 (V 1 0) Q 0) l I
    unfold p5_write_b89_body
    refine zt (by omega) ⟨(V 1 2).toNat + 1, c_wears hh hV hSt hL hS k _ 0 I (by omega) (by omega) hf ?_⟩
    rw [show 4 + 2 * V 1 0 + 0 = 4 + V 1 0 + l by omega]; exact hp
  | d + 1, l, I, h0, h1, hf, hp => by
    have n := hV.1
    have g := (ge_gb hV hSt).1 (4 + V 1 0 + l) (by omega) (by unfold nbF; omega)
    have ew : I 9 l = S 2 l := by rw [hf 9 (by decide) (by decide)]; exact (hS.2.2.2.1 l h0 (by omega)).2.1
    have eg : geF V S (4 + V 1 0 + l) = S 2 l := by
      rw [g.1]; unfold gbF
      rw [if_neg (by omega), if_neg (by omega), if_neg (by omega), if_neg (by omega), if_neg (by omega), if_pos (by omega), show 4 + V 1 0 + l - 4 - V 1 0 = l by omega]
    show p5_write_b89_body h 7 (V 1 0) Q (p5_write_b89 h 7 (V 1 0) Q (d + 1)) l I
    unfold p5_write_b89_body
    rw [ew]
    exact zf (by omega) ⟨by omega, c_padd hp (by omega) (by omega) eg.symm (fun I' f p => ⟨by omega, c_pmood hh hV hSt hL hS k d (l + 1) I' (by omega) (by omega) (piCf_t hf f) (by rw [← Int.add_assoc]; exact p)⟩)⟩
theorem c_porder {h : Nat} {V S : mI} {Q : mI → Prop} {I0 : mI} (hh : isLd h) (hV : ldOK V) (hSt : stOK V S) (hL : ldC I0 h V) (hS : stC I0 7 S) (k : ∀ I' : mI, piCf I0 I' → piC I' (nbF V + 1) (geF V S) → Q I') :
    ∀ (d : Nat) (l : Int) (I : mI), 0 ≤ l → l + d = V 1 0 → piCf I0 I → piC I (4 + l) (geF V S) → p5_write_b63 h 7 (V 1 0) Q (d + 1) l I
  | 0, l, I, h0, h1, hf, hp => by
    have n := hV.1
    show p5_write_b63_body h 7 (V 1 0) Q (p5_write_b63 h 7 (V 1 0) Q 0) l I
    unfold p5_write_b63_body
    refine zt (by omega) ⟨(V 1 0).toNat + 1, c_pmood hh hV hSt hL hS k _ 0 I (by omega) (by omega) hf ?_⟩
    rw [show 4 + V 1 0 + 0 = 4 + l by omega]; exact hp
  | d + 1, l, I, h0, h1, hf, hp => by
    have n := hV.1
    have g := (ge_gb hV hSt).1 (4 + l) (by omega) (by unfold nbF; omega)
    have ew : I 8 l = S 1 l := by rw [hf 8 (by decide) (by decide)]; exact (hS.2.2.2.1 l h0 (by omega)).1
    have eg : geF V S (4 + l) = S 1 l := by
      rw [g.1]; unfold gbF
      rw [if_neg (by omega), if_neg (by omega), if_neg (by omega), if_neg (by omega), if_pos (by omega), show 4 + l - 4 = l by omega]
    show p5_write_b63_body h 7 (V 1 0) Q (p5_write_b63 h 7 (V 1 0) Q (d + 1)) l I
    unfold p5_write_b63_body
    rw [ew]
    exact zf (by omega) ⟨by omega, c_padd hp (by omega) (by omega) eg.symm (fun I' f p => ⟨by omega, c_porder hh hV hSt hL hS k d (l + 1) I' (by omega) (by omega) (piCf_t hf f) (by rw [← Int.add_assoc]; exact p)⟩)⟩
theorem ge4 {V S : mI} (hV : ldOK V) (hSt : stOK V S) : geF V S 0 = Int.tdiv (S 0 0) 256 ∧ geF V S 1 = Int.tmod (S 0 0) 256 ∧ geF V S 2 = Int.tdiv (S 0 1) 256 ∧ geF V S 3 = Int.tmod (S 0 1) 256 := by
  have n := hV.1
  have g := (ge_gb hV hSt).1
  have hn : 4 ≤ nbF V := by unfold nbF; omega
  rw [(g 0 (by omega) (by omega)).1, (g 1 (by omega) (by omega)).1, (g 2 (by omega) (by omega)).1, (g 3 (by omega) (by omega)).1]
  exact ⟨rfl, rfl, rfl, rfl⟩
theorem c_write {I : mI} {h : Nat} {V S : mI} {Q : mI → Prop} (hh : isLd h) (hV : ldOK V) (hSt : stOK V S) (hL : ldC I h V) (hS : stC I 7 S) (k : ∀ I' : mI, piCf I I' → piC I' (nbF V + 1) (geF V S) → Q I') : p5_write h 7 I Q := by
  have n := hV.1
  have hlh : h = 123 ∨ h = 132 := hh
  obtain ⟨g0, g1, g2, g3⟩ := ge4 hV hSt
  unfold p5_write
  refine m_putK (fun I1 q1 _ f1 => ?_)
  have F1 : piCf I I1 := fun z a _ => f1 z a
  have e : ∀ {I' : mI}, piCf I I' → I' 7 = I 7 := fun f => f 7 (by decide) (by decide)
  have p0 : piC I1 0 (geF V S) := ⟨q1, fun j j0 j1 => by omega⟩
  rw [e F1, hS.1]
  refine c_padd p0 (by omega) (by omega) g0.symm (fun I2 f2 p2 => ?_)
  have F2 := piCf_t F1 f2
  rw [e F2, hS.1]
  refine c_padd p2 (by omega) (by omega) g1.symm (fun I3 f3 p3 => ?_)
  have F3 := piCf_t F2 f3
  rw [e F3, hS.2.1]
  refine c_padd p3 (by omega) (by omega) g2.symm (fun I4 f4 p4 => ?_)
  have F4 := piCf_t F3 f4
  rw [e F4, hS.2.1]
  refine c_padd p4 (by omega) (by omega) g3.symm (fun I5 f5 p5 => ?_)
  have F5 := piCf_t F4 f5
  rw [F5 (h + 1) (by omega) (by omega), hL.2.1]
  exact ⟨(V 1 0).toNat + 1, c_porder hh hV hSt hL hS k _ 0 I5 (by omega) (by omega) F5 p5⟩
theorem m_wears {bk : Int} {V S : mI} {F : Int → List (Int × Int)} {Q : Int → mI → Prop} {I0 : mI} (hV : ldOK V) (hSt : stOK V S) (hM : ldM I0 bk V F) (hS : stM V I0 0 S) (k : ∀ I' : mI, piMf I0 I' → piM I' (nbF V + 1) (geF V S) → Q (nbF V + 1) I') :
    ∀ (d : Nat) (l : Int) (I : mI), 0 ≤ l → l + d = V 1 2 → piMf I0 I → piM I (4 + 2 * V 1 0 + l) (geF V S) → p12_image_b115 Q (d + 1) l I
  | 0, l, I, h0, h1, hf, hp => by
    obtain ⟨m1, m2, m3, m4, m5, -⟩ := id hM
    have n := hV.1
    have g := ge_gb hV hSt
    have en : 4 + 2 * V 1 0 + l = nbF V := by unfold nbF; omega
    rw [en] at hp
    have en2 : nbF V < 23 := by unfold nbF; omega
    have en3 : 0 ≤ nbF V := by unfold nbF; omega
    show p12_image_b115_body Q (p12_image_b115 Q 0) l I
    unfold p12_image_b115_body
    rw [hf.2 13 (by decide), m1, hf.1 167 (by decide) (by decide), m5]
    exact ⟨by omega, zt (by omega) ⟨(nbF V).toNat + 1, m_pckGo hp en2 g.1 (fun I' f p => k I' (piMf_t hf f) p) _ 229 0 (by omega) (by omega) (by omega) (by omega) g.2⟩⟩
  | d + 1, l, I, h0, h1, hf, hp => by
    obtain ⟨m1, m2, m3, m4, m5, -⟩ := id hM
    have n := hV.1
    have g := (ge_gb hV hSt).1 (4 + 2 * V 1 0 + l) (by omega) (by unfold nbF; omega)
    have ew : I 189 l = S 3 l := by rw [hf.1 189 (by decide) (by decide)]; exact ((stM0 hS).1 l h0 (by omega)).2.2
    have s7 := hSt.2.2.2.2.2.2 l h0 (by omega)
    have eg : geF V S (4 + 2 * V 1 0 + l) = if S 3 l = -1 then 255 else S 3 l := by
      rw [g.1]; unfold gbF
      rw [if_neg (by omega), if_neg (by omega), if_neg (by omega), if_neg (by omega), if_neg (by omega), if_neg (by omega), show 4 + 2 * V 1 0 + l - 4 - 2 * V 1 0 = l by omega]
    show p12_image_b115_body Q (p12_image_b115 Q (d + 1)) l I
    unfold p12_image_b115_body
    rw [hf.2 13 (by decide), m1, hf.1 167 (by decide) (by decide), m5, ew]
    refine ⟨by omega, zf (by omega) ⟨by omega, m_pwr hp (by omega) (by omega) ?_ (fun I' f p => ⟨by omega, m_wears hV hSt hM hS k d (l + 1) I' (by omega) (by omega) (piMf_t hf f) (by rw [← Int.add_assoc]; exact p)⟩)⟩⟩
    rw [eg]; split <;> omega
theorem m_pmood {bk : Int} {V S : mI} {F : Int → List (Int × Int)} {Q : Int → mI → Prop} {I0 : mI} (hV : ldOK V) (hSt : stOK V S) (hM : ldM I0 bk V F) (hS : stM V I0 0 S) (k : ∀ I' : mI, piMf I0 I' → piM I' (nbF V + 1) (geF V S) → Q (nbF V + 1) I') :
    ∀ (d : Nat) (l : Int) (I : mI), 0 ≤ l → l + d = V 1 0 → piMf I0 I → piM I (4 + V 1 0 + l) (geF V S) → p12_image_b84 Q (d + 1) l I
  | 0, l, I, h0, h1, hf, hp => by
    obtain ⟨m1, m2, m3, m4, m5, -⟩ := id hM
    have n := hV.1
    show p12_image_b84_body Q (p12_image_b84 Q 0) l I
    unfold p12_image_b84_body
    rw [hf.2 13 (by decide), m1, hf.1 161 (by decide) (by decide), m3]
    refine ⟨by omega, zt (by omega) ⟨(V 1 2).toNat + 1, m_wears hV hSt hM hS k _ 0 I (by omega) (by omega) hf ?_⟩⟩
    rw [show 4 + 2 * V 1 0 + 0 = 4 + V 1 0 + l by omega]; exact hp
  | d + 1, l, I, h0, h1, hf, hp => by
    obtain ⟨m1, m2, m3, m4, m5, -⟩ := id hM
    have n := hV.1
    have g := (ge_gb hV hSt).1 (4 + V 1 0 + l) (by omega) (by unfold nbF; omega)
    have ew : I 188 l = S 2 l := by rw [hf.1 188 (by decide) (by decide)]; exact ((stM0 hS).1 l h0 (by omega)).2.1
    have s6 := hSt.2.2.2.2.2.1 l h0 (by omega)
    have eg : geF V S (4 + V 1 0 + l) = S 2 l := by
      rw [g.1]; unfold gbF
      rw [if_neg (by omega), if_neg (by omega), if_neg (by omega), if_neg (by omega), if_neg (by omega), if_pos (by omega), show 4 + V 1 0 + l - 4 - V 1 0 = l by omega]
    show p12_image_b84_body Q (p12_image_b84 Q (d + 1)) l I
    unfold p12_image_b84_body
    rw [hf.2 13 (by decide), m1, hf.1 161 (by decide) (by decide), m3, ew]
    exact ⟨by omega, zf (by omega) ⟨by omega, m_pwr hp (by omega) (by omega) (by rw [eg]; omega) (fun I' f p => ⟨by omega, m_pmood hV hSt hM hS k d (l + 1) I' (by omega) (by omega) (piMf_t hf f) (by rw [← Int.add_assoc]; exact p)⟩)⟩⟩
theorem m_porder {bk : Int} {V S : mI} {F : Int → List (Int × Int)} {Q : Int → mI → Prop} {I0 : mI} (hV : ldOK V) (hSt : stOK V S) (hM : ldM I0 bk V F) (hS : stM V I0 0 S) (k : ∀ I' : mI, piMf I0 I' → piM I' (nbF V + 1) (geF V S) → Q (nbF V + 1) I') :
    ∀ (d : Nat) (l : Int) (I : mI), 0 ≤ l → l + d = V 1 0 → piMf I0 I → piM I (4 + l) (geF V S) → p12_image_b53 Q (d + 1) l I
  | 0, l, I, h0, h1, hf, hp => by
    obtain ⟨m1, m2, m3, m4, m5, -⟩ := id hM
    have n := hV.1
    show p12_image_b53_body Q (p12_image_b53 Q 0) l I
    unfold p12_image_b53_body
    rw [hf.2 13 (by decide), m1, hf.1 161 (by decide) (by decide), m3]
    refine ⟨by omega, zt (by omega) ⟨(V 1 0).toNat + 1, m_pmood hV hSt hM hS k _ 0 I (by omega) (by omega) hf ?_⟩⟩
    rw [show 4 + V 1 0 + 0 = 4 + l by omega]; exact hp
  | d + 1, l, I, h0, h1, hf, hp => by
    obtain ⟨m1, m2, m3, m4, m5, -⟩ := id hM
    have n := hV.1
    have g := (ge_gb hV hSt).1 (4 + l) (by omega) (by unfold nbF; omega)
    have ew : I 187 l = S 1 l := by rw [hf.1 187 (by decide) (by decide)]; exact ((stM0 hS).1 l h0 (by omega)).1
    have s4 := hSt.2.2.2.1 l h0 (by omega)
    have eg : geF V S (4 + l) = S 1 l := by
      rw [g.1]; unfold gbF
      rw [if_neg (by omega), if_neg (by omega), if_neg (by omega), if_neg (by omega), if_pos (by omega), show 4 + l - 4 = l by omega]
    show p12_image_b53_body Q (p12_image_b53 Q (d + 1)) l I
    unfold p12_image_b53_body
    rw [hf.2 13 (by decide), m1, hf.1 161 (by decide) (by decide), m3, ew]
    exact ⟨by omega, zf (by omega) ⟨by omega, m_pwr hp (by omega) (by omega) (by rw [eg]; omega) (fun I' f p => ⟨by omega, m_porder hV hSt hM hS k d (l + 1) I' (by omega) (by omega) (piMf_t hf f) (by rw [← Int.add_assoc]; exact p)⟩)⟩⟩
theorem shr8n : ∀ a : Nat, a < 40 → ∀ b : Nat, b < 256 → bShr (256 * (a : Int) + (b : Int)) 8 = (a : Int) := by decide +kernel
theorem shr8 {x : Int} (h0 : 0 ≤ x) (h1 : x < 10000) : bShr x 8 = Int.tdiv x 256 := by
  have h := shr8n (x / 256).toNat (by omega) (x % 256).toNat (by omega)
  rw [show 256 * (((x / 256).toNat : Nat) : Int) + (((x % 256).toNat : Nat) : Int) = x by omega] at h
  rw [h, Int.tdiv_eq_ediv_of_nonneg h0]; omega
theorem m_image {I : mI} {bk : Int} {V S : mI} {F : Int → List (Int × Int)} {Q : Int → mI → Prop} (hV : ldOK V) (hSt : stOK V S) (hM : ldM I bk V F) (hS : stM V I 0 S) (k : ∀ I' : mI, piMf I I' → piM I' (nbF V + 1) (geF V S) → Q (nbF V + 1) I') : p12_image I Q := by
  have n := hV.1
  obtain ⟨g0, g1, g2, g3⟩ := ge4 hV hSt
  have s1 := hSt.1
  have s2 := hSt.2.1
  have r1 := (ge_gb hV hSt).1
  have hn : 4 ≤ nbF V := by unfold nbF; omega
  have b0 := (r1 0 (by omega) (by omega)); have b2 := (r1 2 (by omega) (by omega))
  unfold p12_image
  refine m_putK (fun I1 q1 h1 f1 => ?_)
  have F1 : piMf I I1 := ⟨fun z a _ => f1 z a, h1⟩
  have p0 : piM I1 0 (geF V S) := ⟨q1, fun j j0 j1 => by omega⟩
  rw [F1.1 185 (by decide) (by decide), hS.1, shr8 s1.1 (by omega)]
  refine m_pwr p0 (by omega) (by omega) (by rw [g0] at b0 ⊢; omega) (fun I2 f2 p2 => ?_)
  have F2 := piMf_t F1 f2
  rw [F2.1 185 (by decide) (by decide), hS.1]
  refine m_pwr p2 (by omega) (by omega) (by rw [show (0 : Int) + 1 = 1 from rfl, g1, Int.tmod_eq_emod_of_nonneg s1.1]) (fun I3 f3 p3 => ?_)
  have F3 := piMf_t F2 f3
  rw [F3.1 186 (by decide) (by decide), hS.2.1, shr8 s2.1 (by omega)]
  refine m_pwr p3 (by omega) (by omega) (by rw [show (0 : Int) + 1 + 1 = 2 from rfl, g2] at *; omega) (fun I4 f4 p4 => ?_)
  have F4 := piMf_t F3 f4
  rw [F4.1 186 (by decide) (by decide), hS.2.1]
  refine m_pwr p4 (by omega) (by omega) (by rw [show (0 : Int) + 1 + 1 + 1 = 3 from rfl, g3, Int.tmod_eq_emod_of_nonneg s2.1]) (fun I5 f5 p5 => ?_)
  have F5 := piMf_t F4 f5
  exact ⟨(V 1 0).toNat + 1, m_porder hV hSt hM hS k _ 0 I5 (by omega) (by omega) F5 p5⟩
theorem la_31 {L t : Nat} {X : Int → Int} {i : Int} {I J : mI} {R : mR} {K : mI → mI → mR → Prop} (H : LaH L t X i I J R K) : plaw_31 L X i I J R K := by
  obtain ⟨hL, hX, h0, h1, ht, ⟨h, sp, bk, V, F, S, P, hl, hs, r1, r2, r3, r4, r5, r6, r7⟩, hK⟩ := H
  have hh := iLan_ld hl
  obtain ⟨⟨r12, -, -⟩, hLd, hV, hF, hM, -⟩ := id hl
  obtain ⟨hC, hSM, hSt⟩ := id hs
  have n := hV.1
  unfold plaw_31 p11_image
  rw [r12]
  refine ⟨hh, c_write hh hV hSt hLd hC (fun I1 f1 p1 => ?_)⟩
  have hM1 : ldM I1 bk V F := ldM_fr (by rw [f1 159 (by decide) (by decide)]) (fun z _ _ => f1 z (by omega) (by omega)) hM
  have hS1 : stM V I1 0 S := stM_fr (fun z _ _ => f1 z (by omega) (by omega)) hSM
  refine m_image hV hSt hM1 hS1 (fun I2 f2 p2 => zt p1.1 (hK I2 J R ?_))
  have e : ∀ z, z ≠ 119 → z ≠ 120 → z ≠ 159 → z ≠ 203 → I2 z = I z := fun z a b c d => (f2.1 z c d).trans (f1 z a b)
  have e9 : ∀ j, j ≠ 68 → I2 159 j = I 159 j := fun j hj => by rw [f2.2 j hj, f1 159 (by decide) (by decide)]
  have e1 : I2 1 = I 1 := e 1 (by decide) (by decide) (by decide) (by decide)
  have en : 0 ≤ nbF V ∧ nbF V + 1 ≤ 23 := by unfold nbF; omega
  refine ⟨h, sp, bk, V, F, S, P, fr_lan hl (fun z _ _ => e z (by omega) (by omega) (by omega) (by omega)) (by rw [e 146 (by decide) (by decide) (by decide) (by decide)]) (e9 13 (by decide)) (fun z _ _ => e z (by omega) (by omega) (by omega) (by omega)) (e 192 (by decide) (by decide) (by decide) (by decide)) rfl rfl, fr_sta hs (fun z _ _ => e z (by omega) (by omega) (by omega) (by omega)) (fun z _ _ => e z (by omega) (by omega) (by omega) (by omega)), fr_tap r1 (by rw [e 2 (by decide) (by decide) (by decide) (by decide)]) (e 3 (by decide) (by decide) (by decide) (by decide)) (e9 1 (by decide)) (e 160 (by decide) (by decide) (by decide) (by decide)), fr_ref r2 (by omega) (e 122 (by decide) (by decide) (by decide) (by decide)) (e 184 (by decide) (by decide) (by decide) (by decide)), fr_fau r3 (by rw [e1]) (by rw [e1]) (e9 10 (by decide)) (e9 11 (by decide)), fr_die r4 (by rw [e1]) rfl, fr_pas r5 (fun z _ _ => e z (by omega) (by omega) (by omega) (by omega)) (e9 52 (by decide)) (e9 53 (by decide)) (fun w S' _ _ hst => stM_fr (fun z _ _ => e z (by omega) (by omega) (by omega) (by omega)) hst), ?_, fr_met r7 (by rw [e 151 (by decide) (by decide) (by decide) (by decide)]) (e 157 (by decide) (by decide) (by decide) (by decide)) (e9 62 (by decide)) (fun z _ _ => e z (by omega) (by omega) (by omega) (by omega))⟩
  have ec : I2 119 1 = nbF V + 1 := by rw [f2.1 119 (by decide) (by decide)]; exact p1.1
  refine ⟨ec.trans p2.1.symm, by omega, by omega, fun k k0 k1 => ?_⟩
  rw [f2.1 120 (by decide) (by decide), p1.2 k k0 (by omega), p2.2 k k0 (by omega)]
