/-! clear: the model's search -/
def lsF (nc set n : Int) : Nat → Int
  | 0 => n
  | j + 1 => if has1 set (j : Int) = 0 then lsF nc set n j else Int.tdiv (lsF nc set n j) nc
def gdF (nc set : Int) (w : Int → Int) (n t : Int) : Int := if has1 set t = 0 then w t else Int.tmod (lsF nc set n t.toNat) nc
def enR (nc set : Int) (g : Int → Int) : Nat → Int → Int
  | 0, _ => 0
  | d + 1, k => if has1 set k = 0 then enR nc set g d (k + 1) else g k + nc * enR nc set g d (k + 1)
def pbR (nc set : Int) : Nat → Int → Int
  | 0, _ => 1
  | d + 1, k => if has1 set k = 0 then pbR nc set d (k + 1) else nc * pbR nc set d (k + 1)
def pwI (nc : Int) : Nat → Int
  | 0 => 1
  | d + 1 => pwI nc d * nc
theorem pw_rg {nc : Int} (h : 0 ≤ nc ∧ nc ≤ 6) : ∀ d : Nat, 0 ≤ pwI nc d ∧ pwI nc d ≤ ((6 ^ d : Nat) : Int)
  | 0 => by
    show 0 ≤ (1 : Int) ∧ (1 : Int) ≤ ((6 ^ 0 : Nat) : Int)
    decide
  | d + 1 => by
    have i := pw_rg h d
    have e : ((6 ^ (d + 1) : Nat) : Int) = ((6 ^ d : Nat) : Int) * 6 := by rw [Nat.pow_succ, Int.natCast_mul]; rfl
    show 0 ≤ pwI nc d * nc ∧ pwI nc d * nc ≤ ((6 ^ (d + 1) : Nat) : Int)
    rw [e]
    exact ⟨Int.mul_nonneg i.1 h.1, Int.mul_le_mul i.2 h.2 h.1 (by omega)⟩
theorem pb_pw {nc set : Int} : ∀ (d : Nat) (k : Int), pbR nc set d k = pwI nc (smR (has1 set) d k).toNat ∧ 0 ≤ smR (has1 set) d k
  | 0, k => ⟨rfl, Int.le_refl 0⟩
  | d + 1, k => by
    obtain ⟨i1, i2⟩ := pb_pw (nc := nc) (set := set) d (k + 1)
    have h01 := has1_01 set k
    have e : smR (has1 set) (d + 1) k = has1 set k + smR (has1 set) d (k + 1) := rfl
    unfold pbR
    rw [e]
    by_cases z : has1 set k = 0
    · rw [if_pos z, z, Int.zero_add]; exact ⟨i1, i2⟩
    · rw [if_neg z, h01.resolve_left z]
      refine ⟨?_, by omega⟩
      rw [show (1 + smR (has1 set) d (k + 1)).toNat = (smR (has1 set) d (k + 1)).toNat + 1 by omega, i1]
      show nc * _ = _ * nc
      exact Int.mul_comm _ _
theorem en_rg {nc set : Int} {g : Int → Int} : ∀ (d : Nat) (k : Int), (∀ j, k ≤ j → j < k + d → has1 set j ≠ 0 → 0 ≤ g j ∧ g j < nc) → 0 ≤ enR nc set g d k ∧ enR nc set g d k < pbR nc set d k
  | 0, k, _ => ⟨Int.le_refl 0, by show (0 : Int) < 1; decide⟩
  | d + 1, k, h => by
    have i := en_rg (nc := nc) (set := set) (g := g) d (k + 1) (fun j a b => h j (by omega) (by omega))
    unfold enR pbR
    by_cases z : has1 set k = 0
    · rw [if_pos z, if_pos z]; exact i
    · rw [if_neg z, if_neg z]
      have gk := h k (by omega) (by omega) z
      have h1 := Int.mul_nonneg (show 0 ≤ nc by omega) i.1
      have h2 : nc * (enR nc set g d (k + 1) + 1) ≤ nc * pbR nc set d (k + 1) := Int.mul_le_mul_of_nonneg_left (by omega) (by omega)
      rw [Int.mul_add, Int.mul_one] at h2
      omega
theorem ls_en {nc set : Int} {g : Int → Int} {nt : Nat} (h : ∀ j : Int, 0 ≤ j → j < nt → has1 set j ≠ 0 → 0 ≤ g j ∧ g j < nc) : ∀ j : Nat, j ≤ nt → lsF nc set (enR nc set g nt 0) j = enR nc set g (nt - j) (j : Int)
  | 0, _ => rfl
  | j + 1, hj => by
    have i := ls_en h j (by omega)
    have r := en_rg (nc := nc) (set := set) (g := g) (nt - (j + 1)) ((j : Int) + 1) (fun x a b => h x (by omega) (by omega))
    have e : enR nc set g (nt - j) (j : Int) = if has1 set (j : Int) = 0 then enR nc set g (nt - (j + 1)) ((j : Int) + 1) else g j + nc * enR nc set g (nt - (j + 1)) ((j : Int) + 1) := by
      rw [show nt - j = (nt - (j + 1)) + 1 by omega]; rfl
    unfold lsF
    rw [i, e, show ((j + 1 : Nat) : Int) = (j : Int) + 1 by omega]
    by_cases z : has1 set (j : Int) = 0
    · rw [if_pos z, if_pos z]
    · rw [if_neg z, if_neg z]
      have gj := h j (by omega) (by omega) z
      have h1 := Int.mul_nonneg (show 0 ≤ nc by omega) r.1
      rw [Int.tdiv_eq_ediv_of_nonneg (by omega), Int.add_mul_ediv_left _ _ (by omega), Int.ediv_eq_zero_of_lt gj.1 gj.2, Int.zero_add]
theorem gd_en {nc set : Int} {g w : Int → Int} {nt : Nat} (h : ∀ j : Int, 0 ≤ j → j < nt → has1 set j ≠ 0 → 0 ≤ g j ∧ g j < nc) (hw : ∀ j : Int, 0 ≤ j → j < nt → has1 set j = 0 → g j = w j) : ∀ j : Int, 0 ≤ j → j < nt → gdF nc set w (enR nc set g nt 0) j = g j := by
  intro j j0 j1
  unfold gdF
  by_cases z : has1 set j = 0
  · rw [if_pos z]; exact (hw j j0 j1 z).symm
  · rw [if_neg z, ls_en h j.toNat (by omega)]
    have e : enR nc set g (nt - j.toNat) ((j.toNat : Nat) : Int) = g j + nc * enR nc set g (nt - (j.toNat + 1)) (j + 1) := by
      rw [show nt - j.toNat = (nt - (j.toNat + 1)) + 1 by omega, show ((j.toNat : Nat) : Int) = j by omega]
      show (if has1 set j = 0 then _ else _) = _
      rw [if_neg z]
    have r := en_rg (nc := nc) (set := set) (g := g) (nt - (j.toNat + 1)) (j + 1) (fun x a b => h x (by omega) (by omega))
    have gj := h j j0 j1 z
    have h1 := Int.mul_nonneg (show 0 ≤ nc by omega) r.1
    rw [e, Int.tmod_eq_emod_of_nonneg (by omega), Int.add_mul_emod_self_left, Int.emod_eq_of_lt gj.1 gj.2]
theorem ls_nn {nc set n : Int} (hnc : 0 ≤ nc) (hn : 0 ≤ n) : ∀ j : Nat, 0 ≤ lsF nc set n j ∧ lsF nc set n j ≤ n
  | 0 => ⟨hn, Int.le_refl _⟩
  | j + 1 => by
    have i := ls_nn (set := set) hnc hn j
    unfold lsF
    split
    · exact i
    · rw [Int.tdiv_eq_ediv_of_nonneg i.1]
      have a := Int.ediv_nonneg i.1 hnc
      have b := Int.ediv_le_self nc i.1
      omega
/-- a painting without a clash -/
def ncP (V : mI) (g : Int → Int) : Prop := ∀ a, 0 ≤ a → a < V 1 2 → cbF V g a = 0
theorem sm0 {f : Int → Int} (h : ∀ j, 0 ≤ f j) : ∀ (d : Nat) (k : Int), smR f d k = 0 ↔ ∀ j, k ≤ j → j < k + d → f j = 0
  | 0, k => ⟨fun _ j a b => by omega, fun _ => rfl⟩
  | d + 1, k => by
    have i := sm0 h d (k + 1)
    have e : smR f (d + 1) k = f k + smR f d (k + 1) := rfl
    have nn : ∀ (d : Nat) (k : Int), 0 ≤ smR f d k := by
      intro d
      induction d with
      | zero => intro k; exact Int.le_refl 0
      | succ d ih => intro k; show 0 ≤ f k + smR f d (k + 1); have := ih (k + 1); have := h k; omega
    rw [e]
    refine ⟨fun q j a b => ?_, fun q => ?_⟩
    · have x := h k
      have y := nn d (k + 1)
      by_cases ej : j = k
      · rw [ej]; omega
      · exact i.mp (by omega) j (by omega) (by omega)
    · have x := q k (by omega) (by omega)
      have y := i.mpr (fun j a b => q j (by omega) (by omega))
      omega
theorem nc_pairs {V : mI} {g : Int → Int} : ncP V g ↔ ∀ a b, 0 ≤ b → b < a → a < V 1 2 → clP V g a b = 0 := by
  refine ⟨fun q a b b0 b1 a1 => ?_, fun q a a0 a1 => ?_⟩
  · have x := q a (by omega) a1
    unfold cbF at x
    exact (sm0 (fun j => (clP_rg V g a j).1) a.toNat 0).mp x b b0 (by omega)
  · unfold cbF
    exact (sm0 (fun j => (clP_rg V g a j).1) a.toNat 0).mpr (fun j j0 j1 => q a j j0 (by omega) a1)
theorem m_isClear {I : mI} {bk : Int} {V : mI} {F : Int → List (Int × Int)} {g : Int → Int} {Q : Int → Prop} (hM : ldM I bk V F) (hV : ldOK V) (hN : nrOK V) (hg : ∀ k, 0 ≤ k → k < V 1 2 → I 198 k = g k) (k1 : ncP V g → Q 1) (k0 : ¬ ncP V g → Q 0) : p12_isClear I Q := by
  obtain ⟨m1, m2, m3, m4, m5, m6, m7, m8, m9, m10, m11, -⟩ := id hM
  have n := hV.1.2.2
  have inner : ∀ (k2 : Int → Prop) (a : Int), 0 ≤ a → a < V 1 2 → ((∀ b, a < b → b < V 1 2 → clP V g a b = 0) → k2 (a + 1)) → ∀ (d : Nat) (b : Int), a < b → b + d = V 1 2 → (∀ b', a < b' → b' < b → clP V g a b' = 0) → p12_isClear_b19 a I k2 Q (d + 1) b := by
    intro k2 a a0 a1 kk d
    induction d with
    | zero =>
      intro b h0 h1 hp
      show p12_isClear_b19_body a I k2 Q _ b
      unfold p12_isClear_b19_body
      rw [m1, m5]
      exact ⟨by omega, zt (by omega) ⟨by omega, kk (fun b' x y => hp b' x (by omega))⟩⟩
    | succ d ih =>
      intro b h0 h1 hp
      show p12_isClear_b19_body a I k2 Q (p12_isClear_b19 a I k2 Q (d + 1)) b
      unfold p12_isClear_b19_body p12_nearSet p12_has2
      rw [m1, m5, (m11 a a0 a1).1, hg a a0 a1, hg b (by omega) (by omega)]
      have nx : clP V g a b = 0 → rg (b + 1) ∧ p12_isClear_b19 a I k2 Q (d + 1) (b + 1) := fun z => ⟨by omega, ih (b + 1) (by omega) (by omega) (fun b' x y => by
        by_cases e : b' = b
        · rw [e]; exact z
        · exact hp b' x (by omega))⟩
      refine ⟨by omega, zf (by omega) ⟨by omega, by omega, by omega, ?_⟩⟩
      by_cases e : has1 (V 4 a) b = 1
      · refine zt e (zf (by decide) ⟨by omega, zs (fun e1 => nx (by unfold clP; rw [if_pos e, if_pos e1])) (fun e1 => ⟨by omega, by omega,  zs (fun e2 => k0 (fun q => ?_)) (fun e2 => nx (by unfold clP; rw [if_pos e, if_neg e1, if_neg e2]))⟩)⟩)
        have x := nc_pairs.mp q b a a0 h0 (by omega)
        rw [← clP_sym hN a0 a1 (by omega) (by omega)] at x
        unfold clP at x
        rw [if_pos e, if_neg e1, if_pos e2] at x
        exact absurd x (by decide)
      · exact zf e (zt rfl (nx (by unfold clP; rw [if_neg e])))
  have outer : ∀ (d : Nat) (a : Int), 0 ≤ a → a + d = V 1 2 → (∀ a' b, 0 ≤ a' → a' < a → a' < b → b < V 1 2 → clP V g a' b = 0) → p12_isClear_b2 I Q (d + 1) a := by
    intro d
    induction d with
    | zero =>
      intro a h0 h1 hp
      show p12_isClear_b2_body I Q _ a
      unfold p12_isClear_b2_body
      rw [m1, m5]
      refine ⟨by omega, zt (by omega) (k1 (nc_pairs.mpr (fun x b b0 b1 x1 => ?_)))⟩
      rw [clP_sym hN (by omega) x1 b0 (by omega)]
      exact hp b x b0 (by omega) b1 x1
    | succ d ih =>
      intro a h0 h1 hp
      show p12_isClear_b2_body I Q (p12_isClear_b2 I Q (d + 1)) a
      unfold p12_isClear_b2_body
      rw [m1, m5]
      refine ⟨by omega, zf (by omega) ⟨by omega, (V 1 2 - (a + 1)).toNat + 1, inner _ a h0 (by omega) (fun z => ih (a + 1) (by omega) (by omega) (fun a' b x y u v => ?_)) _ (a + 1) (by omega) (by omega) (fun b' x y => by omega)⟩⟩
      by_cases e : a' = a
      · subst e; exact z b u v
      · exact hp a' b x (by omega) u v
  exact ⟨(V 1 2).toNat + 1, outer _ 0 (by omega) (by omega) (fun a' b x y => by omega)⟩
theorem m_dec {I0 : mI} {bk : Int} {V : mI} {F : Int → List (Int × Int)} {w : Int → Int} {set all n : Int} {k32 : Int → mI → Prop} {Q : Int → mI → Prop} (hM : ldM I0 bk V F) (hV : ldOK V) (hN : nrOK V) (hw : ∀ k, 0 ≤ k → k < V 1 2 → I0 189 k = w k) (hn : 0 ≤ n ∧ n ≤ 50000) (hnc : (∃ t, 0 ≤ t ∧ t < V 1 2 ∧ has1 set t ≠ 0) → V 1 1 ≠ 0)
    (k1 : ncP V (gdF (V 1 1) set w n) → ∀ I' : mI, (∀ z, z ≠ 198 → I' z = I0 z) → Q 1 I') (k0 : ¬ ncP V (gdF (V 1 1) set w n) → ∀ I' : mI, (∀ z, z ≠ 198 → I' z = I0 z) → rg (n + 1) ∧ k32 (n + 1) I') :
    ∀ (d : Nat) (l : Int) (I : mI), 0 ≤ l → l + d = V 1 2 → (∀ z, z ≠ 198 → I z = I0 z) → (∀ k, 0 ≤ k → k < l → I 198 k = gdF (V 1 1) set w n k) → p12_isCleared_b43 set all n k32 Q (d + 1) (lsF (V 1 1) set n l.toNat) l I
  | 0, l, I, h0, h1, hf, hp => by
    have hMI : ldM I bk V F := ldM_fr (by rw [hf 159 (by decide)]) (fun z _ _ => hf z (by omega)) hM
    obtain ⟨m1, m2, m3, m4, m5, -⟩ := id hMI
    have nn := hV.1
    show p12_isCleared_b43_body set all n k32 Q (p12_isCleared_b43 set all n k32 Q 0) _ l I
    unfold p12_isCleared_b43_body
    rw [m1, m5]
    exact ⟨by omega, zt (by omega) (m_isClear hMI hV hN (fun k a b => hp k a (by omega)) (fun z => zf (by decide) (k1 z I hf)) (fun z => zt rfl (k0 z I hf)))⟩
  | d + 1, l, I, h0, h1, hf, hp => by
    have hMI : ldM I bk V F := ldM_fr (by rw [hf 159 (by decide)]) (fun z _ _ => hf z (by omega)) hM
    obtain ⟨m1, m2, m3, m4, m5, -⟩ := id hMI
    have nn := hV.1
    have ll := ls_nn (set := set) nn.2.1.1 hn.1 l.toNat
    show p12_isCleared_b43_body set all n k32 Q (p12_isCleared_b43 set all n k32 Q (d + 1)) _ l I
    unfold p12_isCleared_b43_body p12_has2
    have sl : (l + 1).toNat = l.toNat + 1 := by omega
    rw [m1, m5, hf 189 (by decide), hw l h0 (by omega)]
    refine ⟨by omega, zf (by omega) ⟨by omega, by omega,  m_putK (fun I1 q1 g1 f1 => ?_)⟩⟩
    have F1 : ∀ z, z ≠ 198 → I1 z = I0 z := fun z hz => (f1 z hz).trans (hf z hz)
    rw [f1 159 (by decide), f1 164 (by decide), m1, m4]
    by_cases e : has1 set l = 0
    · have ne : ¬ has1 set l = 1 := by omega
      refine zf ne (zt rfl ⟨by omega, ?_⟩)
      have i := m_dec (all := all) hM hV hN hw hn hnc k1 k0 d (l + 1) I1 (by omega) (by omega) F1 (fun k a b => ?_)
      · rw [sl] at i
        unfold lsF at i
        rw [show ((l.toNat : Nat) : Int) = l by omega, if_pos e] at i
        exact i
      · by_cases ek : k = l
        · rw [ek, q1]; unfold gdF; rw [if_pos e]
        · rw [g1 k ek]; exact hp k a (by omega)
    · have e1 : has1 set l = 1 := (has1_01 set l).resolve_left e
      have hz := hnc ⟨l, h0, by omega, e⟩
      refine zt e1 (zf (by decide) ⟨by omega, hz, by omega, m_putK (fun I2 q2 g2 f2 => ?_)⟩)
      rw [f2 159 (by decide), f2 164 (by decide), f1 159 (by decide), f1 164 (by decide), m1, m4]
      have td : 0 ≤ Int.tdiv (lsF (V 1 1) set n l.toNat) (V 1 1) ∧ Int.tdiv (lsF (V 1 1) set n l.toNat) (V 1 1) ≤ lsF (V 1 1) set n l.toNat := by
        rw [Int.tdiv_eq_ediv_of_nonneg ll.1]
        exact ⟨Int.ediv_nonneg ll.1 nn.2.1.1, Int.ediv_le_self _ ll.1⟩
      refine ⟨by omega, ⟨hz, by omega⟩, wLet_r ⟨by omega, ?_⟩⟩
      have i := m_dec (all := all) hM hV hN hw hn hnc k1 k0 d (l + 1) I2 (by omega) (by omega) (fun z hz2 => (f2 z hz2).trans (F1 z hz2)) (fun k a b => ?_)
      · rw [sl] at i
        unfold lsF at i
        rw [show ((l.toNat : Nat) : Int) = l by omega, if_neg e] at i
        exact i
      · by_cases ek : k = l
        · rw [ek, q2]; unfold gdF; rw [if_neg e]
        · rw [g2 k ek, g1 k ek]; exact hp k a (by omega)
/-- some number's painting will do, if any will -/
theorem cl_iff {V : mI} {w : Int → Int} {set : Int} (hV : ldOK V) : clS V w set ↔ ∃ n, 0 ≤ n ∧ n < pbR (V 1 1) set (V 1 2).toNat 0 ∧ ncP V (gdF (V 1 1) set w n) := by
  have nn := hV.1
  refine ⟨fun ⟨g, _, a2, a3⟩ => ?_, fun ⟨n, n0, n1, n2⟩ => ?_⟩
  · have h1 : ∀ j : Int, 0 ≤ j → j < (V 1 2).toNat → has1 set j ≠ 0 → 0 ≤ g j ∧ g j < V 1 1 := fun j x y z => (a2 j x (by omega)).2 z
    have h2 : ∀ j : Int, 0 ≤ j → j < (V 1 2).toNat → has1 set j = 0 → g j = w j := fun j x y z => (a2 j x (by omega)).1 z
    have r := en_rg (nc := V 1 1) (set := set) (g := g) (V 1 2).toNat 0 (fun j x y z => h1 j x (by omega) z)
    refine ⟨_, r.1, r.2, fun a x y => ?_⟩
    have gd := gd_en h1 h2
    rw [cb_congr x (fun k u v => gd k u (by omega))]
    exact a3 a x y
  · refine ⟨gdF (V 1 1) set w n, fun k x y => by omega, fun k x y => ⟨fun z => by unfold gdF; rw [if_pos z], fun z => ?_⟩, n2⟩
    have pos : V 1 1 ≠ 0 := fun q => by
      have pz : ∀ (d : Nat) (j : Int), j ≤ k → k < j + d → pbR (V 1 1) set d j = 0 := by
        intro d
        induction d with
        | zero => intro j u v; omega
        | succ d ih =>
          intro j u v
          unfold pbR
          by_cases ej : j = k
          · subst ej
            rw [if_neg z, q, Int.zero_mul]
          · rw [ih (j + 1) (by omega) (by omega)]
            split
            · rfl
            · exact Int.mul_zero _
      have := pz (V 1 2).toNat 0 x (by omega)
      omega
    unfold gdF
    rw [if_neg z]
    have ll := ls_nn (nc := V 1 1) (set := set) nn.2.1.1 n0 k.toNat
    exact ⟨Int.tmod_nonneg _ ll.1, Int.tmod_lt_of_pos _ (by omega)⟩
theorem pb_bc {V : mI} {set : Int} (hV : ldOK V) (h0 : 0 ≤ set) (h1 : set < bShl 1 (V 1 2)) : pbR (V 1 1) set (V 1 2).toNat 0 = pwI (V 1 1) (bc set).toNat ∧ 0 ≤ bc set ∧ bc set ≤ 6 := by
  have nn := hV.1
  have ev := evb_rg nn.2.2
  rw [(pb_pw (V 1 2).toNat 0).1]
  obtain ⟨s', rfl⟩ : ∃ k : Nat, set = k := ⟨set.toNat, by omega⟩
  obtain ⟨n', hn'⟩ : ∃ k : Nat, V 1 2 = k := ⟨(V 1 2).toNat, by omega⟩
  have b := bc_sum s' (by omega)
  have c := bc_le 6 (by decide) s' (by show s' < 64; omega)
  have s64 : s' < 64 := by omega
  rw [hn'] at h1
  have z := (lt_bits n' (by omega) s' s64).mpr h1
  refine ⟨?_, c.1, c.2⟩
  rw [hn', show ((n' : Nat) : Int).toNat = n' by omega, b]
  have hn6 : n' = 0 ∨ n' = 1 ∨ n' = 2 ∨ n' = 3 ∨ n' = 4 ∨ n' = 5 ∨ n' = 6 := by omega
  have z0 : n' ≤ 0 → has1 (s' : Int) 0 = 0 := fun q => z 0 (by decide) q
  have z1 : n' ≤ 1 → has1 (s' : Int) 1 = 0 := fun q => z 1 (by decide) q
  have z2 : n' ≤ 2 → has1 (s' : Int) 2 = 0 := fun q => z 2 (by decide) q
  have z3 : n' ≤ 3 → has1 (s' : Int) 3 = 0 := fun q => z 3 (by decide) q
  have z4 : n' ≤ 4 → has1 (s' : Int) 4 = 0 := fun q => z 4 (by decide) q
  have z5 : n' ≤ 5 → has1 (s' : Int) 5 = 0 := fun q => z 5 (by decide) q
  have sm : smR (has1 (s' : Int)) n' 0 = has1 (s' : Int) 0 + has1 (s' : Int) 1 + has1 (s' : Int) 2 + has1 (s' : Int) 3 + has1 (s' : Int) 4 + has1 (s' : Int) 5 := by
    rcases hn6 with rfl | rfl | rfl | rfl | rfl | rfl | rfl
    · show (0 : Int) = _; rw [z0 (by decide), z1 (by decide), z2 (by decide), z3 (by decide), z4 (by decide), z5 (by decide)]; rfl
    · show has1 (s' : Int) 0 + 0 = _; rw [z1 (by decide), z2 (by decide), z3 (by decide), z4 (by decide), z5 (by decide)]; omega
    · show has1 (s' : Int) 0 + (has1 (s' : Int) 1 + 0) = _; rw [z2 (by decide), z3 (by decide), z4 (by decide), z5 (by decide)]; omega
    · show has1 (s' : Int) 0 + (has1 (s' : Int) 1 + (has1 (s' : Int) 2 + 0)) = _; rw [z3 (by decide), z4 (by decide), z5 (by decide)]; omega
    · show has1 (s' : Int) 0 + (has1 (s' : Int) 1 + (has1 (s' : Int) 2 + (has1 (s' : Int) 3 + 0))) = _; rw [z4 (by decide), z5 (by decide)]; omega
    · show has1 (s' : Int) 0 + (has1 (s' : Int) 1 + (has1 (s' : Int) 2 + (has1 (s' : Int) 3 + (has1 (s' : Int) 4 + 0)))) = _; rw [z5 (by decide)]; omega
    · show has1 (s' : Int) 0 + (has1 (s' : Int) 1 + (has1 (s' : Int) 2 + (has1 (s' : Int) 3 + (has1 (s' : Int) 4 + (has1 (s' : Int) 5 + 0))))) = _; omega
  rw [sm]
theorem m_isCleared {I : mI} {bk : Int} {V : mI} {F : Int → List (Int × Int)} {w : Int → Int} {set : Int} {Q : Int → mI → Prop} (hM : ldM I bk V F) (hV : ldOK V) (hN : nrOK V) (hw : ∀ k, 0 ≤ k → k < V 1 2 → I 189 k = w k) (h0 : 0 ≤ set) (h1 : set < bShl 1 (V 1 2))
    (k1 : clS V w set → ∀ I' : mI, (∀ z, z ≠ 198 → I' z = I z) → Q 1 I') (k0 : ¬ clS V w set → ∀ I' : mI, (∀ z, z ≠ 198 → I' z = I z) → Q 0 I') : p12_isCleared set I Q := by
  obtain ⟨m1, m2, m3, m4, m5, -⟩ := id hM
  have nn := hV.1
  have ev := evb_rg nn.2.2
  obtain ⟨pe, b0, b6⟩ := pb_bc hV h0 h1
  have ci := cl_iff (w := w) (set := set) hV
  rw [pe] at ci
  have pr := pw_rg nn.2.1 (bc set).toNat
  have p6 : ((6 ^ (bc set).toNat : Nat) : Int) ≤ 46656 := by
    have h6 : ∀ x : Nat, x ≤ 6 → ((6 ^ x : Nat) : Int) ≤ 46656 := by decide +kernel
    exact h6 _ (by omega)
  have numb : ∀ (d : Nat) (n : Int) (I1 : mI), 0 ≤ n → n + d = pwI (V 1 1) (bc set).toNat → (∀ z, z ≠ 198 → I1 z = I z) → (∀ n', 0 ≤ n' → n' < n → ¬ ncP V (gdF (V 1 1) set w n')) → p12_isCleared_b32 set (pwI (V 1 1) (bc set).toNat) Q (d + 1) n I1 := by
    intro d
    induction d with
    | zero =>
      intro n I1 x0 x1 f1 hp
      show p12_isCleared_b32_body set _ Q _ n I1
      unfold p12_isCleared_b32_body
      refine zt (by omega) (k0 (fun z => ?_) I1 f1)
      obtain ⟨n', y0, y1, y2⟩ := ci.mp z
      exact hp n' y0 (by omega) y2
    | succ d ih =>
      intro n I1 x0 x1 f1 hp
      show p12_isCleared_b32_body set (pwI (V 1 1) (bc set).toNat) Q (p12_isCleared_b32 set (pwI (V 1 1) (bc set).toNat) Q (d + 1)) n I1
      unfold p12_isCleared_b32_body
      have hM1 : ldM I1 bk V F := ldM_fr (by rw [f1 159 (by decide)]) (fun z _ _ => f1 z (by omega)) hM
      refine zf (by omega) ⟨(V 1 2).toNat + 1, m_dec (w := w) hM1 hV hN (by rw [f1 189 (by decide)]; exact hw) ⟨x0, by omega⟩ (fun ⟨t, t0, t1, t2⟩ q => ?_) (fun z I2 f2 => k1 (ci.mpr ⟨n, x0, by omega, z⟩) I2 (fun y hy => (f2 y hy).trans (f1 y hy))) (fun z I2 f2 => ⟨by omega, ih (n + 1) I2 (by omega) (by omega) (fun y hy => (f2 y hy).trans (f1 y hy)) (fun n' u v => ?_)⟩) _ 0 I1 (by omega) (by omega) (fun _ _ => rfl) (fun k a b => by omega)⟩
      · -- no colours, something to paint: no number
        have : clS V w set → False := fun ⟨g, _, a2, _⟩ => by
          have := (a2 t t0 t1).2 t2; omega
        have pz : ∀ (d : Nat) (j : Int), j ≤ t → t < j + d → pbR (V 1 1) set d j = 0 := by
          intro d
          induction d with
          | zero => intro j u v; omega
          | succ d ih =>
            intro j u v
            unfold pbR
            by_cases ej : j = t
            · subst ej
              rw [if_neg t2, q, Int.zero_mul]
            · rw [ih (j + 1) (by omega) (by omega)]
              split
              · rfl
              · exact Int.mul_zero _
        have z := pz (V 1 2).toNat 0 t0 (by omega)
        rw [pe] at z
        omega
      · by_cases e : n' = n
        · subst e; exact z
        · exact hp n' u (by omega)
  clear ci
  have pows : ∀ (d : Nat) (k : Int), 0 ≤ k → k + d = bc set → p12_isCleared_b4 set I Q (d + 1) (pwI (V 1 1) k.toNat) k := by
    intro d
    induction d with
    | zero =>
      intro k x0 x1
      show p12_isCleared_b4_body set I Q _ _ k
      unfold p12_isCleared_b4_body
      refine m_bits h0 (by omega) (zt (by omega) ⟨(pwI (V 1 1) (bc set).toNat).toNat + 1, ?_⟩)
      rw [show k = bc set by omega]
      exact numb _ 0 I (by omega) (by omega) (fun _ _ => rfl) (fun n' u v => by omega)
    | succ d ih =>
      intro k x0 x1
      show p12_isCleared_b4_body set I Q (p12_isCleared_b4 set I Q (d + 1)) _ k
      unfold p12_isCleared_b4_body
      have i := ih (k + 1) (by omega) (by omega)
      rw [show (k + 1).toNat = k.toNat + 1 by omega] at i
      have pk := pw_rg nn.2.1 (k.toNat + 1)
      have p6k : ((6 ^ (k.toNat + 1) : Nat) : Int) ≤ 46656 := by
        have h6 : ∀ x : Nat, x ≤ 6 → ((6 ^ x : Nat) : Int) ≤ 46656 := by decide +kernel
        exact h6 _ (by omega)
      have pk' : 0 ≤ pwI (V 1 1) k.toNat * V 1 1 ∧ pwI (V 1 1) k.toNat * V 1 1 ≤ ((6 ^ (k.toNat + 1) : Nat) : Int) := pk
      refine m_bits h0 (by omega) (zf (by omega) ?_)
      rw [m1, m4]
      exact ⟨by omega, by omega, wLet_r ⟨by omega, i⟩⟩
  exact ⟨(bc set).toNat + 1, pows _ 0 (by omega) (by omega)⟩
theorem m_clearGo {I0 : mI} {bk : Int} {V : mI} {F : Int → List (Int × Int)} {w : Int → Int} {Q : Int → mI → Prop} (hM : ldM I0 bk V F) (hV : ldOK V) (hN : nrOK V) (hw : ∀ k, 0 ≤ k → k < V 1 2 → I0 189 k = w k)
    (kk : ∀ r, beS V w r → ∀ I' : mI, (∀ z, z ≠ 198 → I' z = I0 z) → Q r I') :
    ∀ (d : Nat) (best set : Int) (I : mI), 0 ≤ set → set + d = bShl 1 (V 1 2) → (∀ z, z ≠ 198 → I z = I0 z) → ((best = -1 ∧ ∀ s, s < set → ¬ goS V w s) ∨ (goS V w best ∧ ∀ s, s < set → goS V w s → bc best < bc s ∨ (bc best = bc s ∧ best ≤ s)) ∧ best < set) → p12_clear_b4 Q (d + 1) best set I
  | 0, best, set, I, h0, h1, hf, hp => by
    obtain ⟨m1, m2, m3, m4, m5, -⟩ := id (ldM_fr (I' := I) (by rw [hf 159 (by decide)]) (fun z _ _ => hf z (by omega)) hM)
    show p12_clear_b4_body Q (p12_clear_b4 Q 0) best set I
    unfold p12_clear_b4_body
    rw [m1, m5]
    refine ⟨by omega, zt (by omega) (kk best ?_ I hf)⟩
    rcases hp with ⟨a, b⟩ | ⟨⟨a, b⟩, _⟩
    · exact Or.inl ⟨a, fun s hg => b s (by have := hg.1.2; omega) hg⟩
    · exact Or.inr ⟨a, fun s hg => b s (by have := hg.1.2; omega) hg⟩
  | d + 1, best, set, I, h0, h1, hf, hp => by
    have hMI : ldM I bk V F := ldM_fr (by rw [hf 159 (by decide)]) (fun z _ _ => hf z (by omega)) hM
    obtain ⟨m1, m2, m3, m4, m5, -⟩ := id hMI
    have nn := hV.1
    have ev := evb_rg nn.2.2
    have hbk : 0 ≤ bk ∧ bk < 2 := by clear hp; omega
    have hwI : ∀ k, 0 ≤ k → k < V 1 2 → I 189 k = w k := by rw [hf 189 (by decide)]; exact hw
    show p12_clear_b4_body Q (p12_clear_b4 Q (d + 1)) best set I
    unfold p12_clear_b4_body
    rw [m1, m5]
    have keep : ∀ I1 : mI, (∀ z, z ≠ 198 → I1 z = I0 z) → (goS V w set → best ≠ -1 ∧ bc best ≤ bc set) → p12_clear_b4 Q (d + 1) best (set + 1) I1 := fun I1 f1 hno => m_clearGo hM hV hN hw kk d best (set + 1) I1 (by omega) (by omega) f1 (by
      rcases hp with ⟨a, b⟩ | ⟨⟨a, b⟩, c⟩
      · refine Or.inl ⟨a, fun s hs hg => ?_⟩
        by_cases e : s = set
        · subst e; exact (hno hg).1 a
        · exact b s (by omega) hg
      · refine Or.inr ⟨⟨a, fun s hs hg => ?_⟩, by omega⟩
        by_cases e : s = set
        · subst e
          have := (hno hg).2
          omega
        · exact b s (by omega) hg)
    have take : ∀ I1 : mI, (∀ z, z ≠ 198 → I1 z = I0 z) → goS V w set → (best = -1 ∨ bc set < bc best) → p12_clear_b4 Q (d + 1) set (set + 1) I1 := fun I1 f1 hg hb => m_clearGo hM hV hN hw kk d set (set + 1) I1 (by omega) (by omega) f1 (Or.inr ⟨⟨hg, fun s hs hg2 => by
      by_cases e : s = set
      · subst e; omega
      · rcases hp with ⟨a, b⟩ | ⟨⟨a, b⟩, c⟩
        · exact absurd hg2 (b s (by omega))
        · have x := b s (by omega) hg2
          rcases hb with q | q
          · have := a.1.1; omega
          · omega⟩, by omega⟩)
    -- the things of the set, one by one
    have loop : ∀ can0 : Int, ((can0 = 1 ∧ (best = -1 ∨ bc set < bc best)) ∨ (can0 = 0 ∧ best ≠ -1 ∧ bc best ≤ bc set)) → ∀ (f : Nat) (can l : Int), 0 ≤ l → l + f = V 1 2 → ((can = 1 ∧ can0 = 1 ∧ ∀ t, 0 ≤ t → t < l → has1 set t = 1 → w t ≠ -1) ∨ (can = 0 ∧ (can0 = 0 ∨ ∃ t, 0 ≤ t ∧ t < V 1 2 ∧ has1 set t = 1 ∧ w t = -1))) → p12_clear_b44 best set I (p12_clear_b4 Q (d + 1)) Q (f + 1) can l := by
      intro can0 hc0 f
      have fin : ∀ can, ((can = 1 ∧ can0 = 1 ∧ ∀ t, 0 ≤ t → t < V 1 2 → has1 set t = 1 → w t ≠ -1) ∨ (can = 0 ∧ (can0 = 0 ∨ ∃ t, 0 ≤ t ∧ t < V 1 2 ∧ has1 set t = 1 ∧ w t = -1))) → p12_clear_b94 best set can I (p12_clear_b4 Q (d + 1)) Q := fun can hc => by
        unfold p12_clear_b94
        rcases hc with ⟨a, b, c⟩ | ⟨a, b⟩
        · have hb : best = -1 ∨ bc set < bc best := by
            rcases hc0 with ⟨_, q⟩ | ⟨q, _⟩
            · exact q
            · omega
          refine zf (by omega) (m_isCleared hMI hV hN hwI h0 (by omega) (fun z I1 f1 => zf (by decide) ⟨by omega, take I1 (fun y hy => (f1 y hy).trans (hf y hy)) ⟨⟨h0, by omega⟩, c, z⟩ hb⟩) (fun z I1 f1 => zt rfl ⟨by omega, keep I1 (fun y hy => (f1 y hy).trans (hf y hy)) (fun hg => absurd hg.2.2 z)⟩))
        · refine zt a ⟨by omega, keep I hf (fun hg => ?_)⟩
          rcases b with b | ⟨t, t0, t1, t2, t3⟩
          · rcases hc0 with ⟨q, _⟩ | ⟨_, q⟩
            · omega
            · exact q
          · exact absurd t3 (hg.2.1 t t0 t1 t2)
      induction f with
      | zero =>
        intro can l l0 l1 hc
        show p12_clear_b44_body best set I (p12_clear_b4 Q (d + 1)) Q _ can l
        unfold p12_clear_b44_body
        rw [m1, m5]
        refine ⟨hbk, zt (by clear hc; omega) (fin can ?_)⟩
        have el : l = V 1 2 := by clear hc; omega
        rw [el] at hc; exact hc
      | succ f ih =>
        intro can l l0 l1 hc
        show p12_clear_b44_body best set I (p12_clear_b4 Q (d + 1)) Q (p12_clear_b44 best set I (p12_clear_b4 Q (d + 1)) Q (f + 1)) can l
        unfold p12_clear_b44_body p12_has2
        rw [m1, m5, hwI l l0 (by omega)]
        refine ⟨hbk, zf (by clear hc; omega) (zs (fun e => fin can (hc.elim (fun q => by have := q.1; clear hc; omega) Or.inr)) (fun e => ?_))⟩
        obtain ⟨a, b, c⟩ := hc.resolve_right (fun q => e q.1)
        by_cases eb : has1 set l = 1
        · refine zt eb (zf (by decide) ⟨by omega, zs (fun e2 => ⟨by omega, ih 0 (l + 1) (by omega) (by omega) (Or.inr ⟨rfl, Or.inr ⟨l, l0, by omega, eb, e2⟩⟩)⟩) (fun e2 => ⟨by omega, ih 1 (l + 1) (by omega) (by omega) (Or.inl ⟨rfl, b, fun t t0 t1 t2 => ?_⟩)⟩)⟩)
          by_cases et : t = l
          · subst et; exact e2
          · exact c t t0 (by omega) t2
        · refine zf eb (zt rfl ⟨by omega, ih 1 (l + 1) (by omega) (by omega) (Or.inl ⟨rfl, b, fun t t0 t1 t2 => ?_⟩)⟩)
          by_cases et : t = l
          · subst et; exact absurd t2 eb
          · exact c t t0 (by omega) t2
    have start : ∀ can0 : Int, ((can0 = 1 ∧ (best = -1 ∨ bc set < bc best)) ∨ (can0 = 0 ∧ best ≠ -1 ∧ bc best ≤ bc set)) → ∃ f, p12_clear_b44 best set I (p12_clear_b4 Q (d + 1)) Q f can0 0 := fun can0 hc => ⟨(V 1 2).toNat + 1, loop can0 hc _ can0 0 (by omega) (by omega) (by
      rcases hc with ⟨a, b⟩ | ⟨a, b⟩
      · exact Or.inl ⟨a, a, fun t t0 t1 => by omega⟩
      · exact Or.inr ⟨a, Or.inl a⟩)⟩
    refine ⟨by omega, zf (by omega) (zs (fun e => start 1 (Or.inl ⟨rfl, Or.inl e⟩)) (fun e => ?_))⟩
    have bg : 0 ≤ best ∧ best < 64 := by
      rcases hp with ⟨a, _⟩ | ⟨⟨a, _⟩, c⟩
      · exact absurd a e
      · have := a.1; omega
    refine m_bits h0 (by omega) (m_bits bg.1 bg.2 (zs (fun e2 => start 0 (Or.inr ⟨rfl, e, e2⟩)) (fun e2 => start 1 (Or.inl ⟨rfl, Or.inr (by omega)⟩))))
theorem la_18 {L t : Nat} {X : Int → Int} {i : Int} {I J : mI} {R : mR} {K : mI → mI → mR → Prop} (H : LaH L t X i I J R K) : plaw_18 L X i I J R K := by
  have H' := H
  obtain ⟨hL, hX, h0, h1, ht, ⟨h, sp, bk, V, F, S, P, hl, hs, hr⟩, -⟩ := H
  have hh := iLan_ld hl
  obtain ⟨⟨r12, -, -⟩, hLd, hV, hF, hM, hN, hNam, hTw, hSup⟩ := hl
  obtain ⟨hC, hSM, hSt⟩ := hs
  have nn := hV.1
  have ev := evb_rg nn.2.2
  unfold plaw_18 p11_clear
  rw [r12]
  refine ⟨hh, c_fewest (w := S 3) hh hV hLd (fun k a b => (hC.2.2.2.1 k a b).2.2) (fun r hb I1 f1 => ?_)⟩
  have q1 : qf I I1 := qf_c (fun z _ z1 _ _ _ _ _ _ _ _ => f1 z z1) (by rw [f1 146 (by decide)]) (by rw [f1 151 (by decide)])
  have hM1 := ldM_q q1 hM
  have w1 : ∀ k, 0 ≤ k → k < V 1 2 → I1 189 k = S 3 k := fun k a b => by rw [f1 189 (by decide)]; exact ((stM0 hSM).1 k a ⟨by omega, Or.inr b⟩).2.2
  show p12_clear I1 (fun r2 I2 => if r = r2 then K I2 J R else False)
  refine ⟨(bShl 1 (V 1 2)).toNat + 1, m_clearGo hM1 hV hN w1 (fun r2 hb2 I2 f2 => zt (beS_u hb hb2) ?_) _ (-1) 0 I1 (by omega) (by omega) (fun _ _ => rfl) (Or.inl ⟨rfl, fun s hs hg => by have := hg.1.1; omega⟩)⟩
  have q2 : qf I1 I2 := ⟨fun z hz => f2 z (by unfold psO at hz; omega), by rw [f2 146 (by decide)], by rw [f2 151 (by decide)], fun j _ => by rw [f2 185 (by decide), f2 186 (by decide), f2 190 (by decide)]; exact ⟨rfl, rfl, rfl⟩, fun j _ => by rw [f2 187 (by decide), f2 188 (by decide), f2 189 (by decide)]; exact ⟨rfl, rfl, rfl⟩, fun j _ => by rw [f2 191 (by decide)]⟩
  exact laQ H' (qf_t q1 q2) ⟨rfl, rfl⟩ (rfr_r R)
