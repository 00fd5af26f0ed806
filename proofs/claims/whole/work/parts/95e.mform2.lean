/-! THE READERS: the model's machine, its moves -/
def rkF (op : Int) : Int := if op = 42 then 1 else if op = 41 then 2 else if op = 43 then 3 else if op = 38 then 4 else if op = 39 then 4 else if op = 40 then 4 else if op = 31 then 5 else if op = 32 then 5 else 6
theorem rkF_rg (op : Int) : 1 ≤ rkF op ∧ rkF op ≤ 6 := by
  unfold rkF
  by_cases a : op = 42
  · rw [if_pos a]; omega
  rw [if_neg a]
  by_cases a : op = 41
  · rw [if_pos a]; omega
  rw [if_neg a]
  by_cases a : op = 43
  · rw [if_pos a]; omega
  rw [if_neg a]
  by_cases a : op = 38
  · rw [if_pos a]; omega
  rw [if_neg a]
  by_cases a : op = 39
  · rw [if_pos a]; omega
  rw [if_neg a]
  by_cases a : op = 40
  · rw [if_pos a]; omega
  rw [if_neg a]
  by_cases a : op = 31
  · rw [if_pos a]; omega
  rw [if_neg a]
  by_cases a : op = 32
  · rw [if_pos a]; omega
  rw [if_neg a]; omega
theorem m_rank {x : Int} {Q : Int → Prop} (k : Q (rkF x)) : p12_rank x Q := by
  unfold p12_rank
  unfold rkF at k
  refine zs (fun e => by rw [if_pos e] at k; exact k) (fun e => ?_)
  rw [if_neg e] at k
  refine zs (fun e => by rw [if_pos e] at k; exact k) (fun e => ?_)
  rw [if_neg e] at k
  refine zs (fun e => by rw [if_pos e] at k; exact k) (fun e => ?_)
  rw [if_neg e] at k
  refine zs (fun e => by rw [if_pos e] at k; exact k) (fun e => ?_)
  rw [if_neg e] at k
  refine zs (fun e => by rw [if_pos e] at k; exact k) (fun e => ?_)
  rw [if_neg e] at k
  refine zs (fun e => by rw [if_pos e] at k; exact k) (fun e => ?_)
  rw [if_neg e] at k
  refine zs (fun e => by rw [if_pos e] at k; exact k) (fun e => ?_)
  rw [if_neg e] at k
  refine zs (fun e => by rw [if_pos e] at k; exact k) (fun e => ?_)
  rw [if_neg e] at k; exact k
theorem segM_ap {I : mI} : ∀ {a b : List (Int × Int)} {i : Int}, segM I i a → segM I (i + (a.length : Int)) b → segM I i (a ++ b)
  | [], b, i, _, h2 => by
    have e : i + (([] : List (Int × Int)).length : Int) = i := by rw [List.length_nil]; omega
    rw [e] at h2; exact h2
  | q :: r, b, i, h1, h2 => by
    refine ⟨h1.1, segM_ap h1.2 ?_⟩
    have e : i + ((q :: r).length : Int) = i + 1 + (r.length : Int) := by rw [List.length_cons]; omega
    rw [e] at h2; exact h2
theorem segM_lo {I I' : mI} : ∀ {c : List (Int × Int)} {i : Int}, (∀ z, i ≤ z → z < i + (c.length : Int) → I' 175 z = I 175 z ∧ I' 176 z = I 176 z) → segM I i c → segM I' i c
  | [], _, _, _ => trivial
  | q :: r, i, h, hs => by
    have e : ((q :: r).length : Int) = (r.length : Int) + 1 := by rw [List.length_cons]; omega
    have x := h i (by omega) (by omega)
    exact ⟨by rw [x.1, x.2]; exact hs.1, segM_lo (fun z a b => h z (by omega) (by omega)) hs.2⟩
/-- of the first cells, those that a formula leaves -/
abbrev mKp (j : Int) : Prop := j ≤ 2 ∨ (7 ≤ j ∧ j ≤ 11) ∨ (13 ≤ j ∧ j ≤ 30) ∨ (32 ≤ j ∧ j ≤ 38) ∨ j = 41 ∨ 44 ≤ j
def jK (J J' : mI) : Prop := (∀ z, z ≠ 159 → J' z = J z) ∧ ∀ j, j ≠ 7 → J' 159 j = J 159 j
theorem jK_r (J : mI) : jK J J := ⟨fun _ _ => rfl, fun _ _ => rfl⟩
theorem jK_t {J1 J2 J3 : mI} (a : jK J1 J2) (b : jK J2 J3) : jK J1 J3 := ⟨fun z h => (b.1 z h).trans (a.1 z h), fun j h => (b.2 j h).trans (a.2 j h)⟩
def mfr (b : Int) (I I' : mI) : Prop := (∀ z, z ≠ 159 → z ≠ 175 → z ≠ 176 → ¬ (178 ≤ z ∧ z ≤ 183) → I' z = I z) ∧ (∀ j, mKp j → I' 159 j = I 159 j) ∧ ∀ j, ¬ (1600 * b ≤ j ∧ j < 1600 * b + 1600) → I' 175 j = I 175 j ∧ I' 176 j = I 176 j
theorem mfr_r (b : Int) (I : mI) : mfr b I I := ⟨fun _ _ _ _ _ => rfl, fun _ _ => rfl, fun _ _ => ⟨rfl, rfl⟩⟩
theorem mfr_t {b : Int} {I1 I2 I3 : mI} (x : mfr b I1 I2) (y : mfr b I2 I3) : mfr b I1 I3 :=
  ⟨fun z h1 h2 h3 h4 => (y.1 z h1 h2 h3 h4).trans (x.1 z h1 h2 h3 h4), fun j h => (y.2.1 j h).trans (x.2.1 j h), fun j h => ⟨(y.2.2 j h).1.trans (x.2.2 j h).1, (y.2.2 j h).2.trans (x.2.2 j h).2⟩⟩
/-- what a part of a formula leaves, in the frame f, above q operators held back -/
def fR (b : Int) (f q : Nat) (I I' : mI) : Prop := mfr b I I' ∧ (∀ k : Int, k ≤ f → I' 182 k = I 182 k ∧ I' 181 k = I 181 k) ∧ (∀ k : Int, k < f → I' 178 k = I 178 k ∧ I' 179 k = I 179 k ∧ I' 180 k = I 180 k) ∧ (∀ k : Int, k < q → I' 183 k = I 183 k) ∧ I 159 31 ≤ I' 159 31 ∧ ∀ z, z < 1600 * b + I 159 31 → I' 175 z = I 175 z ∧ I' 176 z = I 176 z
theorem fR_t {b : Int} {f q f' q' : Nat} {I1 I2 I3 : mI} (x : fR b f q I1 I2) (y : fR b f' q' I2 I3) (hf : f ≤ f') (hq : q ≤ q') : fR b f q I1 I3 := by
  obtain ⟨x1, x2, x3, x4, x5, x6⟩ := x
  obtain ⟨y1, y2, y3, y4, y5, y6⟩ := y
  refine ⟨mfr_t x1 y1, fun k hk => ⟨(y2 k (by omega)).1.trans (x2 k hk).1, (y2 k (by omega)).2.trans (x2 k hk).2⟩, fun k hk => ⟨(y3 k (by omega)).1.trans (x3 k hk).1, (y3 k (by omega)).2.1.trans (x3 k hk).2.1, (y3 k (by omega)).2.2.trans (x3 k hk).2.2⟩, fun k hk => (y4 k (by omega)).trans (x4 k hk), by omega, fun z hz => ⟨(y6 z (by omega)).1.trans (x6 z hz).1, (y6 z (by omega)).2.trans (x6 z hz).2⟩⟩
theorem fR_r (b : Int) (f q : Nat) (I : mI) : fR b f q I I := ⟨mfr_r b I, fun _ _ => ⟨rfl, rfl⟩, fun _ _ => ⟨rfl, rfl, rfl⟩, fun _ _ => rfl, Int.le_refl _, fun _ _ => ⟨rfl, rfl⟩⟩
/-- only the first cells change -/
theorem fR_1 {b : Int} {f q : Nat} {I I' : mI} (hz : ∀ z, z ≠ 159 → I' z = I z) (hj : ∀ j, mKp j → I' 159 j = I 159 j) (h31 : I' 159 31 = I 159 31) : fR b f q I I' := by
  refine ⟨⟨fun z a _ _ _ => hz z a, hj, fun j _ => ?_⟩, fun k _ => ?_, fun k _ => ?_, fun k _ => ?_, by omega, fun z _ => ?_⟩
  · rw [hz 175 (by decide), hz 176 (by decide)]; exact ⟨rfl, rfl⟩
  · rw [hz 182 (by decide), hz 181 (by decide)]; exact ⟨rfl, rfl⟩
  · rw [hz 178 (by decide), hz 179 (by decide), hz 180 (by decide)]; exact ⟨rfl, rfl, rfl⟩
  · rw [hz 183 (by decide)]
  · rw [hz 175 (by decide), hz 176 (by decide)]; exact ⟨rfl, rfl⟩
def nts : List Int → Int
  | [] => 0
  | x :: r => (if x = 43 then 1 else 0) + nts r
theorem nts_rg : ∀ l : List Int, 0 ≤ nts l ∧ nts l ≤ (l.length : Int)
  | [] => ⟨Int.le_refl 0, Int.le_refl 0⟩
  | x :: r => by
    have i := nts_rg r
    rw [List.length_cons]
    unfold nts
    split <;> omega
theorem nts_ap : ∀ a b : List Int, nts (a ++ b) = nts a + nts b
  | [], b => by show nts b = 0 + nts b; omega
  | x :: r, b => by
    have i := nts_ap r b
    show (if x = 43 then 1 else 0) + nts (r ++ b) = (if x = 43 then 1 else 0) + nts r + nts b
    omega
def stO (I : mI) (q : Int) : List Int → Prop
  | [] => True
  | x :: r => I 183 (q + (r.length : Int)) = x ∧ stO I q r
theorem stO_f {I I' : mI} {q : Int} : ∀ {l : List Int}, (∀ z, q ≤ z → z < q + (l.length : Int) → I' 183 z = I 183 z) → stO I q l → stO I' q l
  | [], _, _ => trivial
  | x :: r, h, hs => by
    have e : ((x :: r).length : Int) = (r.length : Int) + 1 := by rw [List.length_cons]; omega
    exact ⟨by rw [h _ (by omega) (by omega)]; exact hs.1, stO_f (fun z a b => h z a (by omega)) hs.2⟩
theorem stO_ap {I : mI} {q : Int} {y : Int} (hy : I 183 q = y) : ∀ {l : List Int}, stO I (q + 1) l → stO I q (l ++ [y])
  | [], _ => ⟨by rw [List.length_nil, show q + ((0 : Nat) : Int) = q by omega]; exact hy, trivial⟩
  | x :: r, hs => by
    refine ⟨?_, stO_ap hy hs.2⟩
    show I 183 (q + ((r ++ [y]).length : Int)) = x
    rw [List.length_append, List.length_singleton, show q + ((r.length + 1 : Nat) : Int) = q + 1 + (r.length : Int) by omega]
    exact hs.1
def opC (l : List Int) : List (Int × Int) := l.map (fun x => (x, 0))
theorem opC_len (l : List Int) : (opC l).length = l.length := List.length_map _
theorem opC_ap (a b : List Int) : opC (a ++ b) = opC a ++ opC b := List.map_append
/-- a step of code is kept -/
theorem m_add {b s v c : Int} {I : mI} {Q : mI → Prop} (hb : I 159 32 = b) (b01 : b = 0 ∨ b = 1) (hc : I 159 31 = c) (c0 : 0 ≤ c) (c1 : c < 1600)
    (kk : ∀ I' : mI, (∀ z, z ≠ 159 → z ≠ 175 → z ≠ 176 → I' z = I z) → (∀ j, j ≠ 31 → I' 159 j = I 159 j) → (∀ z, z ≠ 1600 * b + c → I' 175 z = I 175 z ∧ I' 176 z = I 176 z) → I' 159 31 = c + 1 → I' 175 (1600 * b + c) = s → I' 176 (1600 * b + c) = v → Q I') : p12_add s v I Q := by
  unfold p12_add
  rw [hb, hc]
  refine ⟨by omega, by omega, by omega, m_putK (fun I1 q1 g1 f1 => ?_)⟩
  rw [f1 159 (by decide), hb, hc]
  refine ⟨by omega, by omega, by omega, m_putK (fun I2 q2 g2 f2 => ?_)⟩
  rw [f2 159 (by decide), f1 159 (by decide), hc]
  refine ⟨by omega, m_putK (fun I3 q3 g3 f3 => kk I3 (fun z a b d => ?_) (fun j hj => ?_) (fun z hz => ?_) q3 ?_ ?_)⟩
  · rw [f3 z a, f2 z d, f1 z b]
  · rw [g3 j hj, f2 159 (by decide), f1 159 (by decide)]
  · rw [f3 175 (by decide), f3 176 (by decide), f2 175 (by decide), g2 z hz, g1 z hz, f1 176 (by decide)]; exact ⟨rfl, rfl⟩
  · rw [f3 175 (by decide), f2 175 (by decide)]; exact q1
  · rw [f3 176 (by decide)]; exact q2
/-- operators are joined -/
theorem m_joinGo {b least bs : Int} {f q : Nat} {Q : mI → Prop} (b01 : b = 0 ∨ b = 1) (hf : f < 20) (hbs : bs ≤ (q : Int)) :
    ∀ (hs : List Int) (I : mI), I 159 32 = b → I 159 39 = (f : Int) + 1 → I 182 f = bs → (∀ x ∈ hs, least ≤ rkF x) → (bs = (q : Int) ∨ rkF (I 183 ((q : Int) - 1)) < least) → 0 ≤ bs → I 159 42 = (q : Int) + (hs.length : Int) → stO I q hs → q + hs.length ≤ 400 → 0 ≤ I 159 31 → I 159 31 + (hs.length : Int) ≤ 1600 → (0 ≤ I 159 40 - nts hs ∧ I 159 40 ≤ 1000) →
    (∀ I' : mI, (∀ z, z ≠ 159 → z ≠ 175 → z ≠ 176 → I' z = I z) → (∀ j, j ≠ 31 → j ≠ 40 → j ≠ 42 → I' 159 j = I 159 j) → (∀ z, ¬ (1600 * b + I 159 31 ≤ z ∧ z < 1600 * b + I 159 31 + (hs.length : Int)) → I' 175 z = I 175 z ∧ I' 176 z = I 176 z) → I' 159 42 = q → I' 159 31 = I 159 31 + (hs.length : Int) → I' 159 40 = I 159 40 - nts hs → segM I' (1600 * b + I 159 31) (opC hs) → Q I') → p12_joins_b0 least Q (hs.length + 1) I
  | [], I, h32, h39, h182, hr, hb, hb0, h42, hst, h400, h31, h1600, h40, kk => by
    have l0 : (([] : List Int).length : Int) = 0 := rfl
    rw [l0] at h42
    have kq : Q I := kk I (fun _ _ _ _ => rfl) (fun _ _ _ _ => rfl) (fun _ _ => ⟨rfl, rfl⟩) (by omega) (by rw [l0]; omega) (by show I 159 40 = I 159 40 - 0; omega) trivial
    show p12_joins_b0_body least Q (p12_joins_b0 least Q 0) I
    unfold p12_joins_b0_body
    rw [h39, show (f : Int) + 1 - 1 = f by omega, h182, h42]
    refine ⟨by omega, by omega, zs (fun _ => kq) (fun e => ⟨by omega, by omega, m_rank (zt ?_ kq)⟩)⟩
    rcases hb with x | x
    · omega
    · rw [show (q : Int) + 0 - 1 = (q : Int) - 1 by omega]; exact x
  | x :: r, I, h32, h39, h182, hr, hb, hb0, h42, hst, h400, h31, h1600, h40, kk => by
    have l1 : ((x :: r).length : Int) = (r.length : Int) + 1 := by rw [List.length_cons]; omega
    have l2 : (x :: r).length = r.length + 1 := List.length_cons
    have hx := hst.1
    have hrx := hr x List.mem_cons_self
    have nr := nts_rg r
    have n1 : nts (x :: r) = (if x = 43 then 1 else 0) + nts r := rfl
    rw [l2]
    show p12_joins_b0_body least Q (p12_joins_b0 least Q (r.length + 1)) I
    unfold p12_joins_b0_body
    rw [h39, show (f : Int) + 1 - 1 = f by omega, h182, h42, show (q : Int) + ((x :: r).length : Int) - 1 = (q : Int) + (r.length : Int) by omega, hx]
    refine ⟨by omega, by omega, zf (by omega) ⟨by omega, by omega, m_rank (zf (by omega) ⟨by omega, m_putK (fun I1 q1 g1 f1 => ?_)⟩)⟩⟩
    rw [q1, f1 183 (by decide), hx]
    refine ⟨by omega, m_add (b := b) (c := I 159 31) ((g1 32 (by decide)).trans h32) b01 (g1 31 (by decide)) h31 (by omega) (fun I2 u1 u2 u3 u4 u5 u6 => ?_)⟩
    rw [u2 42 (by decide), q1, u1 183 (by decide) (by decide) (by decide), f1 183 (by decide), hx]
    refine ⟨by omega, ?_⟩
    have go : ∀ I3 : mI, (∀ z, z ≠ 159 → I3 z = I2 z) → (∀ j, j ≠ 40 → I3 159 j = I2 159 j) → I3 159 40 = I 159 40 - (if x = 43 then 1 else 0) → p12_joins_b0 least Q (r.length + 1) I3 := fun I3 w1 w2 w3 => by
      have e31 : I3 159 31 = I 159 31 + 1 := (w2 31 (by decide)).trans u4
      have ez : ∀ z, z ≠ 159 → z ≠ 175 → z ≠ 176 → I3 z = I z := fun z a b c => by rw [w1 z a, u1 z a b c, f1 z a]
      have ej : ∀ j, j ≠ 31 → j ≠ 40 → j ≠ 42 → I3 159 j = I 159 j := fun j a b c => by rw [w2 j b, u2 j a, g1 j c]
      refine m_joinGo b01 hf hbs r I3 ((ej 32 (by decide) (by decide) (by decide)).trans h32) ((ej 39 (by decide) (by decide) (by decide)).trans h39) (by rw [ez 182 (by decide) (by decide) (by decide)]; exact h182) (fun y hy => hr y (List.mem_cons_of_mem x hy)) (by rw [ez 183 (by decide) (by decide) (by decide)]; exact hb) hb0 ?_ ?_ (by omega) (by omega) (by omega) (by rw [w3]; omega) (fun I' v1 v2 v3 v4 v5 v6 v7 => ?_)
      · rw [w2 42 (by decide), u2 42 (by decide)]; exact q1
      · exact stO_f (fun z _ _ => by rw [ez 183 (by decide) (by decide) (by decide)]) hst.2
      · have e3 : ∀ z, z ≠ 1600 * b + I 159 31 → I3 175 z = I 175 z ∧ I3 176 z = I 176 z := fun z hz => by
          rw [w1 175 (by decide), w1 176 (by decide), (u3 z hz).1, (u3 z hz).2, f1 175 (by decide), f1 176 (by decide)]; exact ⟨rfl, rfl⟩
        rw [e31] at v3 v5 v7
        refine kk I' (fun z a b c => (v1 z a b c).trans (ez z a b c)) (fun j a b c => (v2 j a b c).trans (ej j a b c)) (fun z hz => ?_) v4 (by omega) (by rw [v6, w3]; omega) ?_
        · have y := v3 z (by omega)
          have y2 := e3 z (by omega)
          exact ⟨y.1.trans y2.1, y.2.trans y2.2⟩
        · have y := v3 (1600 * b + I 159 31) (by omega)
          refine ⟨⟨?_, fun _ => ?_⟩, ?_⟩
          · rw [y.1, w1 175 (by decide)]; exact u5
          · rw [y.2, w1 176 (by decide)]; exact u6
          · rw [show 1600 * b + I 159 31 + 1 = 1600 * b + (I 159 31 + 1) by omega]; exact v7
    refine zs (fun e => ?_) (fun e => ?_)
    · rw [u2 40 (by decide), g1 40 (by decide)]
      rw [if_pos e] at n1 go
      exact ⟨by omega, m_putK (fun I3 q3 g3 f3 => go I3 f3 g3 q3)⟩
    · rw [if_neg e] at go
      exact go I2 (fun _ _ => rfl) (fun _ _ => rfl) (by rw [u2 40 (by decide), g1 40 (by decide)]; omega)
/-- an operator is held back -/
theorem m_hold {op : Int} {q : Nat} {I : mI} {Q : mI → Prop} (h42 : I 159 42 = q) (hq : q < 400) (kk : ∀ I' : mI, (∀ z, z ≠ 159 → z ≠ 183 → I' z = I z) → (∀ j, j ≠ 42 → I' 159 j = I 159 j) → I' 159 42 = (q : Int) + 1 → I' 183 q = op → (∀ k, k ≠ (q : Int) → I' 183 k = I 183 k) → Q I') : p12_holdsBack op I Q := by
  unfold p12_holdsBack
  rw [h42]
  refine ⟨by omega, m_putK (fun I1 q1 g1 f1 => ?_)⟩
  rw [f1 159 (by decide), h42]
  exact ⟨by omega, m_putK (fun I2 q2 g2 f2 => kk I2 (fun z a b => (f2 z a).trans (f1 z b)) (fun j hj => (g2 j hj).trans (by rw [f1 159 (by decide)])) q2 (by rw [f2 183 (by decide)]; exact q1) (fun k hk => by rw [f2 183 (by decide), g1 k hk]))⟩
abbrev isT (k : Int) : Prop := k = 1 ∨ k = 5 ∨ k = 6
theorem m_isTst {k : Int} {Q : Int → Prop} (k1 : isT k → Q 1) (k0 : ¬ isT k → Q 0) : p12_isTest k Q := by
  unfold p12_isTest
  exact zs (fun e => k1 (Or.inl e)) (fun e => zs (fun e2 => k1 (Or.inr (Or.inl e2))) (fun e2 => zs (fun e3 => k1 (Or.inr (Or.inr e3))) (fun e3 => k0 (fun q => by
    rcases q with a | a | a
    · exact e a
    · exact e2 a
    · exact e3 a))))
/-- a frame more -/
theorem m_push {kd F : Int} {q : Nat} {I : mI} {Q : mI → Prop} (h39 : I 159 39 = F) (hF : 0 ≤ F ∧ F < 19) (h42 : I 159 42 = q) (kk : ∀ I' : mI, (∀ z, z ≠ 159 → z ≠ 178 → z ≠ 179 → z ≠ 180 → z ≠ 182 → I' z = I z) → (∀ j, j ≠ 39 → I' 159 j = I 159 j) → I' 159 39 = F + 1 → I' 178 F = kd → I' 179 F = 0 → I' 180 F = 1 → I' 182 F = q → (∀ k, k ≠ F → I' 178 k = I 178 k ∧ I' 179 k = I 179 k ∧ I' 180 k = I 180 k ∧ I' 182 k = I 182 k) → Q I') : p12_pushes kd I Q := by
  unfold p12_pushes
  rw [h39]
  refine ⟨by omega, m_putK (fun I1 q1 g1 f1 => ?_)⟩
  rw [f1 159 (by decide), h39]
  refine ⟨by omega, m_putK (fun I2 q2 g2 f2 => ?_)⟩
  rw [f2 159 (by decide), f1 159 (by decide), h39]
  refine ⟨by omega, m_putK (fun I3 q3 g3 f3 => ?_)⟩
  rw [f3 159 (by decide), f2 159 (by decide), f1 159 (by decide), h39, h42]
  refine ⟨by omega, m_putK (fun I4 q4 g4 f4 => ?_)⟩
  rw [f4 159 (by decide), f3 159 (by decide), f2 159 (by decide), f1 159 (by decide), h39]
  refine ⟨by omega, m_putK (fun I5 q5 g5 f5 => kk I5 (fun z a b c d e => ?_) (fun j hj => ?_) q5 ?_ ?_ ?_ ?_ (fun k hk => ⟨?_, ?_, ?_, ?_⟩))⟩
  · rw [f5 z a, f4 z e, f3 z d, f2 z c, f1 z b]
  · rw [g5 j hj, f4 159 (by decide), f3 159 (by decide), f2 159 (by decide), f1 159 (by decide)]
  · rw [f5 178 (by decide), f4 178 (by decide), f3 178 (by decide), f2 178 (by decide)]; exact q1
  · rw [f5 179 (by decide), f4 179 (by decide), f3 179 (by decide)]; exact q2
  · rw [f5 180 (by decide), f4 180 (by decide)]; exact q3
  · rw [f5 182 (by decide)]; exact q4
  · rw [f5 178 (by decide), f4 178 (by decide), f3 178 (by decide), f2 178 (by decide), g1 k hk]
  · rw [f5 179 (by decide), f4 179 (by decide), f3 179 (by decide), g2 k hk, f1 179 (by decide)]
  · rw [f5 180 (by decide), f4 180 (by decide), g3 k hk, f2 180 (by decide), f1 180 (by decide)]
  · rw [f5 182 (by decide), g4 k hk, f3 182 (by decide), f2 182 (by decide), f1 182 (by decide)]
