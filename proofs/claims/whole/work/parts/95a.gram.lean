/-! THE READERS: sums and tests as one function of the tokens -/
abbrev Rs := Sum (Int × Nat) (Nat × List (Int × Int))
def rB (r : Rs) (k : Nat → List (Int × Int) → Rs) : Rs := match r with
  | Sum.inl e => Sum.inl e
  | Sum.inr q => k q.1 q.2
def gEx (K V : Nat → Int) (c : Int) (i : Nat) (cs : List (Int × Int)) : Rs := if K i = 4 ∧ V i = c then Sum.inr (i + 1, cs) else Sum.inl (1, i)
def gLp (rd : Nat → Rs) (st : Nat → Int) : Nat → Nat → List (Int × Int) → Rs
  | 0, i, cs => Sum.inr (i, cs)
  | f + 1, i, cs => if st i = 0 then Sum.inr (i, cs) else rB (rd (i + 1)) (fun j c => gLp rd st f j (cs ++ (c ++ [(st i, 0)])))
def sOr (K V : Nat → Int) (i : Nat) : Int := if K i = 1 ∧ V i = 22 then 42 else 0
def sAnd (K V : Nat → Int) (i : Nat) : Int := if K i = 1 ∧ V i = 23 then 41 else 0
def sSum (K V : Nat → Int) (i : Nat) : Int := if K i = 4 ∧ V i = 43 then 31 else if K i = 4 ∧ V i = 45 then 32 else 0
def sPro (K V : Nat → Int) (i : Nat) : Int := if K i = 4 ∧ V i = 42 then 33 else if K i = 4 ∧ V i = 47 then 34 else if K i = 4 ∧ V i = 37 then 35 else 0
def sCmp (K V : Nat → Int) (i : Nat) : Int := if K i = 4 ∧ V i = 60 then 38 else if K i = 4 ∧ V i = 62 then 39 else if K i = 4 ∧ V i = 61 then 40 else 0
def gVar (fm w : Int) : Int := if w = 15 then 1 else if fm = 2 then (if w = 6 then 8 else if w = 20 then 9 else 0) else if w = 16 then 2 else if w = 3 then 3 else if fm = 1 then 0 else if w = 14 then 7 else if w = 17 then 4 else if w = 18 then 5 else if w = 19 then 6 else 0
def gOp (wd : Int) : Int := if wd = 26 then 36 else if wd = 27 then 37 else 44
def gTl (K V : Nat → Int) (rd : Nat → Rs) (op : Int) (j : Nat) (c : List (Int × Int)) : Rs :=
  rB (rd j) (fun j2 c2 => rB (gEx K V 44 j2 (c ++ c2)) (fun j3 c3 => rB (rd j3) (fun j4 c4 => rB (gEx K V 41 j4 (c3 ++ c4)) (fun j5 c5 => Sum.inr (j5, c5 ++ [(op, 0)])))))
def gR (K V : Nat → Int) (fm : Int) : Nat → Nat → Int → Nat → Nat → Rs
  | 0 => fun _ _ _ i => Sum.inl (0, i)
  | d + 1 => fun w wd o i =>
    if w = 0 then rB (gR K V fm d 1 0 o i) (fun j c => gLp (gR K V fm d 1 0 o) (sOr K V) 1600 j c)
    else if w = 1 then rB (gR K V fm d 2 0 o i) (fun j c => gLp (gR K V fm d 2 0 o) (sAnd K V) 1600 j c)
    else if w = 2 then
      (if K i = 1 ∧ V i = 24 then (if 7 ≤ o then Sum.inl (5, i) else rB (gR K V fm d 2 0 (o + 1) (i + 1)) (fun j c => Sum.inr (j, c ++ [(43, 0)])))
       else if K i = 4 ∧ V i = 91 then (if 7 ≤ o then Sum.inl (5, i) else rB (gR K V fm d 0 0 (o + 1) (i + 1)) (fun j c => gEx K V 93 j c))
       else if K i = 1 ∧ V i = 25 then Sum.inr (i + 1, [(30, 0)])
       else gR K V fm d 3 0 o i)
    else if w = 3 then rB (gR K V fm d 4 0 o i) (fun j c => if sCmp K V j = 0 then Sum.inl (1, j) else rB (gR K V fm d 4 0 o (j + 1)) (fun j2 c2 => Sum.inr (j2, c ++ (c2 ++ [(sCmp K V j, 0)]))))
    else if w = 4 then rB (gR K V fm d 5 0 o i) (fun j c => gLp (gR K V fm d 5 0 o) (sSum K V) 1600 j c)
    else if w = 5 then rB (gR K V fm d 6 0 o i) (fun j c => gLp (gR K V fm d 6 0 o) (sPro K V) 1600 j c)
    else if w = 6 then
      (if K i = 3 then Sum.inr (i + 1, [(0, V i)])
       else if K i = 1 ∧ gVar fm (V i) ≠ 0 then Sum.inr (i + 1, [(gVar fm (V i), 0)])
       else if K i = 4 ∧ V i = 40 then (if 7 ≤ o then Sum.inl (5, i) else rB (gR K V fm d 4 0 (o + 1) (i + 1)) (fun j c => gEx K V 41 j c))
       else if K i = 1 ∧ (V i = 26 ∨ V i = 27 ∨ V i = 21) then gR K V fm d 7 (V i) o i
       else Sum.inl (1, i))
    else if K (i + 1) = 4 ∧ V (i + 1) = 40 then (if 7 ≤ o then Sum.inl (5, i + 1) else if wd = 21 then rB (gR K V fm d 0 0 (o + 1) (i + 2)) (fun j c => rB (gEx K V 44 j c) (fun j c => gTl K V (gR K V fm d 4 0 (o + 1)) (gOp wd) j c)) else gTl K V (gR K V fm d 4 0 (o + 1)) (gOp wd) (i + 2) [])
    else Sum.inl (1, i + 1)
theorem rB_r {j : Nat} {c : List (Int × Int)} {k : Nat → List (Int × Int) → Rs} : rB (Sum.inr (j, c)) k = k j c := rfl
theorem rB_l {e : Int × Nat} {k : Nat → List (Int × Int) → Rs} : rB (Sum.inl e) k = Sum.inl e := rfl
theorem rB_inv {r : Rs} {k : Nat → List (Int × Int) → Rs} {x : Nat × List (Int × Int)} (h : rB r k = Sum.inr x) : ∃ j c, r = Sum.inr (j, c) ∧ k j c = Sum.inr x := by
  match r, h with
  | Sum.inr (j, c), h => exact ⟨j, c, rfl, h⟩
theorem gEx_inv {K V : Nat → Int} {c : Int} {i : Nat} {cs : List (Int × Int)} {x : Nat × List (Int × Int)} (h : gEx K V c i cs = Sum.inr x) : (K i = 4 ∧ V i = c) ∧ x = (i + 1, cs) := by
  unfold gEx at h
  by_cases e : K i = 4 ∧ V i = c
  · rw [if_pos e] at h; exact ⟨e, (Sum.inr.inj h).symm⟩
  · rw [if_neg e] at h; cases h
/-! kinds -/
theorem ty_ap : ∀ (a b : List (Int × Int)) (ts : List Bool), tyR (a ++ b) ts = (tyR a ts).bind (tyR b)
  | [], _, _ => rfl
  | q :: a, b, ts => by
    show (tyS q ts).bind (tyR (a ++ b)) = ((tyS q ts).bind (tyR a)).bind (tyR b)
    match tyS q ts with
    | none => rfl
    | some t => exact ty_ap a b t
theorem ty_2 {a b : List (Int × Int)} {ts t1 t2 : List Bool} (h1 : tyR a ts = some t1) (h2 : tyR b t1 = some t2) : tyR (a ++ b) ts = some t2 := by
  rw [ty_ap, h1]; exact h2
theorem ty_1 {q : Int × Int} {ts t1 : List Bool} (h : tyS q ts = some t1) : tyR [q] ts = some t1 := by
  show (tyS q ts).bind (tyR []) = _
  rw [h]; rfl
theorem ty_n {v : Int} {ts : List Bool} (h : ts.length ≤ 88) (h0 : 0 ≤ v) (h1 : v ≤ 9999) : tyS (0, v) ts = some (false :: ts) := by
  unfold tyS; rw [if_neg (by omega), if_pos rfl, if_pos ⟨h0, h1⟩]
theorem ty_v {s : Int} {ts : List Bool} (h : ts.length ≤ 88) (h0 : 1 ≤ s) (h1 : s ≤ 9) : tyS (s, 0) ts = some (false :: ts) := by
  unfold tyS; rw [if_neg (by omega), if_neg (show ¬ s = 0 by omega), if_pos ⟨h0, h1⟩]
theorem ty_all {ts : List Bool} (h : ts.length ≤ 88) : tyS (30, 0) ts = some (true :: ts) := by
  unfold tyS; rw [if_neg (by omega), if_neg (by decide), if_neg (by decide), if_pos rfl]
theorem ty_not {ts : List Bool} (h : ts.length ≤ 87) : tyS (43, 0) (true :: ts) = some (true :: ts) := by
  unfold tyS; rw [if_neg (by rw [List.length_cons]; omega), if_neg (by decide), if_neg (by decide), if_neg (by decide), if_pos rfl]
theorem ty_if {ts : List Bool} (h : ts.length ≤ 85) : tyS (44, 0) (false :: false :: true :: ts) = some (false :: ts) := by
  unfold tyS; rw [if_neg (by rw [List.length_cons, List.length_cons, List.length_cons]; omega), if_neg (by decide), if_neg (by decide), if_neg (by decide), if_neg (by decide), if_pos rfl]
theorem ty_ar {s : Int} {ts : List Bool} (h : ts.length ≤ 86) (h0 : 31 ≤ s) (h1 : s ≤ 37) : tyS (s, 0) (false :: false :: ts) = some (false :: ts) := by
  unfold tyS
  rw [if_neg (by rw [List.length_cons, List.length_cons]; omega), if_neg (show ¬ s = 0 by omega), if_neg (show ¬ (1 ≤ s ∧ s ≤ 9) by omega), if_neg (show ¬ s = 30 by omega), if_neg (show ¬ s = 43 by omega), if_neg (show ¬ s = 44 by omega), if_pos ⟨h0, h1⟩]
theorem ty_cm {s : Int} {ts : List Bool} (h : ts.length ≤ 86) (h0 : 38 ≤ s) (h1 : s ≤ 40) : tyS (s, 0) (false :: false :: ts) = some (true :: ts) := by
  unfold tyS
  rw [if_neg (by rw [List.length_cons, List.length_cons]; omega), if_neg (show ¬ s = 0 by omega), if_neg (show ¬ (1 ≤ s ∧ s ≤ 9) by omega), if_neg (show ¬ s = 30 by omega), if_neg (show ¬ s = 43 by omega), if_neg (show ¬ s = 44 by omega), if_neg (show ¬ (31 ≤ s ∧ s ≤ 37) by omega), if_pos ⟨h0, h1⟩]
theorem ty_lo {s : Int} {ts : List Bool} (h : ts.length ≤ 86) (h0 : 41 ≤ s) (h1 : s ≤ 42) : tyS (s, 0) (true :: true :: ts) = some (true :: ts) := by
  unfold tyS
  rw [if_neg (by rw [List.length_cons, List.length_cons]; omega), if_neg (show ¬ s = 0 by omega), if_neg (show ¬ (1 ≤ s ∧ s ≤ 9) by omega), if_neg (show ¬ s = 30 by omega), if_neg (show ¬ s = 43 by omega), if_neg (show ¬ s = 44 by omega), if_neg (show ¬ (31 ≤ s ∧ s ≤ 37) by omega), if_neg (show ¬ (38 ≤ s ∧ s ≤ 40) by omega), if_pos ⟨h0, h1⟩]
/-! what a whole one is worth -/
def gW (m : Nat) (fm : Int) (i b : Nat) (t : Bool) (j : Nat) (cs : List (Int × Int)) : Prop := i < j ∧ j ≤ m ∧ cs.length + i ≤ j ∧ okV fm cs ∧ ∀ ts : List Bool, ts.length + b ≤ 88 → tyR cs ts = some (t :: ts)
def gP (m : Nat) (fm : Int) (i b : Nat) (t : Bool) (r : Rs) : Prop := ∀ j cs, r = Sum.inr (j, cs) → gW m fm i b t j cs
theorem okV_ap {w : Int} {a b : List (Int × Int)} (h1 : okV w a) (h2 : okV w b) : okV w (a ++ b) := fun q hq => (List.mem_append.mp hq).elim (h1 q) (h2 q)
theorem okV_op {w s : Int} (h : 9 < s) : okV w [(s, 0)] := fun q hq x y => by
  rw [List.mem_singleton.mp hq] at y
  have y' : s ≤ 9 := y
  omega
theorem gLp_ok {m : Nat} {fm : Int} {b : Nat} {t : Bool} {rd : Nat → Rs} {st : Nat → Int} (hrd : ∀ i, i ≤ m → gP m fm i b t (rd i)) (hm : ∀ i, i ≤ m → st i ≠ 0 → i < m) (hs : ∀ i, st i ≠ 0 → 9 < st i ∧ ∀ ts : List Bool, ts.length ≤ 86 → tyS (st i, 0) (t :: t :: ts) = some (t :: ts)) (hb : 2 ≤ b) {i : Nat} :
    ∀ (f j : Nat) (cs : List (Int × Int)), gW m fm i (b + 1) t j cs → gP m fm i (b + 1) t (gLp rd st f j cs)
  | 0, j, cs, h => fun j' cs' e => by
    have e' := Sum.inr.inj e
    rw [← (Prod.mk.inj e').1, ← (Prod.mk.inj e').2]; exact h
  | f + 1, j, cs, h => fun j' cs' e => by
    obtain ⟨h1, h2, h3, h4, h5⟩ := h
    unfold gLp at e
    by_cases z : st j = 0
    · rw [if_pos z] at e
      have e' := Sum.inr.inj e
      rw [← (Prod.mk.inj e').1, ← (Prod.mk.inj e').2]; exact ⟨h1, h2, h3, h4, h5⟩
    · rw [if_neg z] at e
      obtain ⟨j2, c2, e2, e3⟩ := rB_inv e
      have lm := hm j h2 z
      obtain ⟨g1, g2, g3, g4, g5⟩ := hrd (j + 1) lm j2 c2 e2
      have s := hs j z
      refine gLp_ok hrd hm hs hb f j2 _ ⟨by omega, g2, ?_, okV_ap h4 (okV_ap g4 (okV_op s.1)), fun ts hts => ?_⟩ j' cs' e3
      · rw [List.length_append, List.length_append, List.length_singleton]; omega
      · exact ty_2 (h5 ts hts) (ty_2 (g5 (t :: ts) (by rw [List.length_cons]; omega)) (ty_1 (s.2 ts (by omega))))
theorem gW_wk {m : Nat} {fm : Int} {i b b' : Nat} {t : Bool} {j : Nat} {cs : List (Int × Int)} (h : gW m fm i b t j cs) (hb : b ≤ b') : gW m fm i b' t j cs := ⟨h.1, h.2.1, h.2.2.1, h.2.2.2.1, fun ts hts => h.2.2.2.2 ts (by omega)⟩
theorem gVar_rg {fm w : Int} (hf : fm = 0 ∨ fm = 1 ∨ fm = 2) (h : gVar fm w ≠ 0) : (1 ≤ gVar fm w ∧ gVar fm w ≤ 9) ∧ (gVar fm w = 1 ∨ (fm = 2 ∧ 8 ≤ gVar fm w) ∨ (fm ≠ 2 ∧ gVar fm w ≤ 3) ∨ (fm = 0 ∧ gVar fm w ≤ 7)) := by
  unfold gVar at h ⊢
  by_cases a : w = 15
  · rw [if_pos a]; omega
  rw [if_neg a] at h ⊢
  by_cases b : fm = 2
  · rw [if_pos b] at h ⊢
    by_cases c : w = 6
    · rw [if_pos c]; omega
    · rw [if_neg c] at h ⊢
      by_cases c2 : w = 20
      · rw [if_pos c2]; omega
      · rw [if_neg c2] at h; exact absurd rfl h
  rw [if_neg b] at h ⊢
  by_cases c : w = 16
  · rw [if_pos c]; omega
  rw [if_neg c] at h ⊢
  by_cases c : w = 3
  · rw [if_pos c]; omega
  rw [if_neg c] at h ⊢
  by_cases c : fm = 1
  · rw [if_pos c] at h; exact absurd rfl h
  rw [if_neg c] at h ⊢
  by_cases c : w = 14
  · rw [if_pos c]; omega
  rw [if_neg c] at h ⊢
  by_cases c : w = 17
  · rw [if_pos c]; omega
  rw [if_neg c] at h ⊢
  by_cases c : w = 18
  · rw [if_pos c]; omega
  rw [if_neg c] at h ⊢
  by_cases c : w = 19
  · rw [if_pos c]; omega
  rw [if_neg c] at h; exact absurd rfl h
/-- the tokens end at m -/
def tkM (K V : Nat → Int) (m : Nat) : Prop := (∀ j, j < m → K j ≠ 0 ∧ K j ≠ 5) ∧ (K m = 0 ∨ K m = 5) ∧ ∀ j, K j = 3 → 0 ≤ V j ∧ V j ≤ 9999
theorem tkM_lt {K V : Nat → Int} {m i : Nat} (h : tkM K V m) (hi : i ≤ m) (k : K i ≠ 0 ∧ K i ≠ 5) : i < m := by
  rcases Nat.lt_or_ge i m with x | x
  · exact x
  · have e : i = m := by omega
    rw [e] at k
    exact absurd h.2.1 (fun q => q.elim k.1 k.2)
theorem sOr_k {K V : Nat → Int} {i : Nat} (h : sOr K V i ≠ 0) : (K i = 1 ∧ V i = 22) ∧ sOr K V i = 42 := by
  unfold sOr at h ⊢
  by_cases e : K i = 1 ∧ V i = 22
  · rw [if_pos e]; exact ⟨e, rfl⟩
  · rw [if_neg e] at h; exact absurd rfl h
theorem sAnd_k {K V : Nat → Int} {i : Nat} (h : sAnd K V i ≠ 0) : (K i = 1 ∧ V i = 23) ∧ sAnd K V i = 41 := by
  unfold sAnd at h ⊢
  by_cases e : K i = 1 ∧ V i = 23
  · rw [if_pos e]; exact ⟨e, rfl⟩
  · rw [if_neg e] at h; exact absurd rfl h
theorem sSum_k {K V : Nat → Int} {i : Nat} (h : sSum K V i ≠ 0) : K i = 4 ∧ ((V i = 43 ∧ sSum K V i = 31) ∨ (V i = 45 ∧ sSum K V i = 32)) := by
  unfold sSum at h ⊢
  by_cases e : K i = 4 ∧ V i = 43
  · rw [if_pos e]; exact ⟨e.1, Or.inl ⟨e.2, rfl⟩⟩
  · rw [if_neg e] at h ⊢
    by_cases e : K i = 4 ∧ V i = 45
    · rw [if_pos e]; exact ⟨e.1, Or.inr ⟨e.2, rfl⟩⟩
    · rw [if_neg e] at h; exact absurd rfl h
theorem sPro_k {K V : Nat → Int} {i : Nat} (h : sPro K V i ≠ 0) : K i = 4 ∧ ((V i = 42 ∧ sPro K V i = 33) ∨ (V i = 47 ∧ sPro K V i = 34) ∨ (V i = 37 ∧ sPro K V i = 35)) := by
  unfold sPro at h ⊢
  by_cases e : K i = 4 ∧ V i = 42
  · rw [if_pos e]; exact ⟨e.1, Or.inl ⟨e.2, rfl⟩⟩
  · rw [if_neg e] at h ⊢
    by_cases e : K i = 4 ∧ V i = 47
    · rw [if_pos e]; exact ⟨e.1, Or.inr (Or.inl ⟨e.2, rfl⟩)⟩
    · rw [if_neg e] at h ⊢
      by_cases e : K i = 4 ∧ V i = 37
      · rw [if_pos e]; exact ⟨e.1, Or.inr (Or.inr ⟨e.2, rfl⟩)⟩
      · rw [if_neg e] at h; exact absurd rfl h
theorem sCmp_k {K V : Nat → Int} {i : Nat} (h : sCmp K V i ≠ 0) : K i = 4 ∧ ((V i = 60 ∧ sCmp K V i = 38) ∨ (V i = 62 ∧ sCmp K V i = 39) ∨ (V i = 61 ∧ sCmp K V i = 40)) := by
  unfold sCmp at h ⊢
  by_cases e : K i = 4 ∧ V i = 60
  · rw [if_pos e]; exact ⟨e.1, Or.inl ⟨e.2, rfl⟩⟩
  · rw [if_neg e] at h ⊢
    by_cases e : K i = 4 ∧ V i = 62
    · rw [if_pos e]; exact ⟨e.1, Or.inr (Or.inl ⟨e.2, rfl⟩)⟩
    · rw [if_neg e] at h ⊢
      by_cases e : K i = 4 ∧ V i = 61
      · rw [if_pos e]; exact ⟨e.1, Or.inr (Or.inr ⟨e.2, rfl⟩)⟩
      · rw [if_neg e] at h; exact absurd rfl h
def gB (o w : Nat) : Nat := 8 * (7 - o) + (8 - w)
theorem gTl_ok {K V : Nat → Int} {m : Nat} {fm op : Int} {b : Nat} {rd : Nat → Rs} (hT : tkM K V m) (hrd : ∀ i, i ≤ m → gP m fm i b false (rd i)) {i j : Nat} {c : List (Int × Int)} {T : List Bool → List Bool} (hij : i < j) (hjm : j ≤ m) (hl : c.length + i + 1 ≤ j) (hv : okV fm c) (B : Nat) (hc : ∀ ts : List Bool, ts.length + B ≤ 88 → tyR c ts = some (T ts) ∧ (T ts).length + 1 + b ≤ 88) (hop : ∀ ts : List Bool, ts.length + B ≤ 88 → tyS (op, 0) (false :: false :: T ts) = some (false :: ts)) (h9 : 9 < op) : gP m fm i B false (gTl K V rd op j c) := fun j' cs' e => by
  unfold gTl at e
  obtain ⟨j2, c2, e2, e⟩ := rB_inv e
  obtain ⟨j3, c3, e3, e⟩ := rB_inv e
  obtain ⟨j4, c4, e4, e⟩ := rB_inv e
  obtain ⟨j5, c5, e5, e⟩ := rB_inv e
  obtain ⟨a1, a2, a3, a4, a5⟩ := hrd j hjm j2 c2 e2
  obtain ⟨k3, x3⟩ := gEx_inv e3
  have x31 := (Prod.mk.inj x3).1
  have x32 := (Prod.mk.inj x3).2
  subst x31; subst x32
  have l2 := tkM_lt hT a2 (by rw [k3.1]; decide)
  obtain ⟨b1, b2, b3, b4, b5⟩ := hrd (j2 + 1) (by omega) j4 c4 e4
  obtain ⟨k5, x5⟩ := gEx_inv e5
  have x51 := (Prod.mk.inj x5).1
  have x52 := (Prod.mk.inj x5).2
  subst x51; subst x52
  have l4 := tkM_lt hT b2 (by rw [k5.1]; decide)
  have e' := Sum.inr.inj e
  rw [← (Prod.mk.inj e').1, ← (Prod.mk.inj e').2]
  refine ⟨by omega, by omega, ?_, okV_ap (okV_ap (okV_ap hv a4) b4) (okV_op h9), fun ts hts => ?_⟩
  · rw [List.length_append, List.length_append, List.length_append, List.length_singleton]; omega
  · have h := hc ts hts
    exact ty_2 (ty_2 (ty_2 h.1 (a5 (T ts) (by omega))) (b5 (false :: T ts) (by rw [List.length_cons]; omega))) (ty_1 (hop ts hts))
theorem g_ok {K V : Nat → Int} {m : Nat} {fm : Int} (hT : tkM K V m) (hf : fm = 0 ∨ fm = 1 ∨ fm = 2) : ∀ (d w : Nat) (wd : Int) (o i : Nat), w ≤ 7 → o ≤ 7 → i ≤ m → (w = 7 → i < m ∧ (wd = 21 ∨ wd = 26 ∨ wd = 27)) → gP m fm i (gB o w) (decide (w ≤ 3)) (gR K V fm d w wd o i)
  | 0, _, _, _, _, _, _, _, _ => fun _ _ e => by cases e
  | d + 1, w, wd, o, i, hw, ho, hi, h7 => fun j cs e => by
    have ih := g_ok hT hf d
    have ih' : ∀ (w : Nat) (o i : Nat), w ≤ 6 → o ≤ 7 → i ≤ m → gP m fm i (gB o w) (decide (w ≤ 3)) (gR K V fm d w 0 o i) := fun w o i a b c => ih w 0 o i (by omega) b c (fun q => by omega)
    have loop : ∀ (w2 : Nat) (t : Bool) (st : Nat → Int), w2 ≤ 6 → t = decide (w2 ≤ 3) → w2 = w + 1 → t = decide (w ≤ 3) → (∀ i, st i ≠ 0 → K i = 1 ∨ K i = 4) → (∀ i, st i ≠ 0 → 9 < st i ∧ ∀ ts : List Bool, ts.length ≤ 86 → tyS (st i, 0) (t :: t :: ts) = some (t :: ts)) → rB (gR K V fm d w2 0 o i) (fun j c => gLp (gR K V fm d w2 0 o) st 1600 j c) = Sum.inr (j, cs) → gW m fm i (gB o w) (decide (w ≤ 3)) j cs := fun w2 t st x1 x2 x3 x4 x5 x6 e => by
      obtain ⟨j1, c1, e1, e2⟩ := rB_inv e
      have eb : gB o w2 + 1 = gB o w := by unfold gB; omega
      have r1 := ih' w2 o i x1 ho hi j1 c1 e1
      have rr : ∀ i, i ≤ m → gP m fm i (gB o w2) t (gR K V fm d w2 0 o i) := fun i hi => by rw [x2]; exact ih' w2 o i x1 ho hi
      rw [← x2] at r1
      have r := gLp_ok rr (fun i hi z => tkM_lt hT hi (by rcases x5 i z with q | q <;> rw [q] <;> decide)) x6 (by unfold gB; omega) 1600 j1 c1 (gW_wk r1 (Nat.le_succ _)) j cs e2
      rw [eb, x4] at r
      exact r
    have hcase : w = 0 ∨ w = 1 ∨ w = 2 ∨ w = 3 ∨ w = 4 ∨ w = 5 ∨ w = 6 ∨ w = 7 := by omega
    rcases hcase with rfl | rfl | rfl | rfl | rfl | rfl | rfl | rfl
    · exact loop 1 true (sOr K V) (by omega) rfl rfl rfl (fun i z => Or.inl (sOr_k z).1.1) (fun i z => by rw [(sOr_k z).2]; exact ⟨by decide, fun ts h => ty_lo h (by decide) (by decide)⟩) e
    · exact loop 2 true (sAnd K V) (by omega) rfl rfl rfl (fun i z => Or.inl (sAnd_k z).1.1) (fun i z => by rw [(sAnd_k z).2]; exact ⟨by decide, fun ts h => ty_lo h (by decide) (by decide)⟩) e
    · have e' : (if K i = 1 ∧ V i = 24 then (if 7 ≤ o then Sum.inl (5, i) else rB (gR K V fm d 2 0 (o + 1) (i + 1)) (fun j c => Sum.inr (j, c ++ [(43, 0)])))
       else if K i = 4 ∧ V i = 91 then (if 7 ≤ o then Sum.inl (5, i) else rB (gR K V fm d 0 0 (o + 1) (i + 1)) (fun j c => gEx K V 93 j c))
       else if K i = 1 ∧ V i = 25 then Sum.inr (i + 1, [(30, 0)])
       else gR K V fm d 3 0 o i : Rs) = Sum.inr (j, cs) := e
      by_cases a : K i = 1 ∧ V i = 24
      · rw [if_pos a] at e'
        by_cases b : 7 ≤ o
        · rw [if_pos b] at e'; cases e'
        · rw [if_neg b] at e'
          have lm := tkM_lt hT hi (by rw [a.1]; decide)
          obtain ⟨j1, c1, e1, e2⟩ := rB_inv e'
          obtain ⟨r1, r2, r3, r4, r5⟩ := ih' 2 (o + 1) (i + 1) (by omega) (by omega) lm j1 c1 e1
          have e3 := Sum.inr.inj e2
          rw [← (Prod.mk.inj e3).1, ← (Prod.mk.inj e3).2]
          have gb : gB (o + 1) 2 + 8 = gB o 2 := by unfold gB; omega
          refine ⟨by omega, r2, by rw [List.length_append, List.length_singleton]; omega, okV_ap r4 (okV_op (by decide)), fun ts hts => ty_2 (r5 ts (by omega)) (ty_1 (ty_not (by omega)))⟩
      rw [if_neg a] at e'
      by_cases a : K i = 4 ∧ V i = 91
      · rw [if_pos a] at e'
        by_cases b : 7 ≤ o
        · rw [if_pos b] at e'; cases e'
        · rw [if_neg b] at e'
          have lm := tkM_lt hT hi (by rw [a.1]; decide)
          obtain ⟨j1, c1, e1, e2⟩ := rB_inv e'
          obtain ⟨r1, r2, r3, r4, r5⟩ := ih' 0 (o + 1) (i + 1) (by omega) (by omega) lm j1 c1 e1
          obtain ⟨k2, x2⟩ := gEx_inv e2
          rw [(Prod.mk.inj x2).1, (Prod.mk.inj x2).2]
          have lm2 := tkM_lt hT r2 (by rw [k2.1]; decide)
          have gb : gB (o + 1) 0 + 6 = gB o 2 := by unfold gB; omega
          exact ⟨by omega, lm2, by omega, r4, fun ts hts => r5 ts (by omega)⟩
      rw [if_neg a] at e'
      by_cases a : K i = 1 ∧ V i = 25
      · rw [if_pos a] at e'
        have lm := tkM_lt hT hi (by rw [a.1]; decide)
        have e3 := Sum.inr.inj e'
        rw [← (Prod.mk.inj e3).1, ← (Prod.mk.inj e3).2]
        exact ⟨by omega, lm, by rw [List.length_singleton]; omega, okV_op (by decide), fun ts hts => ty_1 (ty_all (by omega))⟩
      rw [if_neg a] at e'
      exact gW_wk (ih' 3 o i (by omega) ho hi j cs e') (by unfold gB; omega)
    · have e' : rB (gR K V fm d 4 0 o i) (fun j c => if sCmp K V j = 0 then Sum.inl (1, j) else rB (gR K V fm d 4 0 o (j + 1)) (fun j2 c2 => Sum.inr (j2, c ++ (c2 ++ [(sCmp K V j, 0)])))) = Sum.inr (j, cs) := e
      obtain ⟨j1, c1, e1, e2⟩ := rB_inv e'
      obtain ⟨r1, r2, r3, r4, r5⟩ := ih' 4 o i (by omega) ho hi j1 c1 e1
      by_cases z : sCmp K V j1 = 0
      · rw [if_pos z] at e2; cases e2
      · rw [if_neg z] at e2
        have sk := sCmp_k z
        have lm := tkM_lt hT r2 (by rw [sk.1]; decide)
        obtain ⟨j3, c3, e3, e4⟩ := rB_inv e2
        obtain ⟨s1, s2, s3, s4, s5⟩ := ih' 4 o (j1 + 1) (by omega) ho lm j3 c3 e3
        have e5 := Sum.inr.inj e4
        rw [← (Prod.mk.inj e5).1, ← (Prod.mk.inj e5).2]
        have gb : gB o 4 + 1 = gB o 3 := by unfold gB; omega
        have g4 : 4 ≤ gB o 4 := by unfold gB; omega
        refine ⟨by omega, s2, by rw [List.length_append, List.length_append, List.length_singleton]; omega, okV_ap r4 (okV_ap s4 (okV_op (by omega))), fun ts hts => ty_2 (r5 ts (by omega)) (ty_2 (s5 (false :: ts) (by rw [List.length_cons]; omega)) (ty_1 (ty_cm (by omega) (by omega) (by omega))))⟩
    · exact loop 5 false (sSum K V) (by omega) rfl rfl rfl (fun i z => Or.inr (sSum_k z).1) (fun i z => by have := sSum_k z; exact ⟨by omega, fun ts h => ty_ar h (by omega) (by omega)⟩) e
    · exact loop 6 false (sPro K V) (by omega) rfl rfl rfl (fun i z => Or.inr (sPro_k z).1) (fun i z => by have := sPro_k z; exact ⟨by omega, fun ts h => ty_ar h (by omega) (by omega)⟩) e
    · have e' : (if K i = 3 then Sum.inr (i + 1, [(0, V i)])
       else if K i = 1 ∧ gVar fm (V i) ≠ 0 then Sum.inr (i + 1, [(gVar fm (V i), 0)])
       else if K i = 4 ∧ V i = 40 then (if 7 ≤ o then Sum.inl (5, i) else rB (gR K V fm d 4 0 (o + 1) (i + 1)) (fun j c => gEx K V 41 j c))
       else if K i = 1 ∧ (V i = 26 ∨ V i = 27 ∨ V i = 21) then gR K V fm d 7 (V i) o i
       else Sum.inl (1, i) : Rs) = Sum.inr (j, cs) := e
      have gb2 : gB o 6 = 8 * (7 - o) + 2 := by unfold gB; omega
      by_cases a : K i = 3
      · rw [if_pos a] at e'
        have lm := tkM_lt hT hi (by rw [a]; decide)
        have e3 := Sum.inr.inj e'
        rw [← (Prod.mk.inj e3).1, ← (Prod.mk.inj e3).2]
        have vr := hT.2.2 i a
        exact ⟨by omega, lm, by rw [List.length_singleton]; omega, fun q hq x y => by rw [List.mem_singleton.mp hq] at x; exact absurd (show (1 : Int) ≤ 0 from x) (by decide), fun ts hts => ty_1 (ty_n (by omega) vr.1 vr.2)⟩
      rw [if_neg a] at e'
      by_cases a : K i = 1 ∧ gVar fm (V i) ≠ 0
      · rw [if_pos a] at e'
        have lm := tkM_lt hT hi (by rw [a.1]; decide)
        have e3 := Sum.inr.inj e'
        rw [← (Prod.mk.inj e3).1, ← (Prod.mk.inj e3).2]
        have vr := gVar_rg hf a.2
        exact ⟨by omega, lm, by rw [List.length_singleton]; omega, fun q hq x y => by rw [List.mem_singleton.mp hq]; exact vr.2, fun ts hts => ty_1 (ty_v (by omega) vr.1.1 vr.1.2)⟩
      rw [if_neg a] at e'
      by_cases a : K i = 4 ∧ V i = 40
      · rw [if_pos a] at e'
        by_cases b : 7 ≤ o
        · rw [if_pos b] at e'; cases e'
        · rw [if_neg b] at e'
          have lm := tkM_lt hT hi (by rw [a.1]; decide)
          obtain ⟨j1, c1, e1, e2⟩ := rB_inv e'
          obtain ⟨r1, r2, r3, r4, r5⟩ := ih' 4 (o + 1) (i + 1) (by omega) (by omega) lm j1 c1 e1
          obtain ⟨k2, x2⟩ := gEx_inv e2
          rw [(Prod.mk.inj x2).1, (Prod.mk.inj x2).2]
          have lm2 := tkM_lt hT r2 (by rw [k2.1]; decide)
          have gb : gB (o + 1) 4 + 6 = gB o 6 := by unfold gB; omega
          exact ⟨by omega, lm2, by omega, r4, fun ts hts => r5 ts (by omega)⟩
      rw [if_neg a] at e'
      by_cases a : K i = 1 ∧ (V i = 26 ∨ V i = 27 ∨ V i = 21)
      · rw [if_pos a] at e'
        have lm := tkM_lt hT hi (by rw [a.1]; decide)
        exact gW_wk (ih 7 (V i) o i (by omega) ho hi (fun _ => ⟨lm, by omega⟩) j cs e') (by unfold gB; omega)
      rw [if_neg a] at e'; cases e'
    · have e' : (if K (i + 1) = 4 ∧ V (i + 1) = 40 then (if 7 ≤ o then Sum.inl (5, i + 1) else if wd = 21 then rB (gR K V fm d 0 0 (o + 1) (i + 2)) (fun j c => rB (gEx K V 44 j c) (fun j c => gTl K V (gR K V fm d 4 0 (o + 1)) (gOp wd) j c)) else gTl K V (gR K V fm d 4 0 (o + 1)) (gOp wd) (i + 2) [])
    else Sum.inl (1, i + 1) : Rs) = Sum.inr (j, cs) := e
      obtain ⟨im, hwd⟩ := h7 rfl
      by_cases a : K (i + 1) = 4 ∧ V (i + 1) = 40
      · rw [if_pos a] at e'
        by_cases b : 7 ≤ o
        · rw [if_pos b] at e'; cases e'
        · rw [if_neg b] at e'
          have lm := tkM_lt hT (show i + 1 ≤ m by omega) (by rw [a.1]; decide)
          have rd : ∀ i, i ≤ m → gP m fm i (gB (o + 1) 4) false (gR K V fm d 4 0 (o + 1) i) := fun i hi => ih' 4 (o + 1) i (by omega) (by omega) hi
          have gb : gB (o + 1) 4 + 5 = gB o 7 := by unfold gB; omega
          by_cases c : wd = 21
          · rw [if_pos c] at e'
            obtain ⟨j1, c1, e1, e2⟩ := rB_inv e'
            obtain ⟨r1, r2, r3, r4, r5⟩ := ih' 0 (o + 1) (i + 2) (by omega) (by omega) (by omega) j1 c1 e1
            obtain ⟨j2, c2, e3, e4⟩ := rB_inv e2
            obtain ⟨k2, x2⟩ := gEx_inv e3
            have x21 := (Prod.mk.inj x2).1
            have x22 := (Prod.mk.inj x2).2
            subst x21; subst x22
            have lm2 := tkM_lt hT r2 (by rw [k2.1]; decide)
            have gb0 : gB (o + 1) 0 + 1 = gB o 7 := by unfold gB; omega
            have go : gOp wd = 44 := by rw [c]; rfl
            rw [go] at e4
            exact gTl_ok hT rd (T := fun ts => true :: ts) (by omega) lm2 (by omega) r4 (gB o 7) (fun ts hts => ⟨r5 ts (by omega), by rw [List.length_cons]; omega⟩) (fun ts hts => ty_if (by omega)) (by decide) j cs e4
          · rw [if_neg c] at e'
            have go : 36 ≤ gOp wd ∧ gOp wd ≤ 37 := by
              rcases hwd with q | q | q
              · exact absurd q c
              · rw [q]; decide
              · rw [q]; decide
            exact gTl_ok hT rd (T := fun ts => ts) (by omega) (by omega) (by rw [List.length_nil]; omega) (fun q hq => by cases hq) (gB o 7) (fun ts hts => ⟨rfl, by omega⟩) (fun ts hts => ty_ar (by omega) (by omega) go.2) (by omega) j cs e'
      · rw [if_neg a] at e'; cases e'
