/-! A formula's steps on a stack: values, kinds -/
def stk (J : mI) (o : Nat) : List Int → Prop
  | [] => True
  | x :: r => J o (r.length : Int) = x ∧ stk J o r
theorem stk_up {J : mI} {o : Nat} {k v : Int} : ∀ {st : List Int}, stk J o st → (st.length : Int) ≤ k → stk (up J o k v) o st
  | [], _, _ => trivial
  | x :: r, h, hk => by
    have hl : ((x :: r).length : Int) = (r.length : Int) + 1 := by rw [List.length_cons]; omega
    refine ⟨?_, stk_up h.2 (by omega)⟩
    unfold up
    rw [if_neg (fun q => by have := q.2; omega)]
    exact h.1
theorem stk_push {J : mI} {o : Nat} {k v : Int} {st : List Int} (h : stk J o st) (hk : k = (st.length : Int)) : stk (up J o k v) o (v :: st) := by
  refine ⟨?_, stk_up h (by omega)⟩
  unfold up
  rw [if_pos ⟨rfl, hk.symm⟩]
def tv : List Bool → List Int → Prop
  | [], [] => True
  | t :: ts, x :: r => (vIn x ∧ (t = true → vT01 x)) ∧ tv ts r
  | _, _ => False
theorem tv_len : ∀ {ts : List Bool} {st : List Int}, tv ts st → ts.length = st.length
  | [], [], _ => rfl
  | _ :: _, _ :: _, h => congrArg (· + 1) (tv_len h.2)
  | [], _ :: _, h => h.elim
  | _ :: _, [], h => h.elim
def tyS (q : Int × Int) (ts : List Bool) : Option (List Bool) :=
  if 88 < ts.length then none
  else if q.1 = 0 then (if 0 ≤ q.2 ∧ q.2 ≤ 9999 then some (false :: ts) else none)
  else if 1 ≤ q.1 ∧ q.1 ≤ 9 then some (false :: ts)
  else if q.1 = 30 then some (true :: ts)
  else if q.1 = 43 then (match ts with | true :: r => some (true :: r) | _ => none)
  else if q.1 = 44 then (match ts with | false :: false :: true :: r => some (false :: r) | _ => none)
  else if 31 ≤ q.1 ∧ q.1 ≤ 37 then (match ts with | false :: false :: r => some (false :: r) | _ => none)
  else if 38 ≤ q.1 ∧ q.1 ≤ 40 then (match ts with | false :: false :: r => some (true :: r) | _ => none)
  else if 41 ≤ q.1 ∧ q.1 ≤ 42 then (match ts with | true :: true :: r => some (true :: r) | _ => none)
  else none
def evS (env : Int → Int) (q : Int × Int) (st : List Int) : List Int :=
  if q.1 = 0 then q.2 :: st
  else if q.1 ≤ 9 then env q.1 :: st
  else if q.1 = 30 then 1 :: st
  else if q.1 = 43 then (match st with | x :: r => (1 - x) :: r | r => r)
  else if q.1 = 44 then (match st with | c :: b :: a :: r => (if a = 1 then b else c) :: r | r => r)
  else (match st with | b :: a :: r => opF q.1 a b :: r | r => r)
def tyR : List (Int × Int) → List Bool → Option (List Bool)
  | [], ts => some ts
  | q :: c, ts => (tyS q ts).bind (tyR c)
def evR (env : Int → Int) : List (Int × Int) → List Int → List Int
  | [], st => st
  | q :: c, st => evR env c (evS env q st)
/-- the same step as the class writes it -/
def enc (q : Int × Int) : Int := if q.1 = 0 then q.2 else if q.1 ≤ 9 then -q.1 else if q.1 = 30 then 1 else 21 - q.1
/-- the seven sorts of step, each with what it finds on the stack -/
theorem tyS_cases {q : Int × Int} {ts ts' : List Bool} {st : List Int} (h : tyS q ts = some ts') (hv : tv ts st) : ts.length ≤ 88 ∧
    ((q.1 = 0 ∧ 0 ≤ q.2 ∧ q.2 ≤ 9999 ∧ ts' = false :: ts) ∨ (1 ≤ q.1 ∧ q.1 ≤ 9 ∧ ts' = false :: ts) ∨ (q.1 = 30 ∧ ts' = true :: ts) ∨
     (q.1 = 43 ∧ ∃ r x s, ts = true :: r ∧ st = x :: s ∧ vT01 x ∧ tv r s ∧ ts' = true :: r) ∨
     (q.1 = 44 ∧ ∃ r c b a s, ts = false :: false :: true :: r ∧ st = c :: b :: a :: s ∧ vIn c ∧ vIn b ∧ vT01 a ∧ tv r s ∧ ts' = false :: r) ∨
     (31 ≤ q.1 ∧ q.1 ≤ 42 ∧ ∃ t u r b a s, ts = t :: t :: r ∧ st = b :: a :: s ∧ vIn a ∧ vIn b ∧ (41 ≤ q.1 → vT01 a ∧ vT01 b) ∧ tv r s ∧ ts' = u :: r ∧ (u = true ↔ 38 ≤ q.1))) := by
  unfold tyS at h
  by_cases h0 : 88 < ts.length
  · rw [if_pos h0] at h; cases h
  rw [if_neg h0] at h
  refine ⟨by omega, ?_⟩
  by_cases e : q.1 = 0
  · rw [if_pos e] at h
    by_cases e2 : 0 ≤ q.2 ∧ q.2 ≤ 9999
    · rw [if_pos e2] at h; exact Or.inl ⟨e, e2.1, e2.2, (Option.some.inj h).symm⟩
    · rw [if_neg e2] at h; cases h
  rw [if_neg e] at h
  by_cases e1 : 1 ≤ q.1 ∧ q.1 ≤ 9
  · rw [if_pos e1] at h; exact Or.inr (Or.inl ⟨e1.1, e1.2, (Option.some.inj h).symm⟩)
  rw [if_neg e1] at h
  by_cases e2 : q.1 = 30
  · rw [if_pos e2] at h; exact Or.inr (Or.inr (Or.inl ⟨e2, (Option.some.inj h).symm⟩))
  rw [if_neg e2] at h
  by_cases e3 : q.1 = 43
  · rw [if_pos e3] at h
    match ts, st, hv, h with
    | true :: r, x :: s, hv, h => exact Or.inr (Or.inr (Or.inr (Or.inl ⟨e3, r, x, s, rfl, rfl, hv.1.2 rfl, hv.2, (Option.some.inj h).symm⟩)))
  rw [if_neg e3] at h
  by_cases e4 : q.1 = 44
  · rw [if_pos e4] at h
    match ts, st, hv, h with
    | false :: false :: true :: r, c :: b :: a :: s, hv, h => exact Or.inr (Or.inr (Or.inr (Or.inr (Or.inl ⟨e4, r, c, b, a, s, rfl, rfl, hv.1.1, hv.2.1.1, hv.2.2.1.2 rfl, hv.2.2.2, (Option.some.inj h).symm⟩))))
  rw [if_neg e4] at h
  by_cases e5 : 31 ≤ q.1 ∧ q.1 ≤ 37
  · rw [if_pos e5] at h
    match ts, st, hv, h with
    | false :: false :: r, b :: a :: s, hv, h => exact Or.inr (Or.inr (Or.inr (Or.inr (Or.inr ⟨e5.1, by omega, false, false, r, b, a, s, rfl, rfl, hv.2.1.1, hv.1.1, fun q => by omega, hv.2.2, (Option.some.inj h).symm, ⟨fun q => (by cases q), fun q => (by omega)⟩⟩))))
  rw [if_neg e5] at h
  by_cases e6 : 38 ≤ q.1 ∧ q.1 ≤ 40
  · rw [if_pos e6] at h
    match ts, st, hv, h with
    | false :: false :: r, b :: a :: s, hv, h => exact Or.inr (Or.inr (Or.inr (Or.inr (Or.inr ⟨by omega, by omega, false, true, r, b, a, s, rfl, rfl, hv.2.1.1, hv.1.1, fun q => by omega, hv.2.2, (Option.some.inj h).symm, ⟨fun _ => e6.1, fun _ => rfl⟩⟩))))
  rw [if_neg e6] at h
  by_cases e7 : 41 ≤ q.1 ∧ q.1 ≤ 42
  · rw [if_pos e7] at h
    match ts, st, hv, h with
    | true :: true :: r, b :: a :: s, hv, h => exact Or.inr (Or.inr (Or.inr (Or.inr (Or.inr ⟨by omega, by omega, true, true, r, b, a, s, rfl, rfl, hv.2.1.1, hv.1.1, fun _ => ⟨hv.2.1.2 rfl, hv.1.2 rfl⟩, hv.2.2, (Option.some.inj h).symm, ⟨fun _ => by omega, fun _ => rfl⟩⟩))))
  · rw [if_neg e7] at h; cases h
theorem t01_in {x : Int} (h : vT01 x) : vIn x := by rcases h with rfl | rfl <;> decide
theorem evS_tv {q : Int × Int} {ts ts' : List Bool} {st : List Int} {env : Int → Int} (h : tyS q ts = some ts') (hv : tv ts st) (he : 1 ≤ q.1 → q.1 ≤ 9 → vIn (env q.1)) : tv ts' (evS env q st) := by
  obtain ⟨h0, hc⟩ := tyS_cases h hv
  unfold evS
  rcases hc with ⟨e, a1, a2, rfl⟩ | ⟨e1, e2, rfl⟩ | ⟨e, rfl⟩ | ⟨e, r, x, s, rfl, rfl, hx, hr, rfl⟩ | ⟨e, r, c, b, a, s, rfl, rfl, hc, hb, ha, hr, rfl⟩ | ⟨e1, e2, t, u, r, b, a, s, rfl, rfl, ha, hb, h4, hr, rfl, hu⟩
  · rw [if_pos e]; exact ⟨⟨by omega, fun q => by cases q⟩, hv⟩
  · rw [if_neg (by omega), if_pos e2]; exact ⟨⟨he e1 e2, fun q => by cases q⟩, hv⟩
  · rw [if_neg (by omega), if_neg (by omega), if_pos e]; exact ⟨⟨by omega, fun _ => Or.inr rfl⟩, hv⟩
  · rw [if_neg (by omega), if_neg (by omega), if_neg (by omega), if_pos e]
    refine ⟨⟨by omega, fun _ => ?_⟩, hr⟩
    rcases hx with rfl | rfl
    · exact Or.inr rfl
    · exact Or.inl rfl
  · rw [if_neg (by omega), if_neg (by omega), if_neg (by omega), if_neg (by omega), if_pos e]
    refine ⟨⟨?_, fun q => by cases q⟩, hr⟩
    by_cases h1 : a = 1
    · rw [if_pos h1]; exact hb
    · rw [if_neg h1]; exact hc
  · rw [if_neg (by omega), if_neg (by omega), if_neg (by omega), if_neg (by omega), if_neg (by omega)]
    by_cases h1 : 38 ≤ q.1
    · have h2 := opF_T (s := q.1) (a := a) (b := b) h1 (by by_cases h3 : q.1 ≤ 40; exact Or.inl h3; exact Or.inr (h4 (by omega)))
      exact ⟨⟨t01_in h2, fun _ => h2⟩, hr⟩
    · refine ⟨⟨opF_I (by omega) e1 ha hb, fun q => absurd (hu.mp q) h1⟩, hr⟩
