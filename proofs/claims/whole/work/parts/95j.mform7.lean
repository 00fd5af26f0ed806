/-! THE READERS: the model reads a sum or a test, level by level -/
theorem segM_spl {I : mI} : ∀ {a b : List (Int × Int)} {i : Int}, segM I i (a ++ b) → segM I i a ∧ segM I (i + (a.length : Int)) b
  | [], b, i, h => by
    refine ⟨trivial, ?_⟩
    rw [List.length_nil, show i + ((0 : Nat) : Int) = i by omega]; exact h
  | q :: r, b, i, h => by
    have x := segM_spl h.2
    refine ⟨⟨h.1, x.1⟩, ?_⟩
    rw [List.length_cons, show i + ((r.length + 1 : Nat) : Int) = i + 1 + (r.length : Int) by omega]; exact x.2
section
variable {tb : Int → Int} {n : Int} {m : Nat} {b fm : Int} {f q o i : Nat} {I J : mI}
theorem mX_up {w : Nat} (hw : w = 0 ∨ w = 1 ∨ w = 4 ∨ w = 5) (h : mX tb n w q o f i I) : mX tb n (w + 1) q o f i I := by
  obtain ⟨x1, x2, x3, x4, x5, x6⟩ := h
  have gb : gB o (w + 1) + 1 = gB o w := by unfold gB; omega
  refine ⟨x1.imp id (fun x => ?_), fun l => x2 (by omega), fun l => x3 (by omega), fun l => x4 (by omega), fun l => x5 (by omega), by omega⟩
  rcases hw with rfl | rfl | rfl | rfl
  · exact Int.lt_trans x (by decide)
  · exact Int.lt_trans x (by decide)
  · exact Int.lt_trans x (by decide)
  · exact Int.lt_trans x (by decide)
/-- a bracket is closed -/
theorem m_close {kd cl : Int} {w1 : Nat} {rk : Int} {len : Nat} {Q : mI → mI → Prop} {I1 I3 J1 J3 : mI} {j : Nat} {c : List (Int × Int)} (hc : ctD tb n m) (hE : mE tb n m b fm f q o i I J) (fr : fR b f q I I1) (jk : jK J J1) (hE1 : mE tb n m b fm (f + 1) q (o + 1) (i + 1) I1 J1) (hX1 : mX tb n w1 q (o + 1) (f + 1) (i + 1) I1) (hbase : I1 182 ((f + 1 : Nat) : Int) = (q : Int)) (hkd : I1 178 ((f + 1 : Nat) : Int) = kd) (hcase : (kd = 2 ∧ w1 = 4 ∧ cl = 41 ∧ I1 179 ((f + 1 : Nat) : Int) = 0) ∨ (kd = 5 ∧ w1 = 0 ∧ cl = 93)) (h31 : I1 159 31 = I 159 31) (hself : I1 178 f = I 178 f ∧ I1 179 f = I 179 f ∧ I1 180 f = 0)
    (hA : mA tb n m b fm (f + 1) q (o + 1) w1 I1 I3 J1 J3 j c) (ok : i + 1 < j ∧ j ≤ m ∧ c.length + (i + 1) ≤ j)
    (kok : ∀ I4 J4 : mI, gEx (kN1 tb n) (vN1 tb n) cl j c = Sum.inr (j + 1, c) → mC tb n m b fm f q o rk len I I4 J J4 (j + 1) c [] → I4 179 f = (if kd = 5 then 2 else I 179 f) → GD m Q (j + 1) I4 J4)
    (kno : ∀ I4 J4 : mI, gEx (kN1 tb n) (vN1 tb n) cl j c = Sum.inl (1, j) → mNo b I I4 J J4 1 (lN1 tb n j) → Q I4 J4) : GD m Q j I3 J3 := by
  obtain ⟨⟨c1, hs, hcc, hC⟩, hP, hS⟩ := hA
  have hC' := hC
  obtain ⟨a1, a2, a3, a4, a5, a6, a7, a8, a9, a10, a11, a12, a13⟩ := hC'
  have lc : c.length = c1.length + hs.length := by rw [hcc, List.length_append, opC_len]
  have hm := hc.1
  have h31b := hE.2.2.2.2.1
  have w4 : w1 ≤ 4 := by omega
  have kd3 : I3 178 ((f + 1 : Nat) : Int) = kd := a4.trans hkd
  have gb := hX1.2.2.2.2.2
  have hH : mH (f + 1) q 1 hs I3 := mC_H0 hE1 hbase hC (show (1 : Int) ≤ rkO w1 by rcases hcase with ⟨_, e, _⟩ | ⟨_, e, _⟩ <;> rw [e] <;> decide) (by omega) ok.2.1 hm (by omega)
  have ph : 0 ≤ I3 179 ((f + 1 : Nat) : Int) ∧ I3 179 ((f + 1 : Nat) : Int) ≤ 2 := by
    rcases hcase with ⟨_, e, _, e0⟩ | ⟨_, e, _⟩
    · have := hP.2.2 (by omega); omega
    · have := hP.1 (by omega); omega
  refine gd_g ok.2.1 a12 (Nat.lt_succ_self j) (fun Qg kq kd' => go_cls (f := f) (q := q) (hs := hs) hc a3 (by rw [kd3]; omega) ph (fun l => ⟨hS.2.1 w4 (by omega), hS.1 (by omega) (by omega)⟩) (fun t => ?_) hH (by omega) (cl := cl) ?_ (ex := []) ?_ (fun I4 nb hn => kd' I4 J3 (kno I4 J3 ?_ (mNo_t (fR_t fr (fR_wk a1 (Nat.le_succ f) (Nat.le_refl q)) (Nat.le_refl f) (Nat.le_refl q)).1 (jK_t jk a2) hn))) (fun a I4 J4 s1 s2 s3 s4 s5 s6 s7 s8 s9 s10 s11 s12 s13 => kq I4 J4 s4 (kok I4 J4 ?_ ?_ ?_)))
  · rcases hcase with ⟨e, _⟩ | ⟨_, e, _⟩
    · rw [kd3, e] at t
      rcases t with x | x | x <;> exact absurd x (by decide)
    · have := hP.1 (by omega)
      exact ⟨by omega, hS.2.2.1 (by omega), hS.2.2.2 e⟩
  · rw [kd3]
    rcases hcase with ⟨e, _, e2, _⟩ | ⟨e, _, e2⟩
    · rw [e, e2]; rfl
    · rw [e, e2]; rfl
  · rw [kd3, if_neg (by omega)]
  · unfold gEx; rw [if_neg nb]
  · unfold gEx; rw [if_pos a]
  · have im : j < m := tkM_lt (tkM_of hc) ok.2.1 (by rw [a.1]; decide)
    refine mC_nil (fR_t fr (fR_t (fR_wk a1 (Nat.le_succ f) (Nat.le_refl q)) s1 (Nat.le_refl f) (Nat.le_refl q)) (Nat.le_refl f) (Nat.le_refl q)) (jK_t jk (jK_t a2 s2)) ⟨s3, im, s4, by rw [s1.1.2.1 32 (by omega)]; exact a3.2.2.2.1, by rw [s1.1.2.1 33 (by omega)]; exact a3.2.2.2.2.1, s5, by have := a3.2.2.2.2.2.2; omega⟩ ?_ ?_ ?_ s6 ?_ (s10.trans a12) ?_
    · rw [s11, (a1.2.2.1 f (by omega)).1]; exact hself.1
    · rw [s7, a5, h31, List.length_nil]; omega
    · rw [hcc]
      rw [← h31]
      refine segM_ap (segM_lo (fun z _ h => s1.2.2.2.2.2 z (by omega)) a6) ?_
      rw [List.append_nil] at s9
      rw [show 1600 * b + I1 159 31 + (c1.length : Int) = 1600 * b + I3 159 31 by omega]; exact s9
    · rw [s8, a9]; omega
    · rw [s13, (a1.2.2.1 f (by omega)).2.2]; exact hself.2.2
  · rw [s12, kd3, (a1.2.2.1 f (by omega)).2.1, hself.2.1]
/-- the state of a frame begun -/
theorem mE_open {kd : Int} {w1 : Nat} {I6 I' I'' J' : mI} {i1 : Nat} (him1 : i1 ≤ m) (hii : i ≤ i1) (hE : mE tb n m b fm f q o i I J) (hX : ∃ w, mX tb n w q o f i I ∧ gB (o + 1) w1 ≤ gB o w) (o7 : ¬ 7 ≤ o) (fr6 : fR b f q I I6) (h31 : I6 159 31 = I 159 31) (hr : opnR tb n b f i1 q o kd I6 I' J J') (fz : ∀ z, z ≠ 159 → I'' z = I' z) (fj : ∀ j, j ≠ 43 → I'' 159 j = I' 159 j) (f43 : I'' 159 43 = 0) :
    fR b f q I I'' ∧ mE tb n m b fm (f + 1) q (o + 1) i1 I'' J' ∧ I'' 182 ((f + 1 : Nat) : Int) = q ∧ I'' 178 ((f + 1 : Nat) : Int) = kd ∧ I'' 179 ((f + 1 : Nat) : Int) = 0 ∧ I'' 180 ((f + 1 : Nat) : Int) = 1 ∧ I'' 159 31 = I 159 31 ∧ (I'' 178 f = I6 178 f ∧ I'' 179 f = I6 179 f ∧ I'' 180 f = I6 180 f) ∧ q + gB (o + 1) w1 ≤ 64 := by
  obtain ⟨r1, r2, r3, r4, r5, r6, r7, r8, ⟨r9a, r9b, r9c, r9d⟩, ⟨r10a, r10b, r10c⟩⟩ := hr
  obtain ⟨e1, e2, e3, e4, e5, e6, e7, e8⟩ := hE
  obtain ⟨w, hx, hg⟩ := hX
  have fr : fR b f q I I'' := fR_t fr6 (fR_t r1 (fR_43 fz fj) (Nat.le_refl f) (Nat.le_refl q)) (Nat.le_refl f) (Nat.le_refl q)
  have e31 : I'' 159 31 = I 159 31 := by rw [fj 31 (by decide), r7, h31]
  have b182 : I'' 182 ((f + 1 : Nat) : Int) = q := by rw [fz 182 (by decide)]; exact r9d
  refine ⟨fr, ⟨⟨mS_f r3 (fz 160 (by decide)) (fun j _ _ => fj j (by omega)) rfl, him1, (fj 8 (by decide)).trans r4, by rw [fr.1.2.1 32 (by omega)]; exact e1.2.2.2.1, by rw [fr.1.2.1 33 (by omega)]; exact e1.2.2.2.2.1, by rw [fj 39 (by decide), r5]; omega, by omega⟩, (fj 42 (by decide)).trans r6, by rw [fj 40 (by decide), r8]; omega, by rw [b182]; omega, by rw [e31]; omega, by omega, by omega, f43⟩, b182, by rw [fz 178 (by decide)]; exact r9a, by rw [fz 179 (by decide)]; exact r9b, by rw [fz 180 (by decide)]; exact r9c, e31, ⟨by rw [fz 178 (by decide)]; exact r10a, by rw [fz 179 (by decide)]; exact r10b, by rw [fz 180 (by decide)]; exact r10c⟩, by have := hx.2.2.2.2.2; omega⟩
theorem mX_sum {I'' : mI} {f' q' o' i' : Nat} (hb : I'' 182 f' = (q' : Int)) (h0 : I'' 179 f' = 0) (ht : ¬ isT (I'' 178 f')) (hq : q' + gB o' 4 ≤ 64) : mX tb n 4 q' o' f' i' I'' := ⟨Or.inl hb, fun l => by omega, fun l => by omega, fun _ => Or.inl h0, fun _ t => absurd t ht, hq⟩
theorem mX_tst {I'' : mI} {f' q' o' i' : Nat} (hb : I'' 182 f' = (q' : Int)) (h0 : I'' 179 f' = 0) (ht : isT (I'' 178 f')) (h1 : I'' 180 f' = 1) (hq : q' + gB o' 0 ≤ 64) : mX tb n 0 q' o' f' i' I'' := ⟨Or.inl hb, fun _ => ⟨ht, h0⟩, fun _ => by rw [h1]; decide, fun l => by omega, fun l => by omega, hq⟩
/-- within min, max, if: the state between two pieces -/
def mT (tb : Int → Int) (n : Int) (m : Nat) (b fm : Int) (f q o : Nat) (op kd : Int) (I I1 J J1 : mI) (j : Nat) (c : List (Int × Int)) : Prop := fR b f q I I1 ∧ jK J J1 ∧ mE tb n m b fm (f + 1) q (o + 1) j I1 J1 ∧ I1 182 ((f + 1 : Nat) : Int) = (q : Int) ∧ I1 159 31 = I 159 31 + (c.length : Int) ∧ segM I1 (1600 * b + I 159 31) c ∧ I1 178 ((f + 1 : Nat) : Int) = kd ∧ I1 179 ((f + 1 : Nat) : Int) = 0 ∧ I1 181 ((f + 1 : Nat) : Int) = op ∧ (I1 178 f = I 178 f ∧ I1 179 f = I 179 f ∧ I1 180 f = 0) ∧ q + gB (o + 1) 0 ≤ 64
/-- a piece, then a comma -/
theorem m_piece {op kd : Int} {w1 : Nat} {Q : mI → mI → Prop} {I1 I3 J1 J3 : mI} {i1 j : Nat} {c c2 : List (Int × Int)} (hc : ctD tb n m) (hi0 : 0 ≤ I 159 31 ∧ I 159 31 ≤ (i : Int)) (hT : mT tb n m b fm f q o op kd I I1 J J1 i1 c) (hcl : c.length + i + 1 ≤ i1) (hw : (kd = 3 ∧ w1 = 4) ∨ (kd = 6 ∧ w1 = 0)) (hA : mA tb n m b fm (f + 1) q (o + 1) w1 I1 I3 J1 J3 j c2) (ok : i1 < j ∧ j ≤ m ∧ c2.length + i1 ≤ j)
    (kok : ∀ I4 J4 : mI, gEx (kN1 tb n) (vN1 tb n) 44 j (c ++ c2) = Sum.inr (j + 1, c ++ c2) → mT tb n m b fm f q o op (if kd = 3 then 4 else 3) I I4 J J4 (j + 1) (c ++ c2) → GD m Q (j + 1) I4 J4)
    (kno : ∀ I4 J4 : mI, gEx (kN1 tb n) (vN1 tb n) 44 j (c ++ c2) = Sum.inl (1, j) → mNo b I I4 J J4 1 (lN1 tb n j) → Q I4 J4) : GD m Q j I3 J3 := by
  obtain ⟨t1, t2, t3, t4, t5, t6, t7, t8, t9, t10, t11⟩ := hT
  obtain ⟨⟨c1, hs, hcc, hC⟩, hP, hS⟩ := hA
  have hC' := hC
  obtain ⟨a1, a2, a3, a4, a5, a6, a7, a8, a9, a10, a11, a12, a13⟩ := hC'
  have lc : c2.length = c1.length + hs.length := by rw [hcc, List.length_append, opC_len]
  have hm := hc.1
  have kd3 : I3 178 ((f + 1 : Nat) : Int) = kd := a4.trans t7
  have g0 : gB (o + 1) w1 ≤ gB (o + 1) 0 := by unfold gB; omega
  have nr := nts_rg hs
  obtain ⟨e1, e2, e3, e4, e5, e6, e7, e8⟩ := t3
  have hH : mH (f + 1) q 1 hs I3 := by
    refine ⟨a7, a8, ?_, by omega, by omega, by omega, by omega, fun x hx => by have := rkF_rg x; omega, ?_⟩
    · rw [(a1.2.1 _ (Int.le_refl _)).1]; exact e4
    · rw [(a1.2.1 _ (Int.le_refl _)).1]; exact Or.inl t4
  have ph : 0 ≤ I3 179 ((f + 1 : Nat) : Int) ∧ I3 179 ((f + 1 : Nat) : Int) ≤ 2 := by
    rcases hw with ⟨_, e⟩ | ⟨_, e⟩
    · have := hP.2.2 (by omega); omega
    · have := hP.1 (by omega); omega
  have fr3 : fR b f q I I3 := fR_t t1 (fR_wk a1 (Nat.le_succ f) (Nat.le_refl q)) (Nat.le_refl f) (Nat.le_refl q)
  refine gd_g ok.2.1 a12 (Nat.lt_succ_self j) (fun Qg kq kd' => go_com (f := f + 1) (q := q) (hs := hs) hc a3 (by rw [kd3]; omega) ph (fun l => ⟨hS.2.1 (by omega) (by omega), hS.1 (by omega) (by omega)⟩) (fun t => ?_) hH (fun I4 nb hn => kd' I4 J3 (kno I4 J3 ?_ (mNo_t fr3.1 (jK_t t2 a2) hn))) (fun a I4 J4 s1 s2 s3 s4 s5 s6 s7 s8 s9 s10 s11 s12 => kq I4 J4 s4 (kok I4 J4 ?_ ?_)))
  · rcases hw with ⟨e, _⟩ | ⟨_, e⟩
    · rw [kd3, e] at t
      rcases t with x | x | x <;> exact absurd x (by decide)
    · have := hP.1 (by omega)
      exact ⟨by omega, hS.2.2.1 (by omega), hS.2.2.2 e⟩
  · unfold gEx; rw [if_neg nb]
  · unfold gEx; rw [if_pos a]
  · have im : j < m := tkM_lt (tkM_of hc) ok.2.1 (by rw [a.1]; decide)
    have fr4 : fR b (f + 1) q I1 I4 := fR_t a1 s1 (Nat.le_refl _) (Nat.le_refl q)
    have b182 : I4 182 ((f + 1 : Nat) : Int) = (q : Int) := by rw [(fr4.2.1 _ (Int.le_refl _)).1]; exact t4
    have e31 : I4 159 31 = I 159 31 + ((c ++ c2).length : Int) := by rw [List.length_append, s7, a5, t5]; omega
    refine ⟨fR_t fr3 (fR_wk s1 (Nat.le_succ f) (Nat.le_refl q)) (Nat.le_refl f) (Nat.le_refl q), jK_t t2 (jK_t a2 s2), ⟨⟨s3, im, s4, by rw [s1.1.2.1 32 (by omega)]; exact a3.2.2.2.1, by rw [s1.1.2.1 33 (by omega)]; exact a3.2.2.2.2.1, s5.trans a3.2.2.2.2.2.1, a3.2.2.2.2.2.2⟩, s6, by rw [s8, a9]; omega, by rw [b182]; omega, ?_, e6, e7, s10⟩, b182, e31, ?_, by rw [s11, kd3], s12, ?_, ⟨?_, ?_, ?_⟩, t11⟩
    · rw [e31, List.length_append]; omega
    · refine segM_ap (segM_lo (fun z _ h => fr4.2.2.2.2.2 z (by omega)) t6) ?_
      rw [hcc]
      refine segM_ap (segM_lo (I := I3) (fun z _ h => s1.2.2.2.2.2 z (by omega)) ?_) ?_
      · rw [show 1600 * b + I 159 31 + (c.length : Int) = 1600 * b + I1 159 31 by omega]; exact a6
      · rw [show 1600 * b + I 159 31 + (c.length : Int) + (c1.length : Int) = 1600 * b + I3 159 31 by omega]; exact s9
    · rw [(fr4.2.1 _ (Int.le_refl _)).2]; exact t9
    · rw [(fr4.2.2.1 f (by omega)).1]; exact t10.1
    · rw [(fr4.2.2.1 f (by omega)).2.1]; exact t10.2.1
    · rw [(fr4.2.2.1 f (by omega)).2.2]; exact t10.2.2
/-- the last piece, and what closes -/
theorem m_last {op : Int} {rk : Int} {len : Nat} {Q : mI → mI → Prop} {I1 I3 J1 J3 : mI} {i1 j : Nat} {c c2 : List (Int × Int)} (hc : ctD tb n m) (hi0 : 0 ≤ I 159 31 ∧ I 159 31 ≤ (i : Int)) (ho7 : f ≤ 8) (hT : mT tb n m b fm f q o op 4 I I1 J J1 i1 c) (hcl : c.length + i + 1 ≤ i1) (hA : mA tb n m b fm (f + 1) q (o + 1) 4 I1 I3 J1 J3 j c2) (ok : i1 < j ∧ j ≤ m ∧ c2.length + i1 ≤ j)
    (kok : ∀ I4 J4 : mI, gEx (kN1 tb n) (vN1 tb n) 41 j (c ++ c2) = Sum.inr (j + 1, c ++ c2) → mC tb n m b fm f q o rk len I I4 J J4 (j + 1) ((c ++ c2) ++ [(op, 0)]) [] → I4 179 f = I 179 f → GD m Q (j + 1) I4 J4)
    (kno : ∀ I4 J4 : mI, gEx (kN1 tb n) (vN1 tb n) 41 j (c ++ c2) = Sum.inl (1, j) → mNo b I I4 J J4 1 (lN1 tb n j) → Q I4 J4) : GD m Q j I3 J3 := by
  obtain ⟨t1, t2, t3, t4, t5, t6, t7, t8, t9, t10, t11⟩ := hT
  obtain ⟨⟨c1, hs, hcc, hC⟩, hP, hS⟩ := hA
  have hC' := hC
  obtain ⟨a1, a2, a3, a4, a5, a6, a7, a8, a9, a10, a11, a12, a13⟩ := hC'
  have lc : c2.length = c1.length + hs.length := by rw [hcc, List.length_append, opC_len]
  have hm := hc.1
  have kd3 : I3 178 ((f + 1 : Nat) : Int) = 4 := a4.trans t7
  have g0 : gB (o + 1) 4 ≤ gB (o + 1) 0 := by unfold gB; omega
  have nr := nts_rg hs
  obtain ⟨e1, e2, e3, e4, e5, e6, e7, e8⟩ := t3
  have hH : mH (f + 1) q 1 hs I3 := by
    refine ⟨a7, a8, ?_, by omega, by omega, by omega, by omega, fun x hx => by have := rkF_rg x; omega, ?_⟩
    · rw [(a1.2.1 _ (Int.le_refl _)).1]; exact e4
    · rw [(a1.2.1 _ (Int.le_refl _)).1]; exact Or.inl t4
  have p0 : I3 179 ((f + 1 : Nat) : Int) = 0 := (hP.2.2 (by decide)).trans t8
  have e181 : I3 181 ((f + 1 : Nat) : Int) = op := by rw [(a1.2.1 _ (Int.le_refl _)).2]; exact t9
  have fr3 : fR b f q I I3 := fR_t t1 (fR_wk a1 (Nat.le_succ f) (Nat.le_refl q)) (Nat.le_refl f) (Nat.le_refl q)
  refine gd_g ok.2.1 a12 (Nat.lt_succ_self j) (fun Qg kq kd' => go_cls (f := f) (q := q) (hs := hs) hc a3 (by rw [kd3]; omega) (by omega) (fun l => ⟨hS.2.1 (by decide) (by omega), hS.1 (by decide) (by omega)⟩) (fun t => ?_) hH (by omega) (cl := 41) (by rw [kd3]; rfl) (ex := [(op, 0)]) (by rw [kd3, e181]; rfl) (fun I4 nb hn => kd' I4 J3 (kno I4 J3 ?_ (mNo_t fr3.1 (jK_t t2 a2) hn))) (fun a I4 J4 s1 s2 s3 s4 s5 s6 s7 s8 s9 s10 s11 s12 s13 => kq I4 J4 s4 (kok I4 J4 ?_ ?_ ?_)))
  · rw [kd3] at t
    rcases t with x | x | x <;> exact absurd x (by decide)
  · unfold gEx; rw [if_neg nb]
  · unfold gEx; rw [if_pos a]
  · have im : j < m := tkM_lt (tkM_of hc) ok.2.1 (by rw [a.1]; decide)
    have l1 : (([(op, 0)] : List (Int × Int)).length : Int) = 1 := rfl
    refine mC_nil (fR_t fr3 s1 (Nat.le_refl f) (Nat.le_refl q)) (jK_t t2 (jK_t a2 s2)) ⟨s3, im, s4, by rw [s1.1.2.1 32 (by omega)]; exact a3.2.2.2.1, by rw [s1.1.2.1 33 (by omega)]; exact a3.2.2.2.2.1, s5, ho7⟩ ?_ ?_ ?_ s6 ?_ (s10.trans a12) ?_
    · rw [s11, (a1.2.2.1 f (by omega)).1]; exact t10.1
    · rw [List.length_append, List.length_append, List.length_singleton, s7, a5, t5, l1]; omega
    · refine segM_ap (segM_ap (segM_lo (fun z _ h => ?_) t6) ?_) ?_
      · have x := a1.2.2.2.2.2 z (by omega)
        have y := s1.2.2.2.2.2 z (by omega)
        exact ⟨y.1.trans x.1, y.2.trans x.2⟩
      · rw [hcc]
        refine segM_ap (segM_lo (I := I3) (fun z _ h => s1.2.2.2.2.2 z (by omega)) ?_) ?_
        · rw [show 1600 * b + I 159 31 + (c.length : Int) = 1600 * b + I1 159 31 by omega]; exact a6
        · rw [show 1600 * b + I 159 31 + (c.length : Int) + (c1.length : Int) = 1600 * b + I3 159 31 by omega]
          exact (segM_spl s9).1
      · rw [List.length_append, show 1600 * b + I 159 31 + ((c.length + c2.length : Nat) : Int) = 1600 * b + I3 159 31 + ((opC hs).length : Int) by rw [opC_len]; omega]
        exact (segM_spl s9).2
    · rw [s8, a9]; omega
    · rw [s13, (a1.2.2.1 f (by omega)).2.2]; exact t10.2.2
  · rw [s12, kd3, (a1.2.2.1 f (by omega)).2.1]; exact t10.2.1
end
