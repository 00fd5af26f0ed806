/-! THE READERS: the model reads a sum or a test, level by level -/
section
variable {tb : Int → Int} {n : Int} {m : Nat} {b fm : Int} {f q o i : Nat} {I J : mI}
theorem mX_up {w : Nat} (hw : w = 0 ∨ w = 1 ∨ w = 4 ∨ w = 5) (h : mX tb n w q o f i I) : mX tb n (w + 1) q o f i I := by
  obtain ⟨x1, x2, x3, x4, x5, x6⟩ := h
  have gb : gB o (w + 1) + 1 = gB o w := by unfold gB; omega
  refine ⟨x1.imp id (fun x => ?_), fun l => x2 (by omega), fun l => x3 (by omega), fun l => x4 (by omega), fun l => x5 (by omega), by omega⟩
  rcases hw with rfl | rfl | rfl | rfl
  · exact Int.lt_trans x (by decide)
  · exact Int.lt_trans x (by decide)
  · exact Int.lt_trans x (by decide)
  · exact Int.lt_trans x (by decide)
/-- a bracket is closed -/
theorem m_close {kd cl : Int} {w1 : Nat} {rk : Int} {len : Nat} {Q : mI → mI → Prop} {I1 I3 J1 J3 : mI} {j : Nat} {c : List (Int × Int)} (hc : ctD tb n m) (hE : mE tb n m b fm f q o i I J) (fr : fR b f q I I1) (jk : jK J J1) (hE1 : mE tb n m b fm (f + 1) q (o + 1) (i + 1) I1 J1) (hX1 : mX tb n w1 q (o + 1) (f + 1) (i + 1) I1) (hbase : I1 182 ((f + 1 : Nat) : Int) = (q : Int)) (hkd : I1 178 ((f + 1 : Nat) : Int) = kd) (hcase : (kd = 2 ∧ w1 = 4 ∧ cl = 41 ∧ I1 179 ((f + 1 : Nat) : Int) = 0) ∨ (kd = 5 ∧ w1 = 0 ∧ cl = 93)) (h31 : I1 159 31 = I 159 31) (hself : I1 178 f = I 178 f ∧ I1 179 f = I 179 f ∧ I1 180 f = 0)
    (hA : mA tb n m b fm (f + 1) q (o + 1) w1 I1 I3 J1 J3 j c) (ok : i + 1 < j ∧ j ≤ m ∧ c.length + (i + 1) ≤ j)
    (kok : ∀ I4 J4 : mI, gEx (kN1 tb n) (vN1 tb n) cl j c = Sum.inr (j + 1, c) → mC tb n m b fm f q o rk len I I4 J J4 (j + 1) c [] → I4 179 f = (if kd = 5 then 2 else I 179 f) → GD m Q (j + 1) I4 J4)
    (kno : ∀ I4 J4 : mI, gEx (kN1 tb n) (vN1 tb n) cl j c = Sum.inl (1, j) → mNo b I I4 J J4 1 (lN1 tb n j) → Q I4 J4) : GD m Q j I3 J3 := by
  obtain ⟨⟨c1, hs, hcc, hC⟩, hP, hS⟩ := hA
  have hC' := hC
  obtain ⟨a1, a2, a3, a4, a5, a6, a7, a8, a9, a10, a11, a12, a13⟩ := hC'
  have lc : c.length = c1.length + hs.length := by rw [hcc, List.length_append, opC_len]
  have hm := hc.1
  have h31b := hE.2.2.2.2.1
  have w4 : w1 ≤ 4 := by omega
  have kd3 : I3 178 ((f + 1 : Nat) : Int) = kd := a4.trans hkd
  have gb := hX1.2.2.2.2.2
  have hH : mH (f + 1) q 1 hs I3 := mC_H0 hE1 hbase hC (show (1 : Int) ≤ rkO w1 by rcases hcase with ⟨_, e, _⟩ | ⟨_, e, _⟩ <;> rw [e] <;> decide) (by omega) ok.2.1 hm (by omega)
  have ph : 0 ≤ I3 179 ((f + 1 : Nat) : Int) ∧ I3 179 ((f + 1 : Nat) : Int) ≤ 2 := by
    rcases hcase with ⟨_, e, _, e0⟩ | ⟨_, e, _⟩
    · have := hP.2.2 (by omega); omega
    · have := hP.1 (by omega); omega
  refine gd_g ok.2.1 a12 (Nat.lt_succ_self j) (fun Qg kq kd' => go_cls (f := f) (q := q) (hs := hs) hc a3 (by rw [kd3]; omega) ph (fun l => ⟨hS.2.1 w4 (by omega), hS.1 (by omega) (by omega)⟩) (fun t => ?_) hH (by omega) (cl := cl) ?_ (ex := []) ?_ (fun I4 nb hn => kd' I4 J3 (kno I4 J3 ?_ (mNo_t (fR_t fr (fR_wk a1 (Nat.le_succ f) (Nat.le_refl q)) (Nat.le_refl f) (Nat.le_refl q)).1 (jK_t jk a2) hn))) (fun a I4 J4 s1 s2 s3 s4 s5 s6 s7 s8 s9 s10 s11 s12 s13 => kq I4 J4 s4 (kok I4 J4 ?_ ?_ ?_)))
  · rcases hcase with ⟨e, _⟩ | ⟨_, e, _⟩
    · rw [kd3, e] at t
      rcases t with x | x | x <;> exact absurd x (by decide)
    · have := hP.1 (by omega)
      exact ⟨by omega, hS.2.2.1 (by omega), hS.2.2.2 e⟩
  · rw [kd3]
    rcases hcase with ⟨e, _, e2, _⟩ | ⟨e, _, e2⟩
    · rw [e, e2]; rfl
    · rw [e, e2]; rfl
  · rw [kd3, if_neg (by omega)]
  · unfold gEx; rw [if_neg nb]
  · unfold gEx; rw [if_pos a]
  · have im : j < m := tkM_lt (tkM_of hc) ok.2.1 (by rw [a.1]; decide)
    refine mC_nil (fR_t fr (fR_t (fR_wk a1 (Nat.le_succ f) (Nat.le_refl q)) s1 (Nat.le_refl f) (Nat.le_refl q)) (Nat.le_refl f) (Nat.le_refl q)) (jK_t jk (jK_t a2 s2)) ⟨s3, im, s4, by rw [s1.1.2.1 32 (by omega)]; exact a3.2.2.2.1, by rw [s1.1.2.1 33 (by omega)]; exact a3.2.2.2.2.1, s5, by have := a3.2.2.2.2.2.2; omega⟩ ?_ ?_ ?_ s6 ?_ (s10.trans a12) ?_
    · rw [s11, (a1.2.2.1 f (by omega)).1]; exact hself.1
    · rw [s7, a5, h31, List.length_nil]; omega
    · rw [hcc]
      rw [← h31]
      refine segM_ap (segM_lo (fun z _ h => s1.2.2.2.2.2 z (by omega)) a6) ?_
      rw [List.append_nil] at s9
      rw [show 1600 * b + I1 159 31 + (c1.length : Int) = 1600 * b + I3 159 31 by omega]; exact s9
    · rw [s8, a9]; omega
    · rw [s13, (a1.2.2.1 f (by omega)).2.2]; exact hself.2.2
  · rw [s12, kd3, (a1.2.2.1 f (by omega)).2.1, hself.2.1]
end
