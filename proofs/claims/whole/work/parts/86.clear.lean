/-! TO CLEAR -/
def exP (V : mI) (w : Int → Int) (set : Int) (c : Int → Int) (t : Int) : Prop := ∃ g : Int → Int, (∀ k, 0 ≤ k → k < t → g k = c k) ∧ (∀ k, t ≤ k → k < V 1 2 → (has1 set k = 0 → g k = w k) ∧ (has1 set k ≠ 0 → 0 ≤ g k ∧ g k < V 1 1)) ∧ ∀ a, t ≤ a → a < V 1 2 → cbF V g a = 0
theorem cb_congr {V : mI} {g g' : Int → Int} {a : Int} (ha : 0 ≤ a) (h : ∀ k, 0 ≤ k → k ≤ a → g k = g' k) : cbF V g a = cbF V g' a := by
  unfold cbF
  refine smR_congr _ 0 (fun j j0 j1 => ?_)
  unfold clP
  rw [h a ha (by omega), h j j0 (by omega)]
theorem c_canClear {h : Nat} {V : mI} {w : Int → Int} {set : Int} (hh : isLd h) (hV : ldOK V) :
    ∀ (d : Nat) (t : Int) (I : mI) (Q : Int → mI → Prop), 0 ≤ t → t ≤ V 1 2 → V 1 2 < t + d → ldC I h V → (∀ k, t ≤ k → k < 6 → has1 set k = 0 → I 121 k = w k) →
    (exP V w set (I 121) t → ∀ I' : mI, (∀ z, z ≠ 121 → I' z = I z) → (∀ k, (k < t ∨ has1 set k = 0) → I' 121 k = I 121 k) → Q 1 I') → (¬ exP V w set (I 121) t → ∀ I' : mI, (∀ z, z ≠ 121 → I' z = I z) → (∀ k, (k < t ∨ has1 set k = 0) → I' 121 k = I 121 k) → Q 0 I') → pGcc d h 121 set t I Q
  | 0, t, I, Q, t0, t1, td, hL, hw, k1, k0 => by omega
  | d + 1, t, I, Q, t0, t1, td, hL, hw, k1, k0 => by
    have n := hV.1
    have hlh : h = 123 ∨ h = 132 := hh
    have hr : ∀ z, z ≠ 121 → I z = I z := fun _ _ => rfl
    show p3_canClear (pGcc d) h 121 set t I Q
    unfold p3_canClear
    rw [hL.2.1]
    refine zs (fun e => ?_) (fun e => zt (by omega) (zs (fun (e2 : has1 set t = 0) => ?_) (fun (e2 : ¬ has1 set t = 0) => ?_)))
    · exact k1 ⟨I 121, fun _ _ _ => rfl, fun k a b => by omega, fun a b c => by omega⟩ I hr (fun _ _ => rfl)
    · refine c_below hL (fun _ _ _ => rfl) (by omega) (zs (fun e3 => ⟨by omega, ?_⟩) (fun e3 => k0 (fun z => ?_) I hr (fun _ _ => rfl)))
      · refine c_canClear hh hV d (t + 1) I _ (by omega) (by omega) (by omega) hL (fun k a b c => hw k (by omega) b c) (fun z I1 f1 g1 => zf (by decide) (k1 ?_ I1 f1 (fun k hk => g1 k (by omega)))) (fun z I1 f1 g1 => zt rfl (k0 (fun z2 => z ?_) I1 f1 (fun k hk => g1 k (by omega))))
        · obtain ⟨g, a1, a2, a3⟩ := z
          refine ⟨g, fun k b c => a1 k b (by omega), fun k b c => ?_, fun a b c => ?_⟩
          · by_cases ek : k = t
            · subst ek
              exact ⟨fun _ => (a1 k t0 (by omega)).trans (hw k (by omega) (by omega) e2), fun q => absurd e2 q⟩
            · exact a2 k (by omega) c
          · by_cases ea : a = t
            · subst ea
              rw [cb_congr t0 (fun k x y => a1 k x (by omega))]; exact e3
            · exact a3 a (by omega) c
        · obtain ⟨g, a1, a2, a3⟩ := z2
          refine ⟨g, fun k b c => ?_, fun k b c => a2 k (by omega) c, fun a b c => a3 a (by omega) c⟩
          by_cases ek : k = t
          · subst ek
            exact ((a2 k (by omega) (by omega)).1 e2).trans (hw k (by omega) (by omega) e2).symm
          · exact a1 k b (by omega)
      · obtain ⟨g, a1, a2, a3⟩ := z
        apply e3
        rw [← a3 t (by omega) (by omega)]
        refine cb_congr t0 (fun k x y => ?_)
        by_cases ek : k = t
        · subst ek
          exact (hw k (by omega) (by omega) e2).trans ((a2 k (by omega) (by omega)).1 e2).symm
        · exact (a1 k x (by omega)).symm
    · -- each colour in turn
      have lp : ∀ (f : Nat) (c : Int) (I1 : mI), 0 ≤ c → c + f = V 1 1 → (∀ z, z ≠ 121 → I1 z = I z) → (∀ k, (k < t ∨ has1 set k = 0) → I1 121 k = I 121 k) → (¬ ∃ g : Int → Int, g t < c ∧ (∀ k, 0 ≤ k → k < t → g k = I 121 k) ∧ (∀ k, t ≤ k → k < V 1 2 → (has1 set k = 0 → g k = w k) ∧ (has1 set k ≠ 0 → 0 ≤ g k ∧ g k < V 1 1)) ∧ ∀ a, t ≤ a → a < V 1 2 → cbF V g a = 0) → p3_canClear_b56 (pGcc d) h 121 set t Q (f + 1) c I1 := by
        intro f
        induction f with
        | zero =>
          intro c I1 c0 c1 f1 g1 hno
          show p3_canClear_b56_body (pGcc d) h 121 set t Q _ c I1
          unfold p3_canClear_b56_body
          rw [f1 (h + 1) (by omega), hL.2.1]
          refine zt (by omega) (k0 (fun z => hno ?_) I1 f1 g1)
          obtain ⟨g, a1, a2, a3⟩ := z
          have := (a2 t (by omega) (by omega)).2 e2
          exact ⟨g, by omega, a1, a2, a3⟩
        | succ f ih =>
          intro c I1 c0 c1 f1 g1 hno
          show p3_canClear_b56_body (pGcc d) h 121 set t Q (p3_canClear_b56 (pGcc d) h 121 set t Q (f + 1)) c I1
          unfold p3_canClear_b56_body
          rw [f1 (h + 1) (by omega), hL.2.1]
          refine zf (by omega) ⟨by omega, m_putK (fun I2 q2 g2 f2 => ?_)⟩
          have F2 : ∀ z, z ≠ 121 → I2 z = I z := fun z hz => (f2 z hz).trans (f1 z hz)
          have G2 : ∀ k, (k < t ∨ has1 set k = 0) → I2 121 k = I 121 k := fun k hk => by
            rw [g2 k (fun q => by subst q; omega)]; exact g1 k hk
          have hL2 : ldC I2 h V := by
            obtain ⟨l0, l1, l2, l3, l4, l5, l6, l7, l8⟩ := hL
            have hx : ∀ j, j ≤ 8 → I2 (h + j) = I (h + j) := fun j hj => F2 _ (by omega)
            exact ⟨(hx 0 (by omega)).trans l0, (hx 1 (by omega)).trans l1, (hx 2 (by omega)).trans l2, (hx 3 (by omega)).trans l3, (hx 4 (by omega)).trans l4, (hx 5 (by omega)).trans l5, (hx 6 (by omega)).trans l6, (hx 7 (by omega)).trans l7, (hx 8 (by omega)).trans l8⟩
          have step : ∀ I3 : mI, (∀ z, z ≠ 121 → I3 z = I z) → (∀ k, (k < t ∨ has1 set k = 0) → I3 121 k = I 121 k) → (¬ ∃ g : Int → Int, g t = c ∧ (∀ k, 0 ≤ k → k < t → g k = I 121 k) ∧ (∀ k, t ≤ k → k < V 1 2 → (has1 set k = 0 → g k = w k) ∧ (has1 set k ≠ 0 → 0 ≤ g k ∧ g k < V 1 1)) ∧ ∀ a, t ≤ a → a < V 1 2 → cbF V g a = 0) → rg (c + 1) ∧ p3_canClear_b56 (pGcc d) h 121 set t Q (f + 1) (c + 1) I3 := fun I3 f3 g3 hn => ⟨by omega, ih (c + 1) I3 (by omega) (by omega) f3 g3 (fun z => by
            obtain ⟨g, b0, b1⟩ := z
            by_cases eg : g t = c
            · exact hn ⟨g, eg, b1⟩
            · exact hno ⟨g, by omega, b1⟩)⟩
          refine c_below hL2 (fun _ _ _ => rfl) (by omega) (zs (fun e3 => ⟨by omega, ?_⟩) (fun e3 => step I2 F2 G2 (fun z => ?_)))
          · refine c_canClear hh hV d (t + 1) I2 _ (by omega) (by omega) (by omega) hL2 (fun k a b x => (G2 k (Or.inr x)).trans (hw k (by omega) b x)) (fun z I3 f3 g3 => zf (by decide) (k1 ?_ I3 (fun z hz => (f3 z hz).trans (F2 z hz)) (fun k hk => (g3 k (by omega)).trans (G2 k hk)))) (fun z I3 f3 g3 => zt rfl (step I3 (fun z hz => (f3 z hz).trans (F2 z hz)) (fun k hk => (g3 k (by omega)).trans (G2 k hk)) (fun z2 => z ?_)))
            · obtain ⟨g, a1, a2, a3⟩ := z
              refine ⟨g, fun k b x => (a1 k b (by omega)).trans (G2 k (Or.inl x)), fun k b x => ?_, fun a b x => ?_⟩
              · by_cases ek : k = t
                · subst ek
                  refine ⟨fun q => absurd q e2, fun _ => ?_⟩
                  rw [a1 k t0 (by omega), q2]; omega
                · exact a2 k (by omega) x
              · by_cases ea : a = t
                · subst ea
                  rw [cb_congr t0 (fun k x y => a1 k x (by omega))]; exact e3
                · exact a3 a (by omega) x
            · obtain ⟨g, a0, a1, a2, a3⟩ := z2
              refine ⟨g, fun k b x => ?_, fun k b x => a2 k (by omega) x, fun a b x => a3 a (by omega) x⟩
              by_cases ek : k = t
              · subst ek; rw [a0, q2]
              · rw [a1 k b (by omega), G2 k (Or.inl (by omega))]
          · obtain ⟨g, a0, a1, a2, a3⟩ := z
            apply e3
            rw [← a3 t (by omega) (by omega)]
            refine cb_congr t0 (fun k x y => ?_)
            by_cases ek : k = t
            · subst ek; rw [q2, a0]
            · rw [a1 k x (by omega), G2 k (Or.inl (by omega))]
      exact ⟨(V 1 1).toNat + 1, lp (V 1 1).toNat 0 I (by omega) (by omega) hr (fun _ _ => rfl) (fun z => by
        obtain ⟨g, b0, b1, b2, b3⟩ := z
        have := (b2 t (by omega) (by omega)).2 e2
        omega)⟩
def clS (V : mI) (w : Int → Int) (set : Int) : Prop := exP V w set w 0
/-- a set that will do -/
def goS (V : mI) (w : Int → Int) (set : Int) : Prop := (0 ≤ set ∧ set < bShl 1 (V 1 2)) ∧ (∀ t, 0 ≤ t → t < V 1 2 → has1 set t = 1 → w t ≠ -1) ∧ clS V w set
def beS (V : mI) (w : Int → Int) (r : Int) : Prop := (r = -1 ∧ ∀ s, ¬ goS V w s) ∨ (goS V w r ∧ ∀ s, goS V w s → bc r < bc s ∨ (bc r = bc s ∧ r ≤ s))
theorem beS_u {V : mI} {w : Int → Int} {r r' : Int} (h : beS V w r) (h' : beS V w r') : r = r' := by
  rcases h with ⟨a, b⟩ | ⟨a, b⟩ <;> rcases h' with ⟨c, d⟩ | ⟨c, d⟩
  · omega
  · exact absurd c (b r')
  · exact absurd a (d r)
  · have := b r' c
    have := d r a
    omega
theorem sub64 : ∀ p : Nat, p < 64 → ∀ s : Nat, s < 64 → (bAnd (s : Int) (bXor (p : Int) (-1)) = 0 ↔ ∀ t : Nat, t < 6 → has1 (s : Int) (t : Int) = 1 → has1 (p : Int) (t : Int) = 1) := by decide +kernel
theorem le64 : ∀ p : Nat, p < 64 → ∀ s : Nat, s < 64 → bAnd (s : Int) (bXor (p : Int) (-1)) = 0 → s ≤ p := by decide +kernel
