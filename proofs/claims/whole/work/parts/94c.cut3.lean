/-! THE READERS: one token -/
abbrev alB (b : Int) : Prop := (97 ≤ b ∧ b ≤ 122) ∨ (48 ≤ b ∧ b ≤ 57)
abbrev tch (tb : Int → Int) (p : Int) : Prop := 0 < p ∧ alB (tb (p - 1))
def enW (tb : Int → Int) (n p : Int) : Int := rnF 97 122 tb n 1601 p
def enD (tb : Int → Int) (n p : Int) : Int := rnF 48 57 tb n 1601 p
def wd27 (tb : Int → Int) (n p : Int) : Int := naP 27 (ltR tb p (enW tb n p - p).toNat)
/-- kind, value, place, end of the token at p -/
def tKd (tb : Int → Int) (n p : Int) : Int := if n ≤ p then 0 else if 97 ≤ tb p ∧ tb p ≤ 122 then (if tch tb p then 5 else if enW tb n p - p ≤ 6 then wdK (wd27 tb n p) else 5) else if 48 ≤ tb p ∧ tb p ≤ 57 then (if tch tb p then 5 else if enD tb n p - p ≤ 4 then 3 else 5) else if 0 ≤ sgx (tb p) then 4 else 5
def tVl (tb : Int → Int) (n p : Int) : Int := if n ≤ p then 0 else if 97 ≤ tb p ∧ tb p ≤ 122 then (if tch tb p then p else if enW tb n p - p ≤ 6 then wdV (wd27 tb n p) else p) else if 48 ≤ tb p ∧ tb p ≤ 57 then (if tch tb p then p else if enD tb n p - p ≤ 4 then nmR tb p (enD tb n p - p).toNat else p) else if 0 ≤ sgx (tb p) then tb p else p
def tPl (tb : Int → Int) (n p : Int) : Int := if n ≤ p then p else if 97 ≤ tb p ∧ tb p ≤ 122 then (if tch tb p then p else if enW tb n p - p ≤ 6 then p else p + 6) else if 48 ≤ tb p ∧ tb p ≤ 57 then (if tch tb p then p else if enD tb n p - p ≤ 4 then p else p + 4) else p
def tEn (tb : Int → Int) (n p : Int) : Int := if n ≤ p then p else if 97 ≤ tb p ∧ tb p ≤ 122 then (if tch tb p then p else if enW tb n p - p ≤ 6 then enW tb n p else p + 6) else if 48 ≤ tb p ∧ tb p ≤ 57 then (if tch tb p then p else if enD tb n p - p ≤ 4 then enD tb n p else p + 4) else if 0 ≤ sgx (tb p) then p + 1 else p
theorem sg_nat : ∀ b : Nat, b < 256 → nC (b : Int) = (b : Int) ∧ ((97 ≤ b ∧ b ≤ 122) ∨ (48 ≤ b ∧ b ≤ 57) → sgx (b : Int) < 0) := by decide +kernel
theorem sg_al {b : Int} (h0 : 0 ≤ b) (h1 : b ≤ 255) : nC b = b ∧ (alB b → sgx b < 0) := by
  have x := sg_nat b.toNat (by omega)
  rw [show ((b.toNat : Nat) : Int) = b by omega] at x
  refine ⟨x.1, fun h => x.2 ?_⟩
  unfold alB at h
  omega
theorem c_sign59 {I : mI} {c n p : Int} {tb : Int → Int} {Q : Int → mI → Prop} (ht : tpC I n tb) (hc : I 142 3 = c) (c0 : 0 ≤ c ∧ c < 1601) (hp : I 142 4 = p) (h0 : 0 ≤ p) (hpn : p < n)
    (k1 : 0 ≤ sgx (tb p) → ∀ I', tkF I I' c 4 (tb p) p (p + 1) → Q 4 I') (k0 : ¬ 0 ≤ sgx (tb p) → ∀ I', tkF I I' c 5 p p p → Q 5 I') : p10_cutOne_b59 (tb p) I Q := by
  have hb := (ht.2.2 p h0 hpn).2
  have hn := ht.2.1
  unfold p10_cutOne_b59
  rw [(sg_al hb.1 hb.2).1, hp]
  refine zs (fun e => ⟨by omega, m_putK (fun I1 q1 g1 f1 => ?_)⟩) (fun e => c_addT (fun _ _ => rfl) (fun _ _ => rfl) hp hc c0 (k0 e))
  rw [q1]
  refine ⟨by omega, c_addT (p := p + 1) f1 g1 q1 hc c0 ?_⟩
  rw [show p + 1 - 1 = p by omega]
  exact k1 e
theorem c_cutOne {I : mI} {c n p fl : Int} {tb : Int → Int} {Q : Int → mI → Prop} (ht : tpC I n tb) (hc : I 142 3 = c) (c0 : 0 ≤ c ∧ c < 1601) (hp : I 142 4 = p) (h0 : 0 ≤ p) (hfl : fl = if tch tb p then 1 else 0)
    (kk : ∀ I', tkF I I' c (tKd tb n p) (tVl tb n p) (tPl tb n p) (tEn tb n p) → Q (tKd tb n p) I') : p10_cutOne fl I Q := by
  have hn := ht.2.1
  unfold p10_cutOne
  rw [hp]
  unfold tKd tVl tPl tEn at kk
  refine c_at ht h0 (fun a => ?_) (fun a => ?_)
  · rw [if_pos a, if_pos a, if_pos a, if_pos a] at kk
    exact zt rfl (c_addT (fun _ _ => rfl) (fun _ _ => rfl) hp hc c0 kk)
  have na : ¬ n ≤ p := by omega
  rw [if_neg na, if_neg na, if_neg na, if_neg na] at kk
  have hb := (ht.2.2 p h0 a).2
  refine zf (by omega) (c_isLt (fun q => zf (by decide) ?_) (fun q => zt rfl ?_))
  · rw [if_pos q, if_pos q, if_pos q, if_pos q] at kk
    have sg := (sg_al hb.1 hb.2).2 (Or.inl q)
    by_cases t : tch tb p
    · rw [if_pos t, if_pos t, if_pos t, if_pos t] at kk
      rw [if_pos t] at hfl
      refine zf (by omega) ?_
      unfold p10_cutOne_b42
      exact c_isDt (fun q2 => by omega) (fun _ => zt rfl (c_sign59 ht hc c0 hp h0 a (fun e => absurd e (by omega)) (fun _ => kk)))
    · rw [if_neg t, if_neg t, if_neg t, if_neg t] at kk
      rw [if_neg t] at hfl
      have r := rnF_rg (lo := 97) (hi := 122) (tb := tb) (n := n) 1601 p
      have r2 := rnF_end (lo := 97) (hi := 122) (tb := tb) (n := n) 1601 p (by omega)
      refine zt hfl (c_cutW ht hc c0 hp h0 (e := enW tb n p) r.1 (r.2.2.1 (by omega)) r.2.2.2 r2 (fun w => ?_) (fun w => ?_))
      · rw [if_pos w, if_pos w, if_pos w, if_pos w] at kk; exact kk
      · have nw : ¬ enW tb n p - p ≤ 6 := by omega
        rw [if_neg nw, if_neg nw, if_neg nw, if_neg nw] at kk; exact kk
  · rw [if_neg q, if_neg q, if_neg q, if_neg q] at kk
    unfold p10_cutOne_b42
    refine c_isDt (fun q2 => zf (by decide) ?_) (fun q2 => zt rfl ?_)
    · rw [if_pos q2, if_pos q2, if_pos q2, if_pos q2] at kk
      have sg := (sg_al hb.1 hb.2).2 (Or.inr q2)
      by_cases t : tch tb p
      · rw [if_pos t, if_pos t, if_pos t, if_pos t] at kk
        rw [if_pos t] at hfl
        exact zf (by omega) (c_sign59 ht hc c0 hp h0 a (fun e => absurd e (by omega)) (fun _ => kk))
      · rw [if_neg t, if_neg t, if_neg t, if_neg t] at kk
        rw [if_neg t] at hfl
        have r := rnF_rg (lo := 48) (hi := 57) (tb := tb) (n := n) 1601 p
        have r2 := rnF_end (lo := 48) (hi := 57) (tb := tb) (n := n) 1601 p (by omega)
        refine zt hfl (c_cutN ht hc c0 hp h0 (e := enD tb n p) r.1 (r.2.2.1 (by omega)) r.2.2.2 r2 (fun w => ?_) (fun w => ?_))
        · rw [if_pos w, if_pos w, if_pos w, if_pos w] at kk; exact kk
        · have nw : ¬ enD tb n p - p ≤ 4 := by omega
          rw [if_neg nw, if_neg nw, if_neg nw, if_neg nw] at kk; exact kk
    · rw [if_neg q2, if_neg q2, if_neg q2, if_neg q2] at kk
      refine c_sign59 ht hc c0 hp h0 a (fun e => ?_) (fun e => ?_)
      · rw [if_pos e, if_pos e, if_pos e] at kk; exact kk
      · rw [if_neg e, if_neg e, if_neg e] at kk; exact kk
