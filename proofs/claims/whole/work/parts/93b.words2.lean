/-! THE READERS: a word of its own in both codes -/
def dec27 : Nat → Int → List Int
  | 0, _ => []
  | d + 1, c => if c = 0 then [] else Int.tmod c 27 :: dec27 d (Int.tdiv c 27)
theorem dec_na : ∀ (d : Nat) (ls : List Int), lvOK ls → ls.length ≤ d → dec27 d (naP 27 ls) = ls
  | 0, [], _, _ => rfl
  | 0, _ :: _, _, h => by exact absurd h (Nat.not_succ_le_zero _)
  | d + 1, [], _, _ => rfl
  | d + 1, x :: r, hl, h => by
    have t := na27_t hl
    have n := (na27 (x :: r) hl).2
    unfold dec27
    rw [if_neg (fun q => by have := n.mp q; cases this), t.1, t.2, dec_na d r (lvOK_t hl).2 (Nat.le_of_succ_le_succ h)]
theorem na256_i : ∀ (l1 l2 : List Int), lvOK l1 → lvOK l2 → naP 256 (l1.map (· + 96)) = naP 256 (l2.map (· + 96)) → l1 = l2
  | [], l2, _, h2, h => ((na256 l2 h2).2.mp h.symm).symm
  | x :: r, [], h1, _, h => by
    have := (na256 (x :: r) h1).2.mp h
    cases this
  | x :: r, y :: s, h1, h2, h => by
    have a := na256_t h1
    have b := na256_t h2
    rw [h] at a
    have e1 : naP 256 (r.map (· + 96)) = naP 256 (s.map (· + 96)) := a.1.symm.trans b.1
    have e2 : x + 96 = y + 96 := a.2.symm.trans b.2
    rw [na256_i r s (lvOK_t h1).2 (lvOK_t h2).2 e1, show x = y by omega]
def ownM : List Int := ownL.map (fun c => naP 256 ((dec27 6 c).map (· + 96)))
def lvB (ls : List Int) : Bool := ls.all (fun x => decide (1 ≤ x ∧ x ≤ 26))
theorem lvB_ok {ls : List Int} (h : lvB ls = true) : lvOK ls := fun x hx => of_decide_eq_true (List.all_eq_true.mp h x hx)
theorem own_dec : ∀ k : Nat, k < 28 → lvB (dec27 6 (ownL.getD k 0)) = true ∧ naP 27 (dec27 6 (ownL.getD k 0)) = ownL.getD k 0 ∧ ixO (ownL.getD k 0) ownL 0 = k ∧ ownM.getD k 0 = naP 256 ((dec27 6 (ownL.getD k 0)).map (· + 96)) := by decide +kernel
theorem own_iff {ls : List Int} (hl : lvOK ls) (h6 : ls.length ≤ 6) {k : Nat} (hk : k < 28) : ixO (naP 27 ls) ownL 0 = (k : Int) ↔ naP 256 (ls.map (· + 96)) = ownM.getD k 0 := by
  obtain ⟨d1, d2, d3, d4⟩ := own_dec k hk
  refine ⟨fun h => ?_, fun h => ?_⟩
  · rcases ixO_rg (naP 27 ls) ownL 0 (by decide) with e | ⟨e1, e2, e3⟩
    · omega
    · rw [h, show ((k : Int) - 0).toNat = k by omega] at e3
      rw [d4, e3, dec_na 6 ls hl h6]
  · rw [d4] at h
    have e := na256_i _ _ hl (lvB_ok d1) h
    rw [e, d2]; exact d3
theorem ownM_all : ownM = [422725643876, 109330211763570, 499967946343, 1818326117, 1852137842, 512801993331, 483006772069, 7499639, 126870908724595, 109330362692723, 444150998387, 2002874989, 1819243876, 1684366704, 1668248436, 2036687218, 1836019556, 469786452840, 2003792494, 448377483876, 1650553445, 26982, 28530, 6385252, 7237492, 6384748, 7170414, 7168376] := by decide +kernel
theorem m_isOwnW {q : Int} {Q : Int → Prop} (h1 : (∃ k : Nat, k < 28 ∧ q = ownM.getD k 0) → Q 1) (h0 : ¬ (∃ k : Nat, k < 28 ∧ q = ownM.getD k 0) → Q 0) : p12_isOwn q Q := by
  unfold p12_isOwn
  refine zs (fun e => h1 ⟨0, by decide, by rw [ownM_all]; exact e⟩) (fun n0 => ?_)
  refine zs (fun e => h1 ⟨11, by decide, by rw [ownM_all]; exact e⟩) (fun n11 => ?_)
  refine zs (fun e => h1 ⟨12, by decide, by rw [ownM_all]; exact e⟩) (fun n12 => ?_)
  refine zs (fun e => h1 ⟨13, by decide, by rw [ownM_all]; exact e⟩) (fun n13 => ?_)
  refine zs (fun e => h1 ⟨1, by decide, by rw [ownM_all]; exact e⟩) (fun n1 => ?_)
  refine zs (fun e => h1 ⟨14, by decide, by rw [ownM_all]; exact e⟩) (fun n14 => ?_)
  refine zs (fun e => h1 ⟨2, by decide, by rw [ownM_all]; exact e⟩) (fun n2 => ?_)
  refine zs (fun e => h1 ⟨3, by decide, by rw [ownM_all]; exact e⟩) (fun n3 => ?_)
  refine zs (fun e => h1 ⟨4, by decide, by rw [ownM_all]; exact e⟩) (fun n4 => ?_)
  refine zs (fun e => h1 ⟨5, by decide, by rw [ownM_all]; exact e⟩) (fun n5 => ?_)
  refine zs (fun e => h1 ⟨6, by decide, by rw [ownM_all]; exact e⟩) (fun n6 => ?_)
  refine zs (fun e => h1 ⟨7, by decide, by rw [ownM_all]; exact e⟩) (fun n7 => ?_)
  refine zs (fun e => h1 ⟨8, by decide, by rw [ownM_all]; exact e⟩) (fun n8 => ?_)
  refine zs (fun e => h1 ⟨9, by decide, by rw [ownM_all]; exact e⟩) (fun n9 => ?_)
  refine zs (fun e => h1 ⟨10, by decide, by rw [ownM_all]; exact e⟩) (fun n10 => ?_)
  refine zs (fun e => h1 ⟨15, by decide, by rw [ownM_all]; exact e⟩) (fun n15 => ?_)
  refine zs (fun e => h1 ⟨16, by decide, by rw [ownM_all]; exact e⟩) (fun n16 => ?_)
  refine zs (fun e => h1 ⟨17, by decide, by rw [ownM_all]; exact e⟩) (fun n17 => ?_)
  refine zs (fun e => h1 ⟨18, by decide, by rw [ownM_all]; exact e⟩) (fun n18 => ?_)
  refine zs (fun e => h1 ⟨19, by decide, by rw [ownM_all]; exact e⟩) (fun n19 => ?_)
  refine zs (fun e => h1 ⟨20, by decide, by rw [ownM_all]; exact e⟩) (fun n20 => ?_)
  refine zs (fun e => h1 ⟨21, by decide, by rw [ownM_all]; exact e⟩) (fun n21 => ?_)
  refine zs (fun e => h1 ⟨22, by decide, by rw [ownM_all]; exact e⟩) (fun n22 => ?_)
  refine zs (fun e => h1 ⟨23, by decide, by rw [ownM_all]; exact e⟩) (fun n23 => ?_)
  refine zs (fun e => h1 ⟨24, by decide, by rw [ownM_all]; exact e⟩) (fun n24 => ?_)
  refine zs (fun e => h1 ⟨25, by decide, by rw [ownM_all]; exact e⟩) (fun n25 => ?_)
  refine zs (fun e => h1 ⟨26, by decide, by rw [ownM_all]; exact e⟩) (fun n26 => ?_)
  refine zs (fun e => h1 ⟨27, by decide, by rw [ownM_all]; exact e⟩) (fun n27 => ?_)
  refine h0 (fun ⟨k, hk, e⟩ => ?_)
  rw [ownM_all] at e
  have hc : k = 0 ∨ k = 1 ∨ k = 2 ∨ k = 3 ∨ k = 4 ∨ k = 5 ∨ k = 6 ∨ k = 7 ∨ k = 8 ∨ k = 9 ∨ k = 10 ∨ k = 11 ∨ k = 12 ∨ k = 13 ∨ k = 14 ∨ k = 15 ∨ k = 16 ∨ k = 17 ∨ k = 18 ∨ k = 19 ∨ k = 20 ∨ k = 21 ∨ k = 22 ∨ k = 23 ∨ k = 24 ∨ k = 25 ∨ k = 26 ∨ k = 27 := by omega
  rcases hc with rfl | rfl | rfl | rfl | rfl | rfl | rfl | rfl | rfl | rfl | rfl | rfl | rfl | rfl | rfl | rfl | rfl | rfl | rfl | rfl | rfl | rfl | rfl | rfl | rfl | rfl | rfl | rfl
  · exact n0 e
  · exact n1 e
  · exact n2 e
  · exact n3 e
  · exact n4 e
  · exact n5 e
  · exact n6 e
  · exact n7 e
  · exact n8 e
  · exact n9 e
  · exact n10 e
  · exact n11 e
  · exact n12 e
  · exact n13 e
  · exact n14 e
  · exact n15 e
  · exact n16 e
  · exact n17 e
  · exact n18 e
  · exact n19 e
  · exact n20 e
  · exact n21 e
  · exact n22 e
  · exact n23 e
  · exact n24 e
  · exact n25 e
  · exact n26 e
  · exact n27 e
