/-! AN IMAGE TAKEN -/
def twF (V : mI) (tb : Int → Int) (k : Int) : Int := if tb (4 + 2 * V 1 0 + k) = 255 then -1 else tb (4 + 2 * V 1 0 + k)
def tsF (V S : mI) (tb : Int → Int) : mI := fun i => if i = 0 then (fun j => if j = 0 then tb 0 * 256 + tb 1 else if j = 1 then tb 2 * 256 + tb 3 else 0) else if i = 1 then (fun k => if k < V 1 0 then tb (4 + k) else S 1 k) else if i = 2 then (fun k => if k < V 1 0 then tb (4 + V 1 0 + k) else S 2 k) else if i = 3 then (fun k => if k < V 1 2 then twF V tb k else S 3 k) else S i
theorem tsF_ok {V S : mI} {tb : Int → Int} {n : Int} (hV : ldOK V) (hS : stOK V S) (hb : ∀ j, 0 ≤ j → j < n → 0 ≤ tb j ∧ tb j ≤ 255) (hf : fitP V n tb) : stOK V (tsF V S tb) := by
  have nn := hV.1
  have hev := evb_rg nn.1
  obtain ⟨f1, f2, f3, f4, f5, f6⟩ := hf
  have om := (oa_om nn.1 (V 1 0).toNat 0 0 (by omega) (by omega) (by omega) (by decide)).mp f5
  obtain ⟨o1, o2⟩ := omR_ok nn.1 (V 1 0).toNat 0 0 (by omega) (by omega) om
  obtain ⟨s1, s2, s3, s4, s5, s6, s7⟩ := hS
  have b0 := hb 0 (by omega) (by omega)
  have b1 := hb 1 (by omega) (by omega)
  have b2 := hb 2 (by omega) (by omega)
  have b3 := hb 3 (by omega) (by omega)
  refine ⟨?_, ?_, ?_, fun k k0 k1 => ?_, fun k l k0 k1 l0 l1 he => ?_, fun k k0 k6 => ?_, fun k k0 k6 => ?_⟩
  · show 0 ≤ tb 0 * 256 + tb 1 ∧ tb 0 * 256 + tb 1 ≤ 999; omega
  · show 0 ≤ tb 2 * 256 + tb 3 ∧ tb 2 * 256 + tb 3 ≤ 9999; omega
  · show 0 ≤ (0 : Int) ∧ (0 : Int) ≤ 40; omega
  · show 0 ≤ (if k < V 1 0 then tb (4 + k) else S 1 k) ∧ (if k < V 1 0 then tb (4 + k) else S 1 k) < V 1 0
    rw [if_pos k1]; exact (o1 k k0 (by omega)).1
  · have he' : (if k < V 1 0 then tb (4 + k) else S 1 k) = (if l < V 1 0 then tb (4 + l) else S 1 l) := he
    rw [if_pos k1, if_pos l1] at he'
    rcases Int.lt_trichotomy k l with q | q | q
    · exact absurd he' (o2 k l k0 q (by omega))
    · exact q
    · exact absurd he'.symm (o2 l k l0 q (by omega))
  · show 0 ≤ (if k < V 1 0 then tb (4 + V 1 0 + k) else S 2 k) ∧ (if k < V 1 0 then tb (4 + V 1 0 + k) else S 2 k) ≤ 9
    by_cases e : k < V 1 0
    · rw [if_pos e]; exact ⟨(hb _ (by omega) (by omega)).1, (o1 k k0 (by omega)).2.1⟩
    · rw [if_neg e]; exact s6 k k0 k6
  · show -1 ≤ (if k < V 1 2 then twF V tb k else S 3 k) ∧ (if k < V 1 2 then twF V tb k else S 3 k) < V 1 1
    by_cases e : k < V 1 2
    · rw [if_pos e]
      unfold twF
      rcases f6 k k0 e with q | q
      · rw [if_pos q]; omega
      · rw [if_neg (by omega)]; omega
    · rw [if_neg e]; exact s7 k k0 k6
theorem c_shW {h : Nat} {V S : mI} {n : Int} {tb : Int → Int} {Q : mI → Prop} {I0 : mI} (hh : isLd h) (ht : tbC I0 n tb) (hL : ldC I0 h V) (hV : ldOK V) (hn : n = 5 + 2 * V 1 0 + V 1 2)
    (k : ∀ I' : mI, (∀ z, ¬ (7 ≤ z ∧ z ≤ 11) → I' z = I0 z) → stC I' 7 (tsF V S tb) → Q I') :
    ∀ (d : Nat) (l : Int) (I : mI), 0 ≤ l → l + d = V 1 2 → (∀ z, ¬ (7 ≤ z ∧ z ≤ 11) → I z = I0 z) → I 7 0 = tb 0 * 256 + tb 1 → I 7 1 = tb 2 * 256 + tb 3 → I 7 2 = 0 → (∀ j, 0 ≤ j → j < 6 → I 8 j = tsF V S tb 1 j ∧ I 9 j = tsF V S tb 2 j) → (∀ j, 0 ≤ j → j < 6 → I 10 j = if j < l then twF V tb j else S 3 j) → p5_show_b80 h 7 (V 1 0) Q (d + 1) l I
  | 0, l, I, h0, h1, hf, e0, e1, e2, e3, e4 => by
    have hlh : h = 123 ∨ h = 132 := hh
    show p5_show_b80_body h 7 (V 1 0) Q (p5_show_b80 h 7 (V 1 0) Q 0) l I
    unfold p5_show_b80_body
    rw [hf (h + 1) (by omega), hL.2.1]
    refine zt (by omega) (k I hf ⟨e0, e1, e2, fun j j0 j6 => ⟨(e3 j j0 j6).1, (e3 j j0 j6).2, ?_⟩, fun j j0 j1 => ?_⟩)
    · show I 10 j = if j < V 1 2 then twF V tb j else S 3 j
      rw [e4 j j0 j6, show l = V 1 2 by omega]
    · have j1' : j < 3 * (0 : Int) := j1
      omega
  | d + 1, l, I, h0, h1, hf, e0, e1, e2, e3, e4 => by
    have hlh : h = 123 ∨ h = 132 := hh
    have nn := hV.1
    have htI : tbC I n tb := by
      unfold tbC
      rw [hf 2 (by omega), hf 3 (by omega)]; exact ht
    show p5_show_b80_body h 7 (V 1 0) Q (p5_show_b80 h 7 (V 1 0) Q (d + 1)) l I
    unfold p5_show_b80_body
    rw [hf (h + 1) (by omega), hL.2.1]
    have go : ∀ x, x = twF V tb l → wLet (up I (7 + 3) l x) (fun I6 => rg (l + 1) ∧ p5_show_b80 h 7 (V 1 0) Q (d + 1) (l + 1) I6) := fun x hx =>
      m_putK (fun I6 q6 g6 f6 => ⟨by omega, c_shW hh ht hL hV hn k d (l + 1) I6 (by omega) (by omega) (fun z hz => by rw [f6 z (by omega)]; exact hf z hz) (by rw [f6 7 (by decide)]; exact e0) (by rw [f6 7 (by decide)]; exact e1) (by rw [f6 7 (by decide)]; exact e2) (by rw [f6 8 (by decide), f6 9 (by decide)]; exact e3) (fun j j0 j6 => by
        show I6 (7 + 3) j = _
        by_cases q : j = l
        · rw [q, q6, if_pos (by omega)]; exact hx
        · rw [g6 j q]
          refine (e4 j j0 j6).trans ?_
          by_cases q2 : j < l
          · rw [if_pos q2, if_pos (by omega)]
          · rw [if_neg q2, if_neg (by omega)])⟩)
    refine zf (by omega) ⟨by omega, by omega, by omega,  c_byte htI (by omega) (by omega) (zs (fun e => ⟨by omega, go _ (by unfold twF; rw [if_pos e])⟩) (fun e => ⟨by omega, go _ (by unfold twF; rw [if_neg e])⟩))⟩
theorem c_shO {h : Nat} {V S : mI} {n : Int} {tb : Int → Int} {Q : mI → Prop} {I0 : mI} (hh : isLd h) (ht : tbC I0 n tb) (hL : ldC I0 h V) (hV : ldOK V) (hn : n = 5 + 2 * V 1 0 + V 1 2)
    (k : ∀ I' : mI, (∀ z, ¬ (7 ≤ z ∧ z ≤ 11) → I' z = I0 z) → stC I' 7 (tsF V S tb) → Q I') :
    ∀ (d : Nat) (l : Int) (I : mI), 0 ≤ l → l + d = V 1 0 → (∀ z, ¬ (7 ≤ z ∧ z ≤ 11) → I z = I0 z) → I 7 0 = tb 0 * 256 + tb 1 → I 7 1 = tb 2 * 256 + tb 3 → I 7 2 = 0 → (∀ j, 0 ≤ j → j < 6 → I 8 j = (if j < l then tb (4 + j) else S 1 j) ∧ I 9 j = (if j < l then tb (4 + V 1 0 + j) else S 2 j) ∧ I 10 j = S 3 j) → p5_show_b33 h 7 (V 1 0) Q (d + 1) l I
  | 0, l, I, h0, h1, hf, e0, e1, e2, e3 => by
    have nn := hV.1
    show p5_show_b33_body h 7 (V 1 0) Q (p5_show_b33 h 7 (V 1 0) Q 0) l I
    unfold p5_show_b33_body
    refine zt (by omega) ⟨(V 1 2).toNat + 1, c_shW hh ht hL hV hn k _ 0 I (by omega) (by omega) hf e0 e1 e2 (fun j j0 j6 => ⟨?_, ?_⟩) (fun j j0 j6 => ?_)⟩
    · refine (e3 j j0 j6).1.trans ?_
      show _ = if j < V 1 0 then tb (4 + j) else S 1 j
      rw [show l = V 1 0 by omega]
    · refine (e3 j j0 j6).2.1.trans ?_
      show _ = if j < V 1 0 then tb (4 + V 1 0 + j) else S 2 j
      rw [show l = V 1 0 by omega]
    · rw [if_neg (by omega)]; exact (e3 j j0 j6).2.2
  | d + 1, l, I, h0, h1, hf, e0, e1, e2, e3 => by
    have nn := hV.1
    have htI : tbC I n tb := by
      unfold tbC
      rw [hf 2 (by omega), hf 3 (by omega)]; exact ht
    show p5_show_b33_body h 7 (V 1 0) Q (p5_show_b33 h 7 (V 1 0) Q (d + 1)) l I
    unfold p5_show_b33_body
    refine zf (by omega) ⟨by omega, c_byte htI (by omega) (by omega) ⟨by omega, m_putK (fun I4 q4 g4 f4 => ⟨by omega, by omega, ?_⟩)⟩⟩
    have htI4 : tbC I4 n tb := by
      unfold tbC
      rw [f4 2 (by decide), f4 3 (by decide)]; exact htI
    refine c_byte htI4 (by omega) (by omega) ⟨by omega, m_putK (fun I5 q5 g5 f5 => ⟨by omega, c_shO hh ht hL hV hn k d (l + 1) I5 (by omega) (by omega) (fun z hz => by rw [f5 z (by omega), f4 z (by omega)]; exact hf z hz) (by rw [f5 7 (by decide), f4 7 (by decide)]; exact e0) (by rw [f5 7 (by decide), f4 7 (by decide)]; exact e1) (by rw [f5 7 (by decide), f4 7 (by decide)]; exact e2) (fun j j0 j6 => ?_)⟩)⟩
    obtain ⟨a1, a2, a3⟩ := e3 j j0 j6
    refine ⟨?_, ?_, ?_⟩
    · show I5 8 j = _
      rw [f5 8 (by decide)]
      show I4 (7 + 1) j = _
      by_cases q : j = l
      · rw [q, q4, if_pos (by omega)]
      · rw [g4 j q]
        refine a1.trans ?_
        by_cases q2 : j < l
        · rw [if_pos q2, if_pos (by omega)]
        · rw [if_neg q2, if_neg (by omega)]
    · show I5 (7 + 2) j = _
      by_cases q : j = l
      · rw [q, q5, if_pos (by omega)]
      · rw [g5 j q]
        show I4 9 j = _
        rw [f4 9 (by decide)]
        refine a2.trans ?_
        by_cases q2 : j < l
        · rw [if_pos q2, if_pos (by omega)]
        · rw [if_neg q2, if_neg (by omega)]
    · rw [f5 10 (by decide), f4 10 (by decide)]; exact a3
theorem c_show {I : mI} {h : Nat} {V S : mI} {n : Int} {tb : Int → Int} {Q : mI → Prop} (hh : isLd h) (ht : tbC I n tb) (hL : ldC I h V) (hV : ldOK V) (hn : n = 5 + 2 * V 1 0 + V 1 2) (hS : stC I 7 S)
    (k : ∀ I' : mI, (∀ z, ¬ (7 ≤ z ∧ z ≤ 11) → I' z = I z) → stC I' 7 (tsF V S tb) → Q I') : p5_show h 7 I Q := by
  have nn := hV.1
  have hlh : h = 123 ∨ h = 132 := hh
  unfold p5_show
  refine c_pair ht (by omega) (by omega) (m_putK (fun I1 q1 g1 f1 => ?_))
  have ht1 : tbC I1 n tb := by
    unfold tbC
    rw [f1 2 (by decide), f1 3 (by decide)]; exact ht
  refine c_pair ht1 (by omega) (by omega) (m_putK (fun I2 q2 g2 f2 => m_putK (fun I3 q3 g3 f3 => ?_)))
  have F3 : ∀ z, z ≠ 7 → I3 z = I z := fun z hz => by rw [f3 z hz, f2 z hz, f1 z hz]
  rw [hL.2.1]
  refine ⟨(V 1 0).toNat + 1, c_shO (S := S) hh ht hL hV hn k _ 0 I3 (by omega) (by omega) (fun z hz => F3 z (by omega)) ?_ ?_ q3 (fun j j0 j6 => ?_)⟩
  · rw [g3 0 (by decide), g2 0 (by decide)]; exact q1
  · rw [g3 1 (by decide)]; exact q2
  · rw [if_neg (by omega), if_neg (by omega), F3 8 (by decide), F3 9 (by decide), F3 10 (by decide)]
    exact hS.2.2.2.1 j j0 j6
/-! the model comes on -/
def tbM (I : mI) (n : Int) (tb : Int → Int) : Prop := ∀ j, 0 ≤ j → j < n → I 160 j = tb j ∧ 0 ≤ tb j ∧ tb j ≤ 255
theorem m_onW {bk : Int} {V S : mI} {F : Int → List (Int × Int)} {n : Int} {tb : Int → Int} {Q : Int → mI → Prop} {I0 : mI} (ht : tbM I0 n tb) (hM : ldM I0 bk V F) (hV : ldOK V) (hn : n = 5 + 2 * V 1 0 + V 1 2)
    (k1 : (∀ k, 0 ≤ k → k < V 1 2 → owP tb V k) → ∀ I' : mI, gfr 1 I0 I' → stM V I' 1 (tsF V S tb) → Q 1 I') (k0 : ¬ (∀ k, 0 ≤ k → k < V 1 2 → owP tb V k) → ∀ I' : mI, gfr 1 I0 I' → Q 0 I') :
    ∀ (d : Nat) (l : Int) (I : mI), 0 ≤ l → l + d = V 1 2 → (∀ k, 0 ≤ k → k < l → owP tb V k) → gfr 1 I0 I → I 185 1 = tb 0 * 256 + tb 1 → I 186 1 = tb 2 * 256 + tb 3 → I 190 1 = 0 → (∀ j, 0 ≤ j → (j < 6 ∧ (j < V 1 0 ∨ j < V 1 2)) → I 187 (6 + j) = tsF V S tb 1 j ∧ I 188 (6 + j) = tsF V S tb 2 j ∧ I 189 (6 + j) = if j < l then twF V tb j else S 3 j) → p12_comesOn_b289 (V 1 0) Q (d + 1) l I
  | 0, l, I, h0, h1, ho, hg, e0, e1, e2, e3 => by
    obtain ⟨m1, m2, m3, m4, m5, -⟩ := id (ldM_g hg hM)
    show p12_comesOn_b289_body (V 1 0) Q (p12_comesOn_b289 (V 1 0) Q 0) l I
    unfold p12_comesOn_b289_body
    rw [m1, m5]
    refine ⟨by omega, zt (by omega) (k1 (fun k a b => ho k a (by omega)) I hg ⟨e0, e1, e2, fun j j0 j6 => ⟨(e3 j j0 j6).1, (e3 j j0 j6).2.1, ?_⟩, fun j j0 j1 => ?_⟩)⟩
    · refine (e3 j j0 j6).2.2.trans ?_
      show _ = if j < V 1 2 then twF V tb j else S 3 j
      rw [show l = V 1 2 by omega]
    · have j1' : j < 3 * (0 : Int) := j1
      omega
  | d + 1, l, I, h0, h1, ho, hg, e0, e1, e2, e3 => by
    have nn := hV.1
    have hMI := ldM_g hg hM
    obtain ⟨m1, m2, m3, m4, m5, -⟩ := id hMI
    have tl := ht (4 + 2 * V 1 0 + l) (by omega) (by omega)
    show p12_comesOn_b289_body (V 1 0) Q (p12_comesOn_b289 (V 1 0) Q (d + 1)) l I
    unfold p12_comesOn_b289_body
    rw [m1, m5, hg.1 160 (by omega), tl.1]
    have go : ∀ x, x = twF V tb l → owP tb V l → wLet (up I 189 (6 + l) x) (fun I8 => rg (l + 1) ∧ p12_comesOn_b289 (V 1 0) Q (d + 1) (l + 1) I8) := fun x hx ow =>
      m_putK (fun I6 q6 g6 f6 => ⟨by omega, m_onW ht hM hV hn k1 k0 d (l + 1) I6 (by omega) (by omega) (fun k a b => by
        by_cases q : k = l
        · rw [q]; exact ow
        · exact ho k a (by omega)) (gfr_t hg ⟨fun z hz => f6 z (by omega), fun j _ => by rw [f6 185 (by decide), f6 186 (by decide), f6 190 (by decide)]; exact ⟨rfl, rfl, rfl⟩, fun j hj => by rw [f6 187 (by decide), f6 188 (by decide), g6 j (by omega)]; exact ⟨rfl, rfl, rfl⟩, fun j _ => by rw [f6 191 (by decide)]⟩) (by rw [f6 185 (by decide)]; exact e0) (by rw [f6 186 (by decide)]; exact e1) (by rw [f6 190 (by decide)]; exact e2) (fun j j0 j6 => by
          obtain ⟨a1, a2, a3⟩ := e3 j j0 j6
          rw [f6 187 (by decide), f6 188 (by decide)]
          refine ⟨a1, a2, ?_⟩
          by_cases q : j = l
          · rw [q, q6, if_pos (by omega)]; exact hx
          · rw [g6 _ (by omega)]
            refine a3.trans ?_
            by_cases q2 : j < l
            · rw [if_pos q2, if_pos (by omega)]
            · rw [if_neg q2, if_neg (by omega)])⟩)
    refine ⟨by omega, zf (by omega) ⟨by omega, by omega, by omega, by omega,  wLet_r ?_⟩⟩
    unfold p12_comesOn_b337
    by_cases e : tb (4 + 2 * V 1 0 + l) = 255
    · exact zt e ⟨by omega, zt e ⟨by omega, go _ (by unfold twF; rw [if_pos e]) (Or.inl e)⟩⟩
    · refine zf e (m_isColour hMI (fun q => zt rfl (k0 (fun z => ?_) I hg)) (fun q => zf (by decide) ⟨by omega, zf e ⟨by omega, go _ (by unfold twF; rw [if_neg e]) (Or.inr q)⟩⟩))
      rcases z l (by omega) (by omega) with z1 | z1
      · exact e z1
      · exact q z1
theorem m_onO {bk : Int} {V S : mI} {F : Int → List (Int × Int)} {n : Int} {tb : Int → Int} {Q : Int → mI → Prop} {I0 : mI} (ht : tbM I0 n tb) (hM : ldM I0 bk V F) (hV : ldOK V) (hn : n = 5 + 2 * V 1 0 + V 1 2) {A : Prop} (hA : A → omR tb (V 1 0) (V 1 0).toNat 0 0 ∧ ∀ k, 0 ≤ k → k < V 1 2 → owP tb V k)
    (k1 : (omR tb (V 1 0) (V 1 0).toNat 0 0 ∧ ∀ k, 0 ≤ k → k < V 1 2 → owP tb V k) → ∀ I' : mI, gfr 1 I0 I' → stM V I' 1 (tsF V S tb) → Q 1 I') (k0 : ¬ (omR tb (V 1 0) (V 1 0).toNat 0 0 ∧ ∀ k, 0 ≤ k → k < V 1 2 → owP tb V k) → ∀ I' : mI, gfr 1 I0 I' → Q 0 I') :
    ∀ (d : Nat) (seen l : Int) (I : mI), 0 ≤ l → l + d = V 1 0 → (omR tb (V 1 0) d l seen ↔ omR tb (V 1 0) (V 1 0).toNat 0 0) → gfr 1 I0 I → I 185 1 = tb 0 * 256 + tb 1 → I 186 1 = tb 2 * 256 + tb 3 → I 190 1 = 0 → (∀ j, 0 ≤ j → (j < 6 ∧ (j < V 1 0 ∨ j < V 1 2)) → I 187 (6 + j) = (if j < l then tb (4 + j) else S 1 j) ∧ I 188 (6 + j) = (if j < l then tb (4 + V 1 0 + j) else S 2 j) ∧ I 189 (6 + j) = S 3 j) → p12_comesOn_b189 (V 1 0) Q (d + 1) seen l I
  | 0, seen, l, I, h0, h1, ho, hg, e0, e1, e2, e3 => by
    have nn := hV.1
    show p12_comesOn_b189_body (V 1 0) Q (p12_comesOn_b189 (V 1 0) Q 0) seen l I
    unfold p12_comesOn_b189_body
    have om := ho.mp trivial
    refine zt (by omega) ⟨(V 1 2).toNat + 1, m_onW ht hM hV hn (fun a I' g s => k1 ⟨om, a⟩ I' g s) (fun a I' g => k0 (fun z => a z.2) I' g) _ 0 I (by omega) (by omega) (fun k a b => by omega) hg e0 e1 e2 (fun j j0 j6 => ?_)⟩
    obtain ⟨a1, a2, a3⟩ := e3 j j0 j6
    refine ⟨a1.trans ?_, a2.trans ?_, ?_⟩
    · show _ = if j < V 1 0 then tb (4 + j) else S 1 j
      rw [show l = V 1 0 by omega]
    · show _ = if j < V 1 0 then tb (4 + V 1 0 + j) else S 2 j
      rw [show l = V 1 0 by omega]
    · rw [if_neg (by omega)]; exact a3
  | d + 1, seen, l, I, h0, h1, ho, hg, e0, e1, e2, e3 => by
    have nn := hV.1
    have hMI := ldM_g hg hM
    have t1 := ht (4 + l) (by omega) (by omega)
    have t2 := ht (4 + V 1 0 + l) (by omega) (by omega)
    show p12_comesOn_b189_body (V 1 0) Q (p12_comesOn_b189 (V 1 0) Q (d + 1)) seen l I
    unfold p12_comesOn_b189_body p12_has2
    rw [hg.1 160 (by omega), t1.1, t2.1]
    refine zf (by omega) ⟨by omega, by omega, by omega, by omega, by omega,  wLet_r (m_isBlind hMI (fun q => zt rfl (k0 (fun z => q (ho.mpr z.1).1.1) I hg)) (fun q => zf (by decide) ?_))⟩
    have b01 := has1_01 seen (tb (4 + l))
    by_cases eb : has1 seen (tb (4 + l)) = 1
    · refine zt eb (zf (by decide) (k0 (fun z => ?_) I hg))
      have z1 : has1 seen (tb (4 + l)) = 0 := (ho.mpr z.1).1.2.1
      omega
    · refine zf eb (zt rfl (zs (fun e => ?_) (fun e => k0 (fun z => e (ho.mpr z.1).1.2.2) I hg)))
      have ho2 : omR tb (V 1 0) d (l + 1) (bOr seen (bShl 1 (tb (4 + l)))) ↔ omR tb (V 1 0) (V 1 0).toNat 0 0 := ⟨fun z => ho.mp ⟨⟨q, by omega, e⟩, z⟩, fun z => (ho.mpr z).2⟩
      refine wLet_r ⟨by omega, by omega,  m_putK (fun I5 q5 g5 f5 => ⟨by omega, by omega,  m_putK (fun I6 q6 g6 f6 => ⟨by omega, m_onO ht hM hV hn hA k1 k0 d _ (l + 1) I6 (by omega) (by omega) ho2 (gfr_t hg ⟨fun z hz => by rw [f6 z (by omega), f5 z (by omega)], fun j _ => ?_, fun j hj => ?_, fun j _ => ?_⟩) ?_ ?_ ?_ (fun j j0 j6 => ?_)⟩)⟩)⟩
      · rw [f6 185 (by decide), f6 186 (by decide), f6 190 (by decide), f5 185 (by decide), f5 186 (by decide), f5 190 (by decide)]; exact ⟨rfl, rfl, rfl⟩
      · rw [f6 187 (by decide), g5 j (by omega), g6 j (by omega), f5 188 (by decide), f6 189 (by decide), f5 189 (by decide)]; exact ⟨rfl, rfl, rfl⟩
      · rw [f6 191 (by decide), f5 191 (by decide)]
      · rw [f6 185 (by decide), f5 185 (by decide)]; exact e0
      · rw [f6 186 (by decide), f5 186 (by decide)]; exact e1
      · rw [f6 190 (by decide), f5 190 (by decide)]; exact e2
      · obtain ⟨a1, a2, a3⟩ := e3 j j0 j6
        rw [f6 187 (by decide), f6 189 (by decide), f5 189 (by decide)]
        by_cases q : j = l
        · rw [q, q5, q6, if_pos (by omega), if_pos (by omega)]
          rw [q] at a3
          exact ⟨rfl, rfl, a3⟩
        · rw [g5 _ (by omega), g6 _ (by omega), f5 188 (by decide)]
          refine ⟨a1.trans ?_, a2.trans ?_, a3⟩
          · by_cases q2 : j < l
            · rw [if_pos q2, if_pos (by omega)]
            · rw [if_neg q2, if_neg (by omega)]
          · by_cases q2 : j < l
            · rw [if_pos q2, if_pos (by omega)]
            · rw [if_neg q2, if_neg (by omega)]
theorem m_onC {bk : Int} {V S : mI} {F : Int → List (Int × Int)} {n : Int} {tb : Int → Int} {Q : Int → mI → Prop} {I : mI} (ht : tbM I n tb) (hM : ldM I bk V F) (hV : ldOK V) (hn : n = 5 + 2 * V 1 0 + V 1 2) (hS : stM V I 0 S) (hSt : stOK V S)
    (k1 : (ckR tb (n - 1).toNat 229 0 = tb (n - 1) ∧ omR tb (V 1 0) (V 1 0).toNat 0 0 ∧ ∀ k, 0 ≤ k → k < V 1 2 → owP tb V k) → ∀ I' : mI, gfr 1 I I' → stM V I' 1 (tsF V S tb) → Q 1 I') (k0 : ¬ (ckR tb (n - 1).toNat 229 0 = tb (n - 1) ∧ omR tb (V 1 0) (V 1 0).toNat 0 0 ∧ ∀ k, 0 ≤ k → k < V 1 2 → owP tb V k) → ∀ I' : mI, gfr 1 I I' → Q 0 I') :
    ∀ (d : Nat) (acc l : Int), 0 ≤ l → l + d = n - 1 → 0 ≤ acc → acc ≤ 250 → ckR tb d acc l = ckR tb (n - 1).toNat 229 0 → p12_comesOn_b82 n (V 1 0) I Q (d + 1) acc l
  | 0, acc, l, h0, h1, h2, h3, hc => by
    have nn := hV.1
    have tn := ht (n - 1) (by omega) (by omega)
    have t0 := ht 0 (by omega) (by omega)
    have t1 := ht 1 (by omega) (by omega)
    have t2 := ht 2 (by omega) (by omega)
    have t3 := ht 3 (by omega) (by omega)
    show p12_comesOn_b82_body n (V 1 0) I Q (p12_comesOn_b82 n (V 1 0) I Q 0) acc l
    unfold p12_comesOn_b82_body
    have hc' : acc = ckR tb (n - 1).toNat 229 0 := hc
    rw [tn.1]
    refine ⟨by omega, zt (by omega) ⟨by omega, by omega,  zs (fun e => ?_) (fun e => k0 (fun z => e (z.1.symm.trans hc'.symm)) I (gfr_r 1 I))⟩⟩
    refine m_copy (by omega) (by omega) (by omega) hS hSt.2.2.1 (fun I1 g1 f1 hS1 => ?_)
    have e160 : ∀ {I' : mI}, (∀ z, z ≠ 185 → z ≠ 186 → z ≠ 190 → I' z = I1 z) → I' 160 = I 160 := fun f => by rw [f 160 (by decide) (by decide) (by decide), g1.1 160 (by omega)]
    rw [g1.1 160 (by omega), t0.1, t1.1, pair8 t0.2 t1.2]
    refine m_putK (fun I2 q2 g2 f2 => ?_)
    rw [f2 160 (by decide), g1.1 160 (by omega), t2.1, t3.1, pair8 t2.2 t3.2]
    refine m_putK (fun I3 q3 g3 f3 => m_putK (fun I4 q4 g4 f4 => ⟨(V 1 0).toNat + 1, ?_⟩))
    have F4 : ∀ z, z ≠ 185 → z ≠ 186 → z ≠ 190 → I4 z = I1 z := fun z a b c => by rw [f4 z c, f3 z b, f2 z a]
    have G4 : gfr 1 I I4 := gfr_t g1 ⟨fun z hz => F4 z (by omega) (by omega) (by omega), fun j hj => ⟨by rw [f4 185 (by decide), f3 185 (by decide), g2 j hj], by rw [f4 186 (by decide), g3 j hj, f2 186 (by decide)], by rw [g4 j hj, f3 190 (by decide), f2 190 (by decide)]⟩, fun j _ => by rw [F4 187 (by decide) (by decide) (by decide), F4 188 (by decide) (by decide) (by decide), F4 189 (by decide) (by decide) (by decide)]; exact ⟨rfl, rfl, rfl⟩, fun j _ => by rw [F4 191 (by decide) (by decide) (by decide)]⟩
    have ce : ckR tb (n - 1).toNat 229 0 = tb (n - 1) := hc'.symm.trans e.symm
    refine m_onO (A := False) ht hM hV hn (fun q => q.elim) (fun a I' g s => k1 ⟨ce, a⟩ I' g s) (fun a I' g => k0 (fun z => a z.2) I' g) _ 0 0 I4 (by omega) (by omega) Iff.rfl G4 ?_ ?_ q4 (fun j j0 j6 => ?_)
    · rw [f4 185 (by decide), f3 185 (by decide)]; exact q2
    · rw [f4 186 (by decide)]; exact q3
    · rw [if_neg (by omega), if_neg (by omega), F4 187 (by decide) (by decide) (by decide), F4 188 (by decide) (by decide) (by decide), F4 189 (by decide) (by decide) (by decide)]
      exact (stM1 hS1).1 j j0 j6
  | d + 1, acc, l, h0, h1, h2, h3, hc => by
    have nn := hV.1
    have tl := ht l (by omega) (by omega)
    have r := th_rg (y := 5 * acc + tb l) (n := 251) (by omega) (by omega)
    show p12_comesOn_b82_body n (V 1 0) I Q (p12_comesOn_b82 n (V 1 0) I Q (d + 1)) acc l
    unfold p12_comesOn_b82_body
    rw [tl.1]
    exact ⟨by omega, zf (by omega) ⟨by omega, by omega, by omega,  wLet_r ⟨by omega, m_onC ht hM hV hn hS hSt k1 k0 d _ (l + 1) (by omega) (by omega) r.1 (by omega) hc⟩⟩⟩
theorem m_comesOn {bk : Int} {V S : mI} {F : Int → List (Int × Int)} {n : Int} {tb : Int → Int} {Q : Int → mI → Prop} {I : mI} (ht : tbM I n tb) (hM : ldM I bk V F) (hV : ldOK V) (hS : stM V I 0 S) (hSt : stOK V S)
    (k1 : fitP V n tb → ∀ I' : mI, gfr 1 I I' → stM V I' 1 (tsF V S tb) → Q 1 I') (k0 : ¬ fitP V n tb → ∀ I' : mI, gfr 1 I I' → Q 0 I') : p12_comesOn n I Q := by
  have nn := hV.1
  have hev := evb_rg nn.1
  obtain ⟨m1, m2, m3, m4, m5, -⟩ := id hM
  unfold p12_comesOn
  rw [m1, m3, m5]
  refine ⟨by omega, by omega, by omega, by omega, by omega,  zs (fun e => ?_) (fun e => k0 (fun z => e z.1) I (gfr_r 1 I))⟩
  have t0 := ht 0 (by omega) (by omega)
  have t1 := ht 1 (by omega) (by omega)
  have t2 := ht 2 (by omega) (by omega)
  have t3 := ht 3 (by omega) (by omega)
  have oo := oa_om (tb := tb) nn.1 (V 1 0).toNat 0 0 (by omega) (by omega) (by omega) (by decide)
  rw [t0.1, t1.1, t2.1, t3.1, pair8 t0.2 t1.2, pair8 t2.2 t3.2]
  refine zs (fun e1 => k0 (fun z => ?_) I (gfr_r 1 I)) (fun e1 => zs (fun e2 => ?_) (fun e2 => k0 (fun z => e2 z.2.2.2.1) I (gfr_r 1 I)))
  · have := z.2.2.1; omega
  · refine ⟨(n - 1).toNat + 1, m_onC ht hM hV e hS hSt (fun a I' g s => k1 ⟨e, a.1, by omega, e2, oo.mpr a.2.1, a.2.2⟩ I' g s) (fun a I' g => k0 (fun z => a ⟨z.2.1, oo.mp z.2.2.2.2.1, z.2.2.2.2.2⟩) I' g) _ 229 0 (by omega) (by omega) (by omega) (by omega) rfl⟩
