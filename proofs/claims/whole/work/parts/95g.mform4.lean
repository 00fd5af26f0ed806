/-! THE READERS: the model's machine goes on, ends -/
section
variable {tb : Int → Int} {n : Int} {m : Nat} {b fm : Int} {f i q : Nat} {I J : mI} {hs : List Int} {least : Int}
/-- the cells of the frame at hand change, no others -/
theorem fR_f {I3 I4 : mI} (h1 : ∀ z, z ≠ 178 → z ≠ 179 → z ≠ 180 → I4 z = I3 z) (h2 : ∀ k, k ≠ (f : Int) → I4 178 k = I3 178 k ∧ I4 179 k = I3 179 k ∧ I4 180 k = I3 180 k) : fR b f q I3 I4 := by
  refine ⟨⟨fun z a c d e => h1 z (by omega) (by omega) (by omega), fun j _ => by rw [h1 159 (by decide) (by decide) (by decide)], fun j _ => ?_⟩, fun k _ => ?_, fun k a => h2 k (by omega), fun k _ => by rw [h1 183 (by decide) (by decide) (by decide)], by rw [h1 159 (by decide) (by decide) (by decide)]; exact Int.le_refl _, fun z _ => ?_⟩
  · rw [h1 175 (by decide) (by decide) (by decide), h1 176 (by decide) (by decide) (by decide)]; exact ⟨rfl, rfl⟩
  · rw [h1 182 (by decide) (by decide) (by decide), h1 181 (by decide) (by decide) (by decide)]; exact ⟨rfl, rfl⟩
  · rw [h1 175 (by decide) (by decide) (by decide), h1 176 (by decide) (by decide) (by decide)]; exact ⟨rfl, rfl⟩
theorem opH_2 {op ph bg ph' bg' : Int} {I4 I5 : mI} (h : opH b f q hs op ph bg I I4) (h1 : ∀ z, z ≠ 178 → z ≠ 179 → z ≠ 180 → I5 z = I4 z) (h2 : ∀ k, k ≠ (f : Int) → I5 178 k = I4 178 k ∧ I5 179 k = I4 179 k ∧ I5 180 k = I4 180 k) (h3 : I5 178 f = I4 178 f) (h4 : I5 179 f = ph') (h5 : I5 180 f = bg') : opH b f q hs op ph' bg' I I5 := by
  obtain ⟨a1, a2, a3, a4, a5, a6, a7, a8, a9, a10, a11⟩ := h
  have e := h1 159 (by decide) (by decide) (by decide)
  refine ⟨fR_t a1 (fR_f (f := f) (q := q) h1 h2) (Nat.le_refl f) (Nat.le_refl q), by rw [e]; exact a2, by rw [e]; exact a3, by rw [e]; exact a4, ?_, by rw [e]; exact a6, by rw [e]; exact a7, ?_, h3.trans a9, h4, h5⟩
  · rw [h1 183 (by decide) (by decide) (by decide)]; exact a5
  · exact segM_fr (h1 175 (by decide) (by decide) (by decide)) (h1 176 (by decide) (by decide) (by decide)) a8
theorem fR_wk {f' q' : Nat} {I1 I2 : mI} (x : fR b f' q' I1 I2) (hf : f ≤ f') (hq : q ≤ q') : fR b f q I1 I2 := fR_t (fR_r b f q I1) x hf hq
theorem m_addR {s v : Int} {Q : mI → Prop} (hb : I 159 32 = b) (b01 : b = 0 ∨ b = 1) (c0 : 0 ≤ I 159 31) (c1 : I 159 31 < 1600)
    (kk : ∀ I' : mI, fR b f q I I' → (∀ z, z ≠ 159 → z ≠ 175 → z ≠ 176 → I' z = I z) → (∀ j, j ≠ 31 → I' 159 j = I 159 j) → I' 159 31 = I 159 31 + 1 → segM I' (1600 * b + I 159 31) [(s, v)] → Q I') : p12_add s v I Q := by
  refine m_add hb b01 rfl c0 c1 (fun I' u1 u2 u3 u4 u5 u6 => kk I' ⟨⟨fun z a c d _ => u1 z a c d, fun j a => u2 j (by omega), fun j a => u3 j (by omega)⟩, fun k _ => ?_, fun k _ => ?_, fun k _ => ?_, by omega, fun z a => u3 z (by omega)⟩ u1 u2 u4 ⟨⟨u5, fun _ => u6⟩, trivial⟩)
  · rw [u1 182 (by decide) (by decide) (by decide), u1 181 (by decide) (by decide) (by decide)]; exact ⟨rfl, rfl⟩
  · rw [u1 178 (by decide) (by decide) (by decide), u1 179 (by decide) (by decide) (by decide), u1 180 (by decide) (by decide) (by decide)]; exact ⟨rfl, rfl, rfl⟩
  · rw [u1 183 (by decide) (by decide) (by decide)]
/-- and, or -/
theorem go_lo {op : Int} {Q : Int → mI → mI → Prop} (hc : ctD tb n m) (hL : mL tb n m b fm f i I J) (ht : isT (I 178 f)) (hph : I 179 f = 1 ∨ I 179 f = 2) (z : (sAnd (kN1 tb n) (vN1 tb n) i = 41 ∧ op = 41 ∧ least = 2) ∨ (sOr (kN1 tb n) (vN1 tb n) i = 42 ∧ op = 42 ∧ least = 1)) (hH : mH f q least hs I)
    (kk : ∀ I' J', opR tb n b f i q hs op 0 1 I I' J J' → Q 1 I' J') : p12_goesOn I J Q := by
  have hf8 := hL.2.2.2.2.2.2
  have sk : (kN1 tb n i = 1 ∧ vN1 tb n i = 23 ∧ op = 41 ∧ least = 2) ∨ (kN1 tb n i = 1 ∧ vN1 tb n i = 22 ∧ op = 42 ∧ least = 1) := by
    rcases z with ⟨z1, z2, z3⟩ | ⟨z1, z2, z3⟩
    · have := sAnd_k (K := kN1 tb n) (V := vN1 tb n) (i := i) (by rw [z1]; decide)
      exact Or.inl ⟨this.1.1, this.1.2, z2, z3⟩
    · have := sOr_k (K := kN1 tb n) (V := vN1 tb n) (i := i) (by rw [z1]; decide)
      exact Or.inr ⟨this.1.1, this.1.2, z2, z3⟩
  have k1 : kN1 tb n i = 1 := by rcases sk with x | x <;> exact x.1
  have im : i < m := tkM_lt (tkM_of hc) hL.2.1 (by rw [k1]; decide)
  refine go_in hL (by omega) (fun I' h5 _ => by omega) (fun _ ar _ => ?_) (fun h12 _ => ?_)
  · rcases ar with q | q
    · have := sSum_k q; omega
    · have := sPro_k q; omega
  have go : ∀ I2, jnR b f q hs I I2 → mS tb n i I2 J → p12_goesOn_b372 f op I2 J Q := fun I2 hj hS => by
    unfold p12_goesOn_b372
    refine m_jh (by have := hH.2.2.2.1; omega) hj hS (fun I3 h3 hS3 => ⟨by omega, m_putK (fun I4 q4 g4 f4 => ⟨by omega, m_putK (fun I5 q5 g5 f5 => ?_)⟩)⟩)
    refine go_fin hc im (op := op) (ph := 0) (bg := 1) (q := q) (hs := hs) (b := b) (f := f) (I := I) (opH_2 h3 (fun z a c d => by rw [f5 z d, f4 z c]) (fun k hk => ?_) ?_ ?_ q5) (mS_f hS3 (by rw [f5 160 (by decide), f4 160 (by decide)]) (fun j _ _ => by rw [f5 159 (by decide), f4 159 (by decide)]) rfl) kk
    · rw [f5 178 (by decide), f4 178 (by decide), f5 179 (by decide), g4 k hk, g5 k hk, f4 180 (by decide)]; exact ⟨rfl, rfl, rfl⟩
    · rw [f5 178 (by decide), f4 178 (by decide)]
    · rw [f5 179 (by decide)]; exact q4
  have at9 : p12_goesOn_b309 f I J Q := by
    unfold p12_goesOn_b309
    refine ⟨by omega, zf (by omega) ?_⟩
    unfold p12_goesOn_b327
    refine zt (by have := hL.2.2.1; omega) (m_isWk (k := 23) hc hL.2.1 hL.1 h12 (by rw [ownM_all]; rfl) (by decide) (fun a => zf (by decide) ?_) (fun a => zt rfl ?_))
    · rcases sk with ⟨_, s2, s3, s4⟩ | ⟨_, s2, _⟩
      · subst s3; subst s4
        unfold p12_goesOn_b356
        exact m_join hL hH (fun I2 hj hS => zf (by decide) (go I2 hj hS))
      · exact absurd (a.2.symm.trans s2) (by decide)
    · rcases sk with ⟨s1, s2, _⟩ | ⟨_, s2, s3, s4⟩
      · exact absurd ⟨s1, s2⟩ a
      · subst s3; subst s4
        unfold p12_goesOn_b356
        exact m_join hL hH (fun I2 hj hS => zt rfl (go I2 hj hS))
  rw [if_pos ht]
  unfold p12_goesOn_b188
  refine zf (by decide) ⟨by omega, zf (by omega) ?_⟩
  unfold p12_goesOn_b285
  refine zf (by decide) (m_isWk (k := 23) hc hL.2.1 hL.1 h12 (by rw [ownM_all]; rfl) (by decide) (fun a => zf (by decide) at9) (fun a => zt rfl (m_isWk (k := 22) hc hL.2.1 hL.1 h12 (by rw [ownM_all]; rfl) (by decide) (fun a2 => zf (by decide) at9) (fun a2 => ?_))))
  rcases sk with ⟨s1, s2, _⟩ | ⟨s1, s2, _⟩
  · exact absurd ⟨s1, s2⟩ a
  · exact absurd ⟨s1, s2⟩ a2
/-- after a fault it ends -/
theorem go_d22 {kd : Int} {Q : Int → mI → mI → Prop} {I1 : mI} (h8 : 0 < I1 159 8) (kk : Q 0 I1 J) : p12_goesOn_b422 f kd I1 J Q := by
  have d470 : ∀ x : Int, p12_goesOn_b470 f x I1 J Q := fun x => by
    unfold p12_goesOn_b470
    exact zf (by omega) kk
  have d452 : p12_goesOn_b452 f kd I1 J Q := by
    unfold p12_goesOn_b452 p12_isSign
    exact zs (fun _ => zs (fun _ => zf (by decide) (d470 kd)) (fun _ => zt rfl (m_blmD h8 (d470 kd)))) (fun _ => zt rfl (m_blmD h8 (d470 kd)))
  have d546 : p12_goesOn_b546 f kd I1 J Q := by
    unfold p12_goesOn_b546
    exact zf (by omega) kk
  have d531 : ∀ s, p12_goesOn_b531 f kd s I1 J Q := fun s => by
    unfold p12_goesOn_b531 p12_isSign
    exact zs (fun _ => zs (fun _ => zf (by decide) d546) (fun _ => zt rfl (m_blmD h8 d546))) (fun _ => zt rfl (m_blmD h8 d546))
  unfold p12_goesOn_b422
  exact zs (fun _ => zs (fun _ => d452) (fun _ => zs (fun _ => d452) (fun _ => zs (fun _ => d531 93) (fun _ => d531 41)))) (fun _ => zf (by omega) kk)
/-- a test that holds no comparison -/
theorem go_ph0 {Q : Int → mI → mI → Prop} (hc : ctD tb n m) (hL : mL tb n m b fm f i I J) (ht : isT (I 178 f)) (hph : I 179 f = 0) (za : sSum (kN1 tb n) (vN1 tb n) i = 0 ∧ sPro (kN1 tb n) (vN1 tb n) i = 0) (zc : sCmp (kN1 tb n) (vN1 tb n) i = 0)
    (kk : ∀ I', mNo b I I' J J 1 (lN1 tb n i) → Q 0 I' J) : p12_goesOn I J Q := by
  have hf8 := hL.2.2.2.2.2.2
  refine go_in hL (by omega) (fun I' _ => kk I') (fun _ ar _ => ?_) (fun h12 _ => ?_)
  · rcases ar with q | q
    · exact absurd za.1 q
    · exact absurd za.2 q
  have e4 := m_pl hL.1 h12
  have bl : ∀ Qx : mI → Prop, (∀ I', 0 < I' 159 8 → Q 0 I' J → Qx I') → p12_blame 1 (I 159 4) I Qx := fun Qx k => m_blmL hL.2.2.1 (fun I' fz fj f8 f9 => k I' (by omega) (kk I' (mNo_b (by decide) fz fj f8 (f9.trans e4))))
  have at9 : p12_goesOn_b309 f I J Q := by
    unfold p12_goesOn_b309
    refine ⟨by omega, zt hph (bl _ (fun I' h8 hq => ?_))⟩
    unfold p12_goesOn_b327
    exact zf (by omega) hq
  have at400 : p12_goesOn_b400 f (I 178 f) 1 I J Q := by
    unfold p12_goesOn_b400
    exact zf (by decide) ⟨by omega, zt hph (bl _ (fun I' h8 hq => go_d22 h8 hq))⟩
  have at285 : p12_goesOn_b285 f (I 178 f) 1 I J Q := by
    unfold p12_goesOn_b285
    exact zf (by decide) (m_isWk (k := 23) hc hL.2.1 hL.1 h12 (by rw [ownM_all]; rfl) (by decide) (fun a => zf (by decide) at9) (fun a => zt rfl (m_isWk (k := 22) hc hL.2.1 hL.1 h12 (by rw [ownM_all]; rfl) (by decide) (fun a2 => zf (by decide) at9) (fun a2 => zt rfl at400))))
  rw [if_pos ht]
  unfold p12_goesOn_b188
  have no : ∀ {x : Prop}, sCmp (kN1 tb n) (vN1 tb n) i ≠ 0 → x := fun q => absurd zc q
  refine zf (by decide) ⟨by omega, zt hph (m_isSg hL.1 (sgx_ok _ (by decide)) (fun a => no ?_) (fun a => zt rfl (m_isSg hL.1 (sgx_ok _ (by decide)) (fun a2 => no ?_) (fun a2 => zt rfl (m_isSg hL.1 (sgx_ok _ (by decide)) (fun a3 => no ?_) (fun a3 => zt rfl at285))))))⟩
  · unfold sCmp; rw [if_pos a]; decide
  · unfold sCmp; rw [if_neg a, if_pos a2]; decide
  · unfold sCmp; rw [if_neg a, if_neg a2, if_pos a3]; decide
/-- no operator: what then -/
theorem go_22 {Q : Int → mI → mI → Prop} (hc : ctD tb n m) (hL : mL tb n m b fm f i I J) (hph : 0 ≤ I 179 f ∧ I 179 f ≤ 2) (za : I 179 f < 2 → sSum (kN1 tb n) (vN1 tb n) i = 0 ∧ sPro (kN1 tb n) (vN1 tb n) i = 0) (ht : isT (I 178 f) → I 179 f ≠ 0 ∧ sAnd (kN1 tb n) (vN1 tb n) i = 0 ∧ sOr (kN1 tb n) (vN1 tb n) i = 0)
    (k5 : ∀ I', kN1 tb n i = 5 → mNo b I I' J J 1 (lN1 tb n i) → Q 0 I' J) (kk : I 159 12 = -1 → p12_goesOn_b422 f (I 178 f) I J Q) : p12_goesOn I J Q := by
  have hf8 := hL.2.2.2.2.2.2
  refine go_in hL hph k5 (fun _ ar h2 => ?_) (fun h12 _ => ?_)
  · rcases ar with q | q
    · exact absurd (za h2).1 q
    · exact absurd (za h2).2 q
  have k := kk h12
  by_cases t : isT (I 178 f)
  · have t3 := ht t
    rw [if_pos t]
    unfold p12_goesOn_b188
    refine zf (by decide) ⟨by omega, zf t3.1 ?_⟩
    unfold p12_goesOn_b285
    refine zf (by decide) (m_isWk (k := 23) hc hL.2.1 hL.1 h12 (by rw [ownM_all]; rfl) (by decide) (fun a => ?_) (fun a => zt rfl (m_isWk (k := 22) hc hL.2.1 hL.1 h12 (by rw [ownM_all]; rfl) (by decide) (fun a2 => ?_) (fun a2 => zt rfl ?_))))
    · exfalso
      have := t3.2.1
      unfold sAnd at this
      have a' : kN1 tb n i = 1 ∧ vN1 tb n i = 23 := a
      rw [if_pos a'] at this; omega
    · exfalso
      have := t3.2.2
      unfold sOr at this
      have a' : kN1 tb n i = 1 ∧ vN1 tb n i = 22 := a2
      rw [if_pos a'] at this; omega
    · unfold p12_goesOn_b400
      exact zf (by decide) ⟨by omega, zf t3.1 k⟩
  · rw [if_neg t]
    unfold p12_goesOn_b188
    refine zt rfl ?_
    unfold p12_goesOn_b285
    refine zt rfl ?_
    unfold p12_goesOn_b400
    exact zt rfl k
/-- the whole formula ends -/
theorem go_end {Q : Int → mI → mI → Prop} (hc : ctD tb n m) (hL : mL tb n m b fm f i I J) (hkd : I 178 f = 0 ∨ I 178 f = 1) (hph : 0 ≤ I 179 f ∧ I 179 f ≤ 2) (za : I 179 f < 2 → sSum (kN1 tb n) (vN1 tb n) i = 0 ∧ sPro (kN1 tb n) (vN1 tb n) i = 0) (ht : isT (I 178 f) → I 179 f ≠ 0 ∧ sAnd (kN1 tb n) (vN1 tb n) i = 0 ∧ sOr (kN1 tb n) (vN1 tb n) i = 0) (hH : mH f q 1 hs I)
    (k5 : ∀ I', kN1 tb n i = 5 → mNo b I I' J J 1 (lN1 tb n i) → Q 0 I' J) (kk : ∀ I', jnR b f q hs I I' → mS tb n i I' J → Q 0 I' J) : p12_goesOn I J Q := by
  refine go_22 hc hL hph za ht k5 (fun h12 => ?_)
  unfold p12_goesOn_b422
  exact zf (by omega) (zt hL.2.2.1 (m_join hL hH kk))
/-- a comma, or a fault -/
theorem go_com {Q : Int → mI → mI → Prop} (hc : ctD tb n m) (hL : mL tb n m b fm f i I J) (hkd : I 178 f = 3 ∨ I 178 f = 6) (hph : 0 ≤ I 179 f ∧ I 179 f ≤ 2) (za : I 179 f < 2 → sSum (kN1 tb n) (vN1 tb n) i = 0 ∧ sPro (kN1 tb n) (vN1 tb n) i = 0) (ht : isT (I 178 f) → I 179 f ≠ 0 ∧ sAnd (kN1 tb n) (vN1 tb n) i = 0 ∧ sOr (kN1 tb n) (vN1 tb n) i = 0) (hH : mH f q 1 hs I)
    (k0 : ∀ I', ¬ (kN1 tb n i = 4 ∧ vN1 tb n i = 44) → mNo b I I' J J 1 (lN1 tb n i) → Q 0 I' J)
    (kk : (kN1 tb n i = 4 ∧ vN1 tb n i = 44) → ∀ I' J', fR b f q I I' → jK J J' → mS tb n (i + 1) I' J' → I' 159 8 = 0 → I' 159 39 = I 159 39 → I' 159 42 = q → I' 159 31 = I 159 31 + (hs.length : Int) → I' 159 40 = I 159 40 - nts hs → segM I' (1600 * b + I 159 31) (opC hs) → I' 159 43 = 0 → I' 178 f = (if I 178 f = 3 then 4 else 3) → I' 179 f = 0 → Q 1 I' J') : p12_goesOn I J Q := by
  have hf8 := hL.2.2.2.2.2.2
  have h8 := hL.2.2.1
  refine go_22 hc hL hph za ht (fun I' h5 => k0 I' (fun q => by omega)) (fun h12 => ?_)
  have e4 := m_pl hL.1 h12
  have at499 : ∀ s2 : Int, s2 = (if I 178 f = 3 then 4 else 3) → (kN1 tb n i = 4 ∧ vN1 tb n i = 44) → ∀ I2, jnR b f q hs I I2 → mS tb n i I2 J → p12_goesOn_b499 f f s2 I2 J Q := fun s2 hs2 a I2 hj hS => by
    obtain ⟨j1, j2, j3, j4, j5, j6, j7⟩ := hj
    have im : i < m := tkM_lt (tkM_of hc) hL.2.1 (by rw [a.1]; decide)
    unfold p12_goesOn_b499
    refine ⟨by omega, m_putK (fun I3 q3 g3 f3 => ⟨by omega, m_putK (fun I4 q4 g4 f4 => ?_)⟩)⟩
    have e0 : ∀ z, z ≠ 178 → z ≠ 179 → I4 z = I2 z := fun z a c => by rw [f4 z c, f3 z a]
    refine m_next hc im (mS_f hS (e0 160 (by decide) (by decide)) (fun j _ _ => by rw [e0 159 (by decide) (by decide)]) rfl) (fun I5 J5 hf h5 => m_putK (fun I6 q6 g6 f6 => ?_))
    have ez : ∀ z, z ≠ 159 → I6 z = I4 z := fun z hz => (f6 z hz).trans (hf.1 z hz)
    have ej : ∀ j, j ≠ 3 → j ≠ 4 → j ≠ 5 → j ≠ 6 → j ≠ 12 → j ≠ 43 → I6 159 j = I2 159 j := fun j a c d e g k => by rw [g6 j k, hf.2.1 j a c d e g, e0 159 (by decide) (by decide)]
    have e31 := ej 31 (by decide) (by decide) (by decide) (by decide) (by decide) (by decide)
    refine kk a I6 J5 (fR_t j1 (fR_t (fR_f (f := f) (q := q) (I3 := I2) (I4 := I4) (fun z a c d => e0 z a c) (fun k hk => ?_)) (fR_1 (f := f) (q := q) ez (fun j a => by rw [ej j (by omega) (by omega) (by omega) (by omega) (by omega) (by omega), e0 159 (by decide) (by decide)]) (by rw [e31, e0 159 (by decide) (by decide)])) (Nat.le_refl f) (Nat.le_refl q)) (Nat.le_refl f) (Nat.le_refl q)) ⟨hf.2.2.1, hf.2.2.2⟩ (mS_f h5 (f6 160 (by decide)) (fun j a c => g6 j (by omega)) rfl) ?_ ?_ ?_ (e31.trans j5) ?_ ?_ q6 ?_ ?_
    · rw [f4 178 (by decide), g3 k hk, g4 k hk, f3 179 (by decide), f4 180 (by decide), f3 180 (by decide)]; exact ⟨rfl, rfl, rfl⟩
    · rw [ej 8 (by decide) (by decide) (by decide) (by decide) (by decide) (by decide), j3 8 (by decide) (by decide) (by decide)]; exact h8
    · rw [ej 39 (by decide) (by decide) (by decide) (by decide) (by decide) (by decide), j3 39 (by decide) (by decide) (by decide)]
    · rw [ej 42 (by decide) (by decide) (by decide) (by decide) (by decide) (by decide)]; exact j4
    · rw [ej 40 (by decide) (by decide) (by decide) (by decide) (by decide) (by decide)]; exact j6
    · exact segM_fr ((ez 175 (by decide)).trans (e0 175 (by decide) (by decide))) ((ez 176 (by decide)).trans (e0 176 (by decide) (by decide))) j7
    · rw [ez 178 (by decide), f4 178 (by decide), q3]; exact hs2
    · rw [ez 179 (by decide)]; exact q4
  have at452 : p12_goesOn_b452 f (I 178 f) I J Q := by
    unfold p12_goesOn_b452
    refine m_isSg hL.1 (sgx_ok _ (by decide)) (fun a => zf (by decide) ?_) (fun a => zt rfl (m_blmL h8 (fun I' fz fj f8 f9 => ?_)))
    · unfold p12_goesOn_b470
      refine zt (by omega) (m_join hL hH (fun I2 hj hS => zs (fun e => ?_) (fun e => ?_)))
      · exact at499 4 (by rw [if_pos e]) a I2 hj hS
      · exact at499 3 (by rw [if_neg e]) a I2 hj hS
    · unfold p12_goesOn_b470
      exact zf (by omega) (k0 I' a (mNo_b (by decide) fz fj f8 (f9.trans e4)))
  unfold p12_goesOn_b422
  exact zt (by omega) (zs (fun _ => at452) (fun _ => zt (by omega) at452))
/-- what closes, or a fault -/
theorem go_cls {Q : Int → mI → mI → Prop} (hc : ctD tb n m) (hL : mL tb n m b fm (f + 1) i I J) (hkd : I 178 ((f + 1 : Nat) : Int) = 2 ∨ I 178 ((f + 1 : Nat) : Int) = 4 ∨ I 178 ((f + 1 : Nat) : Int) = 5) (hph : 0 ≤ I 179 ((f + 1 : Nat) : Int) ∧ I 179 ((f + 1 : Nat) : Int) ≤ 2) (za : I 179 ((f + 1 : Nat) : Int) < 2 → sSum (kN1 tb n) (vN1 tb n) i = 0 ∧ sPro (kN1 tb n) (vN1 tb n) i = 0) (ht : isT (I 178 ((f + 1 : Nat) : Int)) → I 179 ((f + 1 : Nat) : Int) ≠ 0 ∧ sAnd (kN1 tb n) (vN1 tb n) i = 0 ∧ sOr (kN1 tb n) (vN1 tb n) i = 0) (hH : mH (f + 1) q 1 hs I) (h16 : I 159 31 + (hs.length : Int) < 1600)
    {cl : Int} (hcl : cl = if I 178 ((f + 1 : Nat) : Int) = 5 then 93 else 41) {ex : List (Int × Int)} (hex : ex = if I 178 ((f + 1 : Nat) : Int) = 4 then [(I 181 ((f + 1 : Nat) : Int), 0)] else [])
    (k0 : ∀ I', ¬ (kN1 tb n i = 4 ∧ vN1 tb n i = cl) → mNo b I I' J J 1 (lN1 tb n i) → Q 0 I' J)
    (kk : (kN1 tb n i = 4 ∧ vN1 tb n i = cl) → ∀ I' J', fR b f q I I' → jK J J' → mS tb n (i + 1) I' J' → I' 159 8 = 0 → I' 159 39 = (f : Int) + 1 → I' 159 42 = q → I' 159 31 = I 159 31 + (hs.length : Int) + (ex.length : Int) → I' 159 40 = I 159 40 - nts hs - 1 → segM I' (1600 * b + I 159 31) (opC hs ++ ex) → I' 159 43 = I 159 43 → I' 178 f = I 178 f → I' 179 f = (if I 178 ((f + 1 : Nat) : Int) = 5 then 2 else I 179 f) → I' 180 f = I 180 f → Q 1 I' J') : p12_goesOn I J Q := by
  have hf8 := hL.2.2.2.2.2.2
  have h8 := hL.2.2.1
  have h31 := hH.2.2.2.2.1
  have h40 := hH.2.2.2.2.2.2.1
  have nr := nts_rg hs
  refine go_22 hc hL hph za ht (fun I' h5 => k0 I' (fun q => by omega)) (fun h12 => ?_)
  have e4 := m_pl hL.1 h12
  have at596 : (kN1 tb n i = 4 ∧ vN1 tb n i = cl) → ∀ I3 : mI, fR b f q I I3 → mS tb n i I3 J → I3 159 8 = 0 → I3 159 39 = (f : Int) + 1 → I3 159 42 = q → I3 159 31 = I 159 31 + (hs.length : Int) + (ex.length : Int) → I3 159 40 = I 159 40 - nts hs - 1 → segM I3 (1600 * b + I 159 31) (opC hs ++ ex) → I3 159 43 = I 159 43 → I3 178 f = I 178 f → I3 179 f = I 179 f → I3 180 f = I 180 f → p12_goesOn_b596 (I 178 ((f + 1 : Nat) : Int)) I3 J Q := fun a I3 r1 r2 r3 r4 r5 r6 r7 r8 r9 r10 r11 r12 => by
    have im : i < m := tkM_lt (tkM_of hc) hL.2.1 (by rw [a.1]; decide)
    have fin : ∀ I4 : mI, (∀ z, z ≠ 179 → I4 z = I3 z) → (∀ k, k ≠ (f : Int) → I4 179 k = I3 179 k) → I4 179 f = (if I 178 ((f + 1 : Nat) : Int) = 5 then 2 else I 179 f) → p12_ahead I4 J (fun I5 J5 => Q 1 I5 J5) := fun I4 f4 g4 q4 => by
      refine m_next hc im (mS_f r2 (f4 160 (by decide)) (fun j _ _ => by rw [f4 159 (by decide)]) rfl) (fun I5 J5 hf h5 => ?_)
      have ej : ∀ j, j ≠ 3 → j ≠ 4 → j ≠ 5 → j ≠ 6 → j ≠ 12 → I5 159 j = I3 159 j := fun j a c d e g => by rw [hf.2.1 j a c d e g, f4 159 (by decide)]
      have e31 := ej 31 (by decide) (by decide) (by decide) (by decide) (by decide)
      refine kk a I5 J5 (fR_t r1 (fR_t (fR_f (f := f) (q := q) (I3 := I3) (I4 := I4) (fun z a c d => f4 z c) (fun k hk => ?_)) (fR_1 (f := f) (q := q) hf.1 (fun j a => by rw [ej j (by omega) (by omega) (by omega) (by omega) (by omega), f4 159 (by decide)]) (by rw [e31, f4 159 (by decide)])) (Nat.le_refl f) (Nat.le_refl q)) (Nat.le_refl f) (Nat.le_refl q)) ⟨hf.2.2.1, hf.2.2.2⟩ h5 ?_ ?_ ?_ (e31.trans r6) ?_ ?_ ?_ ?_ ?_ ?_
      · rw [f4 178 (by decide), g4 k hk, f4 180 (by decide)]; exact ⟨rfl, rfl, rfl⟩
      · rw [ej 8 (by decide) (by decide) (by decide) (by decide) (by decide)]; exact r3
      · rw [ej 39 (by decide) (by decide) (by decide) (by decide) (by decide)]; exact r4
      · rw [ej 42 (by decide) (by decide) (by decide) (by decide) (by decide)]; exact r5
      · rw [ej 40 (by decide) (by decide) (by decide) (by decide) (by decide)]; exact r7
      · exact segM_fr ((hf.1 175 (by decide)).trans (f4 175 (by decide))) ((hf.1 176 (by decide)).trans (f4 176 (by decide))) r8
      · rw [ej 43 (by decide) (by decide) (by decide) (by decide) (by decide)]; exact r9
      · rw [hf.1 178 (by decide), f4 178 (by decide)]; exact r10
      · rw [hf.1 179 (by decide)]; exact q4
      · rw [hf.1 180 (by decide), f4 180 (by decide)]; exact r12
    unfold p12_goesOn_b596
    refine zs (fun e => ?_) (fun e => ?_)
    · rw [if_pos e] at fin
      rw [r4, show (f : Int) + 1 - 1 = f by omega]
      exact ⟨by omega, by omega, m_putK (fun I4 q4 g4 f4 => fin I4 f4 g4 q4)⟩
    · rw [if_neg e] at fin
      exact fin I3 (fun _ _ => rfl) (fun _ _ => rfl) r11
  have at546 : (kN1 tb n i = 4 ∧ vN1 tb n i = cl) → p12_goesOn_b546 ((f + 1 : Nat) : Int) (I 178 ((f + 1 : Nat) : Int)) I J Q := fun a => by
    unfold p12_goesOn_b546
    refine zt (by omega) (m_join hL hH (fun I2 hj hS => ?_))
    obtain ⟨j1, j2, j3, j4, j5, j6, j7⟩ := hj
    have e39 : I2 159 39 = (f : Int) + 2 := by rw [j3 39 (by decide) (by decide) (by decide), hL.2.2.2.2.2.1]; omega
    rw [e39]
    refine ⟨by omega, m_putK (fun I3 q3 g3 f3 => ?_)⟩
    rw [g3 40 (by decide), j6]
    refine ⟨by omega, m_putK (fun I4 q4 g4 f4 => ?_)⟩
    have ez : ∀ z, z ≠ 159 → I4 z = I2 z := fun z hz => (f4 z hz).trans (f3 z hz)
    have ej : ∀ j, j ≠ 39 → j ≠ 40 → I4 159 j = I2 159 j := fun j a c => (g4 j c).trans (g3 j a)
    have e31 : I4 159 31 = I2 159 31 := ej 31 (by decide) (by decide)
    have fr4 : fR b f q I I4 := fR_t (fR_wk j1 (Nat.le_succ f) (Nat.le_refl q)) (fR_1 (f := f) (q := q) ez (fun j a => ej j (by omega) (by omega)) e31) (Nat.le_refl f) (Nat.le_refl q)
    have hS4 : mS tb n i I4 J := mS_f hS (ez 160 (by decide)) (fun j a c => ej j (by omega) (by omega)) rfl
    have k8 : I4 159 8 = 0 := by rw [ej 8 (by decide) (by decide), j3 8 (by decide) (by decide) (by decide)]; exact h8
    have k39 : I4 159 39 = (f : Int) + 1 := by rw [g4 39 (by decide), q3]; omega
    have k42 : I4 159 42 = q := by rw [ej 42 (by decide) (by decide)]; exact j4
    have k43 : I4 159 43 = I 159 43 := by rw [ej 43 (by decide) (by decide), j3 43 (by decide) (by decide) (by decide)]
    have kf : ∀ z, z ≠ 159 → z ≠ 175 → z ≠ 176 → I4 z = I z := fun z a c d => (ez z a).trans (j2 z a c d)
    have sg4 : segM I4 (1600 * b + I 159 31) (opC hs) := segM_fr (ez 175 (by decide)) (ez 176 (by decide)) j7
    refine zs (fun e => ?_) (fun e => ?_)
    · rw [if_pos e] at hex
      refine ⟨by omega, ?_⟩
      rw [kf 181 (by decide) (by decide) (by decide)]
      refine m_addR (f := f) (q := q) (b := b) (by rw [ej 32 (by decide) (by decide), j3 32 (by decide) (by decide) (by decide)]; exact hL.2.2.2.1.1) hL.2.2.2.1.2 (by omega) (by omega) (fun I5 v1 v2 v3 v4 v5 => ?_)
      have l1 : (ex.length : Int) = 1 := by rw [hex]; rfl
      refine at596 a I5 (fR_t fr4 v1 (Nat.le_refl f) (Nat.le_refl q)) (mS_f hS4 (v2 160 (by decide) (by decide) (by decide)) (fun j a c => v3 j (by omega)) rfl) ((v3 8 (by decide)).trans k8) ((v3 39 (by decide)).trans k39) ((v3 42 (by decide)).trans k42) (by omega) (by rw [v3 40 (by decide)]; exact q4) ?_ ((v3 43 (by decide)).trans k43) ?_ ?_ ?_
      · refine segM_ap (segM_lo (fun z _ h => ?_) sg4) ?_
        · rw [opC_len] at h
          exact v1.2.2.2.2.2 z (by omega)
        · rw [opC_len, hex, show 1600 * b + I 159 31 + (hs.length : Int) = 1600 * b + I4 159 31 by omega]; exact v5
      · rw [v2 178 (by decide) (by decide) (by decide), kf 178 (by decide) (by decide) (by decide)]
      · rw [v2 179 (by decide) (by decide) (by decide), kf 179 (by decide) (by decide) (by decide)]
      · rw [v2 180 (by decide) (by decide) (by decide), kf 180 (by decide) (by decide) (by decide)]
    · rw [if_neg e] at hex
      have l1 : (ex.length : Int) = 0 := by rw [hex]; rfl
      refine at596 a I4 fr4 hS4 k8 k39 k42 (by omega) q4 ?_ k43 ?_ ?_ ?_
      · rw [hex, List.append_nil]; exact sg4
      · rw [kf 178 (by decide) (by decide) (by decide)]
      · rw [kf 179 (by decide) (by decide) (by decide)]
      · rw [kf 180 (by decide) (by decide) (by decide)]
  have at531 : 0 ≤ sgx cl → p12_goesOn_b531 ((f + 1 : Nat) : Int) (I 178 ((f + 1 : Nat) : Int)) cl I J Q := fun hs => by
    unfold p12_goesOn_b531
    refine m_isSg hL.1 hs (fun a => zf (by decide) (at546 a)) (fun a => zt rfl (m_blmL h8 (fun I' fz fj f8 f9 => ?_)))
    unfold p12_goesOn_b546
    exact zf (by omega) (k0 I' a (mNo_b (by decide) fz fj f8 (f9.trans e4)))
  unfold p12_goesOn_b422
  refine zt (by omega) (zf (by omega) (zf (by omega) (zs (fun e => ?_) (fun e => ?_))))
  · rw [if_pos e] at hcl
    rw [hcl] at at531
    exact at531 (sgx_ok _ (by decide))
  · rw [if_neg e] at hcl
    rw [hcl] at at531
    exact at531 (sgx_ok _ (by decide))
end
