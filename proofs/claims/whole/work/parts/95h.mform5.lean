/-! THE READERS: the model's machine takes an operand -/
/-- a frame more, as the reader sees it -/
def opnR (tb : Int → Int) (n : Int) (b : Int) (f i q o : Nat) (kd : Int) (I I' J J' : mI) : Prop := fR b f q I I' ∧ jK J J' ∧ mS tb n i I' J' ∧ I' 159 8 = 0 ∧ I' 159 39 = (f : Int) + 2 ∧ I' 159 42 = q ∧ I' 159 31 = I 159 31 ∧ I' 159 40 = (o : Int) + 1 ∧ (I' 178 ((f + 1 : Nat) : Int) = kd ∧ I' 179 ((f + 1 : Nat) : Int) = 0 ∧ I' 180 ((f + 1 : Nat) : Int) = 1 ∧ I' 182 ((f + 1 : Nat) : Int) = q) ∧ (I' 178 f = I 178 f ∧ I' 179 f = I 179 f ∧ I' 180 f = I 180 f)
section
variable {tb : Int → Int} {n : Int} {m : Nat} {b fm : Int} {f i q o : Nat} {I J : mI}
theorem opn_d {kd : Int} {Q : mI → mI → Prop} (h8 : 0 < I 159 8) (kk : Q I J) : p12_opens kd I J Q := by
  have d18 : p12_opens_b18 kd I J Q := by
    unfold p12_opens_b18
    exact zf (by omega) kk
  unfold p12_opens
  exact zs (fun _ => m_blmD h8 d18) (fun _ => d18)
theorem m_opn {kd : Int} {Q : mI → mI → Prop} (hc : ctD tb n m) (hL : mL tb n m b fm f i I J) (h12 : I 159 12 = -1) (him : i < m) (h42 : I 159 42 = q) (h40 : I 159 40 = o) (ho : o ≤ 7)
    (k7 : 7 ≤ o → ∀ I', mNo b I I' J J 5 (lN1 tb n i) → Q I' J) (kk : ¬ 7 ≤ o → ∀ I' J', opnR tb n b f (i + 1) q o kd I I' J J' → Q I' J') : p12_opens kd I J Q := by
  obtain ⟨hS, _, h8, h32, h33, h39, hf8⟩ := hL
  have e4 := m_pl hS h12
  unfold p12_opens
  rw [h40]
  refine zs (fun e => m_blmL h8 (fun I' fz fj f8 f9 => ?_)) (fun e => ?_)
  · unfold p12_opens_b18
    exact zf (by omega) (k7 (by omega) I' (mNo_b (by decide) fz fj f8 (f9.trans e4)))
  · unfold p12_opens_b18
    rw [h40]
    refine zt (by omega) ⟨by omega, m_putK (fun I2 q2 g2 f2 => ?_)⟩
    refine m_next hc him (mS_f hS (f2 160 (by decide)) (fun j a c => g2 j (by omega)) rfl) (fun I3 J3 hf h3 => ?_)
    have ej : ∀ j, j ≠ 3 → j ≠ 4 → j ≠ 5 → j ≠ 6 → j ≠ 12 → j ≠ 40 → I3 159 j = I 159 j := fun j a c d e g k => by rw [hf.2.1 j a c d e g, g2 j k]
    have ez : ∀ z, z ≠ 159 → I3 z = I z := fun z hz => (hf.1 z hz).trans (f2 z hz)
    refine m_push (F := (f : Int) + 1) (q := q) ((ej 39 (by decide) (by decide) (by decide) (by decide) (by decide) (by decide)).trans h39) (by omega) ((ej 42 (by decide) (by decide) (by decide) (by decide) (by decide) (by decide)).trans h42) (fun I4 u1 u2 u3 u4 u5 u6 u7 u8 => kk (by omega) I4 J3 ⟨?_, ⟨hf.2.2.1, hf.2.2.2⟩, ?_, ?_, by rw [u3]; omega, ?_, ?_, ?_, ⟨?_, ?_, ?_, ?_⟩, ⟨?_, ?_, ?_⟩⟩)
    · refine fR_t (fR_1 (f := f) (q := q) ez (fun j a => ej j (by omega) (by omega) (by omega) (by omega) (by omega) (by omega)) (ej 31 (by decide) (by decide) (by decide) (by decide) (by decide) (by decide))) (q' := q) ⟨⟨fun z a c d e => u1 z a (by omega) (by omega) (by omega) (by omega), fun j a => u2 j (by omega), fun j _ => ?_⟩, fun k a => ⟨(u8 k (by omega)).2.2.2, by rw [u1 181 (by decide) (by decide) (by decide) (by decide) (by decide)]⟩, fun k a => ⟨(u8 k (by omega)).1, (u8 k (by omega)).2.1, (u8 k (by omega)).2.2.1⟩, fun k _ => by rw [u1 183 (by decide) (by decide) (by decide) (by decide) (by decide)], by rw [u2 31 (by decide)]; exact Int.le_refl _, fun z _ => ?_⟩ (Nat.le_refl f) (Nat.le_refl q)
      · rw [u1 175 (by decide) (by decide) (by decide) (by decide) (by decide), u1 176 (by decide) (by decide) (by decide) (by decide) (by decide)]; exact ⟨rfl, rfl⟩
      · rw [u1 175 (by decide) (by decide) (by decide) (by decide) (by decide), u1 176 (by decide) (by decide) (by decide) (by decide) (by decide)]; exact ⟨rfl, rfl⟩
    · exact mS_f h3 (u1 160 (by decide) (by decide) (by decide) (by decide) (by decide)) (fun j a c => u2 j (by omega)) rfl
    · rw [u2 8 (by decide), ej 8 (by decide) (by decide) (by decide) (by decide) (by decide) (by decide)]; exact h8
    · rw [u2 42 (by decide), ej 42 (by decide) (by decide) (by decide) (by decide) (by decide) (by decide)]; exact h42
    · rw [u2 31 (by decide), ej 31 (by decide) (by decide) (by decide) (by decide) (by decide) (by decide)]
    · rw [u2 40 (by decide), hf.2.1 40 (by decide) (by decide) (by decide) (by decide) (by decide)]; exact q2
    · rw [show ((f + 1 : Nat) : Int) = (f : Int) + 1 by omega]; exact u4
    · rw [show ((f + 1 : Nat) : Int) = (f : Int) + 1 by omega]; exact u5
    · rw [show ((f + 1 : Nat) : Int) = (f : Int) + 1 by omega]; exact u6
    · rw [show ((f + 1 : Nat) : Int) = (f : Int) + 1 by omega]; exact u7
    · rw [(u8 f (by omega)).1, ez 178 (by decide)]
    · rw [(u8 f (by omega)).2.1, ez 179 (by decide)]
    · rw [(u8 f (by omega)).2.2.1, ez 180 (by decide)]
theorem op_in {Q : Int → mI → mI → Prop} (hL : mL tb n m b fm f i I J) (k5 : ∀ I', kN1 tb n i = 5 → mNo b I I' J J 1 (lN1 tb n i) → Q 1 I' J) (kk : I 159 12 = -1 → p12_operand_b46 f (if isT (I 178 f) ∧ I 180 f ≠ 0 then 1 else 0) I J Q) : p12_operand I J Q := by
  obtain ⟨hS, _, h8, h32, h33, h39, hf8⟩ := hL
  unfold p12_operand
  refine m_lexL hS h8 (fun h12 => ?_) (fun I' h5 fz fj f8 f9 => zf (by omega) (k5 I' h5 (mNo_b (by decide) fz fj f8 f9)))
  have k := kk h12
  refine zt (by omega) ?_
  rw [h39, show (f : Int) + 1 - 1 = f by omega]
  refine ⟨by omega, by omega, m_isTst (fun t => zf (by decide) ⟨by omega, zs (fun e => ?_) (fun e => ?_)⟩) (fun t => zt rfl ?_)⟩
  · unfold p12_operand_b45
    rw [if_neg (fun q => q.2 e)] at k; exact k
  · rw [if_pos ⟨t, e⟩] at k; exact k
  · unfold p12_operand_b45
    rw [if_neg (fun q => t q.1)] at k; exact k
theorem op_not {Q : Int → mI → mI → Prop} (hc : ctD tb n m) (hL : mL tb n m b fm f i I J) (h12 : I 159 12 = -1) (a : kN1 tb n i = 1 ∧ vN1 tb n i = 24) (h42 : I 159 42 = q) (hq : q < 300) (h40 : I 159 40 = o) (ho : o ≤ 7)
    (k7 : 7 ≤ o → ∀ I', mNo b I I' J J 5 (lN1 tb n i) → Q 1 I' J)
    (kk : ¬ 7 ≤ o → ∀ I' J', fR b f q I I' → jK J J' → mS tb n (i + 1) I' J' → I' 159 8 = 0 → I' 159 39 = I 159 39 → I' 159 42 = (q : Int) + 1 → I' 183 q = 43 → I' 159 31 = I 159 31 → I' 159 40 = (o : Int) + 1 → I' 178 = I 178 → I' 179 = I 179 → I' 180 = I 180 → Q 0 I' J') : p12_operand_b46 f 1 I J Q := by
  obtain ⟨hS, him, h8, h32, h33, h39, hf8⟩ := hL
  have im : i < m := tkM_lt (tkM_of hc) him (by rw [a.1]; decide)
  have e4 := m_pl hS h12
  unfold p12_operand_b46
  refine zf (by decide) (m_isWk (k := 24) hc him hS h12 (by rw [ownM_all]; rfl) (by decide) (fun _ => zf (by decide) ?_) (fun q => absurd a q))
  rw [h40]
  refine zs (fun e => m_blmL h8 (fun I' fz fj f8 f9 => ?_)) (fun e => ?_)
  · unfold p12_operand_b79
    exact zf (by omega) (k7 (by omega) I' (mNo_b (by decide) fz fj f8 (f9.trans e4)))
  · unfold p12_operand_b79
    rw [h40]
    refine zt (by omega) ⟨by omega, m_putK (fun I2 q2 g2 f2 => ?_)⟩
    refine m_hold ((g2 42 (by decide)).trans h42) (by omega) (fun I3 u1 u2 u3 u4 u5 => ?_)
    refine m_next hc im (mS_f hS ((u1 160 (by decide) (by decide)).trans (f2 160 (by decide))) (fun j a c => (u2 j (by omega)).trans (g2 j (by omega))) rfl) (fun I4 J4 hf h4 => ?_)
    have ej : ∀ j, j ≠ 3 → j ≠ 4 → j ≠ 5 → j ≠ 6 → j ≠ 12 → j ≠ 40 → j ≠ 42 → I4 159 j = I 159 j := fun j a c d e g k l => by rw [hf.2.1 j a c d e g, u2 j l, g2 j k]
    have ez : ∀ z, z ≠ 159 → z ≠ 183 → I4 z = I z := fun z hz h3 => by rw [hf.1 z hz, u1 z hz h3, f2 z hz]
    refine kk (by omega) I4 J4 ⟨⟨fun z a c d e => ez z a (by omega), fun j a => ej j (by omega) (by omega) (by omega) (by omega) (by omega) (by omega) (by omega), fun j _ => ?_⟩, fun k _ => ?_, fun k _ => ?_, fun k a => ?_, ?_, fun z _ => ?_⟩ ⟨hf.2.2.1, hf.2.2.2⟩ h4 ?_ ?_ ?_ ?_ ?_ ?_ (ez 178 (by decide) (by decide)) (ez 179 (by decide) (by decide)) (ez 180 (by decide) (by decide))
    · rw [ez 175 (by decide) (by decide), ez 176 (by decide) (by decide)]; exact ⟨rfl, rfl⟩
    · rw [ez 182 (by decide) (by decide), ez 181 (by decide) (by decide)]; exact ⟨rfl, rfl⟩
    · rw [ez 178 (by decide) (by decide), ez 179 (by decide) (by decide), ez 180 (by decide) (by decide)]; exact ⟨rfl, rfl, rfl⟩
    · rw [hf.1 183 (by decide), u5 k (by omega), f2 183 (by decide)]
    · rw [ej 31 (by decide) (by decide) (by decide) (by decide) (by decide) (by decide) (by decide)]; exact Int.le_refl _
    · rw [ez 175 (by decide) (by decide), ez 176 (by decide) (by decide)]; exact ⟨rfl, rfl⟩
    · rw [ej 8 (by decide) (by decide) (by decide) (by decide) (by decide) (by decide) (by decide)]; exact h8
    · exact ej 39 (by decide) (by decide) (by decide) (by decide) (by decide) (by decide) (by decide)
    · rw [hf.2.1 42 (by decide) (by decide) (by decide) (by decide) (by decide)]; exact u3
    · rw [hf.1 183 (by decide)]; exact u4
    · exact ej 31 (by decide) (by decide) (by decide) (by decide) (by decide) (by decide) (by decide)
    · rw [hf.2.1 40 (by decide) (by decide) (by decide) (by decide) (by decide), u2 40 (by decide)]; exact q2
/-- a fact begins no more -/
def bgR (f : Nat) (I I6 : mI) : Prop := (∀ z, z ≠ 180 → I6 z = I z) ∧ (∀ k, k ≠ (f : Int) → I6 180 k = I 180 k) ∧ I6 180 f = 0
theorem bgR_f {I6 : mI} (h : bgR f I I6) : fR b f q I I6 := fR_f (fun z _ _ d => h.1 z d) (fun k hk => by rw [h.1 178 (by decide), h.1 179 (by decide), h.2.1 k hk]; exact ⟨rfl, rfl, rfl⟩)
theorem bgR_L {I6 : mI} (h : bgR f I I6) (hL : mL tb n m b fm f i I J) : mL tb n m b fm f i I6 J := by
  have e := h.1 159 (by decide)
  obtain ⟨a1, a2, a3, a4, a5, a6, a7⟩ := hL
  exact ⟨mS_f a1 (h.1 160 (by decide)) (fun j _ _ => by rw [e]) rfl, a2, by rw [e]; exact a3, by rw [e]; exact a4, by rw [e]; exact a5, by rw [e]; exact a6, a7⟩
theorem op_brk {Q : Int → mI → mI → Prop} (hc : ctD tb n m) (hL : mL tb n m b fm f i I J) (h12 : I 159 12 = -1) (a : kN1 tb n i = 4 ∧ vN1 tb n i = 91) (kk : ∀ I6, bgR f I I6 → p12_opens 5 I6 J (fun I7 J7 => Q 0 I7 J7)) : p12_operand_b46 f 1 I J Q := by
  have hf8 := hL.2.2.2.2.2.2
  unfold p12_operand_b46
  refine zf (by decide) (m_isWk (k := 24) hc hL.2.1 hL.1 h12 (by rw [ownM_all]; rfl) (by decide) (fun q => by omega) (fun _ => zt rfl ?_))
  unfold p12_operand_b110
  refine ⟨by omega, m_putK (fun I6 q6 g6 f6 => zf (by decide) ?_)⟩
  have hb : bgR f I I6 := ⟨f6, g6, q6⟩
  exact m_isSg (bgR_L hb hL).1 (sgx_ok _ (by decide)) (fun _ => zf (by decide) (kk I6 hb)) (fun q => absurd a q)
theorem op_all {Q : Int → mI → mI → Prop} (hc : ctD tb n m) (hL : mL tb n m b fm f i I J) (h12 : I 159 12 = -1) (a : kN1 tb n i = 1 ∧ vN1 tb n i = 25) (c0 : 0 ≤ I 159 31) (c1 : I 159 31 < 1600)
    (kk : ∀ I' J', fR b f q I I' → jK J J' → mS tb n (i + 1) I' J' → I' 159 8 = 0 → I' 159 39 = I 159 39 → I' 159 42 = I 159 42 → I' 159 31 = I 159 31 + 1 → I' 159 40 = I 159 40 → segM I' (1600 * b + I 159 31) [(30, 0)] → I' 178 f = I 178 f → I' 179 f = 2 → I' 180 f = 0 → Q 1 I' J') : p12_operand_b46 f 1 I J Q := by
  have hf8 := hL.2.2.2.2.2.2
  have him := hL.2.1
  have im : i < m := tkM_lt (tkM_of hc) him (by rw [a.1]; decide)
  unfold p12_operand_b46
  refine zf (by decide) (m_isWk (k := 24) hc him hL.1 h12 (by rw [ownM_all]; rfl) (by decide) (fun q => by omega) (fun _ => zt rfl ?_))
  unfold p12_operand_b110
  refine ⟨by omega, m_putK (fun I6 q6 g6 f6 => zf (by decide) ?_)⟩
  have hb : bgR f I I6 := ⟨f6, g6, q6⟩
  have L6 := bgR_L hb hL
  have e6 := f6 159 (by decide)
  refine m_isSg L6.1 (sgx_ok _ (by decide)) (fun q => by omega) (fun _ => zt rfl ?_)
  unfold p12_operand_b137
  refine zf (by decide) (m_isWk (k := 25) hc him L6.1 (by rw [e6]; exact h12) (by rw [ownM_all]; rfl) (by decide) (fun _ => zf (by decide) ?_) (fun q => absurd a q))
  refine m_addR (f := f) (q := q) (b := b) L6.2.2.2.1.1 L6.2.2.2.1.2 (by rw [e6]; exact c0) (by rw [e6]; exact c1) (fun I8 v1 v2 v3 v4 v5 => ⟨by omega, m_putK (fun I9 q9 g9 f9 => ?_)⟩)
  have hS9 : mS tb n i I9 J := mS_f L6.1 ((f9 160 (by decide)).trans (v2 160 (by decide) (by decide) (by decide))) (fun j _ _ => by rw [f9 159 (by decide), v3 j (by omega)]) rfl
  refine m_next hc im hS9 (fun I10 J10 hf h10 => ?_)
  have ej : ∀ j, j ≠ 3 → j ≠ 4 → j ≠ 5 → j ≠ 6 → j ≠ 12 → j ≠ 31 → I10 159 j = I 159 j := fun j a c d e g k => by rw [hf.2.1 j a c d e g, f9 159 (by decide), v3 j k, e6]
  have e31 : I10 159 31 = I 159 31 + 1 := by rw [hf.2.1 31 (by decide) (by decide) (by decide) (by decide) (by decide), f9 159 (by decide), v4, e6]
  rw [e6] at v5
  refine kk I10 J10 (fR_t (bgR_f (q := q) hb) (fR_t v1 (fR_t (fR_f (f := f) (q := q) (I3 := I8) (I4 := I9) (fun z _ c _ => f9 z c) (fun k hk => ?_)) (fR_1 (f := f) (q := q) hf.1 (fun j a => hf.2.1 j (by omega) (by omega) (by omega) (by omega) (by omega)) (hf.2.1 31 (by decide) (by decide) (by decide) (by decide) (by decide))) (Nat.le_refl f) (Nat.le_refl q)) (Nat.le_refl f) (Nat.le_refl q)) (Nat.le_refl f) (Nat.le_refl q)) ⟨hf.2.2.1, hf.2.2.2⟩ h10 ?_ ?_ ?_ e31 ?_ ?_ ?_ ?_ ?_
  · rw [f9 178 (by decide), g9 k hk, f9 180 (by decide)]; exact ⟨rfl, rfl, rfl⟩
  · rw [ej 8 (by decide) (by decide) (by decide) (by decide) (by decide) (by decide)]; exact hL.2.2.1
  · exact ej 39 (by decide) (by decide) (by decide) (by decide) (by decide) (by decide)
  · exact ej 42 (by decide) (by decide) (by decide) (by decide) (by decide) (by decide)
  · exact ej 40 (by decide) (by decide) (by decide) (by decide) (by decide) (by decide)
  · exact segM_fr ((hf.1 175 (by decide)).trans (f9 175 (by decide))) ((hf.1 176 (by decide)).trans (f9 176 (by decide))) v5
  · rw [hf.1 178 (by decide), f9 178 (by decide), v2 178 (by decide) (by decide) (by decide), f6 178 (by decide)]
  · rw [hf.1 179 (by decide)]; exact q9
  · rw [hf.1 180 (by decide), f9 180 (by decide), v2 180 (by decide) (by decide) (by decide)]; exact q6
theorem op_part {s0 : Int} {Q : Int → mI → mI → Prop} (hc : ctD tb n m) (hL : mL tb n m b fm f i I J) (h12 : I 159 12 = -1) (hs : s0 = 0 ∨ (s0 = 1 ∧ ¬ (kN1 tb n i = 1 ∧ vN1 tb n i = 24) ∧ ¬ (kN1 tb n i = 4 ∧ vN1 tb n i = 91) ∧ ¬ (kN1 tb n i = 1 ∧ vN1 tb n i = 25))) (kk : ∀ I6, bgR f I I6 → p12_operand_b171 I6 J Q) : p12_operand_b46 f s0 I J Q := by
  have hf8 := hL.2.2.2.2.2.2
  have him := hL.2.1
  unfold p12_operand_b46
  rcases hs with e | ⟨e, n1, n2, n3⟩
  · refine zt e ?_
    rw [e]
    unfold p12_operand_b110
    refine ⟨by omega, m_putK (fun I6 q6 g6 f6 => zt rfl ?_)⟩
    unfold p12_operand_b137
    exact zt rfl (kk I6 ⟨f6, g6, q6⟩)
  · rw [e]
    refine zf (by decide) (m_isWk (k := 24) hc him hL.1 h12 (by rw [ownM_all]; rfl) (by decide) (fun q => absurd q n1) (fun _ => zt rfl ?_))
    unfold p12_operand_b110
    refine ⟨by omega, m_putK (fun I6 q6 g6 f6 => zf (by decide) ?_)⟩
    have hb : bgR f I I6 := ⟨f6, g6, q6⟩
    have L6 := bgR_L hb hL
    have e6 := f6 159 (by decide)
    refine m_isSg L6.1 (sgx_ok _ (by decide)) (fun q => absurd q n2) (fun _ => zt rfl ?_)
    unfold p12_operand_b137
    exact zf (by decide) (m_isWk (k := 25) hc him L6.1 (by rw [e6]; exact h12) (by rw [ownM_all]; rfl) (by decide) (fun q => absurd q n3) (fun _ => zt rfl (kk I6 hb)))
/-! the smallest part -/
def flS (fm s : Int) : Int := if s ≤ 1 then s else if s < 8 then (if fm = 2 then -1 else if s < 4 then s else if fm = 0 then s else -1) else (if fm = 2 then s else -1)
def gS (fm w : Int) : Int := if gVar fm w ≠ 0 then gVar fm w else -1
theorem flS_w (hf : fm = 0 ∨ fm = 1 ∨ fm = 2) : flS fm 1 = gS fm 15 ∧ flS fm 2 = gS fm 16 ∧ flS fm 3 = gS fm 3 ∧ flS fm 4 = gS fm 17 ∧ flS fm 5 = gS fm 18 ∧ flS fm 6 = gS fm 19 ∧ flS fm 7 = gS fm 14 ∧ flS fm 8 = gS fm 6 ∧ flS fm 9 = gS fm 20 := by
  rcases hf with e | e | e <;> rw [e] <;> decide
theorem gVar_0 {w : Int} (h : w ≠ 15 ∧ w ≠ 16 ∧ w ≠ 3 ∧ w ≠ 17 ∧ w ≠ 18 ∧ w ≠ 19 ∧ w ≠ 14 ∧ w ≠ 6 ∧ w ≠ 20) : gVar fm w = 0 := by
  obtain ⟨h1, h2, h3, h4, h5, h6, h7, h8, h9⟩ := h
  unfold gVar
  rw [if_neg h1]
  by_cases e : fm = 2
  · rw [if_pos e, if_neg h8, if_neg h9]
  · rw [if_neg e, if_neg h2, if_neg h3]
    by_cases e : fm = 1
    · rw [if_pos e]
    · rw [if_neg e, if_neg h7, if_neg h4, if_neg h5, if_neg h6]
theorem pt_456 {s : Int} {Q : Int → mI → mI → Prop} (h33 : I 159 33 = fm) (kk : p12_operand_b511 (flS fm s) I J Q) : p12_operand_b456 s I J Q := by
  unfold flS at kk
  have low : ∀ x : Int, x < 4 → p12_operand_b511 x I J Q → p12_operand_b491 x I J Q := fun x hx k => by
    unfold p12_operand_b491
    exact zt hx k
  unfold p12_operand_b456
  refine zs (fun e => ?_) (fun e => zs (fun e2 => ?_) (fun e2 => ?_))
  · rw [if_pos e] at kk
    exact low s (by omega) kk
  · rw [if_neg e, if_pos e2] at kk
    unfold p12_operand_b473
    rw [h33]
    refine zs (fun a => ?_) (fun a => ?_)
    · rw [if_pos a] at kk
      unfold p12_operand_b486
      exact zf (by decide) (low (-1) (by decide) kk)
    · rw [if_neg a] at kk
      unfold p12_operand_b486
      refine zt rfl ?_
      unfold p12_operand_b491
      rw [h33]
      refine zs (fun c => ?_) (fun c => zf (by omega) (zs (fun d => ?_) (fun d => ?_)))
      · rw [if_pos c] at kk; exact kk
      · rw [if_neg c, if_pos d] at kk; exact kk
      · rw [if_neg c, if_neg d] at kk; exact kk
  · rw [if_neg e, if_neg e2] at kk
    unfold p12_operand_b473
    rw [h33]
    refine zs (fun a => ?_) (fun a => ?_)
    · rw [if_pos a] at kk
      unfold p12_operand_b486
      refine zt rfl ?_
      unfold p12_operand_b491
      exact zf (by omega) (zt (by omega) kk)
    · rw [if_neg a] at kk
      unfold p12_operand_b486
      exact zf (by decide) (low (-1) (by decide) kk)
theorem pt_sort {Q : Int → mI → mI → Prop} (hf : fm = 0 ∨ fm = 1 ∨ fm = 2) (hc : ctD tb n m) (hL : mL tb n m b fm f i I J) (h12 : I 159 12 = -1) (n1 : ¬ (kN1 tb n i = 4 ∧ vN1 tb n i = 40)) (n2 : ¬ (kN1 tb n i = 1 ∧ (vN1 tb n i = 26 ∨ vN1 tb n i = 27 ∨ vN1 tb n i = 21)))
    (kk : p12_operand_b511 (if kN1 tb n i = 3 then 0 else if kN1 tb n i = 1 then gS fm (vN1 tb n i) else -1) I J Q) : p12_operand_b171 I J Q := by
  have him := hL.2.1
  have hS := hL.1
  have h33 := hL.2.2.2.2.1
  have fw := flS_w hf
  unfold p12_operand_b171
  refine m_isSg hS (sgx_ok _ (by decide)) (fun q => absurd q n1) (fun _ => zt rfl ?_)
  refine m_isWk (k := 26) hc him hS h12 (by rw [ownM_all]; rfl) (by decide) (fun q => absurd ⟨q.1, Or.inl q.2⟩ n2) (fun _ => zt rfl ?_)
  refine m_isWk (k := 27) hc him hS h12 (by rw [ownM_all]; rfl) (by decide) (fun q => absurd ⟨q.1, Or.inr (Or.inl q.2)⟩ n2) (fun _ => zt rfl ?_)
  refine m_isWk (k := 21) hc him hS h12 (by rw [ownM_all]; rfl) (by decide) (fun q => absurd ⟨q.1, Or.inr (Or.inr q.2)⟩ n2) (fun _ => zt rfl ?_)
  have k3 : I 159 3 = 2 ↔ kN1 tb n i = 3 := by
    unfold kN1
    rcases hS.2.2 with ⟨a, c, -⟩ | ⟨a, c, -⟩ | ⟨a, c, -⟩ | ⟨a, c, -⟩ | ⟨a, c, d⟩
    · omega
    · omega
    · omega
    · omega
    · rcases d with ⟨d, e, _⟩ | ⟨_, d, _⟩
      · exact absurd h12 e
      · omega
  refine zs (fun e => ?_) (fun e => ?_)
  · rw [if_pos (k3.mp e)] at kk
    exact pt_456 h33 kk
  rw [if_neg (fun q => e (k3.mpr q))] at kk
  have yes : ∀ (w s : Int), kN1 tb n i = 1 ∧ vN1 tb n i = w → flS fm s = gS fm w → p12_operand_b456 s I J Q := fun w s a h => by
    rw [if_pos a.1, a.2, ← h] at kk
    exact pt_456 h33 kk
  refine m_isWk (k := 15) hc him hS h12 (by rw [ownM_all]; rfl) (by decide) (fun a => zf (by decide) (yes 15 1 a fw.1)) (fun a1 => zt rfl ?_)
  refine m_isWk (k := 16) hc him hS h12 (by rw [ownM_all]; rfl) (by decide) (fun a => zf (by decide) (yes 16 2 a fw.2.1)) (fun a2 => zt rfl ?_)
  refine m_isWk (k := 3) hc him hS h12 (by rw [ownM_all]; rfl) (by decide) (fun a => zf (by decide) (yes 3 3 a fw.2.2.1)) (fun a3 => zt rfl ?_)
  refine m_isWk (k := 17) hc him hS h12 (by rw [ownM_all]; rfl) (by decide) (fun a => zf (by decide) (yes 17 4 a fw.2.2.2.1)) (fun a4 => zt rfl ?_)
  refine m_isWk (k := 18) hc him hS h12 (by rw [ownM_all]; rfl) (by decide) (fun a => zf (by decide) (yes 18 5 a fw.2.2.2.2.1)) (fun a5 => zt rfl ?_)
  refine m_isWk (k := 19) hc him hS h12 (by rw [ownM_all]; rfl) (by decide) (fun a => zf (by decide) (yes 19 6 a fw.2.2.2.2.2.1)) (fun a6 => zt rfl ?_)
  refine m_isWk (k := 14) hc him hS h12 (by rw [ownM_all]; rfl) (by decide) (fun a => zf (by decide) (yes 14 7 a fw.2.2.2.2.2.2.1)) (fun a7 => zt rfl ?_)
  refine m_isWk (k := 6) hc him hS h12 (by rw [ownM_all]; rfl) (by decide) (fun a => zf (by decide) (yes 6 8 a fw.2.2.2.2.2.2.2.1)) (fun a8 => zt rfl ?_)
  refine m_isWk (k := 20) hc him hS h12 (by rw [ownM_all]; rfl) (by decide) (fun a => zf (by decide) (yes 20 9 a fw.2.2.2.2.2.2.2.2)) (fun a9 => zt rfl (pt_456 h33 ?_))
  have e1 : flS fm (-1) = -1 := by unfold flS; rw [if_pos (by decide)]
  rw [e1]
  by_cases k1 : kN1 tb n i = 1
  · rw [if_pos k1] at kk
    have g0 : gVar fm (vN1 tb n i) = 0 := gVar_0 ⟨fun q => a1 ⟨k1, q⟩, fun q => a2 ⟨k1, q⟩, fun q => a3 ⟨k1, q⟩, fun q => a4 ⟨k1, q⟩, fun q => a5 ⟨k1, q⟩, fun q => a6 ⟨k1, q⟩, fun q => a7 ⟨k1, q⟩, fun q => a8 ⟨k1, q⟩, fun q => a9 ⟨k1, q⟩⟩
    unfold gS at kk
    rw [g0, if_neg (fun q => q rfl)] at kk; exact kk
  · rw [if_neg k1] at kk; exact kk
/-- what an operand adds -/
def addR (tb : Int → Int) (n : Int) (b : Int) (f i q : Nat) (s v : Int) (I I' J J' : mI) : Prop := fR b f q I I' ∧ jK J J' ∧ mS tb n (i + 1) I' J' ∧ I' 159 8 = 0 ∧ I' 159 39 = I 159 39 ∧ I' 159 42 = I 159 42 ∧ I' 159 31 = I 159 31 + 1 ∧ I' 159 40 = I 159 40 ∧ segM I' (1600 * b + I 159 31) [(s, v)] ∧ I' 178 = I 178 ∧ I' 179 = I 179 ∧ I' 180 = I 180
theorem pt_add {s v : Int} {Q : Int → mI → mI → Prop} (hc : ctD tb n m) (hL : mL tb n m b fm f i I J) (hs : s ≠ -1) (hv : I 159 6 = v) (im : i < m) (c0 : 0 ≤ I 159 31) (c1 : I 159 31 < 1600) (kk : ∀ I' J', addR tb n b f i q s v I I' J J' → Q 1 I' J') : p12_operand_b511 s I J Q := by
  unfold p12_operand_b511
  refine zf hs ?_
  unfold p12_operand_b525
  rw [hv]
  refine zt (by have := hL.2.2.1; omega) (m_addR (f := f) (q := q) (b := b) hL.2.2.2.1.1 hL.2.2.2.1.2 c0 c1 (fun I2 v1 v2 v3 v4 v5 => ?_))
  refine m_next hc im (mS_f hL.1 (v2 160 (by decide) (by decide) (by decide)) (fun j a c => v3 j (by omega)) rfl) (fun I3 J3 hf h3 => kk I3 J3 ⟨fR_t v1 (fR_1 (f := f) (q := q) hf.1 (fun j a => hf.2.1 j (by omega) (by omega) (by omega) (by omega) (by omega)) (hf.2.1 31 (by decide) (by decide) (by decide) (by decide) (by decide))) (Nat.le_refl f) (Nat.le_refl q), ⟨hf.2.2.1, hf.2.2.2⟩, h3, ?_, ?_, ?_, ?_, ?_, ?_, ?_, ?_, ?_⟩)
  · rw [hf.2.1 8 (by decide) (by decide) (by decide) (by decide) (by decide), v3 8 (by decide)]; exact hL.2.2.1
  · rw [hf.2.1 39 (by decide) (by decide) (by decide) (by decide) (by decide), v3 39 (by decide)]
  · rw [hf.2.1 42 (by decide) (by decide) (by decide) (by decide) (by decide), v3 42 (by decide)]
  · rw [hf.2.1 31 (by decide) (by decide) (by decide) (by decide) (by decide)]; exact v4
  · rw [hf.2.1 40 (by decide) (by decide) (by decide) (by decide) (by decide), v3 40 (by decide)]
  · exact segM_fr (hf.1 175 (by decide)) (hf.1 176 (by decide)) v5
  · rw [hf.1 178 (by decide), v2 178 (by decide) (by decide) (by decide)]
  · rw [hf.1 179 (by decide), v2 179 (by decide) (by decide) (by decide)]
  · rw [hf.1 180 (by decide), v2 180 (by decide) (by decide) (by decide)]
theorem pt_bad {Q : Int → mI → mI → Prop} (hL : mL tb n m b fm f i I J) (h12 : I 159 12 = -1) (kk : ∀ I', mNo b I I' J J 1 (lN1 tb n i) → Q 1 I' J) : p12_operand_b511 (-1) I J Q := by
  have e4 := m_pl hL.1 h12
  unfold p12_operand_b511
  refine zt rfl (m_blmL hL.2.2.1 (fun I' fz fj f8 f9 => ?_))
  unfold p12_operand_b525
  exact zf (by omega) (kk I' (mNo_b (by decide) fz fj f8 (f9.trans e4)))
theorem pt_par {Q : Int → mI → mI → Prop} (hL : mL tb n m b fm f i I J) (a : kN1 tb n i = 4 ∧ vN1 tb n i = 40) (kk : p12_opens 2 I J (fun I7 J7 => Q 0 I7 J7)) : p12_operand_b171 I J Q := by
  unfold p12_operand_b171
  exact m_isSg hL.1 (sgx_ok _ (by decide)) (fun _ => zf (by decide) kk) (fun q => absurd a q)
/-- min, max, if -/
theorem pt_ch {Q : Int → mI → mI → Prop} (hc : ctD tb n m) (hL : mL tb n m b fm f i I J) (h12 : I 159 12 = -1) (h42 : I 159 42 = q) (h40 : I 159 40 = o) (ho : o ≤ 7) (a : kN1 tb n i = 1 ∧ (vN1 tb n i = 26 ∨ vN1 tb n i = 27 ∨ vN1 tb n i = 21))
    (k1 : ¬ (kN1 tb n (i + 1) = 4 ∧ vN1 tb n (i + 1) = 40) → ∀ I' J', mNo b I I' J J' 1 (lN1 tb n (i + 1)) → Q 0 I' J')
    (k7 : (kN1 tb n (i + 1) = 4 ∧ vN1 tb n (i + 1) = 40) → 7 ≤ o → ∀ I' J', mNo b I I' J J' 5 (lN1 tb n (i + 1)) → Q 0 I' J')
    (kk : (kN1 tb n (i + 1) = 4 ∧ vN1 tb n (i + 1) = 40) → ¬ 7 ≤ o → ∀ I' J', opnR tb n b f (i + 2) q o (if vN1 tb n i = 21 then 6 else 3) I I' J J' → I' 181 ((f + 1 : Nat) : Int) = gOp (vN1 tb n i) → Q 0 I' J') : p12_operand_b171 I J Q := by
  have him := hL.2.1
  have hS := hL.1
  have im : i < m := tkM_lt (tkM_of hc) him (by rw [a.1]; decide)
  have core : p12_operand_b249 (gOp (vN1 tb n i)) I J Q := by
    unfold p12_operand_b249
    refine m_next hc im hS (fun I2 J2 hf h2 => ?_)
    have L2 : mL tb n m b fm f (i + 1) I2 J2 := by
      obtain ⟨a1, a2, a3, a4, a5, a6, a7⟩ := hL
      exact ⟨h2, im, by rw [hf.2.1 8 (by decide) (by decide) (by decide) (by decide) (by decide)]; exact a3, by rw [hf.2.1 32 (by decide) (by decide) (by decide) (by decide) (by decide)]; exact a4, by rw [hf.2.1 33 (by decide) (by decide) (by decide) (by decide) (by decide)]; exact a5, by rw [hf.2.1 39 (by decide) (by decide) (by decide) (by decide) (by decide)]; exact a6, a7⟩
    have fr2 : fR b f q I I2 := fR_1 hf.1 (fun j a => hf.2.1 j (by omega) (by omega) (by omega) (by omega) (by omega)) (hf.2.1 31 (by decide) (by decide) (by decide) (by decide) (by decide))
    have jk2 : jK J J2 := ⟨hf.2.2.1, hf.2.2.2⟩
    have dead : ∀ (I3 : mI), 0 < I3 159 8 → Q 0 I3 J2 → p12_operand_b276 (gOp (vN1 tb n i)) I3 J2 Q := fun I3 h8 hq => by
      have d289 : ∀ s, p12_operand_b289 (gOp (vN1 tb n i)) s I3 J2 Q := fun s => by
        unfold p12_operand_b289
        exact opn_d h8 (zf (by omega) hq)
      unfold p12_operand_b276
      exact zs (fun _ => d289 6) (fun _ => d289 3)
    refine m_lexL h2 L2.2.2.1 (fun l12 => ?_) (fun I3 h5 fz fj f8 f9 => ?_)
    · have e4 := m_pl h2 l12
      refine m_isSg h2 (sgx_ok _ (by decide)) (fun c => zf (by decide) ?_) (fun c => zt rfl (m_blmL L2.2.2.1 (fun I3 fz fj f8 f9 => dead I3 (by omega) (k1 c I3 J2 (mNo_t fr2.1 jk2 (mNo_b (by decide) fz fj f8 (f9.trans e4)))))))
      have im1 : i + 1 < m := tkM_lt (tkM_of hc) im (by rw [c.1]; decide)
      have go : ∀ s : Int, s = (if vN1 tb n i = 21 then 6 else 3) → p12_operand_b289 (gOp (vN1 tb n i)) s I2 J2 Q := fun s hs => by
        unfold p12_operand_b289
        refine m_opn (q := q) (o := o) hc L2 l12 im1 (by rw [hf.2.1 42 (by decide) (by decide) (by decide) (by decide) (by decide)]; exact h42) (by rw [hf.2.1 40 (by decide) (by decide) (by decide) (by decide) (by decide)]; exact h40) ho (fun o7 I' hn => zf (by have := hn.2.2.1; omega) (k7 c o7 I' J2 (mNo_t fr2.1 jk2 hn))) (fun o7 I' J' hr => ?_)
        obtain ⟨r1, r2, r3, r4, r5, r6, r7, r8, r9, r10⟩ := hr
        have hf8 := hL.2.2.2.2.2.2
        rw [r5, show (f : Int) + 2 - 1 = ((f + 1 : Nat) : Int) by omega]
        refine zt r4 ⟨by omega, by omega, m_putK (fun I4 q4 g4 f4 => kk c o7 I4 J' ⟨?_, jK_t jk2 r2, mS_f r3 (f4 160 (by decide)) (fun j _ _ => by rw [f4 159 (by decide)]) rfl, by rw [f4 159 (by decide)]; exact r4, by rw [f4 159 (by decide)]; exact r5, by rw [f4 159 (by decide)]; exact r6, ?_, by rw [f4 159 (by decide)]; exact r8, ?_, ?_⟩ q4)⟩
        · refine fR_t fr2 (fR_t r1 (q' := q) (f' := f) ⟨⟨fun z a c d e => f4 z (by omega), fun j _ => by rw [f4 159 (by decide)], fun j _ => ?_⟩, fun k a => ⟨by rw [f4 182 (by decide)], g4 k (by omega)⟩, fun k _ => ?_, fun k _ => by rw [f4 183 (by decide)], by rw [f4 159 (by decide)]; exact Int.le_refl _, fun z _ => ?_⟩ (Nat.le_refl f) (Nat.le_refl q)) (Nat.le_refl f) (Nat.le_refl q)
          · rw [f4 175 (by decide), f4 176 (by decide)]; exact ⟨rfl, rfl⟩
          · rw [f4 178 (by decide), f4 179 (by decide), f4 180 (by decide)]; exact ⟨rfl, rfl, rfl⟩
          · rw [f4 175 (by decide), f4 176 (by decide)]; exact ⟨rfl, rfl⟩
        · rw [f4 159 (by decide), r7, hf.2.1 31 (by decide) (by decide) (by decide) (by decide) (by decide)]
        · rw [f4 178 (by decide), f4 179 (by decide), f4 180 (by decide), f4 182 (by decide), ← hs]; exact r9
        · rw [f4 178 (by decide), f4 179 (by decide), f4 180 (by decide), r10.1, r10.2.1, r10.2.2, hf.1 178 (by decide), hf.1 179 (by decide), hf.1 180 (by decide)]; exact ⟨rfl, rfl, rfl⟩
      unfold p12_operand_b276
      refine zs (fun e => go 6 ?_) (fun e => go 3 ?_)
      · rw [if_pos]
        unfold gOp at e
        rcases a.2 with x | x | x
        · rw [x] at e; exact absurd e (by decide)
        · rw [x] at e; exact absurd e (by decide)
        · exact x
      · rw [if_neg (fun x => e (by unfold gOp; rw [if_neg (by omega), if_neg (by omega)]))]
    · refine m_isSg (i := i + 1) (mS_f h2 (fz 160 (by decide)) (fun j a c => fj j (by omega) (by omega)) rfl) (sgx_ok _ (by decide)) (fun c => by omega) (fun c => zt rfl (m_blmD (by omega) (dead I3 (by omega) (k1 c I3 J2 (mNo_t fr2.1 jk2 (mNo_b (by decide) fz fj f8 f9))))))
  have c217 : p12_operand_b217 I J Q := by
    unfold p12_operand_b217
    refine m_isWk (k := 26) hc him hS h12 (by rw [ownM_all]; rfl) (by decide) (fun c => zf (by decide) ?_) (fun c => zt rfl (m_isWk (k := 27) hc him hS h12 (by rw [ownM_all]; rfl) (by decide) (fun c2 => zf (by decide) ?_) (fun c2 => zt rfl ?_)))
    · rw [c.2] at core; exact core
    · rw [c2.2] at core; exact core
    · have c3 : vN1 tb n i = 21 := by
        rcases a.2 with x | x | x
        · exact absurd ⟨a.1, x⟩ c
        · exact absurd ⟨a.1, x⟩ c2
        · exact x
      rw [c3] at core; exact core
  unfold p12_operand_b171
  refine m_isSg hS (sgx_ok _ (by decide)) (fun c => by omega) (fun _ => zt rfl ?_)
  refine m_isWk (k := 26) hc him hS h12 (by rw [ownM_all]; rfl) (by decide) (fun _ => zf (by decide) c217) (fun c => zt rfl ?_)
  refine m_isWk (k := 27) hc him hS h12 (by rw [ownM_all]; rfl) (by decide) (fun _ => zf (by decide) c217) (fun c2 => zt rfl ?_)
  refine m_isWk (k := 21) hc him hS h12 (by rw [ownM_all]; rfl) (by decide) (fun _ => zf (by decide) c217) (fun c3 => ?_)
  exfalso
  rcases a.2 with x | x | x
  · exact c ⟨a.1, x⟩
  · exact c2 ⟨a.1, x⟩
  · exact c3 ⟨a.1, x⟩
end
