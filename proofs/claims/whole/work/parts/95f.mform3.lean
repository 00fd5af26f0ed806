/-! THE READERS: the model's machine goes on -/
abbrev mKw (j : Int) : Prop := j ≤ 2 ∨ j = 7 ∨ j = 10 ∨ j = 11 ∨ (13 ≤ j ∧ j ≤ 30) ∨ (32 ≤ j ∧ j ≤ 38) ∨ j = 41 ∨ 44 ≤ j
def mfw (b : Int) (I I' : mI) : Prop := (∀ z, z ≠ 159 → z ≠ 175 → z ≠ 176 → ¬ (178 ≤ z ∧ z ≤ 183) → I' z = I z) ∧ (∀ j, mKw j → I' 159 j = I 159 j) ∧ ∀ j, ¬ (1600 * b ≤ j ∧ j < 1600 * b + 1600) → I' 175 j = I 175 j ∧ I' 176 j = I 176 j
theorem mfw_t {b : Int} {I1 I2 I3 : mI} (x : mfw b I1 I2) (y : mfw b I2 I3) : mfw b I1 I3 :=
  ⟨fun z h1 h2 h3 h4 => (y.1 z h1 h2 h3 h4).trans (x.1 z h1 h2 h3 h4), fun j h => (y.2.1 j h).trans (x.2.1 j h), fun j h => ⟨(y.2.2 j h).1.trans (x.2.2 j h).1, (y.2.2 j h).2.trans (x.2.2 j h).2⟩⟩
theorem mfw_of {b : Int} {I I' : mI} (h : mfr b I I') : mfw b I I' := ⟨h.1, fun j a => h.2.1 j (by omega), h.2.2⟩
def mNo (b : Int) (I I' J J' : mI) (k pl : Int) : Prop := mfw b I I' ∧ jK J J' ∧ (I' 159 8 = k ∧ 0 < k) ∧ I' 159 9 = pl
theorem mNo_b {b : Int} {I I' J : mI} {k pl : Int} (hk : 0 < k) (hz : ∀ z, z ≠ 159 → I' z = I z) (hj : ∀ j, j ≠ 8 → j ≠ 9 → I' 159 j = I 159 j) (h8 : I' 159 8 = k) (h9 : I' 159 9 = pl) : mNo b I I' J J k pl :=
  ⟨⟨fun z a _ _ _ => hz z a, fun j a => hj j (by omega) (by omega), fun j _ => by rw [hz 175 (by decide), hz 176 (by decide)]; exact ⟨rfl, rfl⟩⟩, jK_r J, ⟨h8, hk⟩, h9⟩
theorem mNo_t {b : Int} {I1 I2 I3 J1 J2 J3 : mI} {k pl : Int} (x : mfr b I1 I2) (y : jK J1 J2) (h : mNo b I2 I3 J2 J3 k pl) : mNo b I1 I3 J1 J3 k pl := ⟨mfw_t (mfw_of x) h.1, jK_t y h.2.1, h.2.2⟩
theorem sgx_ok : ∀ c ∈ [(59 : Int), 43, 45, 42, 47, 37, 40, 41, 44, 91, 93, 60, 62, 61], 0 ≤ sgx c := by decide +kernel
def mL (tb : Int → Int) (n : Int) (m : Nat) (b fm : Int) (f i : Nat) (I J : mI) : Prop := mS tb n i I J ∧ i ≤ m ∧ I 159 8 = 0 ∧ (I 159 32 = b ∧ (b = 0 ∨ b = 1)) ∧ I 159 33 = fm ∧ I 159 39 = (f : Int) + 1 ∧ f ≤ 8
def mH (f q : Nat) (least : Int) (hs : List Int) (I : mI) : Prop := I 159 42 = (q : Int) + (hs.length : Int) ∧ stO I q hs ∧ (0 ≤ I 182 f ∧ I 182 f ≤ (q : Int)) ∧ q + hs.length ≤ 300 ∧ 0 ≤ I 159 31 ∧ I 159 31 + (hs.length : Int) ≤ 1600 ∧ (0 ≤ I 159 40 - nts hs ∧ I 159 40 ≤ 1000) ∧ (∀ x ∈ hs, least ≤ rkF x) ∧ (I 182 f = (q : Int) ∨ rkF (I 183 ((q : Int) - 1)) < least)
def jnR (b : Int) (f q : Nat) (hs : List Int) (I I' : mI) : Prop := fR b f q I I' ∧ (∀ z, z ≠ 159 → z ≠ 175 → z ≠ 176 → I' z = I z) ∧ (∀ j, j ≠ 31 → j ≠ 40 → j ≠ 42 → I' 159 j = I 159 j) ∧ I' 159 42 = q ∧ I' 159 31 = I 159 31 + (hs.length : Int) ∧ I' 159 40 = I 159 40 - nts hs ∧ segM I' (1600 * b + I 159 31) (opC hs)
section
variable {tb : Int → Int} {n : Int} {m : Nat} {b fm : Int} {f i q : Nat} {I J : mI} {hs : List Int} {least : Int}
theorem m_join {Q : mI → Prop} (hL : mL tb n m b fm f i I J) (hH : mH f q least hs I) (kk : ∀ I', jnR b f q hs I I' → mS tb n i I' J → Q I') : p12_joins least I Q := by
  obtain ⟨h1, h2, h3, h4, h5, h6, h7, h8, h9⟩ := hH
  unfold p12_joins
  refine ⟨hs.length + 1, m_joinGo (b := b) (bs := I 182 f) (f := f) (q := q) hL.2.2.2.1.2 (by have := hL.2.2.2.2.2.2; omega) h3.2 hs I hL.2.2.2.1.1 hL.2.2.2.2.2.1 rfl h8 h9 h3.1 h1 h2 (by omega) h5 h6 h7 (fun I' u1 u2 u3 u4 u5 u6 u7 => ?_)⟩
  refine kk I' ⟨⟨⟨fun z a c d _ => u1 z a c d, fun j a => u2 j (by omega) (by omega) (by omega), fun j a => u3 j (by omega)⟩, fun k _ => ?_, fun k _ => ?_, fun k _ => ?_, by omega, fun z a => u3 z (by omega)⟩, u1, u2, u4, u5, u6, u7⟩ ?_
  · rw [u1 182 (by decide) (by decide) (by decide), u1 181 (by decide) (by decide) (by decide)]; exact ⟨rfl, rfl⟩
  · rw [u1 178 (by decide) (by decide) (by decide), u1 179 (by decide) (by decide) (by decide), u1 180 (by decide) (by decide) (by decide)]; exact ⟨rfl, rfl, rfl⟩
  · rw [u1 183 (by decide) (by decide) (by decide)]
  · exact mS_f hL.1 (u1 160 (by decide) (by decide) (by decide)) (fun j a c => u2 j (by omega) (by omega) (by omega)) rfl
/-- an operator is held back, what could be joined is joined -/
def opH (b : Int) (f q : Nat) (hs : List Int) (op ph bg : Int) (I I' : mI) : Prop := fR b f q I I' ∧ I' 159 8 = I 159 8 ∧ I' 159 39 = I 159 39 ∧ I' 159 42 = (q : Int) + 1 ∧ I' 183 q = op ∧ I' 159 31 = I 159 31 + (hs.length : Int) ∧ I' 159 40 = I 159 40 - nts hs ∧ segM I' (1600 * b + I 159 31) (opC hs) ∧ I' 178 f = I 178 f ∧ I' 179 f = ph ∧ I' 180 f = bg
theorem opH_1 {op ph bg : Int} {I4 I5 : mI} (h : opH b f q hs op ph bg I I4) (hz : ∀ z, z ≠ 159 → I5 z = I4 z) (hj : ∀ j, j ≠ 3 → j ≠ 4 → j ≠ 5 → j ≠ 6 → j ≠ 12 → j ≠ 43 → I5 159 j = I4 159 j) : opH b f q hs op ph bg I I5 := by
  obtain ⟨h1, h2, h3, h4, h5, h6, h7, h8, h9, h10, h11⟩ := h
  have e31 := hj 31 (by decide) (by decide) (by decide) (by decide) (by decide) (by decide)
  refine ⟨fR_t h1 (fR_1 hz (fun j a => hj j (by omega) (by omega) (by omega) (by omega) (by omega) (by omega)) e31) (Nat.le_refl f) (Nat.le_refl q), ?_, ?_, ?_, ?_, ?_, ?_, ?_, ?_, ?_, ?_⟩
  · rw [hj 8 (by decide) (by decide) (by decide) (by decide) (by decide) (by decide)]; exact h2
  · rw [hj 39 (by decide) (by decide) (by decide) (by decide) (by decide) (by decide)]; exact h3
  · rw [hj 42 (by decide) (by decide) (by decide) (by decide) (by decide) (by decide)]; exact h4
  · rw [hz 183 (by decide)]; exact h5
  · rw [e31]; exact h6
  · rw [hj 40 (by decide) (by decide) (by decide) (by decide) (by decide) (by decide)]; exact h7
  · exact segM_fr (hz 175 (by decide)) (hz 176 (by decide)) h8
  · rw [hz 178 (by decide)]; exact h9
  · rw [hz 179 (by decide)]; exact h10
  · rw [hz 180 (by decide)]; exact h11
theorem m_jh {op : Int} {I2 : mI} {Q : mI → Prop} (hq : q < 400) (hj : jnR b f q hs I I2) (hS : mS tb n i I2 J) (kk : ∀ I3, opH b f q hs op (I 179 f) (I 180 f) I I3 → mS tb n i I3 J → Q I3) : p12_holdsBack op I2 Q := by
  obtain ⟨h1, h2, h3, h4, h5, h6, h7⟩ := hj
  refine m_hold h4 hq (fun I3 u1 u2 u3 u4 u5 => kk I3 ⟨fR_t h1 (q' := q) ⟨⟨fun z a c d e => u1 z a (by omega), fun j a => u2 j (by omega), fun j _ => ?_⟩, fun k _ => ?_, fun k _ => ?_, fun k a => u5 k (by omega), by rw [u2 31 (by decide)]; exact Int.le_refl _, fun z _ => ?_⟩ (Nat.le_refl f) (Nat.le_refl q), ?_, ?_, u3, u4, ?_, ?_, ?_, ?_, ?_, ?_⟩ ?_)
  · rw [u1 175 (by decide) (by decide), u1 176 (by decide) (by decide)]; exact ⟨rfl, rfl⟩
  · rw [u1 182 (by decide) (by decide), u1 181 (by decide) (by decide)]; exact ⟨rfl, rfl⟩
  · rw [u1 178 (by decide) (by decide), u1 179 (by decide) (by decide), u1 180 (by decide) (by decide)]; exact ⟨rfl, rfl, rfl⟩
  · rw [u1 175 (by decide) (by decide), u1 176 (by decide) (by decide)]; exact ⟨rfl, rfl⟩
  · rw [u2 8 (by decide), h3 8 (by decide) (by decide) (by decide)]
  · rw [u2 39 (by decide), h3 39 (by decide) (by decide) (by decide)]
  · rw [u2 31 (by decide)]; exact h5
  · rw [u2 40 (by decide)]; exact h6
  · exact segM_fr (u1 175 (by decide) (by decide)) (u1 176 (by decide) (by decide)) h7
  · rw [u1 178 (by decide) (by decide), h2 178 (by decide) (by decide) (by decide)]
  · rw [u1 179 (by decide) (by decide), h2 179 (by decide) (by decide) (by decide)]
  · rw [u1 180 (by decide) (by decide), h2 180 (by decide) (by decide) (by decide)]
  · exact mS_f hS (u1 160 (by decide) (by decide)) (fun j a c => u2 j (by omega)) rfl
def opR (tb : Int → Int) (n : Int) (b : Int) (f i q : Nat) (hs : List Int) (op ph bg : Int) (I I' J J' : mI) : Prop := opH b f q hs op ph bg I I' ∧ jK J J' ∧ mS tb n (i + 1) I' J' ∧ I' 159 43 = 0
theorem go_fin {op ph bg : Int} {I4 : mI} {Q : Int → mI → mI → Prop} (hc : ctD tb n m) (him : i < m) (h : opH b f q hs op ph bg I I4) (hS : mS tb n i I4 J) (kk : ∀ I' J', opR tb n b f i q hs op ph bg I I' J J' → Q 1 I' J') : p12_ahead I4 J (fun I5 J1 => wLet (up I5 159 43 0) (fun I6 => Q 1 I6 J1)) := by
  refine m_next hc him hS (fun I5 J5 hf h5 => m_putK (fun I6 q6 g6 f6 => kk I6 J5 ⟨opH_1 h (fun z hz => (f6 z hz).trans (hf.1 z hz)) (fun j a c d e g k => (g6 j k).trans (hf.2.1 j a c d e g)), ⟨hf.2.2.1, hf.2.2.2⟩, ?_, q6⟩))
  exact mS_f h5 (f6 160 (by decide)) (fun j a c => g6 j (by omega)) rfl
theorem go_in {Q : Int → mI → mI → Prop} (hL : mL tb n m b fm f i I J) (hph : 0 ≤ I 179 f ∧ I 179 f ≤ 2)
    (k5 : ∀ I', kN1 tb n i = 5 → mNo b I I' J J 1 (lN1 tb n i) → Q 0 I' J)
    (ka : I 159 12 = -1 → (sSum (kN1 tb n) (vN1 tb n) i ≠ 0 ∨ sPro (kN1 tb n) (vN1 tb n) i ≠ 0) → I 179 f < 2 → p12_goesOn_b87 I J Q)
    (kb : I 159 12 = -1 → (I 179 f < 2 → sSum (kN1 tb n) (vN1 tb n) i = 0 ∧ sPro (kN1 tb n) (vN1 tb n) i = 0) → p12_goesOn_b188 f (I 178 f) (if isT (I 178 f) then 1 else 0) I J Q) : p12_goesOn I J Q := by
  obtain ⟨hS, him, h8, h32, h33, h39, hf8⟩ := hL
  unfold p12_goesOn
  refine m_lexL hS h8 (fun h12 => ?_) (fun I' h5 fz fj f8 f9 => zf (by omega) (k5 I' h5 (mNo_b (by decide) fz fj f8 f9)))
  refine zt (by omega) ?_
  rw [h39, show (f : Int) + 1 - 1 = f by omega]
  have chain : ∀ r1 : Int, r1 = (if isT (I 178 f) then 1 else 0) → (if (2 : Int) ≤ I 179 f then (p12_goesOn_b188 f (I 178 f) r1 I J Q) else (p12_isSign 43 I (fun r2 => (if r2 = 0 then (p12_isSign 45 I (fun r3 => (if r3 = 0 then (p12_isSign 42 I (fun r4 => (if r4 = 0 then (p12_isSign 47 I (fun r5 => (if r5 = 0 then (p12_isSign 37 I (fun r6 => (if r6 = 0 then (p12_goesOn_b188 f (I 178 f) r1 I J Q) else (p12_goesOn_b87 I J Q)))) else (p12_goesOn_b87 I J Q)))) else (p12_goesOn_b87 I J Q)))) else (p12_goesOn_b87 I J Q)))) else (p12_goesOn_b87 I J Q))))) := fun r1 hr => by
    subst hr
    refine zs (fun e => kb h12 (fun q => by omega)) (fun e => ?_)
    refine m_isSg hS (sgx_ok _ (by decide)) (fun a => zf (by decide) (ka h12 (Or.inl ?_) (by omega))) (fun a1 => zt rfl ?_)
    · unfold sSum; rw [if_pos a]; decide
    refine m_isSg hS (sgx_ok _ (by decide)) (fun a => zf (by decide) (ka h12 (Or.inl ?_) (by omega))) (fun a2 => zt rfl ?_)
    · unfold sSum; rw [if_neg a1, if_pos a]; decide
    refine m_isSg hS (sgx_ok _ (by decide)) (fun a => zf (by decide) (ka h12 (Or.inr ?_) (by omega))) (fun a3 => zt rfl ?_)
    · unfold sPro; rw [if_pos a]; decide
    refine m_isSg hS (sgx_ok _ (by decide)) (fun a => zf (by decide) (ka h12 (Or.inr ?_) (by omega))) (fun a4 => zt rfl ?_)
    · unfold sPro; rw [if_neg a3, if_pos a]; decide
    refine m_isSg hS (sgx_ok _ (by decide)) (fun a => zf (by decide) (ka h12 (Or.inr ?_) (by omega))) (fun a5 => zt rfl (kb h12 (fun _ => ⟨?_, ?_⟩)))
    · unfold sPro; rw [if_neg a3, if_neg a4, if_pos a]; decide
    · unfold sSum; rw [if_neg a1, if_neg a2]
    · unfold sPro; rw [if_neg a3, if_neg a4, if_neg a5]
  refine ⟨by omega, by omega, wLet_r (m_isTst (fun t => ⟨by omega, chain 1 (by rw [if_pos t])⟩) (fun t => ⟨by omega, chain 0 (by rw [if_neg t])⟩))⟩
/-- + and - -/
theorem go_sum {Q : Int → mI → mI → Prop} (hc : ctD tb n m) (hL : mL tb n m b fm f i I J) (hph : 0 ≤ I 179 f ∧ I 179 f < 2) (z : sSum (kN1 tb n) (vN1 tb n) i ≠ 0) (hH : mH f q 5 hs I)
    (kk : ∀ I' J', opR tb n b f i q hs (sSum (kN1 tb n) (vN1 tb n) i) (I 179 f) (I 180 f) I I' J J' → Q 1 I' J') : p12_goesOn I J Q := by
  have sk := sSum_k z
  have im : i < m := tkM_lt (tkM_of hc) hL.2.1 (by rw [sk.1]; decide)
  refine go_in hL (by omega) (fun I' h5 _ => by omega) (fun _ _ _ => ?_) (fun _ q => absurd (q hph.2).1 z)
  have go : ∀ I2, jnR b f q hs I I2 → mS tb n i I2 J → p12_goesOn_b174 (sSum (kN1 tb n) (vN1 tb n) i) I2 J Q := fun I2 hj hS => by
    unfold p12_goesOn_b174
    exact m_jh (by have := hH.2.2.2.1; omega) hj hS (fun I3 h3 hS3 => go_fin hc im h3 hS3 kk)
  have at5 : p12_goesOn_b112 5 I J Q := by
    unfold p12_goesOn_b112
    refine m_join hL hH (fun I2 hj hS => ?_)
    have go2 := go I2 hj hS
    refine m_isSg hS (sgx_ok _ (by decide)) (fun a => zf (by decide) ?_) (fun a => zt rfl (m_isSg hS (sgx_ok _ (by decide)) (fun a2 => zf (by decide) ?_) (fun a2 => ?_)))
    · unfold sSum at go2; rw [if_pos a] at go2; exact go2
    · unfold sSum at go2; rw [if_neg a, if_pos a2] at go2; exact go2
    · exact absurd (by unfold sSum; rw [if_neg a, if_neg a2]) z
  unfold p12_goesOn_b87 p12_goesOn_b106
  refine m_isSg hL.1 (sgx_ok _ (by decide)) (fun a => zf (by decide) at5) (fun a => zt rfl (m_isSg hL.1 (sgx_ok _ (by decide)) (fun a2 => zf (by decide) at5) (fun a2 => ?_)))
  exact absurd (by unfold sSum; rw [if_neg a, if_neg a2]) z
/-- * / % -/
theorem go_pro {Q : Int → mI → mI → Prop} (hc : ctD tb n m) (hL : mL tb n m b fm f i I J) (hph : 0 ≤ I 179 f ∧ I 179 f < 2) (z : sPro (kN1 tb n) (vN1 tb n) i ≠ 0) (hH : mH f q 6 hs I)
    (kk : ∀ I' J', opR tb n b f i q hs (sPro (kN1 tb n) (vN1 tb n) i) (I 179 f) (I 180 f) I I' J J' → Q 1 I' J') : p12_goesOn I J Q := by
  have sk := sPro_k z
  have im : i < m := tkM_lt (tkM_of hc) hL.2.1 (by rw [sk.1]; decide)
  refine go_in hL (by omega) (fun I' h5 _ => by omega) (fun _ _ _ => ?_) (fun _ q => absurd (q hph.2).2 z)
  have go : ∀ I2, jnR b f q hs I I2 → mS tb n i I2 J → p12_goesOn_b174 (sPro (kN1 tb n) (vN1 tb n) i) I2 J Q := fun I2 hj hS => by
    unfold p12_goesOn_b174
    exact m_jh (by have := hH.2.2.2.1; omega) hj hS (fun I3 h3 hS3 => go_fin hc im h3 hS3 kk)
  unfold p12_goesOn_b87
  refine m_isSg hL.1 (sgx_ok _ (by decide)) (fun a => by omega) (fun a => zt rfl (m_isSg hL.1 (sgx_ok _ (by decide)) (fun a2 => by omega) (fun a2 => zt rfl ?_)))
  unfold p12_goesOn_b112
  refine m_join hL hH (fun I2 hj hS => ?_)
  have go2 := go I2 hj hS
  unfold sPro at go2
  refine m_isSg hS (sgx_ok _ (by decide)) (fun a => by omega) (fun a => zt rfl (m_isSg hS (sgx_ok _ (by decide)) (fun a2 => by omega) (fun a2 => zt rfl (m_isSg hS (sgx_ok _ (by decide)) (fun a3 => zf (by decide) ?_) (fun a3 => zt rfl (m_isSg hS (sgx_ok _ (by decide)) (fun a4 => zf (by decide) ?_) (fun a4 => zt rfl ?_)))))))
  · rw [if_pos a3] at go2; exact go2
  · rw [if_neg a3, if_pos a4] at go2; exact go2
  · have a5 : kN1 tb n i = 4 ∧ vN1 tb n i = 37 := by
      refine ⟨sk.1, ?_⟩
      rcases sk.2 with q | q | q
      · exact absurd ⟨sk.1, q.1⟩ a3
      · exact absurd ⟨sk.1, q.1⟩ a4
      · exact q.1
    rw [if_neg a3, if_neg a4, if_pos a5] at go2; exact go2
/-- < > = -/
theorem go_cmp {Q : Int → mI → mI → Prop} (hc : ctD tb n m) (hL : mL tb n m b fm f i I J) (ht : isT (I 178 f)) (hph : I 179 f = 0) (z : sCmp (kN1 tb n) (vN1 tb n) i ≠ 0) (hH : mH f q 5 hs I)
    (kk : ∀ I' J', opR tb n b f i q hs (sCmp (kN1 tb n) (vN1 tb n) i) 1 (I 180 f) I I' J J' → Q 1 I' J') : p12_goesOn I J Q := by
  have sk := sCmp_k z
  have im : i < m := tkM_lt (tkM_of hc) hL.2.1 (by rw [sk.1]; decide)
  have hf8 := hL.2.2.2.2.2.2
  refine go_in hL (by omega) (fun I' h5 _ => by omega) (fun _ ar _ => ?_) (fun _ _ => ?_)
  · rcases ar with q | q
    · have := sSum_k q; omega
    · have := sPro_k q; omega
  have go : ∀ I2, jnR b f q hs I I2 → mS tb n i I2 J → p12_goesOn_b264 f (sCmp (kN1 tb n) (vN1 tb n) i) I2 J Q := fun I2 hj hS => by
    unfold p12_goesOn_b264
    refine m_jh (by have := hH.2.2.2.1; omega) hj hS (fun I3 h3 hS3 => ⟨by omega, m_putK (fun I4 q4 g4 f4 => ?_)⟩)
    refine go_fin hc im (op := sCmp (kN1 tb n) (vN1 tb n) i) (ph := 1) (bg := I 180 f) (q := q) (hs := hs) (b := b) (f := f) (I := I) ?_ (mS_f hS3 (f4 160 (by decide)) (fun j _ _ => by rw [f4 159 (by decide)]) rfl) kk
    obtain ⟨h1, h2, h4, h5, h6, h7, h8, h9, h10, h11, h12⟩ := h3
    refine ⟨fR_t h1 (q' := q) ⟨⟨fun z a c d e => f4 z (by omega), fun j _ => by rw [f4 159 (by decide)], fun j _ => by rw [f4 175 (by decide), f4 176 (by decide)]; exact ⟨rfl, rfl⟩⟩, fun k _ => by rw [f4 182 (by decide), f4 181 (by decide)]; exact ⟨rfl, rfl⟩, fun k a => by rw [f4 178 (by decide), g4 k (by omega), f4 180 (by decide)]; exact ⟨rfl, rfl, rfl⟩, fun k _ => by rw [f4 183 (by decide)], by rw [f4 159 (by decide)]; exact Int.le_refl _, fun z _ => by rw [f4 175 (by decide), f4 176 (by decide)]; exact ⟨rfl, rfl⟩⟩ (Nat.le_refl f) (Nat.le_refl q), ?_, ?_, ?_, ?_, ?_, ?_, ?_, ?_, q4, ?_⟩
    · rw [f4 159 (by decide)]; exact h2
    · rw [f4 159 (by decide)]; exact h4
    · rw [f4 159 (by decide)]; exact h5
    · rw [f4 183 (by decide)]; exact h6
    · rw [f4 159 (by decide)]; exact h7
    · rw [f4 159 (by decide)]; exact h8
    · exact segM_fr (f4 175 (by decide)) (f4 176 (by decide)) h9
    · rw [f4 178 (by decide)]; exact h10
    · rw [f4 180 (by decide)]; exact h12
  have at5 : p12_goesOn_b228 f I J Q := by
    unfold p12_goesOn_b228
    refine m_join hL hH (fun I2 hj hS => ?_)
    have go2 := go I2 hj hS
    unfold sCmp at go2
    refine m_isSg hS (sgx_ok _ (by decide)) (fun a => zf (by decide) ?_) (fun a => zt rfl (m_isSg hS (sgx_ok _ (by decide)) (fun a2 => zf (by decide) ?_) (fun a2 => zt rfl ?_)))
    · rw [if_pos a] at go2; exact go2
    · rw [if_neg a, if_pos a2] at go2; exact go2
    · have a5 : kN1 tb n i = 4 ∧ vN1 tb n i = 61 := by
        refine ⟨sk.1, ?_⟩
        rcases sk.2 with q | q | q
        · exact absurd ⟨sk.1, q.1⟩ a
        · exact absurd ⟨sk.1, q.1⟩ a2
        · exact q.1
      rw [if_neg a, if_neg a2, if_pos a5] at go2; exact go2
  rw [if_pos ht]
  unfold p12_goesOn_b188
  refine zf (by decide) ⟨by omega, zt hph (m_isSg hL.1 (sgx_ok _ (by decide)) (fun a => zf (by decide) at5) (fun a => zt rfl (m_isSg hL.1 (sgx_ok _ (by decide)) (fun a2 => zf (by decide) at5) (fun a2 => zt rfl (m_isSg hL.1 (sgx_ok _ (by decide)) (fun a3 => zf (by decide) at5) (fun a3 => ?_))))))⟩
  exact absurd (by unfold sCmp; rw [if_neg a, if_neg a2, if_neg a3]) z
end
