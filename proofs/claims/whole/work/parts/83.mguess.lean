/-! TASTES in the model -/
theorem smR_full {f : Int → Int} (h : ∀ j, 0 ≤ f j ∧ f j ≤ 1) : ∀ (d : Nat) (k : Int), smR f d k = d ↔ ∀ j, k ≤ j → j < k + d → f j = 1
  | 0, k => ⟨fun _ j a b => by omega, fun _ => rfl⟩
  | d + 1, k => by
    have ih := smR_full h d (k + 1)
    have r := smR_rg (m := 1) h d (k + 1)
    have hk := h k
    have e : smR f (d + 1) k = f k + smR f d (k + 1) := rfl
    rw [e]
    refine ⟨fun q j a b => ?_, fun q => ?_⟩
    · by_cases ej : j = k
      · rw [ej]; omega
      · exact ih.mp (by omega) j (by omega) (by omega)
    · have a := q k (by omega) (by omega)
      have b := ih.mpr (fun j x y => q j (by omega) (by omega))
      omega
def metM (V I : mI) (m : Int) (my mt mc : Int → Int) : Prop := I 159 62 = m ∧ (0 ≤ m ∧ m ≤ 16) ∧ ∀ i, 0 ≤ i → i < m → I 199 i = my i ∧ I 200 i = mt i ∧ I 201 i = mc i ∧ (0 ≤ my i ∧ my i ≤ 30) ∧ (0 ≤ mt i ∧ mt i < 6 ∧ mt i < V 1 2)
def vfr (b : Int) (I I' : mI) : Prop := (∀ z, (z < 185 ∨ z = 193 ∨ (197 < z ∧ z ≠ 202)) → I' z = I z) ∧ (∀ j, j ≠ 1 → I' 185 j = I 185 j ∧ I' 186 j = I 186 j ∧ I' 190 j = I 190 j) ∧ (∀ j, ¬ (6 ≤ j ∧ j < 12) → I' 187 j = I 187 j ∧ I' 188 j = I 188 j ∧ I' 189 j = I 189 j) ∧ (∀ j, ¬ (120 ≤ j ∧ j < 240) → I' 191 j = I 191 j) ∧ (∀ j, j ≠ 3 * b → I' 192 j = I 192 j)
theorem vfr_t {b : Int} {I1 I2 I3 : mI} (h1 : vfr b I1 I2) (h2 : vfr b I2 I3) : vfr b I1 I3 :=
  ⟨fun z hz => (h2.1 z hz).trans (h1.1 z hz), fun j hj => ⟨(h2.2.1 j hj).1.trans (h1.2.1 j hj).1, (h2.2.1 j hj).2.1.trans (h1.2.1 j hj).2.1, (h2.2.1 j hj).2.2.trans (h1.2.1 j hj).2.2⟩, fun j hj => ⟨(h2.2.2.1 j hj).1.trans (h1.2.2.1 j hj).1, (h2.2.2.1 j hj).2.1.trans (h1.2.2.1 j hj).2.1, (h2.2.2.1 j hj).2.2.trans (h1.2.2.1 j hj).2.2⟩, fun j hj => (h2.2.2.2.1 j hj).trans (h1.2.2.2.1 j hj), fun j hj => (h2.2.2.2.2 j hj).trans (h1.2.2.2.2 j hj)⟩
theorem vfr_g {b : Int} {I I' : mI} (h : gfr 1 I I') : vfr b I I' := ⟨fun z hz => h.1 z (by omega), h.2.1, fun j hj => h.2.2.1 j (by omega), fun j hj => h.2.2.2 j (by omega), fun j _ => by rw [h.1 192 (by omega)]⟩
theorem vfr_r (b : Int) (I : mI) : vfr b I I := vfr_g (gfr_r 1 I)
theorem vfr_2 {b : Int} {I I' : mI} (h : ∀ z, z ≠ 202 → I' z = I z) : vfr b I I' := ⟨fun z hz => h z (by omega), fun j _ => by rw [h 185 (by decide), h 186 (by decide), h 190 (by decide)]; exact ⟨rfl, rfl, rfl⟩, fun j _ => by rw [h 187 (by decide), h 188 (by decide), h 189 (by decide)]; exact ⟨rfl, rfl, rfl⟩, fun j _ => by rw [h 191 (by decide)], fun j _ => by rw [h 192 (by decide)]⟩
theorem ldM_v {b bk : Int} {I I' V : mI} {F : Int → List (Int × Int)} (hf : vfr b I I') (h : ldM I bk V F) : ldM I' bk V F := ldM_fr (by rw [hf.1 159 (by omega)]) (fun a _ ha => hf.1 a (by omega)) h
theorem metM_v {V : mI} {b m : Int} {I I' : mI} {my mt mc : Int → Int} (hf : vfr b I I') (h : metM V I m my mt mc) : metM V I' m my mt mc := by
  unfold metM
  rw [hf.1 159 (by omega), hf.1 199 (by omega), hf.1 200 (by omega), hf.1 201 (by omega)]; exact h
theorem stM0_v {V : mI} {b : Int} {I I' S : mI} (hf : vfr b I I') (h2 : S 0 2 ≤ 40) (h : stM V I 0 S) : stM V I' 0 S := by
  obtain ⟨c0, c1, c2, c3, c4⟩ := h
  obtain ⟨-, f2, f3, f4, -⟩ := hf
  refine ⟨(f2 0 (by decide)).1.trans c0, (f2 0 (by decide)).2.1.trans c1, (f2 0 (by decide)).2.2.trans c2, fun j j0 j6 => ?_, fun j j0 j1 => ?_⟩
  · have h3 := f3 (6 * 0 + j) (by omega)
    exact ⟨h3.1.trans (c3 j j0 j6).1, h3.2.1.trans (c3 j j0 j6).2.1, h3.2.2.trans (c3 j j0 j6).2.2⟩
  · exact (f4 (120 * 0 + j) (by omega)).trans (c4 j j0 j1)
/-- what was stored of the tastes below one, of this one's years below one -/
def wrM (I V : mI) (F : Int → List (Int × Int)) (S : mI) (b t k : Int) : Prop := ∀ t' k' i, 0 ≤ t' → 0 ≤ k' → k' ≤ 30 → S 0 0 + k' ≤ 999 → 0 ≤ i → i < V 1 2 → (t' < t ∨ (t' = t ∧ k' < k)) → I 202 (6 * (31 * t' + k') + i) = ruF V F (twS V b t') k'.toNat S 3 i
def roN (V : mI) (F : Int → List (Int × Int)) (S : mI) (tw : Int → Int) (my mt mc : Int → Int) (k i : Int) : Int := if my i < k ∧ ruF V F tw (my i).toNat S 3 (mt i) = mc i then 1 else 0
def roE (V : mI) (F : Int → List (Int × Int)) (S : mI) (tw : Int → Int) (my mt mc : Int → Int) (k i : Int) : Int := if my i = k ∧ ruF V F tw (my i).toNat S 3 (mt i) = mc i then 1 else 0
theorem roN_s {V : mI} {F : Int → List (Int × Int)} {S : mI} {tw : Int → Int} {my mt mc : Int → Int} {k : Int} (d : Nat) (i : Int) : smR (roN V F S tw my mt mc (k + 1)) d i = smR (roN V F S tw my mt mc k) d i + smR (roE V F S tw my mt mc k) d i := by
  rw [← smR_add]
  refine smR_congr d i (fun j _ _ => ?_)
  unfold roN roE
  by_cases e : ruF V F tw (my j).toNat S 3 (mt j) = mc j
  · by_cases e1 : my j < k
    · rw [if_pos ⟨by omega, e⟩, if_pos ⟨e1, e⟩, if_neg (fun q => by omega)]; omega
    · by_cases e2 : my j = k
      · rw [if_pos ⟨by omega, e⟩, if_neg (fun q => e1 q.1), if_pos ⟨e2, e⟩]; omega
      · rw [if_neg (fun q => by omega), if_neg (fun q => e1 q.1), if_neg (fun q => e2 q.1)]; omega
  · rw [if_neg (fun q => e q.2), if_neg (fun q => e q.2), if_neg (fun q => e q.2)]; omega
theorem roN_rg (V : mI) (F : Int → List (Int × Int)) (S : mI) (tw : Int → Int) (my mt mc : Int → Int) (k i : Int) : 0 ≤ roN V F S tw my mt mc k i ∧ roN V F S tw my mt mc k i ≤ 1 := by unfold roN; split <;> omega
theorem roE_rg (V : mI) (F : Int → List (Int × Int)) (S : mI) (tw : Int → Int) (my mt mc : Int → Int) (k i : Int) : 0 ≤ roE V F S tw my mt mc k i ∧ roE V F S tw my mt mc k i ≤ 1 := by unfold roE; split <;> omega
theorem m_storeGo {bk b t k acc : Int} {V : mI} {F : Int → List (Int × Int)} {S' : mI} {set : Int} {J : mI} {k4 k31 : Int → Int → mI → mI → Prop} {Q : Int → mI → mI → Prop} {I0 : mI} (hM : ldM I0 bk V F) (hV : ldOK V) (ht : 0 ≤ t ∧ t ≤ 9) (hk : 0 ≤ k ∧ k ≤ 30) (hS : stM V I0 1 S')
    (kk : ∀ I' : mI, (∀ z, z ≠ 202 → I' z = I0 z) → (∀ i, 0 ≤ i → i < V 1 2 → I' 202 (6 * (31 * t + k) + i) = S' 3 i) → (∀ j, ¬ (6 * (31 * t + k) ≤ j ∧ j < 6 * (31 * t + k) + 6) → I' 202 j = I0 202 j) → ∃ f, p12_tasteBits_b97 b set t k I' J k4 k31 Q f acc 0) :
    ∀ (d : Nat) (l : Int) (I : mI), 0 ≤ l → l + d = V 1 2 → (∀ z, z ≠ 202 → I z = I0 z) → (∀ i, 0 ≤ i → i < l → I 202 (6 * (31 * t + k) + i) = S' 3 i) → (∀ j, ¬ (6 * (31 * t + k) ≤ j ∧ j < 6 * (31 * t + k) + 6) → I 202 j = I0 202 j) → p12_tasteBits_b46 b set t acc k J k4 k31 Q (d + 1) l I
  | 0, l, I, h0, h1, hf, hp, hg => by
    obtain ⟨m1, m2, m3, m4, m5, -⟩ := id hM
    have n := hV.1
    show p12_tasteBits_b46_body b set t acc k J k4 k31 Q (p12_tasteBits_b46 b set t acc k J k4 k31 Q 0) l I
    unfold p12_tasteBits_b46_body
    rw [hf 159 (by decide), hf 167 (by decide), m1, m5]
    exact ⟨by omega, zt (by omega) (kk I hf (fun i a c => hp i a (by omega)) hg)⟩
  | d + 1, l, I, h0, h1, hf, hp, hg => by
    obtain ⟨m1, m2, m3, m4, m5, -⟩ := id hM
    have n := hV.1
    have ew : I 189 (6 + l) = S' 3 l := by rw [hf 189 (by decide)]; exact ((stM1 hS).1 l h0 (by omega)).2.2
    show p12_tasteBits_b46_body b set t acc k J k4 k31 Q (p12_tasteBits_b46 b set t acc k J k4 k31 Q (d + 1)) l I
    unfold p12_tasteBits_b46_body
    rw [hf 159 (by decide), hf 167 (by decide), m1, m5, ew]
    refine ⟨by omega, zf (by omega) ⟨by omega, by omega, by omega, by omega, by omega, by omega, by omega,  m_putK (fun I1 q1 g1 f1 => ⟨by omega, m_storeGo hM hV ht hk hS kk d (l + 1) I1 (by omega) (by omega) (fun z hz => (f1 z hz).trans (hf z hz)) (fun i a c => ?_) (fun j hj => by rw [g1 j (by omega)]; exact hg j hj)⟩)⟩⟩
    by_cases e : i = l
    · rw [e]; exact q1
    · rw [g1 _ (by omega)]; exact hp i a (by omega)
theorem m_cntGo {b t k m set : Int} {V : mI} {F : Int → List (Int × Int)} {S : mI} {tw my mt mc : Int → Int} {I J : mI} {k4 k31 : Int → Int → mI → mI → Prop} {Q : Int → mI → mI → Prop} (hm : metM V I m my mt mc) (hk : 0 ≤ k ∧ k ≤ 30) (hS : stM V I 1 (ruF V F tw k.toNat S))
    {a0 : Int} (ha0 : 0 ≤ a0 ∧ a0 ≤ 16) (kk : p12_ticks 1 (-1) I J (fun r2 I5 J1 => rg (k + 1) ∧ k31 (a0 + smR (roE V F S tw my mt mc k) m.toNat 0) (k + 1) I5 J1)) :
    ∀ (d : Nat) (acc l : Int), 0 ≤ l → l + d = m → 0 ≤ acc → acc ≤ 16 + l → acc + smR (roE V F S tw my mt mc k) d l = a0 + smR (roE V F S tw my mt mc k) m.toNat 0 → p12_tasteBits_b97 b set t k I J k4 k31 Q (d + 1) acc l
  | 0, acc, l, h0, h1, h2, h3, he => by
    show p12_tasteBits_b97_body b set t k I J k4 k31 Q (p12_tasteBits_b97 b set t k I J k4 k31 Q 0) acc l
    unfold p12_tasteBits_b97_body
    have he' : acc + 0 = a0 + smR (roE V F S tw my mt mc k) m.toNat 0 := he
    rw [Int.add_zero] at he'
    rw [← he'] at kk
    rw [hm.1]
    exact zt (by omega) kk
  | d + 1, acc, l, h0, h1, h2, h3, he => by
    obtain ⟨m1, m2, m3⟩ := id hm
    obtain ⟨a1, a2, a3, a4, a5⟩ := m3 l h0 (by omega)
    have ew : I 189 (6 + mt l) = ruF V F tw k.toNat S 3 (mt l) := ((stM1 hS).1 (mt l) a5.1 ⟨a5.2.1, Or.inr a5.2.2⟩).2.2
    show p12_tasteBits_b97_body b set t k I J k4 k31 Q (p12_tasteBits_b97 b set t k I J k4 k31 Q (d + 1)) acc l
    unfold p12_tasteBits_b97_body
    rw [m1, a1, a2, a3, ew]
    have he' : acc + (roE V F S tw my mt mc k l + smR (roE V F S tw my mt mc k) d (l + 1)) = a0 + smR (roE V F S tw my mt mc k) m.toNat 0 := he
    have r := roE_rg V F S tw my mt mc k l
    have go : ∀ x, x = roE V F S tw my mt mc k l → rg (acc + x) ∧ rg (l + 1) ∧ p12_tasteBits_b97 b set t k I J k4 k31 Q (d + 1) (acc + x) (l + 1) := fun x hx => ⟨by omega, by omega,  m_cntGo hm hk hS ha0 kk d (acc + x) (l + 1) (by omega) (by omega) (by omega) (by omega) (by rw [hx]; omega)⟩
    refine zf (by omega) ⟨by omega, zs (fun e => ⟨by omega, by omega, by omega, by omega,  zs (fun e2 => go 1 ?_) (fun e2 => go 0 ?_)⟩) (fun e => go 0 ?_)⟩
    · unfold roE; rw [e, if_pos ⟨rfl, e2⟩]
    · unfold roE; rw [e, if_neg (fun q => e2 q.2)]
    · unfold roE; rw [if_neg (fun q => e q.1)]
def tpM (I V : mI) (b : Int) : Prop := ∀ x, 0 ≤ x → x < V 1 0 → (x ≠ b → I 192 (3 * x + 0) = tw0 V x) ∧ I 192 (3 * x + 1) = tr V 0 x 1 ∧ I 192 (3 * x + 2) = tr V 0 x 2
theorem tpM_v {b : Int} {I I' V : mI} (hf : vfr b I I') (h : tpM I V b) : tpM I' V b := by
  intro x x0 x1
  obtain ⟨a, c, d⟩ := h x x0 x1
  refine ⟨fun e => ?_, ?_, ?_⟩
  · rw [hf.2.2.2.2 _ (by omega)]; exact a e
  · rw [hf.2.2.2.2 _ (by omega)]; exact c
  · rw [hf.2.2.2.2 _ (by omega)]; exact d
theorem m_kEnd {bk b t m set acc k : Int} {V : mI} {F : Int → List (Int × Int)} {S : mI} {my mt mc : Int → Int} {k4 : Int → Int → mI → mI → Prop} {Q : Int → mI → mI → Prop} {f : Nat} {I J : mI} (hSt : stOK V S) (ht : 0 ≤ t ∧ t ≤ 9) (h0 : 0 ≤ k) (hy : k = 0 ∨ S 0 0 + k ≤ 1000) (hno : ¬ (0 ≤ k ∧ k ≤ 30 ∧ S 0 0 + k ≤ 999)) (ha : acc = smR (roN V F S (twS V b t) my mt mc k) m.toNat 0) (hS0 : stM V I 0 S) (hm : metM V I m my mt mc) (hw : wrM I V F S b t k)
    (kk : wrM I V F S b (t + 1) 0 → k4 (bOr set (if okF V F S b m my mt mc t = 0 then 0 else bShl 1 t)) (t + 1) I J) : p12_tasteBits_b31 b set t k4 Q (f + 1) acc k I J := by
  have s1 := hSt.1
  have m2 := hm.2.1
  have wr : wrM I V F S b (t + 1) 0 := fun t' k' i a1 a2 a3 a4 a5 a6 a7 => hw t' k' i a1 a2 a3 a4 a5 a6 (by omega)
  have kk := kk wr
  have al := alR_iff (V := V) (F := F) (S := S) (tw := twS V b t) (my := my) (mt := mt) (mc := mc) m.toNat 0
  have fu := smR_full (roN_rg V F S (twS V b t) my mt mc k) m.toNat 0
  have iff : acc = m ↔ okF V F S b m my mt mc t = 1 := by
    unfold okF
    rw [al.2, ha]
    refine ⟨fun q j j0 j1 => ?_, fun q => ?_⟩
    · have h := fu.mp (by rw [q]; omega) j j0 j1
      have my0 := (hm.2.2 j j0 (by omega)).2.2.2.1
      unfold roN at h
      by_cases e : my j < k ∧ ruF V F (twS V b t) (my j).toNat S 3 (mt j) = mc j
      · exact ⟨by omega, e.2⟩
      · rw [if_neg e] at h; omega
    · have h := fu.mpr (fun j j0 j1 => ?_)
      · rw [h]; omega
      · obtain ⟨q1, q2⟩ := q j j0 j1
        have my0 := (hm.2.2 j j0 (by omega)).2.2.2.1
        unfold roN
        rw [if_pos ⟨by omega, q2⟩]
  show p12_tasteBits_b31_body b set t k4 Q (p12_tasteBits_b31 b set t k4 Q f) acc k I J
  unfold p12_tasteBits_b31_body
  rw [hm.1]
  refine m_isAhead hS0.1 s1 (by decide) (by decide) (fun _ => zt rfl (zs (fun e => ⟨by omega, ?_⟩) (fun e => ⟨by omega, ?_⟩))) (fun q => absurd q hno)
  · rw [iff.mp e, if_neg (by decide)] at kk; exact kk
  · have z : okF V F S b m my mt mc t = 0 := al.1.resolve_right (fun q => e (iff.mpr q))
    rw [z, if_pos rfl] at kk; exact kk
theorem m_kGo {bk b t m set : Int} {V : mI} {F : Int → List (Int × Int)} {S : mI} {my mt mc : Int → Int} {k4 : Int → Int → mI → mI → Prop} {Q : Int → mI → mI → Prop} (hV : ldOK V) (hF : foOK V F) (hSt : stOK V S) (hb : 0 ≤ b ∧ b < V 1 0) (ht : 0 ≤ t ∧ t ≤ 9) :
    ∀ (d : Nat) (acc k : Int) (I J : mI), 0 ≤ k → k + d = 31 → (k = 0 ∨ S 0 0 + k ≤ 1000) → acc = smR (roN V F S (twS V b t) my mt mc k) m.toNat 0 → ldM I bk V F → stM V I 0 S → metM V I m my mt mc → tpM I V b → I 192 (3 * b) = t → stM V I 1 (ruF V F (twS V b t) k.toNat S) → wrM I V F S b t k →
    (∀ I' J' : mI, vfr b I I' → I' 192 (3 * b) = t → jfr 193 J J' → wrM I' V F S b (t + 1) 0 → k4 (bOr set (if okF V F S b m my mt mc t = 0 then 0 else bShl 1 t)) (t + 1) I' J') → p12_tasteBits_b31 b set t k4 Q (d + 1) acc k I J
  | 0, acc, k, I, J, h0, h1, hy, ha, hM, hS0, hm, htp, htt, hS1, hw, kk => m_kEnd (bk := bk) hSt ht h0 hy (by omega) ha hS0 hm hw (fun w => kk I J (vfr_r b I) htt (jfr_r _ _) w)
  | d + 1, acc, k, I, J, h0, h1, hy, ha, hM, hS0, hm, htp, htt, hS1, hw, kk => by
    have s1 := hSt.1
    have m2 := hm.2.1
    by_cases hno : 0 ≤ k ∧ k ≤ 30 ∧ S 0 0 + k ≤ 999
    case neg => exact m_kEnd (bk := bk) hSt ht h0 hy hno ha hS0 hm hw (fun w => kk I J (vfr_r b I) htt (jfr_r _ _) w)
    have accr := smR_rg (m := 1) (roN_rg V F S (twS V b t) my mt mc k) m.toNat 0
    have ok := ruF_ok (F := F) (tw := twS V b t) hV k.toNat S hSt (by omega)
    show p12_tasteBits_b31_body b set t k4 Q (p12_tasteBits_b31 b set t k4 Q (d + 1)) acc k I J
    unfold p12_tasteBits_b31_body
    refine m_isAhead hS0.1 s1 (by decide) (by decide) (fun q => absurd hno q) (fun _ => zf (by decide) ⟨(V 1 2).toNat + 1, ?_⟩)
    have n2 := hV.1.2.2
    refine m_storeGo hM hV ht ⟨h0, by omega⟩ hS1 (fun I1 f1 w1 g1 => ⟨m.toNat + 1, ?_⟩) _ 0 I (by omega) (by omega) (fun _ _ => rfl) (fun i a c => by omega) (fun _ _ => rfl)
    have v1 : vfr b I I1 := vfr_2 f1
    have hM1 := ldM_v v1 hM
    have hm1 := metM_v v1 hm
    have hS11 : stM V I1 1 (ruF V F (twS V b t) k.toNat S) := stM_fr (fun z _ _ => f1 z (by omega)) hS1
    have htp1 := tpM_v v1 htp
    have htt1 : I1 192 (3 * b) = t := by rw [f1 192 (by decide)]; exact htt
    have hT1 : twM I1 V (twS V b t) := fun x x0 x1 => by
      obtain ⟨a, c, e⟩ := htp1 x x0 x1
      refine ⟨?_, c, e⟩
      unfold twS
      by_cases ex : x = b
      · rw [if_pos ex, ex, show 3 * b + 0 = 3 * b by omega]; exact htt1
      · rw [if_neg ex]; exact a ex
    refine m_cntGo (V := V) (F := F) (S := S) (tw := twS V b t) hm1 ⟨h0, by omega⟩ hS11 (a0 := acc) (by omega) ?_ m.toNat acc 0 (by omega) (by omega) (by omega) (by omega) rfl
    refine m_tick ⟨hM1, hS11, hT1, by omega, by omega⟩ ⟨hV, hF, ok.1, twS_rg hV ht⟩ (fun I2 J2 lf jf hS2 => ⟨by omega, ?_⟩)
    rw [← ruF_snoc, show k.toNat + 1 = (k + 1).toNat by omega] at hS2
    have v2 : vfr b I1 I2 := vfr_g (lfr_g lf)
    have v12 := vfr_t v1 v2
    refine m_kGo hV hF hSt hb ht d _ (k + 1) I2 J2 (by omega) (by omega) (Or.inr (by omega)) (by rw [ha, roN_s]) (ldM_v v2 hM1) (stM0_v v12 hSt.2.2.1.2 hS0) (metM_v v2 hm1) (tpM_v v2 htp1) (by rw [lf.1 192 (by omega)]; exact htt1) hS2 (fun t' k' i a1 a2 a3 a4 a5 a6 a7 => ?_) (fun I3 J3 v3 t3 j3 w3 => kk I3 J3 (vfr_t v12 v3) t3 (jfr_t jf j3) w3)
    rw [lf.1 202 (by omega)]
    by_cases e : t' = t ∧ k' = k
    · rw [e.1, e.2]; exact w1 i a5 a6
    · rw [g1 _ (by omega)]
      exact hw t' k' i a1 a2 a3 a4 a5 a6 (by omega)
theorem m_tasteGo {bk b m : Int} {V : mI} {F : Int → List (Int × Int)} {S : mI} {my mt mc : Int → Int} {Q : Int → mI → mI → Prop} (hV : ldOK V) (hF : foOK V F) (hSt : stOK V S) (hb : 0 ≤ b ∧ b < V 1 0) :
    ∀ (d : Nat) (set t : Int) (I J : mI), 0 ≤ t → t + d = 10 → ldM I bk V F → stM V I 0 S → metM V I m my mt mc → tpM I V b → wrM I V F S b t 0 →
    (∀ I' J' : mI, vfr b I I' → I' 192 (3 * b) = tr V 0 b 0 → jfr 193 J J' → wrM I' V F S b 10 0 → Q (bsR (okF V F S b m my mt mc) d set t) I' J') → p12_tasteBits_b4 b Q (d + 1) set t I J
  | 0, set, t, I, J, h0, h1, hM, hS0, hm, htp, hw, kk => by
    obtain ⟨m1, m2, m3, m4, m5, m6, -⟩ := id hM
    have n := hV.1
    show p12_tasteBits_b4_body b Q (p12_tasteBits_b4 b Q 0) set t I J
    unfold p12_tasteBits_b4_body
    have e := m6 b 0 hb.1 hb.2 (by omega) (by omega)
    rw [show 18 * bk + 3 * b + 0 = 18 * bk + 3 * b by omega] at e
    rw [m1, e]
    refine zt (by omega) ⟨by omega, by omega, by omega, by omega, by omega, by omega,  m_putK (fun I1 q1 g1 f1 => kk I1 J ⟨fun z hz => f1 z (by omega), fun j _ => ?_, fun j _ => ?_, fun j _ => ?_, fun j hj => g1 j hj⟩ q1 (jfr_r _ _) (fun t' k' i a1 a2 a3 a4 a5 a6 a7 => ?_))⟩
    · rw [f1 185 (by decide), f1 186 (by decide), f1 190 (by decide)]; exact ⟨rfl, rfl, rfl⟩
    · rw [f1 187 (by decide), f1 188 (by decide), f1 189 (by decide)]; exact ⟨rfl, rfl, rfl⟩
    · rw [f1 191 (by decide)]
    · rw [f1 202 (by decide)]; exact hw t' k' i a1 a2 a3 a4 a5 a6 (by omega)
  | d + 1, set, t, I, J, h0, h1, hM, hS0, hm, htp, hw, kk => by
    have n := hV.1
    show p12_tasteBits_b4_body b Q (p12_tasteBits_b4 b Q (d + 1)) set t I J
    unfold p12_tasteBits_b4_body
    refine zf (by omega) (m_copy (by omega) (by omega) (by omega) hS0 hSt.2.2.1 (fun I1 g1 f1 hS1 => ⟨by omega, by omega,  m_putK (fun I2 q2 g2 f2 => ⟨32, ?_⟩)⟩))
    have v1 : vfr b I I1 := vfr_g g1
    have v2 : vfr b I1 I2 := ⟨fun z hz => f2 z (by omega), fun j _ => by rw [f2 185 (by decide), f2 186 (by decide), f2 190 (by decide)]; exact ⟨rfl, rfl, rfl⟩, fun j _ => by rw [f2 187 (by decide), f2 188 (by decide), f2 189 (by decide)]; exact ⟨rfl, rfl, rfl⟩, fun j _ => by rw [f2 191 (by decide)], fun j hj => g2 j hj⟩
    have v12 := vfr_t v1 v2
    unfold bsR at kk
    refine m_kGo (m := m) (my := my) (mt := mt) (mc := mc) hV hF hSt hb ⟨h0, by omega⟩ 31 0 0 I2 J (by omega) (by omega) (Or.inl rfl) ?_ (ldM_v v12 hM) (stM0_v v12 hSt.2.2.1.2 hS0) (metM_v v12 hm) (tpM_v v12 htp) q2 (stM_fr (fun z z0 z1 => f2 z (by omega)) hS1) (fun t' k' i a1 a2 a3 a4 a5 a6 a7 => ?_) (fun I3 J3 v3 t3 j3 w3 => ?_)
    · have : ∀ d i, (0 ≤ i → i + (d : Nat) ≤ m → smR (roN V F S (twS V b t) my mt mc 0) d i = 0) := by
        intro d
        induction d with
        | zero => intro i _ _; rfl
        | succ d ih =>
          intro i i0 i1
          show roN V F S (twS V b t) my mt mc 0 i + smR (roN V F S (twS V b t) my mt mc 0) d (i + 1) = 0
          rw [ih (i + 1) (by omega) (by omega)]
          have my0 := (hm.2.2 i i0 (by omega)).2.2.2.1
          unfold roN
          rw [if_neg (fun q => by omega)]; rfl
      have m2 := hm.2.1
      exact (this m.toNat 0 (by omega) (by omega)).symm
    · rw [f2 202 (by decide), g1.1 202 (by omega)]; exact hw t' k' i a1 a2 a3 a4 a5 a6 (by omega)
    · exact m_tasteGo hV hF hSt hb d _ (t + 1) I3 J3 (by omega) (by omega) (ldM_v (vfr_t v12 v3) hM) (stM0_v (vfr_t v12 v3) hSt.2.2.1.2 hS0) (metM_v (vfr_t v12 v3) hm) (tpM_v (vfr_t v12 v3) htp) w3 (fun I4 J4 v4 t4 j4 w4 => kk I4 J4 (vfr_t v12 (vfr_t v3 v4)) t4 (jfr_t j3 j4) w4)
/-- the model's tastes, whole: only a question's rows and 202 have changed -/
theorem qf_v {b : Int} {I I' V : mI} (hv : vfr b I I') (hb : I' 192 (3 * b) = I 192 (3 * b)) : qf I I' := by
  obtain ⟨f1, f2, f3, f4, f5⟩ := hv
  refine ⟨fun z hz => ?_, by rw [f1 146 (by omega)], by rw [f1 151 (by omega)], f2, f3, f4⟩
  unfold psO at hz
  by_cases e : z = 192
  · subst e
    funext j
    by_cases ej : j = 3 * b
    · rw [ej]; exact hb
    · exact f5 j ej
  · exact f1 z (by omega)
theorem m_taste {bk b m : Int} {V : mI} {F : Int → List (Int × Int)} {S : mI} {my mt mc : Int → Int} {Q : Int → mI → mI → Prop} {I J : mI} (hV : ldOK V) (hF : foOK V F) (hSt : stOK V S) (hb : 0 ≤ b ∧ b < V 1 0) (hM : ldM I bk V F) (hS0 : stM V I 0 S) (hm : metM V I m my mt mc) (hT : twM I V (tw0 V))
    (kk : ∀ I' J' : mI, qf I I' → jfr 193 J J' → wrM I' V F S b 10 0 → Q (taF V F S b m my mt mc) I' J') : p12_tasteBits b I J Q := by
  refine ⟨11, m_tasteGo (m := m) (my := my) (mt := mt) (mc := mc) hV hF hSt hb 10 0 0 I J (by omega) (by omega) hM hS0 hm (fun x x0 x1 => ⟨fun _ => (hT x x0 x1).1, (hT x x0 x1).2⟩) (fun t' k' i a1 a2 a3 a4 a5 a6 a7 => by omega) (fun I' J' v t j w => kk I' J' (qf_v (V := V) v ?_) j w)⟩
  have e := (hT b hb.1 hb.2).1
  unfold tw0 at e
  rw [if_pos hb, show 3 * b + 0 = 3 * b by omega] at e
  rw [t, e]
theorem qf_u {I I' : mI} (hu : ufr I I') (h8 : I' 146 8 = I 146 8) : qf I I' := qf_c (fun z z5 _ z6 z7 z8 z9 _ _ zc _ => hu z z5 z6 z7 z8 z9 zc) h8 (by rw [hu 151 (by decide) (by decide) (by decide) (by decide) (by decide) (by decide)])
theorem la_21 {L t : Nat} {X : Int → Int} {i : Int} {I J : mI} {R : mR} {K : mI → mI → mR → Prop} (H : LaH L t X i I J R K) : plaw_21 L X i I J R K := by
  have hk := laK H
  have H' := H
  obtain ⟨hL, hX, h0, h1, ht, ⟨h, sp, bk, V, F, S, P, hl, hs, hr⟩, -⟩ := H
  have hh := iLan_ld hl
  obtain ⟨⟨r12, -, -⟩, hLd, hV, hF, hM, hN, hNam, hTw, hSup⟩ := hl
  obtain ⟨hC, hSM, hSt⟩ := hs
  obtain ⟨-, -, -, -, -, -, b1, b2, b3, b4⟩ := hr
  have n := hV.1
  have hmC : metC I (I 151 5) (I 199) (I 200) (I 201) := ⟨rfl, ⟨b2, b3⟩, fun j j0 j1 => by
    obtain ⟨⟨a1, a2⟩, ⟨a3, a4⟩, a5, a6⟩ := b4 j j0 j1
    exact ⟨a1, a3, a5, a2, by omega, by omega⟩⟩
  unfold plaw_21
  refine ⟨by omega, by omega, ?_⟩
  generalize X (i + 1) = x
  unfold p11_tastes
  rw [r12]
  refine ⟨hh, c_there hLd (fun q => zt rfl ⟨by omega, by omega, ?_⟩) (fun q => zf (by decide) ⟨hh, (I 151 5).toNat + 1, ?_⟩)⟩
  · unfold p12_tastes
    exact m_isBlind hM (fun _ => zt rfl (zt rfl hk)) (fun q2 => by omega)
  · refine c_left6 hh hV hF hSt q.2.2 hLd hmC hC hSup (fun I1 J1 R1 u1 e8 j1 rr => ⟨by omega, by omega, ?_⟩) _ 0 0 (by omega) (by omega) (by omega) (by omega) (fun j a c => by omega) (Or.inl rfl)
    have q1 := qf_u u1 (e8.trans hSup.symm)
    have hmM : metM V I1 (I 151 5) (I 199) (I 200) (I 201) := by
      unfold metM
      rw [q1.1 159 (by unfold psO; omega), q1.1 199 (by unfold psO; omega), q1.1 200 (by unfold psO; omega), q1.1 201 (by unfold psO; omega)]
      exact ⟨b1.symm, ⟨b2, b3⟩, fun j j0 j1 => by
        obtain ⟨⟨a1, a2⟩, ⟨a3, a4⟩, a5, a6⟩ := b4 j j0 j1
        exact ⟨rfl, rfl, rfl, a2, by omega, by omega⟩⟩
    have hM1 := ldM_q q1 hM
    unfold p12_tastes
    refine m_isBlind hM1 (fun q2 => by omega) (fun _ => zf (by decide) ?_)
    refine m_taste hV hF hSt q.2.2 hM1 (stM_q q1 (by decide) hSt.2.2.1.2 hSM) hmM (by unfold twM; rw [q1.1 192 (by unfold psO; omega)]; exact hTw) (fun I2 J2 q2 j2 _ => zt rfl ?_)
    exact laQ H' (qf_t q1 q2) (jqt (jq6 j1) (jq193 j2)) rr
