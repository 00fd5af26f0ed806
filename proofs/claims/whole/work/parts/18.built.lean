/-! What the class calls of the library, said shortly -/
theorem isSt_7 : isSt 7 := Or.inl rfl
theorem isSt_12 : isSt 12 := Or.inr (Or.inl rfl)
theorem isSt_152 : isSt 152 := Or.inr (Or.inr (Or.inl rfl))
theorem isLd_123 : isLd 123 := Or.inl rfl
theorem isLd_132 : isLd 132 := Or.inr rfl
def fil (I : mI) (a : Nat) (N v : Int) : mI := fun b j => if b = a ∧ 0 ≤ j ∧ j < N then v else I b j
def filF (I : mI) (a : Nat) (x N v : Int) : mI := fun b j => if b = a ∧ x ≤ j ∧ j < N then v else I b j
theorem filF_end (I : mI) (a : Nat) (N v : Int) : filF I a N N v = I := by
  funext b j; unfold filF; rw [if_neg (by omega)]
theorem filF_up (I : mI) (a : Nat) (x N v : Int) (h : x < N) : filF (up I a x v) a (x + 1) N v = filF I a x N v := by
  funext b j; unfold filF up
  by_cases hb : b = a
  · subst hb
    by_cases hj : j = x
    · subst hj; rw [if_neg (by omega), if_pos ⟨rfl, rfl⟩, if_pos (by omega)]
    · by_cases h2 : x ≤ j ∧ j < N
      · rw [if_pos (by omega), if_pos ⟨rfl, h2⟩]
      · rw [if_neg (by omega), if_neg (by omega), if_neg (by omega)]
  · rw [if_neg (fun q => hb q.1), if_neg (fun q => hb q.1), if_neg (fun q => hb q.1)]
theorem fill_go {a : Nat} {v N : Int} {Q : mI → Prop} (hN : (kN a : Int) = N) : ∀ (d : Nat) (x : Int) (I : mI), 0 ≤ x → x + d = N → Q (filF I a x N v) → PJ7_fill_53178_b5 a v N Q (d + 1) x I := by
  intro d
  induction d with
  | zero =>
    intro x I h0 h1 hq
    show PJ7_fill_53178_b5_body a v N Q _ x I
    unfold PJ7_fill_53178_b5_body
    rw [if_pos (by omega)]
    have e : x = N := by omega
    subst e
    rw [filF_end] at hq; exact hq
  | succ d ih =>
    intro x I h0 h1 hq
    show PJ7_fill_53178_b5_body a v N Q _ x I
    unfold PJ7_fill_53178_b5_body
    have h2 : rg (kN a) := kN_rg a
    rw [if_neg (by omega), hN]
    refine ⟨⟨h0, by omega⟩, (⟨by omega, ih (x + 1) _ (by omega) (by omega) ?_⟩ : rg (x + 1) ∧ _)⟩
    rw [filF_up _ _ _ _ _ (by omega)]; exact hq
def bc (x : Int) : Int := ((List.range 6).map (fun i => ((x.toNat / 2 ^ i % 2 : Nat) : Int))).sum
theorem bitc_all : ∀ k ∈ List.range 64, PJ6_bitCount_0f7a4 ((k : Nat) : Int) (fun r => r = bc (k : Nat)) := by
  unfold PJ6_bitCount_0f7a4
  simp only [wLet_e]
  decide +kernel
theorem bitc_mono {x : Int} {Q Q' : Int → Prop} (h : ∀ r, Q r → Q' r) (hw : PJ6_bitCount_0f7a4 x Q) : PJ6_bitCount_0f7a4 x Q' :=
  ⟨hw.1, hw.2.1, hw.2.2.1, hw.2.2.2.1, hw.2.2.2.2.1, h _ hw.2.2.2.2.2⟩
theorem bitc_of {x : Int} {Q : Int → Prop} (h0 : 0 ≤ x) (h1 : x < 64) (hq : Q (bc x)) : PJ6_bitCount_0f7a4 x Q := by
  obtain ⟨k, rfl⟩ : ∃ k : Nat, x = k := ⟨x.toNat, by omega⟩
  exact bitc_mono (fun r (hr : r = _) => by rw [hr]; exact hq) (bitc_all k (List.mem_range.mpr (by omega)))
def wch (i : Int) : Int := sB 911 i
def sgg (v : Int) : Nat → Int → Int
  | 0, _ => -1
  | f + 1, j => if sB 912 j = v then j else sgg v f (j + 1)
def sgx (c : Int) : Int := if 0 ≤ c ∧ c ≤ 255 then sgg (nB c) 14 0 else -1
theorem slen_of {Q : Int → Prop} (hq : Q 143) : PJ0_length_8abf5 901 Q := by
  unfold PJ0_length_8abf5 PJ0_coder_7d493
  rw [if_neg (by decide)]
  show Q (bShr (sN (901 + 10) : Int) 0)
  rw [show bShr (sN (901 + 10) : Int) 0 = 143 by decide +kernel]; exact hq
theorem slen_of2 {Q : Int → Prop} (hq : Q 14) : PJ0_length_8abf5 902 Q := by
  unfold PJ0_length_8abf5 PJ0_coder_7d493
  rw [if_neg (by decide)]
  show Q (bShr (sN (902 + 10) : Int) 0)
  rw [show bShr (sN (902 + 10) : Int) 0 = 14 by decide +kernel]; exact hq
theorem wch_all : ∀ k ∈ List.range 143, nC (bAnd (sB 911 ((k : Nat) : Int)) 255) = wch (k : Nat) ∧ 0 ≤ wch (k : Nat) ∧ wch (k : Nat) < 128 := by decide +kernel
theorem wch_rg {x : Int} (h0 : 0 ≤ x) (h1 : x < 143) : 0 ≤ wch x ∧ wch x < 128 := by
  obtain ⟨k, rfl⟩ : ∃ k : Nat, x = k := ⟨x.toNat, by omega⟩
  exact (wch_all k (List.mem_range.mpr (by omega))).2
theorem sch_of {x : Int} {Q : Int → Prop} (h0 : 0 ≤ x) (h1 : x < 143) (hq : Q (wch x)) : PJ0_charAt_5068e 901 x Q := by
  obtain ⟨k, rfl⟩ : ∃ k : Nat, x = k := ⟨x.toNat, by omega⟩
  obtain ⟨h2, h3⟩ := wch_all k (List.mem_range.mpr (by omega))
  have hs : ((sN (901 + 10) : Nat) : Int) = 143 := rfl
  unfold PJ0_charAt_5068e PJ0_isLatin1_aae02
  rw [if_neg (by decide), if_pos rfl]
  show (if (1 : Int) = 0 then False else _)
  rw [if_neg (by decide)]
  unfold PJ1_charAt_3b067 PJ0_checkIndex_df160 PJ3_checkIndex_8e157
  intro a
  rw [if_neg (by omega), hs, if_pos h1]
  refine ⟨⟨h0, h1⟩, ?_⟩
  show (0 ≤ nC (bAnd (sB 911 (k : Nat)) 255) ∧ nC (bAnd (sB 911 (k : Nat)) 255) < 65536) ∧ (0 ≤ nC (bAnd (sB 911 (k : Nat)) 255) ∧ nC (bAnd (sB 911 (k : Nat)) 255) < 65536) ∧ Q (nC (bAnd (sB 911 (k : Nat)) 255))
  rw [h2]
  exact ⟨⟨h3.1, by omega⟩, ⟨h3.1, by omega⟩, hq⟩
theorem six_go {v : Int} {Q : Int → Prop} : ∀ (d : Nat) (x : Int), 0 ≤ x → x + d = 14 → Q (sgg v d x) → PJ1_indexOfChar_4cfef_b7 912 14 v Q (d + 1) x := by
  intro d
  induction d with
  | zero =>
    intro x h0 h1 hq
    show PJ1_indexOfChar_4cfef_b7_body 912 14 v Q _ x
    unfold PJ1_indexOfChar_4cfef_b7_body
    rw [if_pos (by omega)]; exact hq
  | succ d ih =>
    intro x h0 h1 hq
    show PJ1_indexOfChar_4cfef_b7_body 912 14 v Q _ x
    unfold PJ1_indexOfChar_4cfef_b7_body
    have hs : sN 912 = 14 := rfl
    unfold sgg at hq
    rw [if_neg (by omega), hs]
    refine ⟨⟨h0, by omega⟩, ?_⟩
    by_cases h : sB 912 x = v
    · rw [if_pos h] at hq ⊢; exact hq
    · rw [if_neg h] at hq ⊢
      exact ⟨by omega, ih (x + 1) (by omega) (by omega) hq⟩
theorem six_of {c : Int} {Q : Int → Prop} (hq : Q (sgx c)) : PJ0_indexOf_0f7a4 902 c Q := by
  unfold PJ0_indexOf_0f7a4 PJ0_indexOf_7cf53 PJ0_isLatin1_aae02
  rw [if_neg (by decide), if_pos rfl]
  show (if (1 : Int) = 0 then False else _)
  rw [if_neg (by decide)]
  refine slen_of2 ?_
  unfold PJ1_indexOf_4cfef PJ1_canEncode_9a6ad
  unfold sgx at hq
  by_cases h0 : c < 0
  · rw [if_pos h0]
    show (if (0 : Int) = 0 then _ else _)
    rw [if_pos rfl]; rw [if_neg (by omega)] at hq; exact hq
  · by_cases h1 : (255 : Int) < c
    · rw [if_neg h0, if_pos h1]
      show (if (0 : Int) = 0 then _ else _)
      rw [if_pos rfl]; rw [if_neg (by omega)] at hq; exact hq
    · rw [if_neg h0, if_neg h1]
      show (if (1 : Int) = 0 then _ else _)
      rw [if_neg (by decide)]
      rw [if_pos (by omega)] at hq
      have hs : ((sN (902 + 10) : Nat) : Int) = 14 := rfl
      rw [if_neg (show ¬ (0 : Int) < 0 by decide), hs, if_neg (show ¬ (14 : Int) < 14 by decide), wLet_e, wLet_e, if_pos (by decide)]
      exact ⟨15, six_go 14 0 (by decide) (by decide) hq⟩
section R11
variable {C : wX} {cc : ByteArray} {nL : Nat} {own : String} {ad : Nat → Nat} {n : Nat} {I J : mI} {R : mR} {pc : Nat} {lv : List (Nat × wV)} {st : List wV} {WA : Prop} {PI : mI → Prop} {PR : mR → Prop}
theorem x_putRD (hC : wOK C cc nL own) {ks ss : Nat} (hRF : RF R) {kz : Int} {a : Nat} (hup : ∀ {R : mR} {v : Nat}, RF R → RF (up R a kz v)) (kz2 : Int) {index ci k v : Nat} {ty : FieldType} (hF : wPL own index ci k 2 ty false) (hz : (k : Int) = kz) (hka : kK a = ci) (hty : (∃ q, ty = .object q) ∨ ∃ q, ty = .array q) (hkv : kK v < 99) (hd : decode cc pc = .ok (.putfield index, 3)) (hw : wLet (up R a kz v) PR) (kk : ∀ R1, RF R1 → PR R1 → WM C ad n I J R1 ks ss (pc + 3) lv st) : WM C ad n I J R ks ss pc lv (vr v :: vr a :: st) :=
  x_putR hC kz hF hz hka hty hkv hd (PR := fun R1 => RF R1 ∧ PR R1) ⟨hup hRF, hw⟩ (fun R1 h => kk R1 h.1 h.2)
theorem x_fill (hC : wOK C cc nL own) {rfr rlo : Nat} (hRm : wRm C rfr rlo 0 0) {index a : Nat} {v N : Int} (hV : wCS own index yJ7_fill_53178 cJ7_fill_53178 4 none 2) (hka : kK a = 21) (hN : (kN a : Int) = N) (hfr : 2 ≤ rfr) (hlo : 35 ≤ rlo) (hsum : wsum st ≤ 8) (hd : decode cc pc = .ok (.invokestatic index, 3)) (hw : wLet (fil I a N v) PI) (kk : ∀ I1, PI I1 → WM C ad n I1 J R 0 0 (pc + 3) lv st) : WM C ad n I J R 0 0 pc lv (vi v :: vr a :: st) := by
  refine y_callS_v_I hC hRm noS hV (CJ7_fill_53178 (l0 := a) (l1 := v) (Q := PI) hka ?_) hfr hlo ⟨Nat.zero_le _, Nat.zero_le _⟩ rfl (st := st) rfl hsum hd kk
  unfold PJ7_fill_53178
  refine ⟨N.toNat + 1, ?_⟩
  rw [hN]
  have h0 : 0 ≤ N := by omega
  exact fill_go hN N.toNat 0 I (by omega) (by omega) hw
theorem x_bitc (hC : wOK C cc nL own) {rfr rlo : Nat} (hRm : wRm C rfr rlo 0 0) {index : Nat} {v : Int} (hV : wCS own index yJ6_bitCount_0f7a4 cJ6_bitCount_0f7a4 1 (some .int) 1) (hfr : 2 ≤ rfr) (hlo : 32 ≤ rlo) (hsum : wsum st ≤ 8) (hd : decode cc pc = .ok (.invokestatic index, 3)) (hw : (0 ≤ v ∧ v < 64) ∧ WA) (kk : WA → WM C ad n I J R 0 0 (pc + 3) lv (vi (bc v) :: st)) : WM C ad n I J R 0 0 pc lv (vi v :: st) :=
  y_callS_i_n hC hRm noS hV (CJ6_bitCount_0f7a4 (l0 := v) (Q := fun r => r = bc v) (bitc_of hw.1.1 hw.1.2 rfl)) hfr hlo ⟨Nat.zero_le _, Nat.zero_le _⟩ rfl (st := st) rfl hsum hd (fun r hr => by rw [hr]; exact kk hw.2)
theorem x_slen (hC : wOK C cc nL own) {rfr rlo : Nat} (hRm : wRm C rfr rlo 0 0) (hStr : wStrC C ad) {index : Nat} (hV : wCT own index yJ0_length_8abf5 cJ0_length_8abf5 1 (some .int) 0) (hfr : 3 ≤ rfr) (hlo : 52 ≤ rlo) (hsum : wsum st ≤ 8) (hd : decode cc pc = .ok (.invokevirtual index, 3)) (kk : WM C ad n I J R 0 0 (pc + 3) lv (vi 143 :: st)) : WM C ad n I J R 0 0 pc lv (vr 901 :: st) :=
  y_callT hC hRm hStr hV (Or.inl rfl) (CJ0_length_8abf5 (l0 := 901) (Q := fun r => r = 143) (Or.inl rfl) (slen_of rfl)) (Or.inl rfl) hfr hlo ⟨Nat.zero_le _, Nat.zero_le _⟩ rfl (st := st) rfl hsum hd (fun r hr => by rw [hr]; exact kk)
theorem x_sch (hC : wOK C cc nL own) {rfr rlo : Nat} (hRm : wRm C rfr rlo 0 0) (hStr : wStrC C ad) {index : Nat} {v : Int} (hV : wCT own index yJ0_charAt_5068e cJ0_charAt_5068e 2 (some .char) 1) (hfr : 5 ≤ rfr) (hlo : 97 ≤ rlo) (hsum : wsum st ≤ 8) (hd : decode cc pc = .ok (.invokevirtual index, 3)) (hw : (0 ≤ v ∧ v < 143) ∧ WA) (kk : WA → WM C ad n I J R 0 0 (pc + 3) lv (vi (wch v) :: st)) : WM C ad n I J R 0 0 pc lv (vi v :: vr 901 :: st) :=
  y_callT hC hRm hStr hV (Or.inl rfl) (CJ0_charAt_5068e (l0 := 901) (l1 := v) (Q := fun r => r = wch v) (Or.inl rfl) (sch_of hw.1.1 hw.1.2 rfl)) (Or.inr (Or.inr (Or.inl rfl))) hfr hlo ⟨Nat.zero_le _, Nat.zero_le _⟩ rfl (st := st) rfl hsum hd (fun r hr => by rw [hr]; exact kk hw.2)
theorem x_six (hC : wOK C cc nL own) {rfr rlo : Nat} (hRm : wRm C rfr rlo 0 0) (hStr : wStrC C ad) {index : Nat} {v : Int} (hV : wCT own index yJ0_indexOf_0f7a4 cJ0_indexOf_0f7a4 2 (some .int) 1) (hfr : 5 ≤ rfr) (hlo : 103 ≤ rlo) (hsum : wsum st ≤ 8) (hd : decode cc pc = .ok (.invokevirtual index, 3)) (kk : WM C ad n I J R 0 0 (pc + 3) lv (vi (sgx v) :: st)) : WM C ad n I J R 0 0 pc lv (vi v :: vr 902 :: st) :=
  y_callT hC hRm hStr hV (Or.inr rfl) (CJ0_indexOf_0f7a4 (l0 := 902) (l1 := v) (Q := fun r => r = sgx v) (Or.inr rfl) (six_of rfl)) (Or.inl rfl) hfr hlo ⟨Nat.zero_le _, Nat.zero_le _⟩ rfl (st := st) rfl hsum hd (fun r hr => by rw [hr]; exact kk)
end R11
