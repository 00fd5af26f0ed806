/-! THE READERS: the class reads its tape -/
def xlf (h : Nat) (I0 I : mI) : Prop := ∀ z, ¬ (141 ≤ z ∧ z ≤ 145) → ¬ (h ≤ z ∧ z ≤ h + 8) → I z = I0 z
/-- a land that tells nothing -/
def V00 (V : mI) : Prop := (V 1 0 = 0 ∧ V 1 1 = 0 ∧ V 1 2 = 0) ∧ V 0 8 = 0 ∧ V 0 9 = 0 ∧ V 0 10 = 0 ∧ V 0 11 = 0
theorem c_read {h : Nat} {n : Int} {tb : Int → Int} {I : mI} {R : mR} {Q : Int → mI → mR → Prop} (ht : tpC I n tb) (hh : isLd h)
    (kk : ∀ (m : Nat) (V0 : mI), ctD tb n m → WF V0 (fun _ => []) → V00 V0 →
      (∀ (I' : mI) (c' : Nat) (V' : mI) (F' : mF), gRd (kN1 tb n) (vN1 tb n) (lN1 tb n) 62 0 V0 (fun _ => []) 0 = Sum.inr (c', V', F') → WF V' F' → RW h I' V' → (∀ w, 0 ≤ w → w < 3 → F' w ≠ [] → segC I' (h + 6) (V' 7 w) (F' w)) → I' 141 6 = 0 → I' 141 7 = -1 → xlf h I I' → Q c' I' (up R 141 2 h)) ∧
      (∀ (I' : mI) (r k pl : Int), gRd (kN1 tb n) (vN1 tb n) (lN1 tb n) 62 0 V0 (fun _ => []) 0 = Sum.inl (k, pl) → I' 141 6 = k → k ≠ 0 → I' 141 7 = pl → xlf h I I' → Q r I' (up R 141 2 h))) : p6_read h I R Q := by
  have hh' := hh
  unfold isLd at hh'
  have eR : (up R 141 2 h) 141 2 = h := up_s _ _ _ _
  unfold p6_read p3_empty
  refine wLet_r ⟨by rw [eR]; exact hh, ?_⟩
  rw [eR]
  -- the land is emptied
  have em : ∀ (I1 I2 I3 I4 I5 I6 I7 I8 I9 : mI), I1 = fil I (h + 1) 3 0 → I2 = fil I1 (h + 4) 6 0 → I3 = fil I2 (h + 5) 6 (-1) → I4 = fil I3 (h + 7) 3 0 → I5 = fil I4 (h + 8) 3 0 → I6 = up I5 h 8 0 → I7 = up I6 h 9 0 → I8 = up I7 h 10 0 → I9 = up I8 h 11 0 → (∀ z, ¬ (h ≤ z ∧ z ≤ h + 8) → I9 z = I z) ∧ WF (fun a => I9 (h + a)) (fun _ => []) ∧ V00 (fun a => I9 (h + a)) := fun I1 I2 I3 I4 I5 I6 I7 I8 I9 d1 d2 d3 d4 d5 d6 d7 d8 d9 => by
    have z9 : ∀ z, z ≠ h → I9 z = I5 z := fun z hz => by rw [d9, up_ne hz, d8, up_ne hz, d7, up_ne hz, d6, up_ne hz]
    have r1 : ∀ j, 0 ≤ j → j < 3 → I9 (h + 1) j = 0 := fun j a c => by
      rw [z9 _ (by omega), d5, fil_ne (by omega), d4, fil_ne (by omega), d3, fil_ne (by omega), d2, fil_ne (by omega), d1]; exact fil_in a c
    have r4 : ∀ j, 0 ≤ j → j < 6 → I9 (h + 4) j = 0 := fun j a c => by
      rw [z9 _ (by omega), d5, fil_ne (by omega), d4, fil_ne (by omega), d3, fil_ne (by omega), d2]; exact fil_in a c
    have r5 : ∀ j, 0 ≤ j → j < 6 → I9 (h + 5) j = -1 := fun j a c => by
      rw [z9 _ (by omega), d5, fil_ne (by omega), d4, fil_ne (by omega), d3]; exact fil_in a c
    have r7 : ∀ j, 0 ≤ j → j < 3 → I9 (h + 7) j = 0 := fun j a c => by
      rw [z9 _ (by omega), d5, fil_ne (by omega), d4]; exact fil_in a c
    have r8 : ∀ j, 0 ≤ j → j < 3 → I9 (h + 8) j = 0 := fun j a c => by
      rw [z9 _ (by omega), d5]; exact fil_in a c
    have q8 : I9 h 8 = 0 := by rw [d9, up_k _ _ _ (by decide), d8, up_k _ _ _ (by decide), d7, up_k _ _ _ (by decide), d6, up_s]
    have q9 : I9 h 9 = 0 := by rw [d9, up_k _ _ _ (by decide), d8, up_k _ _ _ (by decide), d7, up_s]
    have q10 : I9 h 10 = 0 := by rw [d9, up_k _ _ _ (by decide), d8, up_s]
    have q11 : I9 h 11 = 0 := by rw [d9, up_s]
    have c0 : I9 (h + 1) 0 = 0 := r1 0 (by decide) (by decide)
    have c1 : I9 (h + 1) 1 = 0 := r1 1 (by decide) (by decide)
    have c2 : I9 (h + 1) 2 = 0 := r1 2 (by decide) (by decide)
    refine ⟨fun z hz => by rw [z9 z (by omega), d5, fil_ne (by omega), d4, fil_ne (by omega), d3, fil_ne (by omega), d2, fil_ne (by omega), d1, fil_ne (by omega)], ⟨?_, fun kd w j a c e f => ?_, fun w a c => ?_, ?_, fun t a c => ?_, fun x y a c d e => ?_, fun x y a c d e => ?_, ?_⟩, ⟨c0, c1, c2⟩, q8, q9, q10, q11⟩
    · show (0 ≤ I9 (h + 1) 0 ∧ I9 (h + 1) 0 ≤ 6) ∧ (0 ≤ I9 (h + 1) 1 ∧ I9 (h + 1) 1 ≤ 6) ∧ (0 ≤ I9 (h + 1) 2 ∧ I9 (h + 1) 2 ≤ 6)
      omega
    · have f' : w < I9 (h + 1) kd := f
      rw [r1 kd a c] at f'; omega
    · have f' : w < I9 (h + 1) 1 := c
      omega
    · show (0 ≤ I9 h 9 ∧ I9 h 9 < 64) ∧ (0 ≤ I9 h 10 ∧ I9 h 10 ≤ 999) ∧ (0 ≤ I9 h 11 ∧ I9 h 11 ≤ 100)
      omega
    · show (0 ≤ I9 (h + 4) t ∧ I9 (h + 4) t < 64) ∧ (-1 ≤ I9 (h + 5) t ∧ I9 (h + 5) t < I9 (h + 1) 1) ∧ (I9 (h + 1) 2 ≤ t → I9 (h + 4) t = 0 ∧ I9 (h + 5) t = -1)
      rw [r4 t a c, r5 t a c, c1]
      exact ⟨by decide, by decide, fun _ => ⟨rfl, rfl⟩⟩
    · show has1 (I9 (h + 4) x) y = 0
      have d' : I9 (h + 1) 2 ≤ y := d
      rw [r4 x a c]
      exact has1_0 (by omega) e
    · have c' : x < I9 (h + 1) 2 := c
      omega
    · show 0 ≤ I9 h 8 ∧ _
      refine ⟨by omega, fun w a c => ⟨fun _ => ⟨r7 w a c, r8 w a c⟩, fun e => absurd rfl e, fun e => absurd rfl e⟩⟩
  refine wLet_r (wLet_r (wLet_r (wLet_r (wLet_r (wLet_r (wLet_r (wLet_r (wLet_r ?_))))))))
  generalize hI1 : fil I (h + 1) 3 0 = I1
  generalize hI2 : fil I1 (h + 4) 6 0 = I2
  generalize hI3 : fil I2 (h + 5) 6 (-1) = I3
  generalize hI4 : fil I3 (h + 7) 3 0 = I4
  generalize hI5 : fil I4 (h + 8) 3 0 = I5
  generalize hI6 : up I5 h 8 0 = I6
  generalize hI7 : up I6 h 9 0 = I7
  generalize hI8 : up I7 h 10 0 = I8
  generalize hI9 : up I8 h 11 0 = I9
  obtain ⟨z9, w9, v9⟩ := em I1 I2 I3 I4 I5 I6 I7 I8 I9 hI1.symm hI2.symm hI3.symm hI4.symm hI5.symm hI6.symm hI7.symm hI8.symm hI9.symm
  refine m_putK (fun J1 q1 g1 f1 => m_putK (fun J2 q2 g2 f2 => m_putK (fun J3 q3 g3 f3 => m_putK (fun J4 q4 g4 f4 => ?_))))
  have zj : ∀ z, z ≠ 141 → J4 z = I9 z := fun z hz => by rw [f4 z hz, f3 z hz, f2 z hz, f1 z hz]
  have ht4 : tpC J4 n tb := by
    unfold tpC
    rw [zj 2 (by decide), zj 3 (by decide), z9 2 (by omega), z9 3 (by omega)]; exact ht
  refine c_cut ht4 (fun m J5 hd f5 p5 c5 t5 => ⟨62, ?_⟩)
  have z5 : ∀ z, ¬ (141 ≤ z ∧ z ≤ 145) → J5 z = I9 z := fun z hz => by rw [f5 z (by omega) (by omega) (by omega) (by omega), zj z (by omega)]
  have e141 : J5 141 = J4 141 := f5 141 (by decide) (by decide) (by decide) (by decide)
  have hT := tkM_of hd
  obtain ⟨k1, k0⟩ := kk m (fun a => I9 (h + a)) hd w9 v9
  have xl : ∀ I', xsf h J5 I' → xlf h I I' := fun I' hx z a c => by rw [hx.1 z (by omega) (by omega) c, z5 z a, z9 z c]
  have lv : LV (kN1 tb n) (vN1 tb n) (lN1 tb n) m (J5 141 4) h J5 0 0 := by
    have e8 : J5 h 8 = 0 := by rw [z5 h (by omega)]; exact v9.2.1
    refine ⟨⟨c5, hd.1, fun j hj => t5 j hj⟩, p5, Nat.zero_le m, ?_, by decide, ?_, rfl, by omega, by omega⟩
    · rw [e141, g4 3 (by decide), g3 3 (by decide), g2 3 (by decide)]; exact q1
    · rw [e141, g4 6 (by decide)]; exact q3
  refine c_readGo (I0 := J5) hh eR hT (fun j hj e => (tk_1 (by have := pN_i hd ht.2.1 hj; omega) ht.2.1.2 e).1) 62 0 (fun a => I9 (h + a)) (fun _ => []) 0 J5 (by decide) (by decide) w9 ⟨_, lv⟩ (fun a ha a6 => z5 _ (by omega)) (fun w _ _ e => absurd rfl e) (Int.le_of_eq v9.2.1) ?_ ?_ (xsf_r h J5) (fun I' c' V' F' e w' r' s' e6 e7 x' => k1 I' c' V' F' e w' r' s' e6 e7 (xl I' x')) (fun I' r k pl e hn => k0 I' r k pl e hn.2.2.1.1 hn.2.2.1.2 hn.2.2.2 (xl I' hn.1))
  · rw [e141, g4 5 (by decide), g3 5 (by decide)]; exact q2
  · rw [e141]; exact q4
