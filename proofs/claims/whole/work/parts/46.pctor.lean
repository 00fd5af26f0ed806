/-! THE CONSTRUCTORS' PROGRAMS, from memory that is all zero behind n -/
def Zr (n : Nat) (I J : mI) (R : mR) : Prop := ∀ a, n < a → wz I J R a
theorem Zr_wz {n : Nat} {I J : mI} {R : mR} (h : Zr n I J R) : wz I J R (n + 1) := h _ (Nat.lt_succ_self n)
theorem Zr_s {n : Nat} {I J : mI} {R : mR} (h : Zr n I J R) : Zr (n + 1) I J R := fun a ha => h a (Nat.lt_of_succ_lt ha)
theorem Zr_uI {n : Nat} {I J : mI} {R : mR} {a : Nat} {k : Int} {v : Int} (h : Zr n I J R) (ha : a ≤ n) : Zr n (up I a k v) J R := fun b hb => ⟨fun j => by unfold up; rw [if_neg (fun q => by omega)]; exact (h b hb).1 j, (h b hb).2⟩
theorem Zr_uJ {n : Nat} {I J : mI} {R : mR} {a : Nat} {k : Int} {v : Int} (h : Zr n I J R) (ha : a ≤ n) : Zr n I (up J a k v) R := fun b hb => ⟨(h b hb).1, fun j => by unfold up; rw [if_neg (fun q => by omega)]; exact (h b hb).2.1 j, (h b hb).2.2⟩
theorem Zr_uR {n : Nat} {I J : mI} {R : mR} {a : Nat} {k : Int} {v : Nat} (h : Zr n I J R) (ha : a ≤ n) : Zr n I J (up R a k v) := fun b hb => ⟨(h b hb).1, (h b hb).2.1, fun j => by unfold up; rw [if_neg (fun q => by omega)]; exact (h b hb).2.2 j⟩
theorem Zr_fil {n : Nat} {I J : mI} {R : mR} {a : Nat} {N v : Int} (h : Zr n I J R) (ha : a ≤ n) : Zr n (fil I a N v) J R := fun b hb => ⟨fun j => by unfold fil; rw [if_neg (fun q => by omega)]; exact (h b hb).1 j, (h b hb).2⟩
theorem up_same {α : Type} {I : Nat → Int → α} {a : Nat} {k : Int} {v : α} (h : I a k = v) : up I a k v = I := by
  funext b j
  unfold up
  by_cases q : b = a ∧ j = k
  · rw [if_pos q, q.1, q.2, h]
  · rw [if_neg q]
def fin7 (R : mR) (a : Nat) : mR := up (up (up (up R a 3 (a + 1)) a 4 (a + 2)) a 5 (a + 3)) a 6 (a + 4)
theorem pc7 {n : Nat} {I J : mI} {R : mR} {Q : wPc} (hz : Zr n I J R) (h0 : ∀ k, I n k = 0) (k1 : kK (n + 1) = 21) (l1 : kN (n + 1) = 6) (k2 : kK (n + 1 + 1) = 21) (l2 : kN (n + 1 + 1) = 6) (k3 : kK (n + 1 + 1 + 1) = 21) (l3 : kN (n + 1 + 1 + 1) = 6) (k4 : kK (n + 1 + 1 + 1 + 1) = 21) (l4 : kN (n + 1 + 1 + 1 + 1) = 120) (hq : Zr (n + 1 + 1 + 1 + 1) I J (fin7 R n) → Q (n + 1 + 1 + 1 + 1) I J (fin7 R n)) : PC7_init n n I J R Q := by
  unfold PC7_init
  have e : ∀ k, up I n k 0 = I := fun k => up_same (h0 k)
  refine wLet_r ?_
  rw [e]
  refine wLet_r ?_
  rw [e]
  refine wLet_r ?_
  rw [e]
  refine ⟨⟨k1, l1, Zr_wz hz⟩, ?_⟩
  replace hz := Zr_s hz
  refine wLet_r ?_
  replace hz := Zr_uR (a := n) (k := 3) (v := n + 1) hz (by omega)
  refine ⟨⟨k2, l2, Zr_wz hz⟩, ?_⟩
  replace hz := Zr_s hz
  refine wLet_r ?_
  replace hz := Zr_uR (a := n) (k := 4) (v := n + 1 + 1) hz (by omega)
  refine ⟨⟨k3, l3, Zr_wz hz⟩, ?_⟩
  replace hz := Zr_s hz
  refine wLet_r ?_
  replace hz := Zr_uR (a := n) (k := 5) (v := n + 1 + 1 + 1) hz (by omega)
  refine ⟨⟨k4, l4, Zr_wz hz⟩, ?_⟩
  replace hz := Zr_s hz
  refine wLet_r ?_
  replace hz := Zr_uR (a := n) (k := 6) (v := n + 1 + 1 + 1 + 1) hz (by omega)
  exact hq hz
theorem fill_of {a : Nat} {N v : Int} {I : mI} {Q : mI → Prop} (hN : (kN a : Int) = N) (hq : Q (fil I a N v)) : PJ7_fill_53178 a v I Q := by
  unfold PJ7_fill_53178
  refine ⟨N.toNat + 1, ?_⟩
  rw [hN]
  exact fill_go hN N.toNat 0 I (by omega) (by omega) hq
def finE (I : mI) (a : Nat) : mI := up (up (up (up (fil (fil (fil (fil (fil I (a + 1) 3 0) (a + 4) 6 0) (a + 5) 6 (-1)) (a + 7) 3 0) (a + 8) 3 0) a 8 0) a 9 0) a 10 0) a 11 0
theorem pe_empty {a : Nat} {I : mI} {R : mR} {Q : mI → Prop} (ha : isLd a) (hr : R a 0 = a + 1 ∧ R a 3 = a + 4 ∧ R a 4 = a + 5 ∧ R a 6 = a + 7 ∧ R a 7 = a + 8) (hq : Q (finE I a)) : P3_empty a I R Q := by
  obtain ⟨r0, r3, r4, r6, r7⟩ := hr
  unfold P3_empty
  rw [r0, r3, r4, r6, r7]
  exact ⟨ld_k1 ha, fill_of (ld_n1 ha) ⟨ld_k4 ha, fill_of (ld_n4 ha) ⟨ld_k5 ha, fill_of (ld_n5 ha) ⟨ld_k7 ha, fill_of (ld_n7 ha) ⟨ld_k8 ha, fill_of (ld_n8 ha) hq⟩⟩⟩⟩⟩
theorem finE_z {n a : Nat} {I J : mI} {R : mR} (hz : Zr n I J R) (ha : a + 8 ≤ n) : Zr n (finE I a) J R := Zr_uI (Zr_uI (Zr_uI (Zr_uI (Zr_fil (Zr_fil (Zr_fil (Zr_fil (Zr_fil hz (by omega)) (by omega)) (by omega)) (by omega)) (by omega)) (by omega)) (by omega)) (by omega)) (by omega)
def finS (s l : Nat) (x : Int) (I : mI) : mI := up (up (up I (s + 1) x x) (s + 2) x 5) (s + 3) x ((up (up I (s + 1) x x) (s + 2) x 5) (l + 5) x)
def finB (I : mI) (s l : Nat) : mI := finS s l 5 (finS s l 4 (finS s l 3 (finS s l 2 (finS s l 1 (finS s l 0 (up (up (up I s 0 0) s 1 ((up I s 0 0) l 10)) s 2 0))))))
theorem finS_z {n s l : Nat} {x : Int} {I J : mI} {R : mR} (hz : Zr n I J R) (hs : s + 4 ≤ n) : Zr n (finS s l x I) J R := Zr_uI (Zr_uI (Zr_uI hz (by omega)) (by omega)) (by omega)
theorem finB_z {n s l : Nat} {I J : mI} {R : mR} (hz : Zr n I J R) (hs : s + 4 ≤ n) (hl : l + 8 ≤ n) : Zr n (finB I s l) J R := finS_z (finS_z (finS_z (finS_z (finS_z (finS_z (Zr_uI (Zr_uI (Zr_uI hz (by omega)) (by omega)) (by omega)) hs) hs) hs) hs) hs) hs
theorem pb_step {s l : Nat} {R : mR} {Q : mI → Prop} {f : Nat} {x y : Int} {I : mI} (hs : isSt s) (hl : isLd l) (hr : R s 3 = s + 1 ∧ R s 4 = s + 2 ∧ R s 5 = s + 3 ∧ R l 4 = l + 5) (h0 : 0 ≤ x) (h6 : x < 6) (hy : x + 1 = y) (k : P7_begin_b20 s l R Q f y (finS s l x I)) : P7_begin_b20 s l R Q (f + 1) x I := by
  obtain ⟨r3, r4, r5, r6⟩ := hr
  subst hy
  show P7_begin_b20_body s l R Q _ x I
  unfold P7_begin_b20_body
  rw [if_neg (by omega), r3, r4, r5, r6]
  exact ⟨st_k1 hs, ⟨h0, by rw [st_n1 hs]; exact h6⟩, st_k2 hs, ⟨h0, by rw [st_n2 hs]; exact h6⟩, st_k3 hs, ld_k5 hl, ⟨h0, by rw [ld_n5 hl]; exact h6⟩, ⟨h0, by rw [st_n3 hs]; exact h6⟩, (⟨by omega, k⟩ : rg (x + 1) ∧ _)⟩
theorem pe_begin {s l : Nat} {I : mI} {R : mR} {Q : mI → Prop} (hs : isSt s) (hl : isLd l) (hr : R s 3 = s + 1 ∧ R s 4 = s + 2 ∧ R s 5 = s + 3 ∧ R l 4 = l + 5) (hq : Q (finB I s l)) : P7_begin s l I R Q := by
  unfold P7_begin
  refine wLet_r (wLet_r (wLet_r ⟨7, ?_⟩))
  refine pb_step hs hl hr (by decide) (by decide) (y := 1) rfl (pb_step hs hl hr (by decide) (by decide) (y := 2) rfl (pb_step hs hl hr (by decide) (by decide) (y := 3) rfl (pb_step hs hl hr (by decide) (by decide) (y := 4) rfl (pb_step hs hl hr (by decide) (by decide) (y := 5) rfl (pb_step hs hl hr (by decide) (by decide) (y := 6) rfl ?_)))))
  show P7_begin_b20_body s l R Q _ 6 _
  unfold P7_begin_b20_body
  rw [if_pos (by decide)]
  exact hq
theorem pc4_step {m : Nat} {k : Int} {I J : mI} {R : mR} {Y : Nat → mI → mI → mR → Prop} (hr : R 17 0 = 18) (hz : Zr m I J R) (hm : 18 ≤ m) (k0 : kK (m + 1) = 7) (k1 : kK (m + 1 + 1) = 21) (l1 : kN (m + 1 + 1) = 6) (k2 : kK (m + 1 + 1 + 1) = 21) (l2 : kN (m + 1 + 1 + 1) = 6) (k3 : kK (m + 1 + 1 + 1 + 1) = 21) (l3 : kN (m + 1 + 1 + 1 + 1) = 6) (k4 : kK (m + 1 + 1 + 1 + 1 + 1) = 21) (l4 : kN (m + 1 + 1 + 1 + 1 + 1) = 120) (hk : 0 ≤ k ∧ k < 20)
    (hq : ∀ R' : mR, R' = up (fin7 R (m + 1)) 18 k (m + 1) → R' 17 0 = 18 → Zr (m + 1 + 1 + 1 + 1 + 1) I J R' → Y (m + 1 + 1 + 1 + 1 + 1) I J R') : kK (R 17 0) = 24 ∧ ((kK (m + 1) = 7 ∧ wz I J R (m + 1)) ∧ PC7_init (m + 1) (m + 1) I J R (fun n1 I3 J1 R2 => ((0 : Int) ≤ k ∧ k < (kN (R 17 0) : Int)) ∧ wLet (up R2 (R 17 0) k (m + 1)) (fun R3 => Y n1 I3 J1 R3))) := by
  rw [hr]
  refine ⟨rfl, ⟨k0, Zr_wz hz⟩, ?_⟩
  refine pc7 (Zr_s hz) (Zr_wz hz).1 k1 l1 k2 l2 k3 l3 k4 l4 (fun hz2 => ⟨⟨hk.1, by rw [kn_18]; exact hk.2⟩, wLet_r (hq _ rfl ?_ (Zr_uR hz2 (by omega)))⟩)
  rw [up_o _ _ _ _ (by decide)]
  unfold fin7
  rw [up_o _ _ _ _ (by omega), up_o _ _ _ _ (by omega), up_o _ _ _ _ (by omega), up_o _ _ _ _ (by omega)]
  exact hr

def pc_9_init_2_I (I : mI) : mI := (up I 2 1 0)
def pc_9_init_2_R (R : mR) : mR := (up R 2 0 3)
set_option maxRecDepth 20000 in
theorem pc_9_init_2_b {I J : mI} {R : mR} {Q : wPc} (hz : Zr 2 I J R) (hq : Zr 3 (pc_9_init_2_I I) J (pc_9_init_2_R R) → Q 3 (pc_9_init_2_I I) J (pc_9_init_2_R R)) : PC9_init 2 2 I J R Q := by
  unfold PC9_init
  refine ⟨⟨rfl, rfl, Zr_wz hz⟩, ?_⟩
  have hw0 := (Zr_wz hz).1
  replace hz := Zr_s hz
  refine wLet_r ?_
  replace hz := Zr_uR (a := 2) (k := 0) (v := 3) hz (Nat.le_of_ble_eq_true rfl)
  refine wLet_r ?_
  replace hz := Zr_uI (a := 2) (k := 1) (v := 0) hz (Nat.le_of_ble_eq_true rfl)
  exact hq hz
def pc_8_init_4_R (R : mR) : mR := (up (up R 4 0 5) 4 1 6)
set_option maxRecDepth 20000 in
theorem pc_8_init_4_b {I J : mI} {R : mR} {Q : wPc} (hz : Zr 4 I J R) (hq : Zr 6 I J (pc_8_init_4_R R) → Q 6 I J (pc_8_init_4_R R)) : PC8_init 4 4 I J R Q := by
  unfold PC8_init
  refine ⟨⟨rfl, rfl, Zr_wz hz⟩, ?_⟩
  have hw0 := (Zr_wz hz).1
  replace hz := Zr_s hz
  refine wLet_r ?_
  replace hz := Zr_uR (a := 4) (k := 0) (v := 5) hz (Nat.le_of_ble_eq_true rfl)
  refine ⟨⟨rfl, rfl, Zr_wz hz⟩, ?_⟩
  have hw0 := (Zr_wz hz).1
  replace hz := Zr_s hz
  refine wLet_r ?_
  replace hz := Zr_uR (a := 4) (k := 1) (v := 6) hz (Nat.le_of_ble_eq_true rfl)
  exact hq hz
def pc_4_init_17_I (I : mI) : mI := (up (up I 17 1 0) 17 2 0)
def pc_4_init_17_R (R : mR) : mR := (up (fin7 (up (fin7 (up (fin7 (up (fin7 (up (fin7 (up (fin7 (up (fin7 (up (fin7 (up (fin7 (up (fin7 (up (fin7 (up (fin7 (up (fin7 (up (fin7 (up (fin7 (up (fin7 (up (fin7 (up (fin7 (up (fin7 (up (fin7 (up R 17 0 18) 19) 18 0 19) 24) 18 1 24) 29) 18 2 29) 34) 18 3 34) 39) 18 4 39) 44) 18 5 44) 49) 18 6 49) 54) 18 7 54) 59) 18 8 59) 64) 18 9 64) 69) 18 10 69) 74) 18 11 74) 79) 18 12 79) 84) 18 13 84) 89) 18 14 89) 94) 18 15 94) 99) 18 16 99) 104) 18 17 104) 109) 18 18 109) 114) 18 19 114)
set_option maxRecDepth 20000 in
theorem pc_4_init_17_b {I J : mI} {R : mR} {Q : wPc} (hz : Zr 17 I J R) (hq : Zr 118 (pc_4_init_17_I I) J (pc_4_init_17_R R) → Q 118 (pc_4_init_17_I I) J (pc_4_init_17_R R)) : PC4_init 17 17 I J R Q := by
  unfold PC4_init
  refine ⟨⟨rfl, rfl, Zr_wz hz⟩, ?_⟩
  replace hz := Zr_s hz
  refine wLet_i (fun R0 e0 => ?_)
  have hr : R0 17 0 = 18 := by rw [e0]; rfl
  replace hz := Zr_uR (a := 17) (k := 0) (v := 18) hz (Nat.le_of_ble_eq_true rfl)
  have e0' : R0 = up R 17 0 18 := e0
  rw [← e0'] at hz
  refine wLet_r ?_
  replace hz := Zr_uI (a := 17) (k := 1) (v := 0) hz (Nat.le_of_ble_eq_true rfl)
  refine wLet_r ?_
  replace hz := Zr_uI (a := 17) (k := 2) (v := 0) hz (Nat.le_of_ble_eq_true rfl)
  refine pc4_step hr hz (Nat.le_of_ble_eq_true rfl) rfl rfl rfl rfl rfl rfl rfl rfl rfl ⟨by decide, by decide⟩ (fun R1 e1 hr hz => ?_)
  refine pc4_step hr hz (Nat.le_of_ble_eq_true rfl) rfl rfl rfl rfl rfl rfl rfl rfl rfl ⟨by decide, by decide⟩ (fun R2 e2 hr hz => ?_)
  refine pc4_step hr hz (Nat.le_of_ble_eq_true rfl) rfl rfl rfl rfl rfl rfl rfl rfl rfl ⟨by decide, by decide⟩ (fun R3 e3 hr hz => ?_)
  refine pc4_step hr hz (Nat.le_of_ble_eq_true rfl) rfl rfl rfl rfl rfl rfl rfl rfl rfl ⟨by decide, by decide⟩ (fun R4 e4 hr hz => ?_)
  refine pc4_step hr hz (Nat.le_of_ble_eq_true rfl) rfl rfl rfl rfl rfl rfl rfl rfl rfl ⟨by decide, by decide⟩ (fun R5 e5 hr hz => ?_)
  refine pc4_step hr hz (Nat.le_of_ble_eq_true rfl) rfl rfl rfl rfl rfl rfl rfl rfl rfl ⟨by decide, by decide⟩ (fun R6 e6 hr hz => ?_)
  refine pc4_step hr hz (Nat.le_of_ble_eq_true rfl) rfl rfl rfl rfl rfl rfl rfl rfl rfl ⟨by decide, by decide⟩ (fun R7 e7 hr hz => ?_)
  refine pc4_step hr hz (Nat.le_of_ble_eq_true rfl) rfl rfl rfl rfl rfl rfl rfl rfl rfl ⟨by decide, by decide⟩ (fun R8 e8 hr hz => ?_)
  refine pc4_step hr hz (Nat.le_of_ble_eq_true rfl) rfl rfl rfl rfl rfl rfl rfl rfl rfl ⟨by decide, by decide⟩ (fun R9 e9 hr hz => ?_)
  refine pc4_step hr hz (Nat.le_of_ble_eq_true rfl) rfl rfl rfl rfl rfl rfl rfl rfl rfl ⟨by decide, by decide⟩ (fun R10 e10 hr hz => ?_)
  refine pc4_step hr hz (Nat.le_of_ble_eq_true rfl) rfl rfl rfl rfl rfl rfl rfl rfl rfl ⟨by decide, by decide⟩ (fun R11 e11 hr hz => ?_)
  refine pc4_step hr hz (Nat.le_of_ble_eq_true rfl) rfl rfl rfl rfl rfl rfl rfl rfl rfl ⟨by decide, by decide⟩ (fun R12 e12 hr hz => ?_)
  refine pc4_step hr hz (Nat.le_of_ble_eq_true rfl) rfl rfl rfl rfl rfl rfl rfl rfl rfl ⟨by decide, by decide⟩ (fun R13 e13 hr hz => ?_)
  refine pc4_step hr hz (Nat.le_of_ble_eq_true rfl) rfl rfl rfl rfl rfl rfl rfl rfl rfl ⟨by decide, by decide⟩ (fun R14 e14 hr hz => ?_)
  refine pc4_step hr hz (Nat.le_of_ble_eq_true rfl) rfl rfl rfl rfl rfl rfl rfl rfl rfl ⟨by decide, by decide⟩ (fun R15 e15 hr hz => ?_)
  refine pc4_step hr hz (Nat.le_of_ble_eq_true rfl) rfl rfl rfl rfl rfl rfl rfl rfl rfl ⟨by decide, by decide⟩ (fun R16 e16 hr hz => ?_)
  refine pc4_step hr hz (Nat.le_of_ble_eq_true rfl) rfl rfl rfl rfl rfl rfl rfl rfl rfl ⟨by decide, by decide⟩ (fun R17 e17 hr hz => ?_)
  refine pc4_step hr hz (Nat.le_of_ble_eq_true rfl) rfl rfl rfl rfl rfl rfl rfl rfl rfl ⟨by decide, by decide⟩ (fun R18 e18 hr hz => ?_)
  refine pc4_step hr hz (Nat.le_of_ble_eq_true rfl) rfl rfl rfl rfl rfl rfl rfl rfl rfl ⟨by decide, by decide⟩ (fun R19 e19 hr hz => ?_)
  refine pc4_step hr hz (Nat.le_of_ble_eq_true rfl) rfl rfl rfl rfl rfl rfl rfl rfl rfl ⟨by decide, by decide⟩ (fun R20 e20 hr hz => ?_)
  subst e20
  subst e19
  subst e18
  subst e17
  subst e16
  subst e15
  subst e14
  subst e13
  subst e12
  subst e11
  subst e10
  subst e9
  subst e8
  subst e7
  subst e6
  subst e5
  subst e4
  subst e3
  subst e2
  subst e1
  subst e0'
  exact hq hz
def pc_5_init_119_I (I : mI) : mI := (up I 119 1 0)
def pc_5_init_119_R (R : mR) : mR := (up R 119 0 120)
set_option maxRecDepth 20000 in
theorem pc_5_init_119_b {I J : mI} {R : mR} {Q : wPc} (hz : Zr 119 I J R) (hq : Zr 120 (pc_5_init_119_I I) J (pc_5_init_119_R R) → Q 120 (pc_5_init_119_I I) J (pc_5_init_119_R R)) : PC5_init 119 119 I J R Q := by
  unfold PC5_init
  refine ⟨⟨rfl, rfl, Zr_wz hz⟩, ?_⟩
  have hw0 := (Zr_wz hz).1
  replace hz := Zr_s hz
  refine wLet_r ?_
  replace hz := Zr_uR (a := 119) (k := 0) (v := 120) hz (Nat.le_of_ble_eq_true rfl)
  refine wLet_r ?_
  replace hz := Zr_uI (a := 119) (k := 1) (v := 0) hz (Nat.le_of_ble_eq_true rfl)
  exact hq hz
def pc_3_init_123_I (I : mI) : mI := (finE (up (up (up (up I 123 8 0) 123 9 0) 123 10 0) 123 11 0) 123)
def pc_3_init_123_R (R : mR) : mR := (up (up (up (up (up (up (up (up R 123 0 124) 123 1 125) 123 2 126) 123 3 127) 123 4 128) 123 5 129) 123 6 130) 123 7 131)
set_option maxRecDepth 20000 in
theorem pc_3_init_123_b {I J : mI} {R : mR} {Q : wPc} (hz : Zr 123 I J R) (hq : Zr 131 (pc_3_init_123_I I) J (pc_3_init_123_R R) → Q 131 (pc_3_init_123_I I) J (pc_3_init_123_R R)) : PC3_init 123 123 I J R Q := by
  unfold PC3_init
  refine ⟨⟨rfl, rfl, Zr_wz hz⟩, ?_⟩
  have hw0 := (Zr_wz hz).1
  replace hz := Zr_s hz
  refine wLet_r ?_
  replace hz := Zr_uR (a := 123) (k := 0) (v := 124) hz (Nat.le_of_ble_eq_true rfl)
  refine ⟨⟨rfl, rfl, Zr_wz hz⟩, ?_⟩
  have hw0 := (Zr_wz hz).1
  replace hz := Zr_s hz
  refine wLet_r ?_
  replace hz := Zr_uR (a := 123) (k := 1) (v := 125) hz (Nat.le_of_ble_eq_true rfl)
  refine ⟨⟨rfl, rfl, Zr_wz hz⟩, ?_⟩
  have hw0 := (Zr_wz hz).1
  replace hz := Zr_s hz
  refine wLet_r ?_
  replace hz := Zr_uR (a := 123) (k := 2) (v := 126) hz (Nat.le_of_ble_eq_true rfl)
  refine ⟨⟨rfl, rfl, Zr_wz hz⟩, ?_⟩
  have hw0 := (Zr_wz hz).1
  replace hz := Zr_s hz
  refine wLet_r ?_
  replace hz := Zr_uR (a := 123) (k := 3) (v := 127) hz (Nat.le_of_ble_eq_true rfl)
  refine ⟨⟨rfl, rfl, Zr_wz hz⟩, ?_⟩
  have hw0 := (Zr_wz hz).1
  replace hz := Zr_s hz
  refine wLet_r ?_
  replace hz := Zr_uR (a := 123) (k := 4) (v := 128) hz (Nat.le_of_ble_eq_true rfl)
  refine ⟨⟨rfl, rfl, Zr_wz hz⟩, ?_⟩
  have hw0 := (Zr_wz hz).1
  replace hz := Zr_s hz
  refine wLet_r ?_
  replace hz := Zr_uR (a := 123) (k := 5) (v := 129) hz (Nat.le_of_ble_eq_true rfl)
  refine ⟨⟨rfl, rfl, Zr_wz hz⟩, ?_⟩
  have hw0 := (Zr_wz hz).1
  replace hz := Zr_s hz
  refine wLet_r ?_
  replace hz := Zr_uR (a := 123) (k := 6) (v := 130) hz (Nat.le_of_ble_eq_true rfl)
  refine ⟨⟨rfl, rfl, Zr_wz hz⟩, ?_⟩
  have hw0 := (Zr_wz hz).1
  replace hz := Zr_s hz
  refine wLet_r ?_
  replace hz := Zr_uR (a := 123) (k := 7) (v := 131) hz (Nat.le_of_ble_eq_true rfl)
  refine wLet_r ?_
  replace hz := Zr_uI (a := 123) (k := 8) (v := 0) hz (Nat.le_of_ble_eq_true rfl)
  refine wLet_r ?_
  replace hz := Zr_uI (a := 123) (k := 9) (v := 0) hz (Nat.le_of_ble_eq_true rfl)
  refine wLet_r ?_
  replace hz := Zr_uI (a := 123) (k := 10) (v := 0) hz (Nat.le_of_ble_eq_true rfl)
  refine wLet_r ?_
  replace hz := Zr_uI (a := 123) (k := 11) (v := 0) hz (Nat.le_of_ble_eq_true rfl)
  refine pe_empty (a := 123) isLd_123 ⟨rfl, rfl, rfl, rfl, rfl⟩ ?_
  replace hz := finE_z (a := 123) hz (Nat.le_of_ble_eq_true rfl)
  exact hq hz
def pc_3_init_132_I (I : mI) : mI := (finE (up (up (up (up I 132 8 0) 132 9 0) 132 10 0) 132 11 0) 132)
def pc_3_init_132_R (R : mR) : mR := (up (up (up (up (up (up (up (up R 132 0 133) 132 1 134) 132 2 135) 132 3 136) 132 4 137) 132 5 138) 132 6 139) 132 7 140)
set_option maxRecDepth 20000 in
theorem pc_3_init_132_b {I J : mI} {R : mR} {Q : wPc} (hz : Zr 132 I J R) (hq : Zr 140 (pc_3_init_132_I I) J (pc_3_init_132_R R) → Q 140 (pc_3_init_132_I I) J (pc_3_init_132_R R)) : PC3_init 132 132 I J R Q := by
  unfold PC3_init
  refine ⟨⟨rfl, rfl, Zr_wz hz⟩, ?_⟩
  have hw0 := (Zr_wz hz).1
  replace hz := Zr_s hz
  refine wLet_r ?_
  replace hz := Zr_uR (a := 132) (k := 0) (v := 133) hz (Nat.le_of_ble_eq_true rfl)
  refine ⟨⟨rfl, rfl, Zr_wz hz⟩, ?_⟩
  have hw0 := (Zr_wz hz).1
  replace hz := Zr_s hz
  refine wLet_r ?_
  replace hz := Zr_uR (a := 132) (k := 1) (v := 134) hz (Nat.le_of_ble_eq_true rfl)
  refine ⟨⟨rfl, rfl, Zr_wz hz⟩, ?_⟩
  have hw0 := (Zr_wz hz).1
  replace hz := Zr_s hz
  refine wLet_r ?_
  replace hz := Zr_uR (a := 132) (k := 2) (v := 135) hz (Nat.le_of_ble_eq_true rfl)
  refine ⟨⟨rfl, rfl, Zr_wz hz⟩, ?_⟩
  have hw0 := (Zr_wz hz).1
  replace hz := Zr_s hz
  refine wLet_r ?_
  replace hz := Zr_uR (a := 132) (k := 3) (v := 136) hz (Nat.le_of_ble_eq_true rfl)
  refine ⟨⟨rfl, rfl, Zr_wz hz⟩, ?_⟩
  have hw0 := (Zr_wz hz).1
  replace hz := Zr_s hz
  refine wLet_r ?_
  replace hz := Zr_uR (a := 132) (k := 4) (v := 137) hz (Nat.le_of_ble_eq_true rfl)
  refine ⟨⟨rfl, rfl, Zr_wz hz⟩, ?_⟩
  have hw0 := (Zr_wz hz).1
  replace hz := Zr_s hz
  refine wLet_r ?_
  replace hz := Zr_uR (a := 132) (k := 5) (v := 138) hz (Nat.le_of_ble_eq_true rfl)
  refine ⟨⟨rfl, rfl, Zr_wz hz⟩, ?_⟩
  have hw0 := (Zr_wz hz).1
  replace hz := Zr_s hz
  refine wLet_r ?_
  replace hz := Zr_uR (a := 132) (k := 6) (v := 139) hz (Nat.le_of_ble_eq_true rfl)
  refine ⟨⟨rfl, rfl, Zr_wz hz⟩, ?_⟩
  have hw0 := (Zr_wz hz).1
  replace hz := Zr_s hz
  refine wLet_r ?_
  replace hz := Zr_uR (a := 132) (k := 7) (v := 140) hz (Nat.le_of_ble_eq_true rfl)
  refine wLet_r ?_
  replace hz := Zr_uI (a := 132) (k := 8) (v := 0) hz (Nat.le_of_ble_eq_true rfl)
  refine wLet_r ?_
  replace hz := Zr_uI (a := 132) (k := 9) (v := 0) hz (Nat.le_of_ble_eq_true rfl)
  refine wLet_r ?_
  replace hz := Zr_uI (a := 132) (k := 10) (v := 0) hz (Nat.le_of_ble_eq_true rfl)
  refine wLet_r ?_
  replace hz := Zr_uI (a := 132) (k := 11) (v := 0) hz (Nat.le_of_ble_eq_true rfl)
  refine pe_empty (a := 132) isLd_132 ⟨rfl, rfl, rfl, rfl, rfl⟩ ?_
  replace hz := finE_z (a := 132) hz (Nat.le_of_ble_eq_true rfl)
  exact hq hz
def pc_10_init_142_I (I : mI) : mI := (up (up (up I 142 3 0) 142 4 0) 142 5 0)
def pc_10_init_142_R (R : mR) : mR := (up (up (up R 142 0 143) 142 1 144) 142 2 145)
set_option maxRecDepth 20000 in
theorem pc_10_init_142_b {I J : mI} {R : mR} {Q : wPc} (hz : Zr 142 I J R) (hq : Zr 145 (pc_10_init_142_I I) J (pc_10_init_142_R R) → Q 145 (pc_10_init_142_I I) J (pc_10_init_142_R R)) : PC10_init 142 142 I J R Q := by
  unfold PC10_init
  refine ⟨⟨rfl, rfl, Zr_wz hz⟩, ?_⟩
  have hw0 := (Zr_wz hz).1
  replace hz := Zr_s hz
  refine wLet_r ?_
  replace hz := Zr_uR (a := 142) (k := 0) (v := 143) hz (Nat.le_of_ble_eq_true rfl)
  refine ⟨⟨rfl, rfl, Zr_wz hz⟩, ?_⟩
  have hw0 := (Zr_wz hz).1
  replace hz := Zr_s hz
  refine wLet_r ?_
  replace hz := Zr_uR (a := 142) (k := 1) (v := 144) hz (Nat.le_of_ble_eq_true rfl)
  refine ⟨⟨rfl, rfl, Zr_wz hz⟩, ?_⟩
  have hw0 := (Zr_wz hz).1
  replace hz := Zr_s hz
  refine wLet_r ?_
  replace hz := Zr_uR (a := 142) (k := 2) (v := 145) hz (Nat.le_of_ble_eq_true rfl)
  refine wLet_r ?_
  replace hz := Zr_uI (a := 142) (k := 3) (v := 0) hz (Nat.le_of_ble_eq_true rfl)
  refine wLet_r ?_
  replace hz := Zr_uI (a := 142) (k := 4) (v := 0) hz (Nat.le_of_ble_eq_true rfl)
  refine wLet_r ?_
  replace hz := Zr_uI (a := 142) (k := 5) (v := 0) hz (Nat.le_of_ble_eq_true rfl)
  exact hq hz
def pc_6_init_141_I (I : mI) : mI := (up (up (up (up (up (pc_10_init_142_I I) 141 3 0) 141 4 0) 141 5 0) 141 6 0) 141 7 (-1))
def pc_6_init_141_R (R : mR) : mR := (up (up (up (pc_10_init_142_R R) 141 1 142) 141 0 2) 141 2 132)
set_option maxRecDepth 20000 in
theorem pc_6_init_141_b {I J : mI} {R : mR} {Q : wPc} (hz : Zr 141 I J R) (hq : Zr 145 (pc_6_init_141_I I) J (pc_6_init_141_R R) → Q 145 (pc_6_init_141_I I) J (pc_6_init_141_R R)) : PC6_init 141 2 132 141 I J R Q := by
  unfold PC6_init
  refine ⟨⟨rfl, Zr_wz hz⟩, ?_⟩
  have hw0 := (Zr_wz hz).1
  replace hz := Zr_s hz
  refine pc_10_init_142_b hz (fun hz => ?_)
  refine wLet_r ?_
  replace hz := Zr_uR (a := 141) (k := 1) (v := 142) hz (Nat.le_of_ble_eq_true rfl)
  refine wLet_r ?_
  replace hz := Zr_uI (a := 141) (k := 3) (v := 0) hz (Nat.le_of_ble_eq_true rfl)
  refine wLet_r ?_
  replace hz := Zr_uI (a := 141) (k := 4) (v := 0) hz (Nat.le_of_ble_eq_true rfl)
  refine wLet_r ?_
  replace hz := Zr_uI (a := 141) (k := 5) (v := 0) hz (Nat.le_of_ble_eq_true rfl)
  refine wLet_r ?_
  replace hz := Zr_uI (a := 141) (k := 6) (v := 0) hz (Nat.le_of_ble_eq_true rfl)
  refine wLet_r ?_
  replace hz := Zr_uI (a := 141) (k := 7) (v := (-1)) hz (Nat.le_of_ble_eq_true rfl)
  refine wLet_r ?_
  replace hz := Zr_uR (a := 141) (k := 0) (v := 2) hz (Nat.le_of_ble_eq_true rfl)
  refine wLet_r ?_
  replace hz := Zr_uR (a := 141) (k := 2) (v := 132) hz (Nat.le_of_ble_eq_true rfl)
  exact hq hz
def pc_1_init_146_I (I : mI) : mI := (up (up (up (up I 146 6 0) 146 7 0) 146 8 (-1)) 146 9 0)
def pc_1_init_146_R (R : mR) : mR := (up (up (up (up (up (up R 146 1 147) 146 2 148) 146 3 149) 146 0 4) 146 4 123) 146 5 7)
set_option maxRecDepth 20000 in
theorem pc_1_init_146_b {I J : mI} {R : mR} {Q : wPc} (hz : Zr 146 I J R) (hq : Zr 149 (pc_1_init_146_I I) J (pc_1_init_146_R R) → Q 149 (pc_1_init_146_I I) J (pc_1_init_146_R R)) : PC1_init 146 4 123 7 146 I J R Q := by
  unfold PC1_init
  refine ⟨⟨rfl, rfl, Zr_wz hz⟩, ?_⟩
  have hw0 := (Zr_wz hz).1
  replace hz := Zr_s hz
  refine wLet_r ?_
  replace hz := Zr_uR (a := 146) (k := 1) (v := 147) hz (Nat.le_of_ble_eq_true rfl)
  refine ⟨⟨rfl, rfl, Zr_wz hz⟩, ?_⟩
  have hw0 := (Zr_wz hz).1
  replace hz := Zr_s hz
  refine wLet_r ?_
  replace hz := Zr_uR (a := 146) (k := 2) (v := 148) hz (Nat.le_of_ble_eq_true rfl)
  refine ⟨⟨rfl, rfl, Zr_wz hz⟩, ?_⟩
  have hw0 := (Zr_wz hz).1
  replace hz := Zr_s hz
  refine wLet_r ?_
  replace hz := Zr_uR (a := 146) (k := 3) (v := 149) hz (Nat.le_of_ble_eq_true rfl)
  refine wLet_r ?_
  replace hz := Zr_uI (a := 146) (k := 6) (v := 0) hz (Nat.le_of_ble_eq_true rfl)
  refine wLet_r ?_
  replace hz := Zr_uI (a := 146) (k := 7) (v := 0) hz (Nat.le_of_ble_eq_true rfl)
  refine wLet_r ?_
  replace hz := Zr_uI (a := 146) (k := 8) (v := (-1)) hz (Nat.le_of_ble_eq_true rfl)
  refine wLet_r ?_
  replace hz := Zr_uI (a := 146) (k := 9) (v := 0) hz (Nat.le_of_ble_eq_true rfl)
  refine wLet_r ?_
  replace hz := Zr_uR (a := 146) (k := 0) (v := 4) hz (Nat.le_of_ble_eq_true rfl)
  refine wLet_r ?_
  replace hz := Zr_uR (a := 146) (k := 4) (v := 123) hz (Nat.le_of_ble_eq_true rfl)
  refine wLet_r ?_
  replace hz := Zr_uR (a := 146) (k := 5) (v := 7) hz (Nat.le_of_ble_eq_true rfl)
  exact hq hz
def pc_0_init_150_R (R : mR) : mR := (up (up R 150 0 146) 150 1 4)
set_option maxRecDepth 20000 in
theorem pc_0_init_150_b {I J : mI} {R : mR} {Q : wPc} (hz : Zr 150 I J R) (hq : Zr 150 I J (pc_0_init_150_R R) → Q 150 I J (pc_0_init_150_R R)) : PC0_init 150 146 4 150 I J R Q := by
  unfold PC0_init
  refine wLet_r ?_
  replace hz := Zr_uR (a := 150) (k := 0) (v := 146) hz (Nat.le_of_ble_eq_true rfl)
  refine wLet_r ?_
  replace hz := Zr_uR (a := 150) (k := 1) (v := 4) hz (Nat.le_of_ble_eq_true rfl)
  exact hq hz
def pc_2_init_151_I (I : mI) : mI := (up (up (up (up I 151 5 0) 151 6 (-1)) 151 7 (-1)) 151 8 (-1))
def pc_2_init_151_R (R : mR) : mR := (up (up (up (up (up (fin7 R 152) 151 2 152) 151 3 157) 151 4 158) 151 0 146) 151 1 150)
set_option maxRecDepth 20000 in
theorem pc_2_init_151_b {I J : mI} {R : mR} {Q : wPc} (hz : Zr 151 I J R) (hq : Zr 158 (pc_2_init_151_I I) J (pc_2_init_151_R R) → Q 158 (pc_2_init_151_I I) J (pc_2_init_151_R R)) : PC2_init 151 146 150 151 I J R Q := by
  unfold PC2_init
  refine ⟨⟨rfl, Zr_wz hz⟩, ?_⟩
  have hw0 := (Zr_wz hz).1
  replace hz := Zr_s hz
  refine pc7 hz hw0 rfl rfl rfl rfl rfl rfl rfl rfl (fun hz => ?_)
  refine wLet_r ?_
  replace hz := Zr_uR (a := 151) (k := 2) (v := 152) hz (Nat.le_of_ble_eq_true rfl)
  refine ⟨⟨rfl, rfl, Zr_wz hz⟩, ?_⟩
  have hw0 := (Zr_wz hz).1
  replace hz := Zr_s hz
  refine wLet_r ?_
  replace hz := Zr_uR (a := 151) (k := 3) (v := 157) hz (Nat.le_of_ble_eq_true rfl)
  refine ⟨⟨rfl, rfl, Zr_wz hz⟩, ?_⟩
  have hw0 := (Zr_wz hz).1
  replace hz := Zr_s hz
  refine wLet_r ?_
  replace hz := Zr_uR (a := 151) (k := 4) (v := 158) hz (Nat.le_of_ble_eq_true rfl)
  refine wLet_r ?_
  replace hz := Zr_uI (a := 151) (k := 5) (v := 0) hz (Nat.le_of_ble_eq_true rfl)
  refine wLet_r ?_
  replace hz := Zr_uI (a := 151) (k := 6) (v := (-1)) hz (Nat.le_of_ble_eq_true rfl)
  refine wLet_r ?_
  replace hz := Zr_uI (a := 151) (k := 7) (v := (-1)) hz (Nat.le_of_ble_eq_true rfl)
  refine wLet_r ?_
  replace hz := Zr_uI (a := 151) (k := 8) (v := (-1)) hz (Nat.le_of_ble_eq_true rfl)
  refine wLet_r ?_
  replace hz := Zr_uR (a := 151) (k := 0) (v := 146) hz (Nat.le_of_ble_eq_true rfl)
  refine wLet_r ?_
  replace hz := Zr_uR (a := 151) (k := 1) (v := 150) hz (Nat.le_of_ble_eq_true rfl)
  exact hq hz
def pc_11_init_1_I (I : mI) : mI := (finB (pc_2_init_151_I (pc_1_init_146_I (pc_6_init_141_I (up (up (up (pc_3_init_132_I (pc_3_init_123_I (pc_5_init_119_I (pc_4_init_17_I (pc_9_init_2_I I))))) 1 14 0) 1 15 (-1)) 1 16 1)))) 7 123)
def pc_11_init_1_R (R : mR) : mR := (up (pc_2_init_151_R (up (pc_0_init_150_R (up (pc_1_init_146_R (up (pc_6_init_141_R (up (pc_3_init_132_R (up (pc_3_init_123_R (up (up (up (pc_5_init_119_R (up (pc_4_init_17_R (up (fin7 (up (fin7 (up (pc_8_init_4_R (up (pc_9_init_2_R R) 1 0 2)) 1 1 4) 7) 1 2 7) 12) 1 3 12)) 1 4 17)) 1 5 119) 1 6 121) 1 7 122)) 1 12 123)) 1 13 132)) 1 8 141)) 1 9 146)) 1 10 150)) 1 11 151)
set_option maxRecDepth 20000 in
theorem pc_11_init_1_b {I J : mI} {R : mR} {Q : wPc} (hz : Zr 1 I J R) (hq : Zr 158 (pc_11_init_1_I I) J (pc_11_init_1_R R) → Q 158 (pc_11_init_1_I I) J (pc_11_init_1_R R)) : PC11_init 1 1 I J R Q := by
  unfold PC11_init
  refine ⟨⟨rfl, Zr_wz hz⟩, ?_⟩
  have hw0 := (Zr_wz hz).1
  replace hz := Zr_s hz
  refine pc_9_init_2_b hz (fun hz => ?_)
  refine wLet_r ?_
  replace hz := Zr_uR (a := 1) (k := 0) (v := 2) hz (Nat.le_of_ble_eq_true rfl)
  refine ⟨⟨rfl, Zr_wz hz⟩, ?_⟩
  have hw0 := (Zr_wz hz).1
  replace hz := Zr_s hz
  refine pc_8_init_4_b hz (fun hz => ?_)
  refine wLet_r ?_
  replace hz := Zr_uR (a := 1) (k := 1) (v := 4) hz (Nat.le_of_ble_eq_true rfl)
  refine ⟨⟨rfl, Zr_wz hz⟩, ?_⟩
  have hw0 := (Zr_wz hz).1
  replace hz := Zr_s hz
  refine pc7 hz hw0 rfl rfl rfl rfl rfl rfl rfl rfl (fun hz => ?_)
  refine wLet_r ?_
  replace hz := Zr_uR (a := 1) (k := 2) (v := 7) hz (Nat.le_of_ble_eq_true rfl)
  refine ⟨⟨rfl, Zr_wz hz⟩, ?_⟩
  have hw0 := (Zr_wz hz).1
  replace hz := Zr_s hz
  refine pc7 hz hw0 rfl rfl rfl rfl rfl rfl rfl rfl (fun hz => ?_)
  refine wLet_r ?_
  replace hz := Zr_uR (a := 1) (k := 3) (v := 12) hz (Nat.le_of_ble_eq_true rfl)
  refine ⟨⟨rfl, Zr_wz hz⟩, ?_⟩
  have hw0 := (Zr_wz hz).1
  replace hz := Zr_s hz
  refine pc_4_init_17_b hz (fun hz => ?_)
  refine wLet_r ?_
  replace hz := Zr_uR (a := 1) (k := 4) (v := 17) hz (Nat.le_of_ble_eq_true rfl)
  refine ⟨⟨rfl, Zr_wz hz⟩, ?_⟩
  have hw0 := (Zr_wz hz).1
  replace hz := Zr_s hz
  refine pc_5_init_119_b hz (fun hz => ?_)
  refine wLet_r ?_
  replace hz := Zr_uR (a := 1) (k := 5) (v := 119) hz (Nat.le_of_ble_eq_true rfl)
  refine ⟨⟨rfl, rfl, Zr_wz hz⟩, ?_⟩
  have hw0 := (Zr_wz hz).1
  replace hz := Zr_s hz
  refine wLet_r ?_
  replace hz := Zr_uR (a := 1) (k := 6) (v := 121) hz (Nat.le_of_ble_eq_true rfl)
  refine ⟨⟨rfl, rfl, Zr_wz hz⟩, ?_⟩
  have hw0 := (Zr_wz hz).1
  replace hz := Zr_s hz
  refine wLet_r ?_
  replace hz := Zr_uR (a := 1) (k := 7) (v := 122) hz (Nat.le_of_ble_eq_true rfl)
  refine ⟨⟨rfl, Zr_wz hz⟩, ?_⟩
  have hw0 := (Zr_wz hz).1
  replace hz := Zr_s hz
  refine pc_3_init_123_b hz (fun hz => ?_)
  refine wLet_r ?_
  replace hz := Zr_uR (a := 1) (k := 12) (v := 123) hz (Nat.le_of_ble_eq_true rfl)
  refine ⟨⟨rfl, Zr_wz hz⟩, ?_⟩
  have hw0 := (Zr_wz hz).1
  replace hz := Zr_s hz
  refine pc_3_init_132_b hz (fun hz => ?_)
  refine wLet_r ?_
  replace hz := Zr_uR (a := 1) (k := 13) (v := 132) hz (Nat.le_of_ble_eq_true rfl)
  refine wLet_r ?_
  replace hz := Zr_uI (a := 1) (k := 14) (v := 0) hz (Nat.le_of_ble_eq_true rfl)
  refine wLet_r ?_
  replace hz := Zr_uI (a := 1) (k := 15) (v := (-1)) hz (Nat.le_of_ble_eq_true rfl)
  refine wLet_r ?_
  replace hz := Zr_uI (a := 1) (k := 16) (v := 1) hz (Nat.le_of_ble_eq_true rfl)
  refine ⟨⟨rfl, Zr_wz hz⟩, ?_⟩
  have hw0 := (Zr_wz hz).1
  replace hz := Zr_s hz
  refine ⟨rfl, ?_⟩
  refine ⟨rfl, ?_⟩
  refine pc_6_init_141_b hz (fun hz => ?_)
  refine wLet_r ?_
  replace hz := Zr_uR (a := 1) (k := 8) (v := 141) hz (Nat.le_of_ble_eq_true rfl)
  refine ⟨⟨rfl, Zr_wz hz⟩, ?_⟩
  have hw0 := (Zr_wz hz).1
  replace hz := Zr_s hz
  refine ⟨rfl, ?_⟩
  refine ⟨rfl, ?_⟩
  refine ⟨rfl, ?_⟩
  refine pc_1_init_146_b hz (fun hz => ?_)
  refine wLet_r ?_
  replace hz := Zr_uR (a := 1) (k := 9) (v := 146) hz (Nat.le_of_ble_eq_true rfl)
  refine ⟨⟨rfl, Zr_wz hz⟩, ?_⟩
  have hw0 := (Zr_wz hz).1
  replace hz := Zr_s hz
  refine ⟨rfl, ?_⟩
  refine ⟨rfl, ?_⟩
  refine pc_0_init_150_b hz (fun hz => ?_)
  refine wLet_r ?_
  replace hz := Zr_uR (a := 1) (k := 10) (v := 150) hz (Nat.le_of_ble_eq_true rfl)
  refine ⟨⟨rfl, Zr_wz hz⟩, ?_⟩
  have hw0 := (Zr_wz hz).1
  replace hz := Zr_s hz
  refine ⟨rfl, ?_⟩
  refine ⟨rfl, ?_⟩
  refine pc_2_init_151_b hz (fun hz => ?_)
  refine wLet_r ?_
  replace hz := Zr_uR (a := 1) (k := 11) (v := 151) hz (Nat.le_of_ble_eq_true rfl)
  refine ⟨rfl, ?_⟩
  refine ⟨rfl, ?_⟩
  refine pe_begin (s := 7) (l := 123) isSt_7 isLd_123 ⟨rfl, rfl, rfl, rfl⟩ ?_
  replace hz := finB_z (s := 7) (l := 123) hz (Nat.le_of_ble_eq_true rfl) (Nat.le_of_ble_eq_true rfl)
  exact hq hz
def pc_12_init_159_J (J : mI) : mI := (up (up J 159 7 0) 159 54 1)
def pc_12_init_159_I (I : mI) : mI := (up (up (up (up (up (up (up (up (up (up (up (up (up (up (up (up (up (up (up (up (up (up (up (up (up (up (up (up (up I 159 1 0) 159 2 0) 159 3 0) 159 4 0) 159 5 0) 159 6 0) 159 8 0) 159 9 (-1)) 159 10 0) 159 11 (-1)) 159 12 (-1)) 159 13 0) 159 31 0) 159 32 1) 159 33 0) 159 39 0) 159 40 0) 159 42 0) 159 43 0) 159 52 0) 159 53 0) 159 62 0) 159 68 0) 173 0 (-1)) 173 1 (-1)) 173 2 (-1)) 173 3 (-1)) 173 4 (-1)) 173 5 (-1))
def pc_12_init_159_R (R : mR) : mR := (up (up (up (up (up (up (up (up (up (up (up (up (up (up (up (up (up (up (up (up (up (up (up (up (up (up (up (up (up (up (up (up (up (up (up (up (up (up (up (up (up (up (up (up R 159 0 160) 159 14 161) 159 15 162) 159 16 163) 159 17 164) 159 18 165) 159 19 166) 159 20 167) 159 21 168) 159 22 169) 159 23 170) 159 24 171) 159 25 172) 159 26 173) 159 27 174) 159 28 175) 159 29 176) 159 30 177) 159 34 178) 159 35 179) 159 36 180) 159 37 181) 159 38 182) 159 41 183) 159 44 184) 159 45 185) 159 46 186) 159 47 187) 159 48 188) 159 49 189) 159 50 190) 159 51 191) 159 55 192) 159 56 193) 159 57 194) 159 58 195) 159 59 196) 159 60 197) 159 61 198) 159 63 199) 159 64 200) 159 65 201) 159 66 202) 159 67 203)
set_option maxRecDepth 20000 in
theorem pc_12_init_159_b {I J : mI} {R : mR} {Q : wPc} (hz : Zr 159 I J R) (hq : Zr 203 (pc_12_init_159_I I) (pc_12_init_159_J J) (pc_12_init_159_R R) → Q 203 (pc_12_init_159_I I) (pc_12_init_159_J J) (pc_12_init_159_R R)) : PC12_init 159 159 I J R Q := by
  unfold PC12_init
  refine ⟨⟨rfl, rfl, Zr_wz hz⟩, ?_⟩
  have hw0 := (Zr_wz hz).1
  replace hz := Zr_s hz
  refine wLet_r ?_
  replace hz := Zr_uR (a := 159) (k := 0) (v := 160) hz (Nat.le_of_ble_eq_true rfl)
  refine wLet_r ?_
  replace hz := Zr_uI (a := 159) (k := 1) (v := 0) hz (Nat.le_of_ble_eq_true rfl)
  refine wLet_r ?_
  replace hz := Zr_uI (a := 159) (k := 2) (v := 0) hz (Nat.le_of_ble_eq_true rfl)
  refine wLet_r ?_
  replace hz := Zr_uI (a := 159) (k := 3) (v := 0) hz (Nat.le_of_ble_eq_true rfl)
  refine wLet_r ?_
  replace hz := Zr_uI (a := 159) (k := 4) (v := 0) hz (Nat.le_of_ble_eq_true rfl)
  refine wLet_r ?_
  replace hz := Zr_uI (a := 159) (k := 5) (v := 0) hz (Nat.le_of_ble_eq_true rfl)
  refine wLet_r ?_
  replace hz := Zr_uI (a := 159) (k := 6) (v := 0) hz (Nat.le_of_ble_eq_true rfl)
  refine wLet_r ?_
  replace hz := Zr_uJ (a := 159) (k := 7) (v := 0) hz (Nat.le_of_ble_eq_true rfl)
  refine wLet_r ?_
  replace hz := Zr_uI (a := 159) (k := 8) (v := 0) hz (Nat.le_of_ble_eq_true rfl)
  refine wLet_r ?_
  replace hz := Zr_uI (a := 159) (k := 9) (v := (-1)) hz (Nat.le_of_ble_eq_true rfl)
  refine wLet_r ?_
  replace hz := Zr_uI (a := 159) (k := 10) (v := 0) hz (Nat.le_of_ble_eq_true rfl)
  refine wLet_r ?_
  replace hz := Zr_uI (a := 159) (k := 11) (v := (-1)) hz (Nat.le_of_ble_eq_true rfl)
  refine wLet_r ?_
  replace hz := Zr_uI (a := 159) (k := 12) (v := (-1)) hz (Nat.le_of_ble_eq_true rfl)
  refine wLet_r ?_
  replace hz := Zr_uI (a := 159) (k := 13) (v := 0) hz (Nat.le_of_ble_eq_true rfl)
  refine ⟨⟨rfl, rfl, Zr_wz hz⟩, ?_⟩
  have hw0 := (Zr_wz hz).1
  replace hz := Zr_s hz
  refine wLet_r ?_
  replace hz := Zr_uR (a := 159) (k := 14) (v := 161) hz (Nat.le_of_ble_eq_true rfl)
  refine ⟨⟨rfl, rfl, Zr_wz hz⟩, ?_⟩
  have hw0 := (Zr_wz hz).1
  replace hz := Zr_s hz
  refine wLet_r ?_
  replace hz := Zr_uR (a := 159) (k := 15) (v := 162) hz (Nat.le_of_ble_eq_true rfl)
  refine ⟨⟨rfl, rfl, Zr_wz hz⟩, ?_⟩
  have hw0 := (Zr_wz hz).1
  replace hz := Zr_s hz
  refine wLet_r ?_
  replace hz := Zr_uR (a := 159) (k := 16) (v := 163) hz (Nat.le_of_ble_eq_true rfl)
  refine ⟨⟨rfl, rfl, Zr_wz hz⟩, ?_⟩
  have hw0 := (Zr_wz hz).1
  replace hz := Zr_s hz
  refine wLet_r ?_
  replace hz := Zr_uR (a := 159) (k := 17) (v := 164) hz (Nat.le_of_ble_eq_true rfl)
  refine ⟨⟨rfl, rfl, Zr_wz hz⟩, ?_⟩
  have hw0 := (Zr_wz hz).1
  replace hz := Zr_s hz
  refine wLet_r ?_
  replace hz := Zr_uR (a := 159) (k := 18) (v := 165) hz (Nat.le_of_ble_eq_true rfl)
  refine ⟨⟨rfl, rfl, Zr_wz hz⟩, ?_⟩
  have hw0 := (Zr_wz hz).1
  replace hz := Zr_s hz
  refine wLet_r ?_
  replace hz := Zr_uR (a := 159) (k := 19) (v := 166) hz (Nat.le_of_ble_eq_true rfl)
  refine ⟨⟨rfl, rfl, Zr_wz hz⟩, ?_⟩
  have hw0 := (Zr_wz hz).1
  replace hz := Zr_s hz
  refine wLet_r ?_
  replace hz := Zr_uR (a := 159) (k := 20) (v := 167) hz (Nat.le_of_ble_eq_true rfl)
  refine ⟨⟨rfl, rfl, Zr_wz hz⟩, ?_⟩
  have hw0 := (Zr_wz hz).1
  replace hz := Zr_s hz
  refine wLet_r ?_
  replace hz := Zr_uR (a := 159) (k := 21) (v := 168) hz (Nat.le_of_ble_eq_true rfl)
  refine ⟨⟨rfl, rfl, Zr_wz hz⟩, ?_⟩
  have hw0 := (Zr_wz hz).1
  replace hz := Zr_s hz
  refine wLet_r ?_
  replace hz := Zr_uR (a := 159) (k := 22) (v := 169) hz (Nat.le_of_ble_eq_true rfl)
  refine ⟨⟨rfl, rfl, Zr_wz hz⟩, ?_⟩
  have hw0 := (Zr_wz hz).1
  replace hz := Zr_s hz
  refine wLet_r ?_
  replace hz := Zr_uR (a := 159) (k := 23) (v := 170) hz (Nat.le_of_ble_eq_true rfl)
  refine ⟨⟨rfl, rfl, Zr_wz hz⟩, ?_⟩
  have hw0 := (Zr_wz hz).1
  replace hz := Zr_s hz
  refine wLet_r ?_
  replace hz := Zr_uR (a := 159) (k := 24) (v := 171) hz (Nat.le_of_ble_eq_true rfl)
  refine ⟨⟨rfl, rfl, Zr_wz hz⟩, ?_⟩
  have hw0 := (Zr_wz hz).1
  replace hz := Zr_s hz
  refine wLet_r ?_
  replace hz := Zr_uR (a := 159) (k := 25) (v := 172) hz (Nat.le_of_ble_eq_true rfl)
  refine ⟨⟨rfl, rfl, Zr_wz hz⟩, ?_⟩
  have hw0 := (Zr_wz hz).1
  replace hz := Zr_s hz
  refine wLet_r ?_
  replace hz := Zr_uR (a := 159) (k := 26) (v := 173) hz (Nat.le_of_ble_eq_true rfl)
  refine ⟨⟨rfl, rfl, Zr_wz hz⟩, ?_⟩
  have hw0 := (Zr_wz hz).1
  replace hz := Zr_s hz
  refine wLet_r ?_
  replace hz := Zr_uR (a := 159) (k := 27) (v := 174) hz (Nat.le_of_ble_eq_true rfl)
  refine ⟨⟨rfl, rfl, Zr_wz hz⟩, ?_⟩
  have hw0 := (Zr_wz hz).1
  replace hz := Zr_s hz
  refine wLet_r ?_
  replace hz := Zr_uR (a := 159) (k := 28) (v := 175) hz (Nat.le_of_ble_eq_true rfl)
  refine ⟨⟨rfl, rfl, Zr_wz hz⟩, ?_⟩
  have hw0 := (Zr_wz hz).1
  replace hz := Zr_s hz
  refine wLet_r ?_
  replace hz := Zr_uR (a := 159) (k := 29) (v := 176) hz (Nat.le_of_ble_eq_true rfl)
  refine ⟨⟨rfl, rfl, Zr_wz hz⟩, ?_⟩
  have hw0 := (Zr_wz hz).1
  replace hz := Zr_s hz
  refine wLet_r ?_
  replace hz := Zr_uR (a := 159) (k := 30) (v := 177) hz (Nat.le_of_ble_eq_true rfl)
  refine wLet_r ?_
  replace hz := Zr_uI (a := 159) (k := 31) (v := 0) hz (Nat.le_of_ble_eq_true rfl)
  refine wLet_r ?_
  replace hz := Zr_uI (a := 159) (k := 32) (v := 1) hz (Nat.le_of_ble_eq_true rfl)
  refine wLet_r ?_
  replace hz := Zr_uI (a := 159) (k := 33) (v := 0) hz (Nat.le_of_ble_eq_true rfl)
  refine ⟨⟨rfl, rfl, Zr_wz hz⟩, ?_⟩
  have hw0 := (Zr_wz hz).1
  replace hz := Zr_s hz
  refine wLet_r ?_
  replace hz := Zr_uR (a := 159) (k := 34) (v := 178) hz (Nat.le_of_ble_eq_true rfl)
  refine ⟨⟨rfl, rfl, Zr_wz hz⟩, ?_⟩
  have hw0 := (Zr_wz hz).1
  replace hz := Zr_s hz
  refine wLet_r ?_
  replace hz := Zr_uR (a := 159) (k := 35) (v := 179) hz (Nat.le_of_ble_eq_true rfl)
  refine ⟨⟨rfl, rfl, Zr_wz hz⟩, ?_⟩
  have hw0 := (Zr_wz hz).1
  replace hz := Zr_s hz
  refine wLet_r ?_
  replace hz := Zr_uR (a := 159) (k := 36) (v := 180) hz (Nat.le_of_ble_eq_true rfl)
  refine ⟨⟨rfl, rfl, Zr_wz hz⟩, ?_⟩
  have hw0 := (Zr_wz hz).1
  replace hz := Zr_s hz
  refine wLet_r ?_
  replace hz := Zr_uR (a := 159) (k := 37) (v := 181) hz (Nat.le_of_ble_eq_true rfl)
  refine ⟨⟨rfl, rfl, Zr_wz hz⟩, ?_⟩
  have hw0 := (Zr_wz hz).1
  replace hz := Zr_s hz
  refine wLet_r ?_
  replace hz := Zr_uR (a := 159) (k := 38) (v := 182) hz (Nat.le_of_ble_eq_true rfl)
  refine wLet_r ?_
  replace hz := Zr_uI (a := 159) (k := 39) (v := 0) hz (Nat.le_of_ble_eq_true rfl)
  refine wLet_r ?_
  replace hz := Zr_uI (a := 159) (k := 40) (v := 0) hz (Nat.le_of_ble_eq_true rfl)
  refine ⟨⟨rfl, rfl, Zr_wz hz⟩, ?_⟩
  have hw0 := (Zr_wz hz).1
  replace hz := Zr_s hz
  refine wLet_r ?_
  replace hz := Zr_uR (a := 159) (k := 41) (v := 183) hz (Nat.le_of_ble_eq_true rfl)
  refine wLet_r ?_
  replace hz := Zr_uI (a := 159) (k := 42) (v := 0) hz (Nat.le_of_ble_eq_true rfl)
  refine wLet_r ?_
  replace hz := Zr_uI (a := 159) (k := 43) (v := 0) hz (Nat.le_of_ble_eq_true rfl)
  refine ⟨⟨rfl, rfl, Zr_wz hz⟩, ?_⟩
  have hw0 := (Zr_wz hz).1
  replace hz := Zr_s hz
  refine wLet_r ?_
  replace hz := Zr_uR (a := 159) (k := 44) (v := 184) hz (Nat.le_of_ble_eq_true rfl)
  refine ⟨⟨rfl, rfl, Zr_wz hz⟩, ?_⟩
  have hw0 := (Zr_wz hz).1
  replace hz := Zr_s hz
  refine wLet_r ?_
  replace hz := Zr_uR (a := 159) (k := 45) (v := 185) hz (Nat.le_of_ble_eq_true rfl)
  refine ⟨⟨rfl, rfl, Zr_wz hz⟩, ?_⟩
  have hw0 := (Zr_wz hz).1
  replace hz := Zr_s hz
  refine wLet_r ?_
  replace hz := Zr_uR (a := 159) (k := 46) (v := 186) hz (Nat.le_of_ble_eq_true rfl)
  refine ⟨⟨rfl, rfl, Zr_wz hz⟩, ?_⟩
  have hw0 := (Zr_wz hz).1
  replace hz := Zr_s hz
  refine wLet_r ?_
  replace hz := Zr_uR (a := 159) (k := 47) (v := 187) hz (Nat.le_of_ble_eq_true rfl)
  refine ⟨⟨rfl, rfl, Zr_wz hz⟩, ?_⟩
  have hw0 := (Zr_wz hz).1
  replace hz := Zr_s hz
  refine wLet_r ?_
  replace hz := Zr_uR (a := 159) (k := 48) (v := 188) hz (Nat.le_of_ble_eq_true rfl)
  refine ⟨⟨rfl, rfl, Zr_wz hz⟩, ?_⟩
  have hw0 := (Zr_wz hz).1
  replace hz := Zr_s hz
  refine wLet_r ?_
  replace hz := Zr_uR (a := 159) (k := 49) (v := 189) hz (Nat.le_of_ble_eq_true rfl)
  refine ⟨⟨rfl, rfl, Zr_wz hz⟩, ?_⟩
  have hw0 := (Zr_wz hz).1
  replace hz := Zr_s hz
  refine wLet_r ?_
  replace hz := Zr_uR (a := 159) (k := 50) (v := 190) hz (Nat.le_of_ble_eq_true rfl)
  refine ⟨⟨rfl, rfl, Zr_wz hz⟩, ?_⟩
  have hw0 := (Zr_wz hz).1
  replace hz := Zr_s hz
  refine wLet_r ?_
  replace hz := Zr_uR (a := 159) (k := 51) (v := 191) hz (Nat.le_of_ble_eq_true rfl)
  refine wLet_r ?_
  replace hz := Zr_uI (a := 159) (k := 52) (v := 0) hz (Nat.le_of_ble_eq_true rfl)
  refine wLet_r ?_
  replace hz := Zr_uI (a := 159) (k := 53) (v := 0) hz (Nat.le_of_ble_eq_true rfl)
  refine wLet_r ?_
  replace hz := Zr_uJ (a := 159) (k := 54) (v := 1) hz (Nat.le_of_ble_eq_true rfl)
  refine ⟨⟨rfl, rfl, Zr_wz hz⟩, ?_⟩
  have hw0 := (Zr_wz hz).1
  replace hz := Zr_s hz
  refine wLet_r ?_
  replace hz := Zr_uR (a := 159) (k := 55) (v := 192) hz (Nat.le_of_ble_eq_true rfl)
  refine ⟨⟨rfl, rfl, Zr_wz hz⟩, ?_⟩
  have hw0 := (Zr_wz hz).1
  replace hz := Zr_s hz
  refine wLet_r ?_
  replace hz := Zr_uR (a := 159) (k := 56) (v := 193) hz (Nat.le_of_ble_eq_true rfl)
  refine ⟨⟨rfl, rfl, Zr_wz hz⟩, ?_⟩
  have hw0 := (Zr_wz hz).1
  replace hz := Zr_s hz
  refine wLet_r ?_
  replace hz := Zr_uR (a := 159) (k := 57) (v := 194) hz (Nat.le_of_ble_eq_true rfl)
  refine ⟨⟨rfl, rfl, Zr_wz hz⟩, ?_⟩
  have hw0 := (Zr_wz hz).1
  replace hz := Zr_s hz
  refine wLet_r ?_
  replace hz := Zr_uR (a := 159) (k := 58) (v := 195) hz (Nat.le_of_ble_eq_true rfl)
  refine ⟨⟨rfl, rfl, Zr_wz hz⟩, ?_⟩
  have hw0 := (Zr_wz hz).1
  replace hz := Zr_s hz
  refine wLet_r ?_
  replace hz := Zr_uR (a := 159) (k := 59) (v := 196) hz (Nat.le_of_ble_eq_true rfl)
  refine ⟨⟨rfl, rfl, Zr_wz hz⟩, ?_⟩
  have hw0 := (Zr_wz hz).1
  replace hz := Zr_s hz
  refine wLet_r ?_
  replace hz := Zr_uR (a := 159) (k := 60) (v := 197) hz (Nat.le_of_ble_eq_true rfl)
  refine ⟨⟨rfl, rfl, Zr_wz hz⟩, ?_⟩
  have hw0 := (Zr_wz hz).1
  replace hz := Zr_s hz
  refine wLet_r ?_
  replace hz := Zr_uR (a := 159) (k := 61) (v := 198) hz (Nat.le_of_ble_eq_true rfl)
  refine wLet_r ?_
  replace hz := Zr_uI (a := 159) (k := 62) (v := 0) hz (Nat.le_of_ble_eq_true rfl)
  refine ⟨⟨rfl, rfl, Zr_wz hz⟩, ?_⟩
  have hw0 := (Zr_wz hz).1
  replace hz := Zr_s hz
  refine wLet_r ?_
  replace hz := Zr_uR (a := 159) (k := 63) (v := 199) hz (Nat.le_of_ble_eq_true rfl)
  refine ⟨⟨rfl, rfl, Zr_wz hz⟩, ?_⟩
  have hw0 := (Zr_wz hz).1
  replace hz := Zr_s hz
  refine wLet_r ?_
  replace hz := Zr_uR (a := 159) (k := 64) (v := 200) hz (Nat.le_of_ble_eq_true rfl)
  refine ⟨⟨rfl, rfl, Zr_wz hz⟩, ?_⟩
  have hw0 := (Zr_wz hz).1
  replace hz := Zr_s hz
  refine wLet_r ?_
  replace hz := Zr_uR (a := 159) (k := 65) (v := 201) hz (Nat.le_of_ble_eq_true rfl)
  refine ⟨⟨rfl, rfl, Zr_wz hz⟩, ?_⟩
  have hw0 := (Zr_wz hz).1
  replace hz := Zr_s hz
  refine wLet_r ?_
  replace hz := Zr_uR (a := 159) (k := 66) (v := 202) hz (Nat.le_of_ble_eq_true rfl)
  refine ⟨⟨rfl, rfl, Zr_wz hz⟩, ?_⟩
  have hw0 := (Zr_wz hz).1
  replace hz := Zr_s hz
  refine wLet_r ?_
  replace hz := Zr_uR (a := 159) (k := 67) (v := 203) hz (Nat.le_of_ble_eq_true rfl)
  refine wLet_r ?_
  replace hz := Zr_uI (a := 159) (k := 68) (v := 0) hz (Nat.le_of_ble_eq_true rfl)
  refine ⟨rfl, ?_⟩
  refine ⟨show (0 : Int) ≤ 0 ∧ (0 : Int) < ((kN 173 : Nat) : Int) by decide, ?_⟩
  refine wLet_r ?_
  replace hz := Zr_uI (a := 173) (k := 0) (v := (-1)) hz (Nat.le_of_ble_eq_true rfl)
  refine ⟨rfl, ?_⟩
  refine ⟨show (0 : Int) ≤ 1 ∧ (1 : Int) < ((kN 173 : Nat) : Int) by decide, ?_⟩
  refine wLet_r ?_
  replace hz := Zr_uI (a := 173) (k := 1) (v := (-1)) hz (Nat.le_of_ble_eq_true rfl)
  refine ⟨rfl, ?_⟩
  refine ⟨show (0 : Int) ≤ 2 ∧ (2 : Int) < ((kN 173 : Nat) : Int) by decide, ?_⟩
  refine wLet_r ?_
  replace hz := Zr_uI (a := 173) (k := 2) (v := (-1)) hz (Nat.le_of_ble_eq_true rfl)
  refine ⟨rfl, ?_⟩
  refine ⟨show (0 : Int) ≤ 3 ∧ (3 : Int) < ((kN 173 : Nat) : Int) by decide, ?_⟩
  refine wLet_r ?_
  replace hz := Zr_uI (a := 173) (k := 3) (v := (-1)) hz (Nat.le_of_ble_eq_true rfl)
  refine ⟨rfl, ?_⟩
  refine ⟨show (0 : Int) ≤ 4 ∧ (4 : Int) < ((kN 173 : Nat) : Int) by decide, ?_⟩
  refine wLet_r ?_
  replace hz := Zr_uI (a := 173) (k := 4) (v := (-1)) hz (Nat.le_of_ble_eq_true rfl)
  refine ⟨rfl, ?_⟩
  refine ⟨show (0 : Int) ≤ 5 ∧ (5 : Int) < ((kN 173 : Nat) : Int) by decide, ?_⟩
  refine wLet_r ?_
  replace hz := Zr_uI (a := 173) (k := 5) (v := (-1)) hz (Nat.le_of_ble_eq_true rfl)
  exact hq hz
