/-! The start comes down to the law's loop over the made memory -/
def zI : mI := fun _ _ => 0
def zR : mR := fun _ _ => 0
theorem Zr0 (n : Nat) : Zr n zI zI zR := fun _ _ => ⟨fun _ => rfl, fun _ => rfl, fun _ => rfl⟩
def sI : mI := pc_12_init_159_I (pc_11_init_1_I zI)
def sJ : mI := pc_12_init_159_J zI
def sR : mR := pc_12_init_159_R (pc_11_init_1_R zR)
theorem pstart_of {L : Nat} {X : Int → Int} (h : RF sR ∧ ∃ f, plaw L X f 0 sI sJ sR) : PStart L X := by
  unfold PStart
  refine ⟨⟨rfl, Zr_wz (Zr0 0)⟩, ?_⟩
  refine pc_11_init_1_b (Zr0 1) (fun hz => ⟨rfl, ⟨rfl, Zr_wz hz⟩, ?_⟩)
  exact pc_12_init_159_b (Zr_s hz) (fun _ => h)
