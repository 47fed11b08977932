/-! ===== THE BEGIN: what is kept holds before the first call ===== -/
def w0 : Nat → Int := fun k => if k = 8 then -1 else 0
theorem M0_166 : M0 166 = w0 := rfl
theorem w0_o {j : Nat} (h : j ≠ 8) : w0 j = 0 := if_neg h
theorem bset_0 {f : Nat → Bool} (n : Nat) (h : ∀ i, i < n → f i = false) : bset n f = 0 := by
  rw [bset_cg (f' := fun _ => false) n h]
  induction n with
  | zero => rfl
  | succ n ih =>
    have e := ih (fun i hi => h i (by omega))
    unfold bset
    rw [e]
    show (0 ||| 0 : Nat) = 0
    rfl
theorem inv_0 : Inv 0 M0 := by
  have z0 : w0 0 = 0 := w0_o (by decide)
  have z1 : w0 1 = 0 := w0_o (by decide)
  have z2 : w0 2 = 0 := w0_o (by decide)
  have z3 : w0 3 = 0 := w0_o (by decide)
  have z4 : w0 4 = 0 := w0_o (by decide)
  have z5 : w0 5 = 0 := w0_o (by decide)
  have z6 : w0 6 = 0 := w0_o (by decide)
  have z7 : w0 7 = 0 := w0_o (by decide)
  have z8 : w0 8 = -1 := rfl
  have z9 : w0 9 = 0 := w0_o (by decide)
  have kp : ∀ i, kpB w0 i = false := fun i => by unfold kpB; rw [z0, decide_eq_false (by omega), Bool.false_and]
  have tk : ∀ i, tkB w0 i = false := fun i => by unfold tkB; rw [z0, decide_eq_false (by omega), Bool.false_and]
  have pa : ∀ i, paB w0 i = false := fun i => by unfold paB; rw [z0, decide_eq_false (by omega), Bool.false_and]
  have sb : ∀ (y : Int) i, stB' w0 y i = false := fun y i => by unfold stB'; rw [z1, decide_eq_false (by omega), Bool.false_and]
  have fb : ∀ i, frB w0 i = false := fun i => by unfold frB; rw [z3, decide_eq_false (by omega), Bool.false_and]
  have c0 : cnt (paB w0) 10 = 0 := by
    rw [cnt_cg (g := fun _ => false) 10 fun i _ => pa i]
    decide
  refine ⟨⟨0, rfl, rfl, by decide, rfl, ⟨by decide, by decide⟩, fun j hj => absurd hj (by omega)⟩, ?_, ?_, ?_, Or.inl ⟨z5, rfl⟩, ⟨0, 0, rfl, rfl, rfl, by decide, by decide, fun j hj => absurd hj (by omega)⟩, Or.inl ⟨rfl, rfl⟩, ⟨Or.inl rfl, fun h => absurd rfl h⟩, ⟨by decide, by decide⟩, ⟨by decide, by decide⟩⟩
  · show WF 0 w0
    refine ⟨?_, fun i hi hi2 => ?_, fun i hi hi2 => ?_, fun i hi hi2 => ?_, fun i hi hi2 => ?_, ⟨fun i hi hi2 => ?_, fun i q hi hi2 => ?_⟩, ?_, fun i hi hi2 => ?_⟩
    · unfold WC
      rw [z0, z1, z2, z3, z4, z5, z6, z7, z8, z9]
      omega
    · rw [z0] at hi2; omega
    · rw [z1] at hi2; omega
    · rw [z2] at hi2; omega
    · rw [z3] at hi2; omega
    · rw [z0] at hi2; omega
    · rw [z0] at hi2; omega
    · rw [z9, c0]; rfl
    · rw [z9] at hi2; omega
  · show LandR 3 w0 M0
    refine ⟨⟨rfl, rfl, rfl, rfl, rfl⟩, ?_, ?_, fun i hi hi2 => ?_, fun i hi hi2 => ?_, fun i hi hi2 => ?_, fun i hi hi2 => ?_⟩
    · rw [bset_0 10 fun i _ => kp i]; rfl
    · rw [bset_0 10 fun i _ => tk i]; rfl
    · rw [z0] at hi2; omega
    · rw [z1] at hi2; omega
    · rw [z2] at hi2; omega
    · rw [z3] at hi2; omega
  · show JnyR 23 w0 M0
    refine ⟨⟨rfl, rfl, rfl, rfl⟩, ?_, ?_, ?_, ?_, ?_, fun i hi hi2 => ?_, fun i hi hi2 => ?_, fun i hi hi2 => ?_, fun i hi hi2 => ?_⟩
    · rw [bset_0 10 fun i _ => sb 2 i]; rfl
    · rw [bset_0 10 fun i _ => sb 3 i]; rfl
    · rw [bset_0 10 fun i _ => sb 1 i]; rfl
    · rw [bset_0 10 fun i _ => pa i]; rfl
    · rw [bset_0 7 fun i _ => fb i]; rfl
    · rw [z1] at hi2; omega
    · show (if i.toNat < 10 then (-1 : Int) else 0) = -1
      rw [if_pos (by omega)]
    · rw [z3] at hi2; omega
    · rw [z9] at hi2; omega
/-- what is read by numbers comes to its end with true -/
theorem whole_math (L : Nat) (f : Nat → Int) (hL : L ≤ 3072) (hf : ∀ j, -2147483648 ≤ f j ∧ f j < 2147483648) : ∃ M', drv_main (L, f) M0 = some (rI 1, M') := by
  have h := main_loop (Z := (L, f)) (I := Inv) hL (cases_all (Z := (L, f)) hL hf)
  obtain ⟨F, hF⟩ : ∃ F, FU = F + 1 + 512 := ⟨FU - 513, by have := FU_gt (n := 600) (by decide); omega⟩
  have := h 512 F 0 M0 inv_0 (by show L ≤ 6 * (0 + 512) + 5; omega) (by decide)
  unfold drv_main
  rw [hF]
  exact this
