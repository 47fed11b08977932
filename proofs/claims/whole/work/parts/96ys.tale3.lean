/-! ===== TALE as a call: both sides ===== -/
def TxM (n k : Nat) (C N : MM) (zx : Int) (X : MM) (Y : OR) : Prop := ((X 1 1 = 0) ∧ ∀ a, a ≠ 1 → (a < 29 ∨ 54 < a) → X a = C a) ∧ ((zx = 1 ∧ X 1 2 = -1 ∧ ∃ (N' : MM) (e' j : Nat), Y = some (rI ((j : Int)), nT N' n e') ∧ j ≤ 20 ∧ FrN N N' ∧ DrT k X N') ∨ (zx = 0 ∧ ∃ (q p : Nat) (N' : MM), X 1 2 = (q : Int) ∧ q ≤ n ∧ Y = some (rI (-1), nT N' p q) ∧ FrN N N'))
theorem TxM_of {n k : Nat} {C N : MM} {X Y : OR} (h : TxR n k C N X Y) : ∃ zx Mx, X = some (rI zx, Mx) ∧ TxM n k C N zx Mx Y := by
  rcases h with ⟨C', N', l', p', e', j, h1, h2, h3, h4, h5, h6⟩ | ⟨q, C', p', l', N', p'', h1, h2, h3, h4, h5⟩
  · obtain ⟨X', hX⟩ : ∃ X', X' = mU (tpT C' p' l' (-1)) 1 1 0 := ⟨_, rfl⟩
    have r : ∀ a, a ≠ 1 → X' a = C' a := fun a ha => by rw [hX, mU_ne ha, cT_ne ha]
    have r1 : X' 1 1 = 0 := by rw [hX]; rfl
    have r2 : X' 1 2 = -1 := by rw [hX]; rfl
    rw [← hX] at h1
    clear hX
    obtain ⟨d1, d2, d3⟩ := h6
    exact ⟨1, X', h1, ⟨r1, fun a h1 h2 => (r a h1).trans (h4 a h2)⟩, Or.inl ⟨rfl, r2, N', e', j, h2, h3, h5, LandR_fr (fun i hi => r _ (by omega)) d1, JnyR_fr (fun i hi => r _ (by omega)) d2, d3⟩⟩
  · obtain ⟨X', hX⟩ : ∃ X', X' = mU (tpT C' p' l' (q : Int)) 1 1 0 := ⟨_, rfl⟩
    have r : ∀ a, a ≠ 1 → X' a = C' a := fun a ha => by rw [hX, mU_ne ha, cT_ne ha]
    have r1 : X' 1 1 = 0 := by rw [hX]; rfl
    have r2 : X' 1 2 = (q : Int) := by rw [hX]; rfl
    rw [← hX] at h1
    clear hX
    exact ⟨0, X', h1, ⟨r1, fun a h1 h2 => (r a h1).trans (h3 a h2)⟩, Or.inr ⟨rfl, q, p'', N', r2, h5, h2, h4⟩⟩
theorem fail_inv {k : Nat} {M M1 M2 : MM} (hI : Inv k M) (f1 : ∀ a, a ≠ 1 → a ≠ 999 → (a < 29 ∨ 54 < a) → M1 a = M a) (m999 : M1 999 0 = M 999 0 + 1) (h11 : M1 1 1 = 0) (g : ∀ a, a ≠ 165 → a ≠ 166 → a ≠ 168 → M2 a = M1 a) (g166 : M2 166 = M1 166) (h5 : M2 165 5 = M1 165 5 ∧ M2 165 6 = M1 165 6) (h8 : M2 165 8 = 0) (h13 : M2 165 13 = M1 1 2) (hr : -1 ≤ M1 1 2 ∧ M1 1 2 ≤ 400) : Inv (k + 1) M2 := by
  have hx := hI.2.2.2.2.2.2.2.2.1
  have e0 : M2 0 = M 0 := (g 0 (by decide) (by decide) (by decide)).trans (f1 0 (by decide) (by decide) (by decide))
  have e1 : M2 1 = M1 1 := g 1 (by decide) (by decide) (by decide)
  have e165 : M1 165 = M 165 := f1 165 (by decide) (by decide) (by decide)
  refine Inv_coreT hI ⟨fun a ha a2 a7 => ?_, by rw [h5.1, h5.2, e165]; exact ⟨rfl, rfl⟩, by rw [e0]; exact ⟨rfl, rfl, rfl⟩⟩ ⟨0, by rw [e1]; exact h11, h8, by decide, by rw [e1]; exact h13.symm, by rw [e1]; exact hr, fun j hj => absurd hj (by omega)⟩ (by omega) (by rw [g 999 (by decide) (by decide) (by decide), m999]; omega) (by rw [g 999 (by decide) (by decide) (by decide), m999]; omega)
  by_cases h : a = 166
  · subst h
    rw [g166]
    exact f1 166 (by decide) (by decide) (by decide)
  · unfold coreA at ha
    rw [g a (by omega) h (by omega)]
    exact f1 a (by omega) (by omega) (by omega)
theorem usN_ne {M : MM} {n a : Nat} (h : a ≠ 165) : usN M n a = M a := by
  unfold usN usM
  rw [mU_ne h, mU_ne h, mU_ne h, mU_ne h, mU_ne h]
theorem usN_j {M : MM} {n j : Nat} (h0 : j ≠ 0) (h8 : j ≠ 8) (h9 : j ≠ 9) (h10 : j ≠ 10) (h15 : j ≠ 15) : usN M n 165 j = M 165 j := by
  unfold usN usM
  rw [mU_eq, up_ne h15, mU_eq, up_ne h9, mU_eq, up_ne h8, mU_eq, up_ne h10, mU_eq, up_ne h0]
theorem keep_ne {M : MM} {a : Nat} (h : a ≠ 168) : keepW M a = M a := flM_ne h
theorem keep_j {M : MM} {j : Nat} (h : j < 1115) : keepW M 168 j = M 166 j := by
  unfold keepW
  rw [flM_ap, if_pos (by omega), Nat.sub_zero]
theorem fail_mem {M1 N' : MM} {n p e : Nat} {q c : Int} (hF : FrN (usN (keepW M1) n) N') : ∃ M2, M2 = flM (mU (mU (nT N' p e) 165 13 q) 165 0 c) 166 0 (0 + 1115) ((mU (mU (nT N' p e) 165 13 q) 165 0 c) 168) ∧ M2 165 0 = c ∧ (M2 165 5 = M1 165 5 ∧ M2 165 6 = M1 165 6) ∧ M2 165 8 = 0 ∧ M2 165 13 = q ∧ M2 166 = M1 166 ∧ ∀ a, a ≠ 165 → a ≠ 166 → a ≠ 168 → M2 a = M1 a := by
  obtain ⟨M2, h⟩ : ∃ M2, M2 = flM (mU (mU (nT N' p e) 165 13 q) 165 0 c) 166 0 (0 + 1115) ((mU (mU (nT N' p e) 165 13 q) 165 0 c) 168) := ⟨_, rfl⟩
  obtain ⟨f1, f2, f3⟩ := hF
  have r165 : ∀ j, j ≠ 0 → j ≠ 13 → j ≠ 9 → j ≠ 11 → M2 165 j = usN (keepW M1) n 165 j := fun j h0 h13 h9 h11 => by
    rw [h, flM_ne (by decide), mU_eq, up_ne h0, mU_eq, up_ne h13, nT_j h9 h11, f1 165 (by decide)]
  refine ⟨M2, h, ?_, ⟨?_, ?_⟩, ?_, ?_, ?_, fun a h1 h2 h3 => ?_⟩
  · rw [h, flM_ne (by decide), mU_eq, up_eq]
  · rw [r165 5 (by decide) (by decide) (by decide) (by decide), usN_j (by decide) (by decide) (by decide) (by decide) (by decide), keep_ne (by decide)]
  · rw [r165 6 (by decide) (by decide) (by decide) (by decide), usN_j (by decide) (by decide) (by decide) (by decide) (by decide), keep_ne (by decide)]
  · rw [r165 8 (by decide) (by decide) (by decide) (by decide)]; rfl
  · rw [h, flM_ne (by decide), mU_eq, up_ne (by decide), mU_eq, up_eq]
  · funext j
    rw [h, flM_ap]
    by_cases hj : 0 ≤ j ∧ j < 0 + 1115
    · rw [if_pos hj, mU_ne (by decide), mU_ne (by decide), nT_ne (by decide), f1 168 (by decide), usN_ne (by decide), Nat.sub_zero, keep_j (by omega)]
    · rw [if_neg hj, mU_ne (by decide), mU_ne (by decide), nT_ne (by decide), f2 j (by omega), usN_ne (by decide), keep_ne (by decide)]
  · rw [h, flM_ne h2, mU_ne h1, mU_ne h1, nT_ne h1, f1 a h2, usN_ne h1, keep_ne h3]
