/-! ===== TALE as a call: the whole ===== -/
theorem wI {x : Int} (h : I32 x) : w32 x = x := nw h
/-- the call's copies -/
theorem tale_start {k : Nat} {M : MM} (hI : Inv k M) : ∃ C0, (∀ K : MM → OR, (bV (land_copyFrom 29 3 M) fun M_2 => bV (jny_copyFrom 49 23 M_2) K) = K C0) ∧ (∀ p, (p < 29 ∨ 54 < p) → C0 p = M p) ∧ LandR 29 (M 166) C0 ∧ JnyR 49 (M 166) C0 := by
  obtain ⟨i1, i2, i3, i4, i5, i6, i7, i8, i9, i10⟩ := hI
  obtain ⟨Ma, e1, a1, a2, a3, a4, a5, a6, aF⟩ := land_copy_v (M := M) (a := 29) (b := 3) (by omega)
  obtain ⟨Mc, e3, c1, c2, c3, c4, cF⟩ := jny_copy_v (M := Ma) (a := 49) (b := 23) (by omega)
  refine ⟨Mc, fun K => by rw [e1, bV_V, e3, bV_V], fun p hp => by rw [cF p (by omega), aF p (by omega)], ?_, ?_⟩
  · refine LandR_fr (M := Ma) (fun j hj => cF _ (by omega)) (LandR_cp (b := 3) (M := M) i2.1 a1 a2 a3 a4 a5 a6 i3)
  · refine JnyR_cp (b := 23) (M := M) i2.1 ?_ ?_ ?_ ?_ i4
    · intro j hj
      rw [c1 j hj, aF 23 (by decide)]
    · intro j hj
      rw [c2 j hj, aF 24 (by decide)]
    · intro j hj
      rw [c3 j hj, aF 25 (by decide)]
    · intro j hj
      obtain ⟨x1, x2, x3⟩ := c4 j hj
      rw [x1, x2, x3, aF 26 (by decide), aF 27 (by decide), aF 28 (by decide)]
      exact ⟨rfl, rfl, rfl⟩
/-- the call's copies back -/
theorem tale_keep {X : MM} {k : Nat} : ∃ C1, (∀ K : MM → OR, (bV (land_copyFrom 3 29 X) fun M_13 => (bV (jny_copyFrom 23 49 M_13) fun M_16 => (bV (gh_forgetActs M_16) K))) = K C1) ∧ (∀ p, p ≠ 0 → p ≠ 83 → (p < 3 ∨ 28 < p) → C1 p = X p) ∧ (∀ j, 14 ≤ j → j < 20 → C1 (3 + j) = X (3 + j)) ∧ (C1 83 0 = 0 ∧ ∀ j, j ≠ 0 → C1 83 j = X 83 j) ∧ (C1 0 18 = X 0 18 + 1 ∧ ∀ j, j ≠ 18 → C1 0 j = X 0 j) ∧ ∀ {w : Nat → Int}, WC k w → LandR 29 w X → JnyR 49 w X → LandR 3 w C1 ∧ JnyR 23 w C1 := by
  obtain ⟨Ma, e1, a1, a2, a3, a4, a5, a6, aF⟩ := land_copy_v (M := X) (a := 3) (b := 29) (by omega)
  obtain ⟨Mc, e3, c1, c2, c3, c4, cF⟩ := jny_copy_v (M := Ma) (a := 23) (b := 49) (by omega)
  obtain ⟨C1, hC⟩ : ∃ C1, C1 = mU (mU Mc 83 0 0) 0 18 (X 0 18 + 1) := ⟨_, rfl⟩
  have g : ∀ p, p ≠ 0 → p ≠ 83 → C1 p = Mc p := fun p h0 h1 => by rw [hC, mU_ne h0, mU_ne h1]
  have g83 : C1 83 = up (X 83) 0 0 := by rw [hC, mU_ne (by decide), mU_eq, cF 83 (by decide), aF 83 (by decide)]
  have g0 : C1 0 = up (X 0) 18 (X 0 18 + 1) := by rw [hC, mU_eq, mU_ne (by decide), cF 0 (by decide), aF 0 (by decide)]
  refine ⟨C1, fun K => ?_, fun p h0 h1 h2 => by rw [g p h0 h1, cF p (by omega), aF p (by omega)], fun j h1 h2 => by rw [g _ (by omega) (by omega), cF _ (by omega), aF _ (by omega)], ⟨by rw [g83, up_eq], fun j hj => by rw [g83, up_ne hj]⟩, ⟨by rw [g0, up_eq], fun j hj => by rw [g0, up_ne hj]⟩, fun {w} hW hL hJ => ⟨?_, ?_⟩⟩
  · have e4 : gh_forgetActs Mc = some (rV, C1) := by
      unfold gh_forgetActs
      rw [sM_eq, sM_eq, mU_ne (by decide), cF 0 (by decide), aF 0 (by decide), hC]
    rw [e1, bV_V, e3, bV_V, e4, bV_V]
  · refine LandR_fr (M := Ma) (fun j hj => by rw [g _ (by omega) (by omega), cF _ (by omega)]) (LandR_cp (b := 29) (M := X) hW a1 a2 a3 a4 a5 a6 hL)
  · refine JnyR_fr (M := Mc) (fun j hj => g _ (by omega) (by omega)) (JnyR_cp (b := 49) (M := X) hW ?_ ?_ ?_ ?_ hJ)
    · intro j hj
      rw [c1 j hj, aF 49 (by decide)]
    · intro j hj
      rw [c2 j hj, aF 50 (by decide)]
    · intro j hj
      rw [c3 j hj, aF 51 (by decide)]
    · intro j hj
      obtain ⟨x1, x2, x3⟩ := c4 j hj
      rw [x1, x2, x3, aF 52 (by decide), aF 53 (by decide), aF 54 (by decide)]
      exact ⟨rfl, rfl, rfl⟩
/-- the reference's call, whatever the text -/
theorem tale_r {M1 : MM} {n : Nat} {T : Nat → Int} (h8 : M1 165 8 = (n : Int)) (hT : TN T n (usN (keepW M1) n)) : mo_tale M1 = bI (readR 1 (nT (usN (keepW M1) n) 0 0)) fun z_8 M_7 => (bif cmpB .ge z_8 0 then (mo_tale_J46 z_8 (-1) M_7) else (mo_tale_J46 z_8 (M_7 165 11) M_7)) := by
  have h8' : keepW M1 165 8 = (n : Int) := by rw [keep_ne (by decide)]; exact h8
  unfold mo_tale
  rw [taleL2_v]
  show bI (mo_readAll 1 (keepW M1)) _ = _
  rw [readAll_b hT h8']
theorem J46_bad {X : MM} {s : Int} : mo_tale_J46 (-1) s X = mo_tale_J90 (mU (mU X 165 13 s) 165 0 1) := by
  unfold mo_tale_J46 mo_tale_J59
  rw [sM_eq, bq_ge (by decide) (by decide), if_neg (by decide), throws_v (Or.inr rfl), bq_ne (by decide) (by decide), if_neg (by decide), if_neg (by decide)]
theorem J46_ok {X : MM} {j : Nat} {s : Int} (hj : j ≤ 20) (h4 : 0 ≤ X 166 4 ∧ X 166 4 ≤ 12) : mo_tale_J46 (j : Int) s X = if X 166 4 = 12 then mo_tale_J90 (mU (mU X 165 13 s) 165 0 2) else some (rI (X 166 4 + 1), mU (mU (mU X 165 13 s) 166 4 (X 166 4 + 1)) 165 6 0) := by
  unfold mo_tale_J46 mo_tale_J59
  have e4 : (mU X 165 13 s) 166 4 = X 166 4 := by rw [mU_ne (by decide)]
  rw [sM_eq, bq_ge (by omega) (by decide), if_pos (by omega), throws_v (Or.inl rfl), bq_ne (by decide) (by decide), if_pos rfl, if_pos rfl, bq_in (by decide) (by decide), e4, bq_ne (by omega) (by decide)]
  unfold mo_tale_J83
  by_cases h : X 166 4 = 12
  · rw [if_pos h, if_pos h, throws_v (Or.inr rfl), bq_eq (by decide) (by decide), if_neg (by decide), if_neg (by decide)]
  · rw [if_neg h, if_neg h, throws_v (Or.inl rfl), bq_eq (by decide) (by decide), if_pos rfl, if_pos rfl, bq_in (by decide) (by decide), bq_in (by decide) (by decide), sM_eq, sM_eq, bq_in (by decide) (by decide), e4]
    refine congrArg (fun x => some (rI x, _)) ?_
    rw [mU_ne (by decide), mU_eq, up_eq]
