/-! ===== ACTS REMEMBERED, UNDONE; THE IMAGE ===== -/
theorem RowOK_cg {k a : Nat} {r r' : Nat → Int} {M : MM} (h : ∀ j, j < 266 → r' j = r j) (H : RowOK k a r M) : RowOK k a r' M := ⟨WF_cg h H.1, LandR_cg H.1.1 h H.2.1, JnyR_cg H.1.1 h H.2.2.1, (h 5 (by decide)).trans H.2.2.2⟩
theorem rememberAct_v {M : MM} {rem nx : Nat} (h0 : M 83 0 = rem) (h1 : M 83 1 = nx) (hr : rem ≤ 12) (hn : nx < 12) : ∃ M1, gh_rememberAct M = some (rV, M1) ∧
    (∀ k, k < 9 → M1 (85 + 6 * nx) k = M 23 k) ∧ (∀ j, j < 10 → M1 (85 + 6 * nx + 1) j = M 24 j) ∧ (∀ j, j < 7 → M1 (85 + 6 * nx + 2) j = M 25 j) ∧ (∀ j, j < 10 → M1 (85 + 6 * nx + 3) j = M 26 j ∧ M1 (85 + 6 * nx + 4) j = M 27 j ∧ M1 (85 + 6 * nx + 5) j = M 28 j) ∧
    M1 83 0 = ((if rem < 12 then rem + 1 else 12 : Nat) : Int) ∧ M1 83 1 = (((nx + 1) % 12 : Nat) : Int) ∧ M1 0 18 = M 0 18 + 1 ∧ (∀ j, j ≠ 18 → M1 0 j = M 0 j) ∧ ∀ p, p ≠ 0 → p ≠ 83 → (p < 85 + 6 * nx ∨ 85 + 6 * nx + 5 < p) → M1 p = M p := by
  obtain ⟨Ma, e1, a1, a2, a3, a4, aF⟩ := jny_copy_v (M := M) (a := 85 + 6 * nx) (b := 23) (by omega)
  have f0 : Ma 0 = M 0 := aF 0 (by omega)
  have f83 : Ma 83 = M 83 := aF 83 (by omega)
  have en : (w32 ((nx : Int) + 1)).tmod (w32 12) = (((nx + 1) % 12 : Nat) : Int) := by
    rw [nw (by omega), nw (by decide), Int.tmod_eq_emod_of_nonneg (by omega)]; omega
  have em : imin ((rem : Int) + 1) 12 = ((if rem < 12 then rem + 1 else 12 : Nat) : Int) := by
    unfold imin
    rw [nw (by decide), nw (by omega)]
    split <;> split <;> omega
  refine ⟨mU (mU (mU Ma 83 1 (((nx + 1) % 12 : Nat) : Int)) 83 0 ((if rem < 12 then rem + 1 else 12 : Nat) : Int)) 0 18 (M 0 18 + 1), ?_, ?_, ?_, ?_, ?_, rfl, rfl, rfl, fun j hj => ?_, fun p h0 h1 h2 => ?_⟩
  · unfold gh_rememberAct memo_keep
    rw [h1, bq_in (by omega) (by omega), Int.toNat_natCast, e1, bV_V, sM_eq, f83, h1, en, sM_eq, show (mU Ma 83 1 (((nx + 1) % 12 : Nat) : Int)) 83 0 = (rem : Int) from by rw [mU_eq, up_ne (by decide), f83, h0], em, bV_V, sM_eq]
    rw [show (mU (mU Ma 83 1 (((nx + 1) % 12 : Nat) : Int)) 83 0 ((if rem < 12 then rem + 1 else 12 : Nat) : Int)) 0 18 = M 0 18 from by rw [mU_ne (by decide), mU_ne (by decide), f0]]
  · intro k hk
    rw [mU_ne (by omega), mU_ne (by omega), mU_ne (by omega)]; exact a1 k hk
  · intro k hk
    rw [mU_ne (by omega), mU_ne (by omega), mU_ne (by omega)]; exact a2 k hk
  · intro k hk
    rw [mU_ne (by omega), mU_ne (by omega), mU_ne (by omega)]; exact a3 k hk
  · intro k hk
    rw [mU_ne (by omega), mU_ne (by omega), mU_ne (by omega), mU_ne (by omega), mU_ne (by omega), mU_ne (by omega), mU_ne (by omega), mU_ne (by omega), mU_ne (by omega)]; exact a4 k hk
  · rw [mU_eq, up_ne hj, mU_ne (by decide), mU_ne (by decide), f0]
  · rw [mU_ne h0, mU_ne h1, mU_ne h1]; exact aF p h2
theorem remembers_v {N : MM} {rem : Nat} (h6 : N 165 6 = rem) (hr : rem ≤ 12) : ∃ N2, mo_remembers N = some (rV, N2) ∧ N2 165 6 = ((if rem < 12 then rem + 1 else 12 : Nat) : Int) ∧ (∀ j, j ≠ 6 → N2 165 j = N 165 j) ∧ (∀ p, p ≠ 165 → p ≠ 169 → N2 p = N p) ∧
    (rem < 12 → (∀ j k, j < rem → k < 266 → N2 169 (266 * j + k) = N 169 (266 * j + k)) ∧ ∀ k, k < 266 → N2 169 (266 * rem + k) = N 166 k) ∧
    (rem = 12 → (∀ j k, j < 11 → k < 266 → N2 169 (266 * j + k) = N 169 (266 * (j + 1) + k)) ∧ ∀ k, k < 266 → N2 169 (266 * 11 + k) = N 166 k) := by
  have run55 : ∀ (N1 : MM) (r : Nat), N1 165 6 = ((r + 1 : Nat) : Int) → r < 12 → mo_remembers_J53 N1 = some (rV, flM N1 169 (266 * r) (266 * r + 266) (N1 166)) := by
    intro N1 r hr1 hr2
    unfold mo_remembers_J53
    refine fl_run0 (L := fun F i M => mo_remembers_L55 (fun M_5 => some (rV, M_5)) F i M) (K := fun M => some (rV, M)) (M := N1) (a := 169) (o := 266 * r) (N := 266) (F := FU) (f := N1 166) (FU_gt (by decide)) (fun n i hi => ?_) (fun n => ?_)
    · rw [mo_remembers_L55, bq_ge (by omega) (by decide), if_neg (by omega), bq_in (by omega) (by omega), show (flM N1 169 (266 * r) (266 * r + i) (N1 166)) 165 6 = ((r + 1 : Nat) : Int) from by rw [flM_ne (by decide), hr1], bq_in (by omega) (by omega), sM_eq, show (flM N1 169 (266 * r) (266 * r + i) (N1 166)) 166 (i : Int).toNat = N1 166 i from by rw [flM_ne (by decide), Int.toNat_natCast], show (266 * (((r + 1 : Nat) : Int) - 1) + (i : Int)).toNat = 266 * r + i by omega]
    · rw [mo_remembers_L55, bq_ge (by decide) (by decide), if_pos (by decide)]
  unfold mo_remembers
  by_cases h : rem < 12
  · rw [h6, bq_ne (by omega) (by decide), if_neg (by omega), sM_eq, show (rem : Int) + 1 = ((rem + 1 : Nat) : Int) by omega, run55 (mU N 165 6 ((rem + 1 : Nat) : Int)) rem rfl h]
    refine ⟨_, rfl, ?_, fun j hj => ?_, fun p h1 h2 => ?_, fun _ => ⟨fun j k hj hk => ?_, fun k hk => ?_⟩, fun h3 => absurd h3 (by omega)⟩
    · rw [if_pos h, flM_ne (by decide), mU_eq, up_eq]
    · rw [flM_ne (by decide), mU_eq, up_ne hj]
    · rw [flM_ne h2, mU_ne h1]
    · rw [flM_ap, if_neg (by omega), mU_ne (by decide)]
    · rw [flM_ap, if_pos (by omega), mU_ne (by decide), show 266 * rem + k - 266 * rem = k by omega]
  · obtain rfl : rem = 12 := by omega
    have sh : mo_remembers_L11 (fun M_10 => mo_remembers_J53 M_10) FU 0 N = mo_remembers_J53 (flM N 169 0 (0 + 2926) (fun j => N 169 (j + 266))) := by
      refine fl_run0 (L := fun F i M => mo_remembers_L11 (fun M_10 => mo_remembers_J53 M_10) F i M) (K := fun M => mo_remembers_J53 M) (M := N) (a := 169) (o := 0) (N := 2926) (F := FU) (f := fun j => N 169 (j + 266)) (FU_gt (by decide)) (fun n i hi => ?_) (fun n => ?_)
      · rw [mo_remembers_L11, bq_ge (by omega) (by decide), if_neg (by omega), bq_in (by omega) (by omega), bq_in (by omega) (by omega), sM_eq, Int.toNat_natCast, show ((i : Int) + 266).toNat = i + 266 by omega, flM_ap, if_neg (by omega), Nat.zero_add]
      · rw [mo_remembers_L11, bq_ge (by decide) (by decide), if_pos (by decide)]
    rw [h6, bq_ne (by decide) (by decide), if_pos (by decide), sh, run55 _ 11 (by rw [flM_ne (by decide), h6]) (by decide)]
    refine ⟨_, rfl, ?_, fun j hj => ?_, fun p h1 h2 => ?_, fun h3 => absurd h3 (by omega), fun _ => ⟨fun j k hj hk => ?_, fun k hk => ?_⟩⟩
    · rw [if_neg (by decide), flM_ne (by decide), flM_ne (by decide), h6]
    · rw [flM_ne (by decide), flM_ne (by decide)]
    · rw [flM_ne h2, flM_ne h2]
    · rw [flM_ap, if_neg (by omega), flM_ap, if_pos (by omega), show 266 * j + k - 0 + 266 = 266 * (j + 1) + k by omega]
    · rw [flM_ap, if_pos (by omega), flM_ne (by decide), show 266 * 11 + k - 266 * 11 = k by omega]
/-- what is remembered after one act more: M ahead of it, M1 when the class has kept the journey, M2 at its end -/
theorem MemR_act {k k' : Nat} {M M2 : MM} (hk : k ≤ k') (hM : MemR k M) (hW : WF k (M 166)) (hL : LandR 3 (M 166) M) (hJ : JnyR 23 (M 166) M) (h5 : M2 166 5 = M 166 5) (h3 : ∀ j, j < 14 → M2 (3 + j) = M (3 + j)) :
    ∀ rem nx : Nat, M 165 6 = rem → M 83 0 = rem → M 83 1 = nx → rem ≤ 12 → nx < 12 → (∀ j, j < 9 → M2 (85 + 6 * nx) j = M 23 j) → (∀ j, j < 10 → M2 (85 + 6 * nx + 1) j = M 24 j) → (∀ j, j < 7 → M2 (85 + 6 * nx + 2) j = M 25 j) → (∀ j, j < 10 → M2 (85 + 6 * nx + 3) j = M 26 j ∧ M2 (85 + 6 * nx + 4) j = M 27 j ∧ M2 (85 + 6 * nx + 5) j = M 28 j) →
      M2 83 0 = ((if rem < 12 then rem + 1 else 12 : Nat) : Int) → M2 83 1 = (((nx + 1) % 12 : Nat) : Int) → (∀ p, 85 ≤ p → p ≤ 156 → (p < 85 + 6 * nx ∨ 85 + 6 * nx + 5 < p) → M2 p = M p) →
      M2 165 6 = ((if rem < 12 then rem + 1 else 12 : Nat) : Int) → (rem < 12 → (∀ j k, j < rem → k < 266 → M2 169 (266 * j + k) = M 169 (266 * j + k)) ∧ ∀ k, k < 266 → M2 169 (266 * rem + k) = M 166 k) →
      (rem = 12 → (∀ j k, j < 11 → k < 266 → M2 169 (266 * j + k) = M 169 (266 * (j + 1) + k)) ∧ ∀ k, k < 266 → M2 169 (266 * 11 + k) = M 166 k) → MemR k' M2 := by
  intro rem nx m1 m2 m3 m4 m5 r1 r2 r3 r4 r5 r6 r7 r8 r9 r10
  obtain ⟨rem', nx', m1', m2', m3', -, -, m6⟩ := hM
  obtain rfl : rem' = rem := by omega
  obtain rfl : nx' = nx := by omega
  have new : RowOK k' (85 + 6 * nx') (M 166) M2 := ⟨WF_mono hk hW, LandR_fr h3 hL, JnyR_cp (b := 23) hW.1 r1 r2 r3 r4 hJ, h5.symm⟩
  have old : ∀ j, j < rem' → slJ nx' rem' j ≠ nx' → RowOK k' (85 + 6 * slJ nx' rem' j) (rwJ M j) M2 := fun j hj hne => by
    have hs := slJ_lt (nx := nx') (rem := rem') (j := j)
    exact RowOK_fr hk h3 (fun i hi => r7 _ (by omega) (by omega) (by omega)) h5 (m6 j hj)
  by_cases h : rem' < 12
  · obtain ⟨s1, s2⟩ := r9 h
    refine ⟨rem' + 1, (nx' + 1) % 12, by rw [r8, if_pos h], by rw [r5, if_pos h], r6, by omega, by omega, fun j hj => ?_⟩
    by_cases hj2 : j < rem'
    · have e : slJ ((nx' + 1) % 12) (rem' + 1) j = slJ nx' rem' j := by unfold slJ; omega
      rw [e]
      exact RowOK_cg (r := rwJ M j) (fun i hi => s1 j i hj2 hi) (old j hj2 (by unfold slJ; omega))
    · obtain rfl : j = rem' := by omega
      have e : slJ ((nx' + 1) % 12) (j + 1) j = nx' := by unfold slJ; omega
      rw [e]
      exact RowOK_cg (r := M 166) (fun i hi => s2 i hi) new
  · obtain rfl : rem' = 12 := by omega
    obtain ⟨s1, s2⟩ := r10 rfl
    refine ⟨12, (nx' + 1) % 12, by rw [r8, if_neg h], by rw [r5, if_neg h], r6, by omega, by omega, fun j hj => ?_⟩
    by_cases hj2 : j < 11
    · have e : slJ ((nx' + 1) % 12) 12 j = slJ nx' 12 (j + 1) := by unfold slJ; omega
      rw [e]
      exact RowOK_cg (r := rwJ M (j + 1)) (fun i hi => s1 j i hj2 hi) (old (j + 1) (by omega) (by unfold slJ; omega))
    · obtain rfl : j = 11 := by omega
      have e : slJ ((nx' + 1) % 12) 12 11 = nx' := by unfold slJ; omega
      rw [e]
      exact RowOK_cg (r := M 166) (fun i hi => s2 i hi) new
