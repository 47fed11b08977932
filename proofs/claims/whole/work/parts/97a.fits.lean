/-! ===== FITS answers yes or no ===== -/
def OpOKB (D R : MM → OR) : Prop := ∀ k M, k ≤ 511 → Inv k M → ∃ c z M1 M2, D M = some (rI c, M1) ∧ R M1 = some (rI z, M2) ∧ M2 165 0 = c ∧ I32 c ∧ (c = 0 → M2 181 0 = z ∧ (z = 0 ∨ z = 1)) ∧ Inv (k + 1) M2

theorem b2_yn (b : Bool) : b2 b = 0 ∨ b2 b = 1 := by cases b <;> decide
theorem op_readB {D R : MM → OR} (H : ∀ k M, k ≤ 512 → Inv k M → ∃ c z, I32 c ∧ (c = 0 → z = 0 ∨ z = 1) ∧ (EXC M → AnsC (D M) M c z) ∧ ∀ N, Inv (k + 1) N → N 166 = M 166 → Core M N → AnsR (R N) N c z) : OpOKB D R := by
  intro k M hk hI
  obtain ⟨c, z, hc, hz, hA, hR⟩ := H k M (by omega) hI
  have hx := hI.2.2.2.2.2.2.2.2.1
  obtain ⟨M1, a1, a2, a3, a4⟩ := hA ⟨hx.1, by omega⟩
  have hI1 : Inv (k + 1) M1 := Inv_core hI a3 (by omega) a4.1 (by omega)
  obtain ⟨N2, z', r1, r2, r3, r4, r5, r6⟩ := hR M1 hI1 a3.w a3
  refine ⟨c, z', M1, N2, a1, r1, r2, hc, fun h => ⟨by rw [r5, a2 h, r3 h], by rw [r3 h]; exact hz h⟩, Inv_core hI1 r4 (Nat.le_refl _) (by rw [r6]; exact a4.1) (by rw [r6]; omega)⟩
theorem ok_fitsB {p j : Int} (hp : I32 p) (hj : I32 j) : OpOKB (drv_fits p j) (mo_fits p j) := by
  refine op_readB fun k M hk hI => ?_
  obtain ⟨-, hW, hL, hJ, -⟩ := hI
  refine ⟨if (0 ≤ p ∧ p < M 166 1) ∧ (0 ≤ j ∧ j < M 166 0) then (if oP (M 166) j 0 = 1 then 0 else 2) else 1, b2 (fitK (M 166) p j), by split <;> (try split) <;> decide, fun h => b2_yn _, fun hx => ?_, fun N hN e _ => ?_⟩
  · show AnsC (hB (fun c_6 M_2 => (bif Nat.beq c_6 15 then some (rI 1, M_2) else (bif Nat.beq c_6 14 then some (rI 2, M_2) else none))) (gh_fits p j M)) M _ _
    by_cases h1 : 0 ≤ p ∧ p < M 166 1
    · have c0 := hW.1.1
      have c1 := hW.1.2.1
      by_cases h2 : 0 ≤ j ∧ j < M 166 0
      · rw [if_pos ⟨h1, h2⟩]
        by_cases h3 : oP (M 166) j 0 = 1
        · rw [if_pos h3]
          refine ansB_ret hx ?_ Core.rfl' rfl
          unfold gh_fits
          rw [checkThing_t hW.1 hL.1.2.1 h1.1 h1.2, checkPlace_t hW.1 hL.1.1 h2.1 h2.2, land_hasKeeper_b hL h2.1 (by omega), kpB_eq h2.1 h2.2, decide_eq_true h3, bz_ne0]
          simp only [cond_true]
          rw [bq_in h1.1 (by omega), show M 9 p.toNat = oT (M 166) p 0 from (hL.2.2.2.2.1 p h1.1 h1.2).1, land_opens_p hL hW.1 hW.2.1 h2.1 h2.2 h3, bz_zo]; rfl
        · rw [if_neg h3]
          refine ansB_thr (c := 14) hx ?_ rfl (by decide) Core.rfl' rfl
          unfold gh_fits
          rw [checkThing_t hW.1 hL.1.2.1 h1.1 h1.2, checkPlace_t hW.1 hL.1.1 h2.1 h2.2, land_hasKeeper_b hL h2.1 (by omega), kpB_eq h2.1 h2.2, decide_eq_false h3, bz_ne0]
          exact thx_v hx
      · rw [if_neg (fun h => h2 h.2)]
        refine ansB_thr (c := 15) hx ?_ rfl (by decide) Core.rfl' rfl
        unfold gh_fits
        rw [checkThing_t hW.1 hL.1.2.1 h1.1 h1.2, checkPlace_f hW.1 hL.1.1 hx hj h2]
    · rw [if_neg (fun h => h1 h.1)]
      exact ansB_thr (c := 15) hx (checkThing_f hW.1 hL.1.2.1 hx hp h1) rfl (by decide) Core.rfl' rfl
  · have hWN := hN.2.1
    rw [← e]
    clear hW hL hJ e
    have hC := hWN.1
    have c0 := hC.1
    by_cases h : 0 ≤ p ∧ p < N 166 1
    · by_cases h2 : 0 ≤ j ∧ j < N 166 0
      · rw [if_pos ⟨h, h2⟩]
        by_cases h3 : oP (N 166) j 0 = 1
        · rw [if_pos h3]
          refine ansR_r0 ?_
          unfold mo_fits mo_fits_J27
          rw [sM_eq, mo_noThing_b (M := mU N 165 0 0) (by exact hC) hp, decide_eq_true (show 0 ≤ p ∧ p < (mU N 165 0 0) 166 1 from h), Bool.not_true, bz_ne0]
          simp only [cond_false]
          rw [mo_noPlace_b (M := mU N 165 0 0) (by exact hC) hj, decide_eq_true (show 0 ≤ j ∧ j < (mU N 165 0 0) 166 0 from h2), Bool.not_true, bz_eq0]
          simp only [cond_false]
          rw [mo_throwsIf_0, bq_ne (by decide) (by decide), if_pos rfl, mo_isKeeper_b (M := mU N 165 0 0) (by exact hC) (by exact hWN.2.1) h2.1 h2.2, decide_eq_true (show oP ((mU N 165 0 0) 166) j 0 = 1 from h3), bz_ne0]
          simp only [cond_true]
          rw [mo_throwsIf_0, bq_eq (by decide) (by decide), if_pos rfl, mo_fitsKeeper_b (M := mU N 165 0 0) (by exact hC) (by exact hWN.2.1) h.1 h.2 h2.1 h2.2, bz_zo]; rfl
        · rw [if_neg h3]
          refine ansR_thr (z' := 0) ?_ (by decide)
          unfold mo_fits mo_fits_J27
          rw [sM_eq, mo_noThing_b (M := mU N 165 0 0) (by exact hC) hp, decide_eq_true (show 0 ≤ p ∧ p < (mU N 165 0 0) 166 1 from h), Bool.not_true, bz_ne0]
          simp only [cond_false]
          rw [mo_noPlace_b (M := mU N 165 0 0) (by exact hC) hj, decide_eq_true (show 0 ≤ j ∧ j < (mU N 165 0 0) 166 0 from h2), Bool.not_true, bz_eq0]
          simp only [cond_false]
          rw [mo_throwsIf_0, bq_ne (by decide) (by decide), if_pos rfl, mo_isKeeper_b (M := mU N 165 0 0) (by exact hC) (by exact hWN.2.1) h2.1 h2.2, decide_eq_false (show ¬ oP ((mU N 165 0 0) 166) j 0 = 1 from h3), bz_ne0]
          rfl
      · rw [if_neg (fun g => h2 g.2)]
        refine ansR_thr (z' := 0) ?_ (by decide)
        unfold mo_fits mo_fits_J22 mo_fits_J27
        rw [sM_eq, mo_noThing_b (M := mU N 165 0 0) (by exact hC) hp, decide_eq_true (show 0 ≤ p ∧ p < (mU N 165 0 0) 166 1 from h), Bool.not_true, bz_ne0]
        simp only [cond_false]
        rw [mo_noPlace_b (M := mU N 165 0 0) (by exact hC) hj, decide_eq_false (show ¬ (0 ≤ j ∧ j < (mU N 165 0 0) 166 0) from h2)]
        rfl
    · rw [if_neg (fun g => h g.1)]
      refine ansR_thr (z' := 0) ?_ (by decide)
      unfold mo_fits mo_fits_J22 mo_fits_J27
      rw [sM_eq, mo_noThing_b (M := mU N 165 0 0) (by exact hC) hp, decide_eq_false (show ¬ (0 ≤ p ∧ p < (mU N 165 0 0) 166 1) from h)]
      rfl

