/-! ===== QUESTIONS: road, brother, fits ===== -/
theorem ok_road {p j : Int} (hp : I32 p) (hj : I32 j) : OpOK (drv_road p j) (mo_road p j) := by
  refine op_read fun k M hk hI => ?_
  obtain ⟨-, hW, hL, hJ, -⟩ := hI
  have hz : 0 ≤ p ∧ p < M 166 2 → 0 ≤ j ∧ j ≤ 3 → I32 (oR (M 166) p j) := fun h1 h2 => by
    obtain ⟨t0, t1, t2, t3, t4⟩ := hW.2.2.2.1 p h1.1 h1.2
    have := hW.1.1
    rcases (show j = 0 ∨ j = 1 ∨ j = 2 ∨ j = 3 by omega) with rfl | rfl | rfl | rfl <;> omega
  refine ⟨if 0 ≤ p ∧ p < M 166 2 then (if 0 ≤ j ∧ j ≤ 3 then 0 else 2) else 1, oR (M 166) p j, by split <;> (try split) <;> decide, fun h => ?_, fun hx => ?_, fun N hN e _ => ?_⟩
  · by_cases h1 : 0 ≤ p ∧ p < M 166 2
    · rw [if_pos h1] at h
      by_cases h2 : 0 ≤ j ∧ j ≤ 3
      · exact hz h1 h2
      · rw [if_neg h2] at h; exact absurd h (by decide)
    · rw [if_neg h1] at h; exact absurd h (by decide)
  · show AnsC (hN (fun c_6 M_2 => (bif Nat.beq c_6 15 then some (rI 1, M_2) else (bif Nat.beq c_6 16 then some (rI 2, M_2) else none))) (gh_road p j M)) M _ _
    by_cases h1 : 0 ≤ p ∧ p < M 166 2
    · have c2 := hW.1.2.2.1
      obtain ⟨l1, l2, l3, l4⟩ := hL.2.2.2.2.2.1 p h1.1 h1.2
      rw [if_pos h1]
      by_cases h2 : 0 ≤ j ∧ j ≤ 3
      · rw [if_pos h2]
        refine ansC_ret hx ?_ (hz h1 h2) Core.rfl' rfl
        unfold gh_road
        rw [checkRoad_t hW.1 hL.1.2.2.1 h1.1 h1.2]
        rcases (show j = 0 ∨ j = 1 ∨ j = 2 ∨ j = 3 by omega) with rfl | rfl | rfl | rfl <;> simp (disch := omega) only [↓bq_eq, ↓bq_in, ↓if_pos, ↓if_neg]
        · rw [l1]
        · rw [l2]
        · rw [l3]
        · rw [l4]
      · rw [if_neg h2]
        refine ansC_thr (c := 16) hx ?_ rfl (by decide) Core.rfl' rfl
        unfold gh_road
        rw [checkRoad_t hW.1 hL.1.2.2.1 h1.1 h1.2]
        simp (disch := omega) only [↓bq_eq hj, ↓if_neg]
        exact thx_v hx
    · rw [if_neg h1]
      exact ansC_thr (c := 15) hx (checkRoad_f hW.1 hL.1.2.2.1 hx hp h1) rfl (by decide) Core.rfl' rfl
  · have hWN := hN.2.1
    rw [← e]
    clear hW hL hJ hz e
    have hC := hWN.1
    have c2 := hC.2.2.1
    by_cases h : 0 ≤ p ∧ p < N 166 2
    · rw [if_pos h]
      by_cases h2 : 0 ≤ j ∧ j ≤ 3
      · rw [if_pos h2]
        refine ansR_r0 ?_
        unfold mo_road
        rw [sM_eq, mo_noRoad_b (M := mU N 165 0 0) (by exact hC) hp, decide_eq_true (show 0 ≤ p ∧ p < (mU N 165 0 0) 166 2 from h), Bool.not_true, mo_throwsIf_f, bz_ne0]
        simp only [cond_false]
        rw [mo_in_b hj (by decide) (by decide), decide_eq_true h2, bz_ne0]
        simp only [cond_true]
        rw [mo_throwsIf_0, bq_eq (by decide) (by decide), if_pos rfl, mo_ofRoad_b h.1 (by omega) h2.1 h2.2]; rfl
      · rw [if_neg h2]
        refine ansR_thr (z' := 0) ?_ (by decide)
        unfold mo_road
        rw [sM_eq, mo_noRoad_b (M := mU N 165 0 0) (by exact hC) hp, decide_eq_true (show 0 ≤ p ∧ p < (mU N 165 0 0) 166 2 from h), Bool.not_true, mo_throwsIf_f, bz_ne0]
        simp only [cond_false]
        rw [mo_in_b hj (by decide) (by decide), decide_eq_false h2, bz_ne0]
        rfl
    · rw [if_neg h]
      refine ansR_thr (z' := 0) ?_ (by decide)
      unfold mo_road
      rw [sM_eq, mo_noRoad_b (M := mU N 165 0 0) (by exact hC) hp, decide_eq_false (show ¬ (0 ≤ p ∧ p < (mU N 165 0 0) 166 2) from h)]
      rfl
-- brother
def brV (w : Nat → Int) (b j : Int) : Int := if j = 6 then (if 0 ≤ oB w b 5 then oB w b 5 + oB w b 3 else -1) else oB w b j
theorem ok_brother {p j : Int} (hp : I32 p) (hj : I32 j) : OpOK (drv_brother p j) (mo_brother p j) := by
  refine op_read fun k M hk hI => ?_
  obtain ⟨-, hW, hL, hJ, -⟩ := hI
  have hz : 0 ≤ p ∧ p < M 166 3 → 0 ≤ j ∧ j ≤ 6 → I32 (brV (M 166) p j) := fun h1 h2 => by
    obtain ⟨t0, t1, t2, t3, t4, t5⟩ := hW.2.2.2.2.1 p h1.1 h1.2
    have := hW.1.1
    have := hW.1.2.2.2.2.2.2.1
    unfold brV
    split
    · split <;> omega
    · rcases (show j = 0 ∨ j = 1 ∨ j = 2 ∨ j = 3 ∨ j = 4 ∨ j = 5 by omega) with rfl | rfl | rfl | rfl | rfl | rfl <;> omega
  refine ⟨if 0 ≤ p ∧ p < M 166 3 then (if 0 ≤ j ∧ j ≤ 6 then 0 else 2) else 1, brV (M 166) p j, by split <;> (try split) <;> decide, fun h => ?_, fun hx => ?_, fun N hN e _ => ?_⟩
  · by_cases h1 : 0 ≤ p ∧ p < M 166 3
    · rw [if_pos h1] at h
      by_cases h2 : 0 ≤ j ∧ j ≤ 6
      · exact hz h1 h2
      · rw [if_neg h2] at h; exact absurd h (by decide)
    · rw [if_neg h1] at h; exact absurd h (by decide)
  · show AnsC (hN (fun c_6 M_2 => (bif Nat.beq c_6 15 then some (rI 1, M_2) else (bif Nat.beq c_6 16 then some (rI 2, M_2) else none))) (gh_brother p j M)) M _ _
    by_cases h1 : 0 ≤ p ∧ p < M 166 3
    · have c3 := hW.1.2.2.2.1
      obtain ⟨l0, l1, l2, l3, l4⟩ := hL.2.2.2.2.2.2 p h1.1 h1.2
      have jf := hJ.2.2.2.2.2.1
      have j5 := hJ.2.2.2.2.2.2.2.2.1 p h1.1 h1.2
      rw [if_pos h1]
      by_cases h2 : 0 ≤ j ∧ j ≤ 6
      · rw [if_pos h2]
        refine ansC_ret hx ?_ (hz h1 h2) Core.rfl' rfl
        have t5 := (hW.2.2.2.2.1 p h1.1 h1.2).2.2.2.2.2
        unfold gh_brother
        rw [checkBrother_t hW.1 hL.1.2.2.2.1 h1.1 h1.2]
        rcases (show j = 0 ∨ j = 1 ∨ j = 2 ∨ j = 3 ∨ j = 4 ∨ j = 5 ∨ j = 6 by omega) with rfl | rfl | rfl | rfl | rfl | rfl | rfl <;> unfold brV <;> simp (disch := omega) only [↓bq_eq, ↓bq_in, ↓if_pos, ↓if_neg]
        · rw [l0]
        · rw [l1]
        · rw [l2]
        · rw [l3]
        · rw [l4]
        · rw [jf, gh_bit_s (by decide) h1.1 (by omega), frB_eq h1.1 h1.2, bz_ne1]
          by_cases h5 : 0 ≤ oB (M 166) p 5
          · rw [decide_eq_true h5, j5 h5]; rfl
          · rw [decide_eq_false h5, show oB (M 166) p 5 = -1 by omega]; rfl
        · rw [jf, gh_bit_s (by decide) h1.1 (by omega), frB_eq h1.1 h1.2, bz_ne1]
          by_cases h5 : 0 ≤ oB (M 166) p 5
          · rw [decide_eq_true h5, if_pos h5, j5 h5, show M 15 p.toNat = oB (M 166) p 3 from l3]; rfl
          · rw [decide_eq_false h5, if_neg h5]; rfl
      · rw [if_neg h2]
        refine ansC_thr (c := 16) hx ?_ rfl (by decide) Core.rfl' rfl
        unfold gh_brother
        rw [checkBrother_t hW.1 hL.1.2.2.2.1 h1.1 h1.2]
        simp (disch := omega) only [↓bq_eq hj, ↓if_neg]
        exact thx_v hx
    · rw [if_neg h1]
      exact ansC_thr (c := 15) hx (checkBrother_f hW.1 hL.1.2.2.2.1 hx hp h1) rfl (by decide) Core.rfl' rfl
  · have hWN := hN.2.1
    rw [← e]
    clear hW hL hJ hz e
    have hC := hWN.1
    have c3 := hC.2.2.2.1
    by_cases h : 0 ≤ p ∧ p < N 166 3
    · rw [if_pos h]
      by_cases h2 : 0 ≤ j ∧ j ≤ 6
      · rw [if_pos h2]
        refine ansR_r0 ?_
        unfold mo_brother mo_brother_J34 brV
        rw [sM_eq, mo_noBrother_b (M := mU N 165 0 0) (by exact hC) hp, decide_eq_true (show 0 ≤ p ∧ p < (mU N 165 0 0) 166 3 from h), Bool.not_true, mo_throwsIf_f, bz_ne0]
        simp only [cond_false]
        rw [mo_in_b hj (by decide) (by decide), decide_eq_true h2, bz_ne0]
        simp only [cond_true]
        rw [mo_throwsIf_0, bq_eq (by decide) (by decide), if_pos rfl, bq_ne hj (by decide)]
        by_cases h6 : j = 6
        · rw [if_pos h6, if_pos h6, mo_homeOf_b (M := mU N 165 0 0) (by exact hC) (by exact hWN.2.2.2.2.1) (by omega) h.1 h.2]; rfl
        · rw [if_neg h6, if_neg h6, mo_ofBrother_b h.1 (by omega) h2.1 (by omega)]; rfl
      · rw [if_neg h2]
        refine ansR_thr (z' := 0) ?_ (by decide)
        unfold mo_brother mo_brother_J34
        rw [sM_eq, mo_noBrother_b (M := mU N 165 0 0) (by exact hC) hp, decide_eq_true (show 0 ≤ p ∧ p < (mU N 165 0 0) 166 3 from h), Bool.not_true, mo_throwsIf_f, bz_ne0]
        simp only [cond_false]
        rw [mo_in_b hj (by decide) (by decide), decide_eq_false h2, bz_ne0]
        rfl
    · rw [if_neg h]
      refine ansR_thr (z' := 0) ?_ (by decide)
      unfold mo_brother
      rw [sM_eq, mo_noBrother_b (M := mU N 165 0 0) (by exact hC) hp, decide_eq_false (show ¬ (0 ≤ p ∧ p < (mU N 165 0 0) 166 3) from h)]
      rfl
-- fits
def hB (E : Nat → MM → OR) (x : OR) : OR := bH x (fun z_3 M_2 => (bif cmpB .eq z_3 0 then (bif inB 0 1 then (sM (mU M_2 181 0 0) fun M_4 => some (rI 0, M_4)) else none) else (bif inB 0 1 then (sM (mU M_2 181 0 1) fun M_6 => some (rI 0, M_6)) else none))) E
theorem ansB_ret {x : OR} {M M1 : MM} {E : Nat → MM → OR} {b : Bool} (hx : EXC M) (h : x = some (rI (b2 b), M1)) (C : Core M M1) (h9 : M1 999 = M 999) : AnsC (hB E x) M 0 (b2 b) := by
  refine ⟨mU M1 181 0 (b2 b), ?_, fun _ => rfl, Core_mU C (by unfold coreA; omega) (by decide) (by decide) (by decide), ?_⟩
  · rw [h]
    cases b <;> rfl
  · rw [mU_ne (by decide), h9]
    exact ⟨hx.1, by omega⟩
theorem ansB_thr {x : OR} {M M1 : MM} {E : Nat → MM → OR} {z j : Int} {c : Nat} (hx : EXC M) (h : x = some (.inr c, xM M1)) (hE : E c (xM M1) = some (rI j, xM M1)) (hj : j ≠ 0) (C : Core M M1) (h9 : M1 999 = M 999) : AnsC (hB E x) M j z := by
  obtain ⟨M2, e, q⟩ := ansC_thr (z := z) hx h hE hj C h9
  refine ⟨M2, ?_, q⟩
  rw [← e, h]; rfl
theorem ok_fits {p j : Int} (hp : I32 p) (hj : I32 j) : OpOK (drv_fits p j) (mo_fits p j) := by
  refine op_read fun k M hk hI => ?_
  obtain ⟨-, hW, hL, hJ, -⟩ := hI
  refine ⟨if (0 ≤ p ∧ p < M 166 1) ∧ (0 ≤ j ∧ j < M 166 0) then (if oP (M 166) j 0 = 1 then 0 else 2) else 1, b2 (fitK (M 166) p j), by split <;> (try split) <;> decide, fun h => b2_I _, fun hx => ?_, fun N hN e _ => ?_⟩
  · show AnsC (hB (fun c_6 M_2 => (bif Nat.beq c_6 15 then some (rI 1, M_2) else (bif Nat.beq c_6 14 then some (rI 2, M_2) else none))) (gh_fits p j M)) M _ _
    by_cases h1 : 0 ≤ p ∧ p < M 166 1
    · have c0 := hW.1.1
      have c1 := hW.1.2.1
      by_cases h2 : 0 ≤ j ∧ j < M 166 0
      · rw [if_pos ⟨h1, h2⟩]
        by_cases h3 : oP (M 166) j 0 = 1
        · rw [if_pos h3]
          refine ansB_ret hx ?_ Core.rfl' rfl
          unfold gh_fits
          rw [checkThing_t hW.1 hL.1.2.1 h1.1 h1.2, checkPlace_t hW.1 hL.1.1 h2.1 h2.2, land_hasKeeper_b hL h2.1 (by omega), kpB_eq h2.1 h2.2, decide_eq_true h3, bz_ne0]
          simp only [cond_true]
          rw [bq_in h1.1 (by omega), show M 9 p.toNat = oT (M 166) p 0 from (hL.2.2.2.2.1 p h1.1 h1.2).1, land_opens_p hL hW.1 hW.2.1 h2.1 h2.2 h3, bz_zo]; rfl
        · rw [if_neg h3]
          refine ansB_thr (c := 14) hx ?_ rfl (by decide) Core.rfl' rfl
          unfold gh_fits
          rw [checkThing_t hW.1 hL.1.2.1 h1.1 h1.2, checkPlace_t hW.1 hL.1.1 h2.1 h2.2, land_hasKeeper_b hL h2.1 (by omega), kpB_eq h2.1 h2.2, decide_eq_false h3, bz_ne0]
          exact thx_v hx
      · rw [if_neg (fun h => h2 h.2)]
        refine ansB_thr (c := 15) hx ?_ rfl (by decide) Core.rfl' rfl
        unfold gh_fits
        rw [checkThing_t hW.1 hL.1.2.1 h1.1 h1.2, checkPlace_f hW.1 hL.1.1 hx hj h2]
    · rw [if_neg (fun h => h1 h.1)]
      exact ansB_thr (c := 15) hx (checkThing_f hW.1 hL.1.2.1 hx hp h1) rfl (by decide) Core.rfl' rfl
  · have hWN := hN.2.1
    rw [← e]
    clear hW hL hJ e
    have hC := hWN.1
    have c0 := hC.1
    by_cases h : 0 ≤ p ∧ p < N 166 1
    · by_cases h2 : 0 ≤ j ∧ j < N 166 0
      · rw [if_pos ⟨h, h2⟩]
        by_cases h3 : oP (N 166) j 0 = 1
        · rw [if_pos h3]
          refine ansR_r0 ?_
          unfold mo_fits mo_fits_J27
          rw [sM_eq, mo_noThing_b (M := mU N 165 0 0) (by exact hC) hp, decide_eq_true (show 0 ≤ p ∧ p < (mU N 165 0 0) 166 1 from h), Bool.not_true, bz_ne0]
          simp only [cond_false]
          rw [mo_noPlace_b (M := mU N 165 0 0) (by exact hC) hj, decide_eq_true (show 0 ≤ j ∧ j < (mU N 165 0 0) 166 0 from h2), Bool.not_true, bz_eq0]
          simp only [cond_false]
          rw [mo_throwsIf_0, bq_ne (by decide) (by decide), if_pos rfl, mo_isKeeper_b (M := mU N 165 0 0) (by exact hC) (by exact hWN.2.1) h2.1 h2.2, decide_eq_true (show oP ((mU N 165 0 0) 166) j 0 = 1 from h3), bz_ne0]
          simp only [cond_true]
          rw [mo_throwsIf_0, bq_eq (by decide) (by decide), if_pos rfl, mo_fitsKeeper_b (M := mU N 165 0 0) (by exact hC) (by exact hWN.2.1) h.1 h.2 h2.1 h2.2, bz_zo]; rfl
        · rw [if_neg h3]
          refine ansR_thr (z' := 0) ?_ (by decide)
          unfold mo_fits mo_fits_J27
          rw [sM_eq, mo_noThing_b (M := mU N 165 0 0) (by exact hC) hp, decide_eq_true (show 0 ≤ p ∧ p < (mU N 165 0 0) 166 1 from h), Bool.not_true, bz_ne0]
          simp only [cond_false]
          rw [mo_noPlace_b (M := mU N 165 0 0) (by exact hC) hj, decide_eq_true (show 0 ≤ j ∧ j < (mU N 165 0 0) 166 0 from h2), Bool.not_true, bz_eq0]
          simp only [cond_false]
          rw [mo_throwsIf_0, bq_ne (by decide) (by decide), if_pos rfl, mo_isKeeper_b (M := mU N 165 0 0) (by exact hC) (by exact hWN.2.1) h2.1 h2.2, decide_eq_false (show ¬ oP ((mU N 165 0 0) 166) j 0 = 1 from h3), bz_ne0]
          rfl
      · rw [if_neg (fun g => h2 g.2)]
        refine ansR_thr (z' := 0) ?_ (by decide)
        unfold mo_fits mo_fits_J22 mo_fits_J27
        rw [sM_eq, mo_noThing_b (M := mU N 165 0 0) (by exact hC) hp, decide_eq_true (show 0 ≤ p ∧ p < (mU N 165 0 0) 166 1 from h), Bool.not_true, bz_ne0]
        simp only [cond_false]
        rw [mo_noPlace_b (M := mU N 165 0 0) (by exact hC) hj, decide_eq_false (show ¬ (0 ≤ j ∧ j < (mU N 165 0 0) 166 0) from h2)]
        rfl
    · rw [if_neg (fun g => h g.1)]
      refine ansR_thr (z' := 0) ?_ (by decide)
      unfold mo_fits mo_fits_J22 mo_fits_J27
      rw [sM_eq, mo_noThing_b (M := mU N 165 0 0) (by exact hC) hp, decide_eq_false (show ¬ (0 ≤ p ∧ p < (mU N 165 0 0) 166 1) from h)]
      rfl
