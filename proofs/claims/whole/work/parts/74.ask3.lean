/-! ===== QUESTIONS: girl, log, count ===== -/
theorem wO_b {n : Nat} {w : Nat → Int} (hC : WC n w) (hT : WT w) (s : Nat) : 0 ≤ wO w s ∧ wO w s ≤ 990 := by
  have c1 := hC.2.1
  have := fo_inv (g := fun i (a : Int) => bif s.testBit i then a + oT w (i : Int) 1 else a) (P := fun i a => 0 ≤ a ∧ a ≤ 99 * (i : Int)) (w 1).toNat 0 0 (by omega) (fun j a h1 h2 h3 => by
    have := (hT j (by omega) (by omega)).2.1
    cases s.testBit j with
    | true => simp only [cond_true]; omega
    | false => simp only [cond_false]; omega)
  unfold wO
  omega
def giV (w : Nat → Int) (j : Int) : Int := if j = 0 then w 7 else if j = 1 then w 6 else if j = 2 then w 8 else if j = 3 then ((bset 10 (stB' w 2) : Nat) : Int) else wO w (bset 10 (stB' w 2))
theorem ok_girl {j : Int} (hj : I32 j) : OpOK (drv_girl j) (mo_girl j) := by
  refine op_read fun k M hk hI => ?_
  obtain ⟨-, hW, hL, hJ, -⟩ := hI
  have b3 := bset_lt (stB' (M 166) 2) 10
  refine ⟨if 0 ≤ j ∧ j ≤ 4 then (if M 166 0 = 0 then 2 else 0) else 1, giV (M 166) j, by split <;> (try split) <;> decide, fun h => ?_, fun hx => ?_, fun N hN e _ => ?_⟩
  · obtain ⟨h0, h1, h2, h3, h4, h5, h6, h7, h8, h9, h10⟩ := hW.1
    have := wO_b hW.1 hW.2.2.1 (bset 10 (stB' (M 166) 2))
    unfold giV
    split
    · omega
    · split
      · omega
      · split
        · omega
        · split
          · omega
          · omega
  · show AnsC (hN (fun c_6 M_2 => (bif Nat.beq c_6 16 then some (rI 1, M_2) else (bif Nat.beq c_6 14 then some (rI 2, M_2) else none))) (gh_girl j M)) M _ _
    by_cases h1 : 0 ≤ j ∧ j ≤ 4
    · rw [if_pos h1]
      by_cases h2 : M 166 0 = 0
      · rw [if_pos h2]
        refine ansC_thr (c := 14) hx ?_ rfl (by decide) Core.rfl' rfl
        unfold gh_girl
        rw [bq_lt hj (by decide), if_neg (by omega), bq_le hj (by decide), if_pos h1.2, checkAny_f hL.1.1 hx h2]
      · rw [if_neg h2]
        obtain ⟨i0, i1, i2, i3, i4, i5, i6, i7, i8, i9, i10⟩ := hW.1
        have := wO_b hW.1 hW.2.2.1 (bset 10 (stB' (M 166) 2))
        refine ansC_ret hx (M1 := M) ?_ ?_ Core.rfl' rfl
        · unfold gh_girl
          rw [bq_lt hj (by decide), if_neg (by omega), bq_le hj (by decide), if_pos h1.2, checkAny_t hW.1 hL.1.1 h2]
          obtain ⟨⟨j0, j1, j2, -⟩, j3, -⟩ := hJ
          rcases (show j = 0 ∨ j = 1 ∨ j = 2 ∨ j = 3 ∨ j = 4 by omega) with rfl | rfl | rfl | rfl | rfl <;> unfold giV <;> simp (disch := omega) only [↓bq_eq, ↓if_pos, ↓if_neg]
          · rw [j0]
          · rw [j1]
          · rw [j2]
          · rw [j3]
          · rw [j3, land_worthOf_b hL hW.1 (by omega)]
        · unfold giV
          split
          · omega
          · split
            · omega
            · split
              · omega
              · split
                · omega
                · omega
    · rw [if_neg h1]
      refine ansC_thr (c := 16) hx ?_ rfl (by decide) Core.rfl' rfl
      unfold gh_girl
      rw [bq_lt hj (by decide)]
      by_cases h2 : j < 0
      · rw [if_pos h2]; exact thx_v hx
      · rw [if_neg h2, bq_le hj (by decide), if_neg (by omega)]; exact thx_v hx
  · have hWN := hN.2.1
    rw [← e]
    clear hW hL hJ e
    obtain ⟨hC, hP, hT, hR, hB, hG, -⟩ := hWN
    have b4 := bset_lt (stB' (N 166) 2) 10
    by_cases h1 : 0 ≤ j ∧ j ≤ 4
    · rw [if_pos h1]
      have c0 := hC.1
      by_cases h2 : N 166 0 = 0
      · rw [if_pos h2]
        refine ansR_thr (z' := 0) ?_ (by decide)
        unfold mo_girl mo_girl_J20 mo_girl_J40
        rw [sM_eq, mo_in_b hj (by decide) (by decide), decide_eq_true h1, bz_ne0]
        rw [cn_t]
        rw [mo_throwsIf_0, bq_ne (by decide) (by decide), if_pos rfl, mo_places_b, show (mU N 165 0 0) 166 0 = 0 from h2, bq_ne (by decide) (by decide), if_pos rfl, mo_throwsIf_1, bq_eq (by decide) (by decide), if_neg (by decide)]
      · rw [if_neg h2]
        refine ansR_r0 ?_
        unfold mo_girl mo_girl_J20 mo_girl_J40
        rw [sM_eq, mo_in_b hj (by decide) (by decide), decide_eq_true h1, bz_ne0]
        rw [cn_t]
        rw [mo_throwsIf_0, bq_ne (by decide) (by decide), if_pos rfl, mo_places_b, bq_ne (by rw [t0_166]; omega) (by decide), if_neg (by rw [t0_166]; exact h2), mo_throwsIf_0, bq_eq (by decide) (by decide), if_pos rfl]
        have hs := (nowS_f hC hT).1.1
        have ts : ∀ k : Int → MM → OR, bI (mo_thingsIn ((nowS (N 166) : Nat) : Int) 2 (mU N 165 0 0)) k = k ((bset 10 (stB' (N 166) 2) : Nat) : Int) (mU N 165 0 0) := by
          intro k
          have := mo_thingsIn_b (M := mU N 165 0 0) (k := k) (z := 2) hC hs (by decide)
          rw [t0_166, nowS_ts hC hT] at this
          exact this
        rcases (show j = 0 ∨ j = 1 ∨ j = 2 ∨ j = 3 ∨ j = 4 by omega) with rfl | rfl | rfl | rfl | rfl <;> unfold giV <;> simp (disch := omega) only [↓bq_eq, ↓if_pos, ↓if_neg, ↓bq_in]
        · rfl
        · rfl
        · rfl
        · rw [mo_now_b (M := mU N 165 0 0) hC hP hT hB (by omega), t0_166, ts]
        · rw [mo_now_b (M := mU N 165 0 0) hC hP hT hB (by omega), t0_166, ts]
          rw [mo_worthOf_b (M := mU N 165 0 0) hC (by omega), t0_166]
    · rw [if_neg h1]
      refine ansR_thr (z' := 0) ?_ (by decide)
      unfold mo_girl mo_girl_J20
      rw [sM_eq, mo_in_b hj (by decide) (by decide), decide_eq_false h1, bz_ne0]
      rw [cn_f]
      rw [mo_throwsIf_1, bq_ne (by decide) (by decide), if_neg (by decide)]
-- log
theorem gh_log_v {M : MM} {w : Nat → Int} {n : Nat} {v j : Int} (hC : WC n w) (hJ : JnyR 23 w M) (hv : I32 v) (hj : 0 ≤ j ∧ j ≤ 2) (hj' : I32 j) : gh_log v j M = some (rI (if 0 ≤ v ∧ v < w 9 then w ((236 + 3 * v) + j).toNat else -1), M) := by
  have c9 := hC.2.2.2.2.2.2.2.2.2.1
  have j8 : M 23 8 = w 9 := hJ.1.2.2.2
  unfold gh_log
  rw [bq_lt hj' (by decide), if_neg (by omega), bq_le hj' (by decide), if_pos hj.2, bq_lt hv (by decide)]
  by_cases h0 : v < 0
  · rw [if_pos h0, if_neg (by omega)]
  · rw [if_neg h0, bq_ge hv (by omega)]
    by_cases h1 : v < w 9
    · obtain ⟨l1, l2, l3⟩ := hJ.2.2.2.2.2.2.2.2.2 v (by omega) h1
      rw [if_neg (by omega), bq_lt hv (by decide), if_pos (by omega), if_pos (by omega), bq_eq hj' (by decide), bq_eq hj' (by decide), bq_in (by omega) (by omega), bq_in (by omega) (by omega), bq_in (by omega) (by omega)]
      rcases (show j = 0 ∨ j = 1 ∨ j = 2 by omega) with rfl | rfl | rfl
      · rw [if_pos rfl, show M 26 v.toNat = _ from l1, Int.add_zero]
      · rw [if_neg (by decide), if_pos rfl, show M 27 v.toNat = _ from l2]
      · rw [if_neg (by decide), if_neg (by decide), show M 28 v.toNat = _ from l3]
    · rw [if_pos (by omega), if_neg (by omega)]
theorem WL_I {n : Nat} {w : Nat → Int} (hn : n ≤ 1000) (hW : WF n w) {p j : Int} (h : 0 ≤ p ∧ p < w 9) (h1 : 0 ≤ j ∧ j ≤ 2) : I32 (w ((236 + 3 * p) + j).toNat) := by
  obtain ⟨l1, l2, l3⟩ := hW.2.2.2.2.2.2.2 p h.1 h.2
  have := hW.1.2.2.2.2.2.2.1
  rcases (show j = 0 ∨ j = 1 ∨ j = 2 by omega) with rfl | rfl | rfl <;> omega
theorem ok_log {p j : Int} (hp : I32 p) (hj : I32 j) : OpOK (drv_log p j) (mo_log p j) := by
  refine op_read fun k M hk hI => ?_
  obtain ⟨-, hW, hL, hJ, -⟩ := hI
  have c9 := hW.1.2.2.2.2.2.2.2.2.2.1
  refine ⟨if 0 ≤ j ∧ j ≤ 2 then 0 else 1, if 0 ≤ p ∧ p < M 166 9 then M 166 ((236 + 3 * p) + j).toNat else -1, by split <;> decide, fun h => ?_, fun hx => ?_, fun N hN e _ => ?_⟩
  · by_cases h1 : 0 ≤ j ∧ j ≤ 2
    · split
      · rename_i h2
        exact WL_I (by omega) hW h2 h1
      · decide
    · rw [if_neg h1] at h; exact absurd h (by decide)
  · show AnsC (hN (fun c_6 M_2 => (bif Nat.beq c_6 16 then some (rI 1, M_2) else none)) (gh_log p j M)) M _ _
    by_cases h1 : 0 ≤ j ∧ j ≤ 2
    · rw [if_pos h1]
      refine ansC_ret hx (gh_log_v hW.1 hJ hp h1 hj) ?_ Core.rfl' rfl
      split
      · rename_i h2
        exact WL_I (by omega) hW h2 h1
      · decide
    · rw [if_neg h1]
      refine ansC_thr (c := 16) hx ?_ rfl (by decide) Core.rfl' rfl
      unfold gh_log
      rw [bq_lt hj (by decide)]
      by_cases h2 : j < 0
      · rw [if_pos h2]; exact thx_v hx
      · rw [if_neg h2, bq_le hj (by decide), if_neg (by omega)]; exact thx_v hx
  · have hWN := hN.2.1
    rw [← e]
    clear hW hL hJ e c9
    have c9 := hWN.1.2.2.2.2.2.2.2.2.2.1
    by_cases h1 : 0 ≤ j ∧ j ≤ 2
    · rw [if_pos h1]
      refine ansR_r0 ?_
      unfold mo_log mo_log_J20
      rw [sM_eq, mo_in_b hj (by decide) (by decide), decide_eq_true h1, bz_ne0, cn_t, mo_throwsIf_0, bq_eq (by decide) (by decide), if_pos rfl, bq_in (by decide) (by decide), mo_in_b hp (by decide) (by show I32 (N 166 9 - 1); omega), bz_eq0]
      by_cases h2 : 0 ≤ p ∧ p < N 166 9
      · rw [decide_eq_true (show 0 ≤ p ∧ p ≤ (mU N 165 0 0) 166 9 - 1 by show 0 ≤ p ∧ p ≤ N 166 9 - 1; omega), cn_t, if_pos h2, bq_in (by omega) (by omega)]
        rfl
      · rw [decide_eq_false (show ¬ (0 ≤ p ∧ p ≤ (mU N 165 0 0) 166 9 - 1) by show ¬ (0 ≤ p ∧ p ≤ N 166 9 - 1); omega), cn_f, if_neg h2]
    · rw [if_neg h1]
      refine ansR_thr (z' := 0) ?_ (by decide)
      unfold mo_log mo_log_J20
      rw [sM_eq, mo_in_b hj (by decide) (by decide), decide_eq_false h1, bz_ne0, cn_f, mo_throwsIf_1, bq_eq (by decide) (by decide), if_neg (by decide)]
