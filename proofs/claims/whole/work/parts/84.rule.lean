/-! ===== RULE ===== -/
theorem now_st {n : Nat} {w : Nat → Int} (hC : WC n w) (hT : WT w) : PK (nowS w) ∧ sPl (nowS w) = w 7 ∧ sTm w (nowS w) = w 6 ∧ sCar w (nowS w) = bset 10 (stB' w 2) ∧ fd (nowS w) 34 10 = bset 10 (paB w) ∧ (fd (nowS w) 9 5 : Int) - 1 = w 8 ∧ fd (nowS w) 44 7 = bset 7 (frB w) ∧ fd (nowS w) 0 5 = 0 := by
  obtain ⟨⟨i0, i1, i2, i3, i4, i5⟩, -⟩ := nowS_f hC hT
  refine ⟨i0, i2, by unfold sTm; rw [i1]; omega, nowS_ts hC hT 2, i4, by omega, i5, i1⟩
/-- what a reading of the class needs -/
theorem arrivalNow_v {n : Nat} {w : Nat → Int} {r : Int} {M : MM} (hW : WF n w) (hn : n ≤ 1000) (hL : LandR 3 w M) (hJ : JnyR 23 w M) (hlw : LawR 17 w M) (h0 : 0 ≤ r) (h1 : r < w 2) : ∃ M', gh_arrivalNow r M = some (rI (if sCan w (nowS w) r = true then w 6 + sHr w (nowS w) r else -1), M') ∧ Js M M' := by
  obtain ⟨hC, hP, hT, hR, -⟩ := hW
  obtain ⟨s0, s1, s2, s3, s4, s5, s6, s7⟩ := now_st hC hT
  have hr := (hR r h0 h1).1
  have h7 := hC.2.2.2.2.2.2.2.1
  obtain ⟨M', e, f⟩ := arrival_v (s := nowS w) hC hP hT hR hn hL hlw (by rw [s1]; omega) h0 h1
  refine ⟨M', ?_, f⟩
  obtain ⟨⟨j0, j1, j2, j8⟩, j3, j4, j5, j6, j7, -⟩ := hJ
  unfold gh_arrivalNow
  rw [s1, s2, s3, s4, s5] at e
  rw [j0, j1, j2, j3, j6, e, bI_I]
def ruV (w : Nat → Int) (r j : Int) : Int := if j = 0 then b2 (decide (lSum w (sTT w (nowS w) r) 0 ≠ 0)) else if j = 1 then sHr w (nowS w) r else b2 (sCan w (nowS w) r)
theorem ok_rule {p j : Int} (hp : I32 p) (hj : I32 j) : OpOK (drv_rule p j) (mo_rule p j) := by
  refine op_read fun k M hk hI => ?_
  obtain ⟨-, hW, hL, hJ, hlw, -⟩ := hI
  have hO := LawR_ok hlw
  have hz : 0 ≤ p → p < M 166 2 → I32 (ruV (M 166) p j) := fun h0 h1 => by
    have := sHr_b (n := k) hW.2.2.2.1 hO h0 h1 (nowS (M 166))
    unfold ruV
    split
    · exact b2_I _
    · split
      · omega
      · exact b2_I _
  refine ⟨if 0 ≤ p ∧ p < M 166 2 then (if 0 ≤ oE (M 166) p (M 166 7) then (if 0 ≤ j ∧ j ≤ 2 then 0 else 3) else 2) else 1, ruV (M 166) p j, by split <;> (try split) <;> (try split) <;> decide, fun h => ?_, fun hx => ?_, fun N hN e _ => ?_⟩
  · by_cases h1 : 0 ≤ p ∧ p < M 166 2
    · exact hz h1.1 h1.2
    · rw [if_neg h1] at h; exact absurd h (by decide)
  · show AnsC (hN (fun c_6 M_2 => (bif Nat.beq c_6 15 then some (rI 1, M_2) else (bif Nat.beq c_6 14 then some (rI 2, M_2) else (bif Nat.beq c_6 16 then some (rI 3, M_2) else none)))) (gh_rule p j M)) M _ _
    by_cases h1 : 0 ≤ p ∧ p < M 166 2
    · obtain ⟨s0, s1, s2, s3, s4, s5, s6, s7⟩ := now_st hW.1 hW.2.2.1
      have h7 := hW.1.2.2.2.2.2.2.2.1
      have c0 := hW.1.1
      have c6 := hW.1.2.2.2.2.2.2.1
      have hE := oE_b hW.1 hW.2.2.2.1 (p := M 166 7) h1.1 h1.2
      rw [if_pos h1]
      have pre : ∀ X, (if oE (M 166) p (M 166 7) = -1 then thx 14 M else (bif cmpB .lt j 0 then thx 16 M else (bif cmpB .le j 2 then (bif cmpB .ne j 2 then (bV (stps_judge p (M 23 0) (M 23 3) (M 23 1) M) fun M_8 => (bif cmpB .ne j 0 then some (rI (M_8 157 1), M_8) else (bif cmpB .eq (M_8 157 0) 0 then some (rI 0, M_8) else some (rI 1, M_8)))) else (bI (gh_arrivalNow p M) fun z_12 M_11 => (bif cmpB .ne z_12 (-1) then some (rI 1, M_11) else some (rI 0, M_11)))) else thx 16 M))) = X → gh_rule p j M = X := by
        intro X hX
        unfold gh_rule
        rw [← hX, checkRoad_t hW.1 hL.1.2.2.1 h1.1 h1.2, show land_otherEnd 3 p (M 23 0) M = land_otherEnd 3 p (M 166 7) M from by rw [hJ.1.1], land_otherEnd_b hL hW.1 hW.2.2.2.1 h1.1 h1.2 (by omega), bq_ne (by omega) (by decide)]
      by_cases h2 : 0 ≤ oE (M 166) p (M 166 7)
      · rw [if_pos h2]
        by_cases h3 : 0 ≤ j ∧ j ≤ 2
        · rw [if_pos h3]
          by_cases h4 : j = 2
          · obtain ⟨M', e1, f1⟩ := arrivalNow_v hW (by omega) hL hJ hlw h1.1 h1.2
            have := sHr_b (n := k) hW.2.2.2.1 hO h1.1 h1.2 (nowS (M 166))
            refine ansC_ret (M1 := M') hx (pre _ ?_) (hz h1.1 h1.2) f1.core (f1 999 (by decide) (by decide) (by decide))
            rw [if_neg (by omega), bq_lt hj (by decide), if_neg (by omega), bq_le hj (by decide), if_pos h3.2, bq_ne hj (by decide), if_pos h4, e1, bI_I]
            unfold ruV
            rw [if_neg (show ¬ j = 0 by omega), if_neg (show ¬ j = 1 by omega)]
            cases sCan (M 166) (nowS (M 166)) p with
            | true => rw [if_pos rfl, bq_ne (by omega) (by decide), if_neg (by omega)]; rfl
            | false => rfl
          · obtain ⟨M', e1, e2, e3, f1⟩ := judge_v (s := bset 10 (stB' (M 166) 2)) (tm := M 166 6) (p := M 166 7) (k := fun M_8 => (bif cmpB .ne j 0 then some (rI (M_8 157 1), M_8) else (bif cmpB .eq (M_8 157 0) 0 then some (rI 0, M_8) else some (rI 1, M_8)))) hW.1 hW.2.2.1 hW.2.2.2.1 hL hlw h1.1 h1.2 (by omega) (bset_1024 _) c6.1 (by omega)
            have eT : sTT (M 166) (nowS (M 166)) p = lTT (M 166) p (M 166 7) (M 166 6) (bset 10 (stB' (M 166) 2)) := by unfold sTT; rw [s1, s2, s3]
            refine ansC_ret (M1 := M') hx (pre _ ?_) (hz h1.1 h1.2) f1.core (f1 999 (by decide) (by decide) (by decide))
            rw [if_neg (by omega), bq_lt hj (by decide), if_neg (by omega), bq_le hj (by decide), if_pos h3.2, bq_ne hj (by decide), if_neg h4, hJ.1.1, hJ.1.2.1, hJ.2.1, e1, bq_ne hj (by decide), e2, e3, bz_eq0, b_01]
            unfold ruV sHr
            rw [eT]
            by_cases h5 : j = 0
            · rw [if_pos h5, if_pos h5]
            · rw [if_neg h5, if_neg h5, if_pos (by omega)]
        · rw [if_neg h3]
          refine ansC_thr (c := 16) hx (pre _ ?_) rfl (by decide) Core.rfl' rfl
          rw [if_neg (by omega), bq_lt hj (by decide)]
          by_cases h4 : j < 0
          · rw [if_pos h4]; exact thx_v hx
          · rw [if_neg h4, bq_le hj (by decide), if_neg (by omega)]; exact thx_v hx
      · rw [if_neg h2]
        refine ansC_thr (c := 14) hx (pre _ ?_) rfl (by decide) Core.rfl' rfl
        rw [if_pos (by omega)]; exact thx_v hx
    · rw [if_neg h1]
      exact ansC_thr (c := 15) hx (checkRoad_f hW.1 hL.1.2.2.1 hx hp h1) rfl (by decide) Core.rfl' rfl
  · have hWN := hN.2.1
    have hON := LawR_ok hN.2.2.2.2.1
    rw [← e]
    clear hW hL hJ hlw hO hz e
    obtain ⟨hC, hP, hT, hR, hB, hG, -⟩ := hWN
    by_cases h1 : 0 ≤ p ∧ p < N 166 2
    · rw [if_pos h1]
      obtain ⟨s0, s1, s2, s3, s4, s5, s6, s7⟩ := now_st hC hT
      have h7 := hC.2.2.2.2.2.2.2.1
      have c0 := hC.1
      have c6 := hC.2.2.2.2.2.2.1
      have hE := oE_b hC hR (p := N 166 7) h1.1 h1.2
      have hr := (hR p h1.1 h1.2).1
      have pre : ∀ X, (bif cmpB .ge (oE (N 166) p (N 166 7)) 0 then (mo_rule_J46 p j 0 (mU N 165 0 0)) else (mo_rule_J41 p j (mU N 165 0 0))) = X → mo_rule p j N = X := by
        intro X hX
        unfold mo_rule
        rw [← hX, sM_eq, mo_noRoad_b (M := mU N 165 0 0) hC hp, decide_eq_true (show 0 ≤ p ∧ p < (mU N 165 0 0) 166 2 from h1), Bool.not_true, mo_throwsIf_f, bz_ne0, cn_f, mo_places_b, t0_166, bq_eq (by omega) (by decide), if_neg (by omega), bq_in (by decide) (by decide), mo_otherEnd_b (M := mU N 165 0 0) hC hR h1.1 h1.2 (by omega), t0_166]
      by_cases h2 : 0 ≤ oE (N 166) p (N 166 7)
      · rw [if_pos h2]
        by_cases h3 : 0 ≤ j ∧ j ≤ 2
        · rw [if_pos h3]
          obtain ⟨N1, e1, f1, f2, f3, f4⟩ := mo_hoursBy_v (N := mU N 165 0 0) (s := nowS (N 166)) hC hR hT hON (by omega) s0 h1.1 h1.2
          have w1 : N1 166 = N 166 := f1.1 166 (by decide) (by decide)
          have pre2 : ∀ X, (bif cmpB .ne j 1 then (bif cmpB .ne j 0 then (bJ (mo_now N1) fun z_29 M_28 => (bI (mo_canGo z_29 p M_28) fun z_32 M_31 => (bif cmpB .eq z_32 0 then some (rI 0, M_31) else some (rI 1, M_31)))) else (bI (mo_sumOf 0 N1) fun z_35 M_34 => (bif cmpB .le z_35 0 then some (rI 0, M_34) else some (rI 1, M_34)))) else some (rI (sHr (N 166) (nowS (N 166)) p), N1)) = X → mo_rule p j N = X := by
            intro X hX
            refine pre _ ?_
            unfold mo_rule_J46 mo_rule_J68
            rw [← hX, bq_ge (by omega) (by decide), if_pos h2, mo_throwsIf_0, bq_ne (by decide) (by decide), if_pos rfl, mo_in_b hj (by decide) (by decide), decide_eq_true h3, bz_ne0, cn_t, mo_throwsIf_0, bq_eq (by decide) (by decide), if_pos rfl, mo_now_b (M := mU N 165 0 0) hC hP hT hB (by omega), t0_166, e1, bI_I, t0_166]
          have g0 : N1 165 0 = 0 := by rw [f1.2 0 (by decide)]; rfl
          rcases (show j = 0 ∨ j = 1 ∨ j = 2 by omega) with rfl | rfl | rfl
          · obtain ⟨N2, e2, g2⟩ := mo_sumOf_v (w := N 166) (kd := 0) hON (Or.inl rfl) N1 w1 (by rw [f4, t0_166, s2]; omega) (by rw [f4, t0_166, s2]; omega)
            have hS := lSum_b hON (sTT (N 166) (nowS (N 166)) p) 0
            have tr := f1.tr (Ts.fr g2)
            refine ansR_ret (N2 := N2) (pre2 _ ?_) (by rw [g2 165 (by decide)]; exact g0) (Core_t0.trans' tr.core) (tr.1 181 (by decide) (by decide)) (tr.1 999 (by decide) (by decide))
            rw [bq_ne (by decide) (by decide), if_neg (by decide), bq_ne (by decide) (by decide), if_pos rfl, e2, bI_I, f2, t0_166, bq_le (by omega) (by decide), i_10]
            unfold ruV
            rw [if_pos rfl]
            congr 4
            rw [Bool.eq_iff_iff]
            simp
            omega
          · refine ansR_ret (N2 := N1) (pre2 _ ?_) g0 (Core_t0.trans' f1.core) (f1.1 181 (by decide) (by decide)) (f1.1 999 (by decide) (by decide))
            rw [bq_ne (by decide) (by decide), if_pos rfl]
            rfl
          · obtain ⟨N2, e2, f5⟩ := mo_canGo_v (N := N1) (n := k + 1) (s := nowS (N 166)) (r := p) (by rw [w1]; exact hC) (by rw [w1]; exact hP) (by rw [w1]; exact hR) (by rw [w1]; exact hT) (by rw [w1]; exact hON) (by omega) s0 (by rw [w1, s1]; omega) h1.1 (by rw [w1]; exact h1.2)
            have tr := f1.tr f5
            refine ansR_ret (N2 := N2) (pre2 _ ?_) (by rw [f5.2 0 (by decide)]; exact g0) (Core_t0.trans' tr.core) (tr.1 181 (by decide) (by decide)) (tr.1 999 (by decide) (by decide))
            rw [bq_ne (by decide) (by decide), if_neg (by decide), bq_ne (by decide) (by decide), if_neg (by decide), mo_now_b (M := N1) (n := k + 1) (by rw [w1]; exact hC) (by rw [w1]; exact hP) (by rw [w1]; exact hT) (by rw [w1]; exact hB) (by omega), w1, e2, bI_I, w1, bz_eq0, b_01]
            unfold ruV
            rw [if_neg (by decide), if_neg (by decide)]
        · rw [if_neg h3]
          refine ansR_thr (z' := 0) (pre _ ?_) (by decide)
          unfold mo_rule_J46 mo_rule_J68
          rw [bq_ge (by omega) (by decide), if_pos h2, mo_throwsIf_0, bq_ne (by decide) (by decide), if_pos rfl, mo_in_b hj (by decide) (by decide), decide_eq_false h3, bz_ne0, cn_f, mo_throwsIf_1, bq_eq (by decide) (by decide), if_neg (by decide)]
      · rw [if_neg h2]
        refine ansR_thr (z' := 0) (pre _ ?_) (by decide)
        unfold mo_rule_J41 mo_rule_J46
        rw [bq_ge (by omega) (by decide), if_neg h2, mo_throwsIf_1, bq_ne (by decide) (by decide), if_neg (by decide)]
    · rw [if_neg h1]
      refine ansR_thr (z' := 0) ?_ (by decide)
      unfold mo_rule
      rw [sM_eq, mo_noRoad_b (M := mU N 165 0 0) hC hp, decide_eq_false (show ¬ (0 ≤ p ∧ p < (mU N 165 0 0) 166 2) from h1), Bool.not_false, mo_throwsIf_t, bz_ne0, cn_t]
