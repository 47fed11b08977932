/-! ===== DELAY ===== -/
theorem lc_neg : lCmp (-1) 0 = -1 := by decide
theorem lc_nat {s : Nat} (h : s < 9223372036854775808) : 0 ≤ lCmp (s : Int) 0 ∧ lCmp (s : Int) 0 ≤ 1 := by
  unfold lCmp lg_cmp
  have h0 : (Int64.ofInt (s : Int)).toInt = s := Int64.toInt_ofInt_of_le (by omega) (by omega)
  have h1 : (Int64.ofInt 0).toInt = 0 := by decide
  by_cases h2 : Int64.ofInt (s : Int) > Int64.ofInt 0
  · rw [if_pos h2]; decide
  · rw [if_neg h2]
    have : ¬ (Int64.ofInt 0).toInt < (Int64.ofInt (s : Int)).toInt := fun g => h2 (Int64.lt_iff_toInt_lt.mpr g)
    rw [h0, h1] at this
    have e : Int64.ofInt (s : Int) = Int64.ofInt 0 := by
      obtain rfl : s = 0 := by omega
      rfl
    rw [if_pos e]; decide
theorem mo_waits_b {N : MM} {n s : Nat} {k : Int → MM → OR} (hC : WC n (N 166)) (hP : WP (N 166)) (hn : n ≤ 1000) (hs : PK s) (hp : sPl s < N 166 0) : bJ (mo_waits (s : Int) N) k = k (if eatB (N 166) (sPl s) (sTm (N 166) s + 1) = true then -1 else ((s + 1 : Nat) : Int)) N := by
  have c6 := hC.2.2.2.2.2.2.1
  have hf := fd_lt s 0 5
  unfold mo_waits
  rw [bq_in (by decide) (by decide), mo_hoursOf_b hs, mo_placeOf_b hs, show ((fd s 5 4 : Nat) : Int) = sPl s from rfl, show (N 166 6 + ((fd s 0 5 : Nat) : Int)) + 1 = sTm (N 166) s + 1 from rfl, mo_isEating_b hC hP (by unfold sPl; omega) hp (by unfold sTm; omega) (by unfold sTm; omega), bz_eq0]
  cases eatB (N 166) (sPl s) (sTm (N 166) s + 1) with
  | true => rw [cn_t, if_pos rfl, bJ_J]
  | false => rw [cn_f, if_neg (by decide), bJ_J]; rfl
def wcF (f : Nat → Bool) : Nat → Nat → Nat
  | 0, i => i
  | m + 1, i => bif f i then i else wcF f m (i + 1)
theorem wcF_b (f : Nat → Bool) : ∀ m i, i ≤ wcF f m i ∧ wcF f m i ≤ i + m
  | 0, i => ⟨Nat.le_refl _, Nat.le_refl _⟩
  | m + 1, i => by
    have := wcF_b f m (i + 1)
    show i ≤ (bif f i then i else wcF f m (i + 1)) ∧ (bif f i then i else wcF f m (i + 1)) ≤ i + (m + 1)
    cases f i with
    | true => exact ⟨Nat.le_refl _, by show i ≤ _; omega⟩
    | false => exact ⟨by show i ≤ wcF f m (i + 1); omega, by show wcF f m (i + 1) ≤ _; omega⟩
def dlB (w : Nat → Int) (i : Nat) : Bool := eatB w (w 7) (w 6 + (i : Int) + 1)
theorem gh_delay_run {w : Nat → Int} {n : Nat} {M : MM} {v : Nat} {K : Int → MM → OR} (hC : WC n w) (hP : WP w) (hn : n ≤ 1000) (hL : LandR 3 w M) (h0 : M 23 0 = w 7) (h1 : M 23 1 = w 6) (h7 : w 7 < w 0) (hv : v ≤ 48) : ∀ m i F, m + i = v → m < F → gh_delay_L28 (v : Int) K F (i : Int) M = K ((wcF (dlB w) m i : Nat) : Int) M
  | 0, i, F, h, hF => by
    obtain ⟨n, rfl⟩ : ∃ n, F = n + 1 := ⟨F - 1, by omega⟩
    obtain rfl : i = v := by omega
    rw [gh_delay_L28, bq_ge (by omega) (by omega), if_pos (by omega)]; rfl
  | m + 1, i, F, h, hF => by
    obtain ⟨n', rfl⟩ : ∃ n, F = n + 1 := ⟨F - 1, by omega⟩
    have c7 := hC.2.2.2.2.2.2.2.1
    have c6 := hC.2.2.2.2.2.2.1
    rw [gh_delay_L28, bq_ge (by omega) (by omega), if_neg (by omega), h0, h1, land_eatsAt_b hC hP hL c7.1 h7 (by omega) (by omega), bz_ne0, show eatB w (w 7) (w 6 + (i : Int) + 1) = dlB w i from rfl]
    show _ = K (((bif dlB w i then i else wcF (dlB w) m (i + 1)) : Nat) : Int) M
    cases dlB w i with
    | true => rw [cn_t, cn_t]
    | false =>
      rw [cn_f, cn_f, show (i : Int) + 1 = ((i + 1 : Nat) : Int) by omega]
      exact gh_delay_run hC hP hn hL h0 h1 h7 hv m (i + 1) n' (by omega) (by omega)
theorem mU_twice {M : MM} {a j : Nat} {x y : Int} : mU (mU M a j x) a j y = mU M a j y := by
  funext b i
  by_cases h : b = a
  · subst h
    rw [mU_eq, mU_eq, mU_eq]
    by_cases hi : i = j
    · subst hi; rw [up_eq, up_eq]
    · rw [up_ne hi, up_ne hi, up_ne hi]
  · rw [mU_ne h, mU_ne h, mU_ne h]
theorem mo_delay_run {w : Nat → Int} {k : Nat} {N : MM} {v : Nat} {K : Int → MM → OR} (hW : WF k w) (hk : k ≤ 511) (hw : N 166 = w) (h7 : w 7 < w 0) (hv : v ≤ 48) : ∀ m i F, m + i = v → m < F → mo_delay_L69 (v : Int) K F (i : Int) (mU N 166 6 (w 6 + (i : Int))) = K ((wcF (dlB w) m i : Nat) : Int) (mU N 166 6 (w 6 + ((wcF (dlB w) m i : Nat) : Int)))
  | 0, i, F, h, hF => by
    obtain ⟨n, rfl⟩ : ∃ n, F = n + 1 := ⟨F - 1, by omega⟩
    obtain rfl : i = v := by omega
    rw [mo_delay_L69, bq_ge (by omega) (by omega), if_pos (by omega)]; rfl
  | m + 1, i, F, h, hF => by
    obtain ⟨n', rfl⟩ : ∃ n, F = n + 1 := ⟨F - 1, by omega⟩
    have c6 := hW.1.2.2.2.2.2.2.1
    have c7 := hW.1.2.2.2.2.2.2.2.1
    have c8 := hW.1.2.2.2.2.2.2.2.2.1
    have r6 : (mU N 166 6 (w 6 + (i : Int))) 166 6 = w 6 + (i : Int) := rfl
    have ra : ∀ j, j ≠ 6 → (mU N 166 6 (w 6 + (i : Int))) 166 j = w j := fun j hj => by rw [mU_eq, up_ne hj, hw]
    obtain ⟨⟨hC', hP', hT', hR', hB', hG', -⟩, hS⟩ := move_row (w' := (mU N 166 6 (w 6 + (i : Int))) 166) hW (fun j h6 _ _ => ra j h6) (by rw [r6]; omega) (by rw [ra 7 (by decide)]; exact c7) (by rw [ra 8 (by decide)]; exact c8)
    obtain ⟨s0, s1, s2, s3, s4, s5, s6, s7⟩ := now_st hC' hT'
    have eE : eatB ((mU N 166 6 (w 6 + (i : Int))) 166) (sPl (nowS ((mU N 166 6 (w 6 + (i : Int))) 166))) (sTm ((mU N 166 6 (w 6 + (i : Int))) 166) (nowS ((mU N 166 6 (w 6 + (i : Int))) 166)) + 1) = dlB w i := by
      have h10 : ∀ k, 10 ≤ k → (mU N 166 6 (w 6 + (i : Int))) 166 k = w k := fun k hk => ra k (by omega)
      rw [s1, s2, ra 7 (by decide), r6]
      unfold dlB eatB
      rw [oP_hi h10 c7.1 (by decide), oP_hi h10 c7.1 (by decide)]
    rw [mo_delay_L69, bq_ge (by omega) (by omega), if_neg (by omega), mo_now_b hC' hP' hT' hB' (by omega), mo_waits_b hC' hP' (by omega) s0 (by rw [s1, ra 7 (by decide), ra 0 (by decide)]; exact h7), eE]
    show _ = K (((bif dlB w i then i else wcF (dlB w) m (i + 1)) : Nat) : Int) (mU N 166 6 (w 6 + (((bif dlB w i then i else wcF (dlB w) m (i + 1)) : Nat) : Int)))
    cases dlB w i with
    | true => rw [cn_t, if_pos rfl, lc_neg, bq_lt (by decide) (by decide), if_pos (by decide)]
    | false =>
      have hb := lc_nat (s := nowS ((mU N 166 6 (w 6 + (i : Int))) 166) + 1) (by unfold PK at s0; omega)
      rw [cn_f, if_neg (by decide), bq_lt (by omega) (by decide), if_neg (by omega), bq_in (by decide) (by decide), bq_in (by decide) (by decide), sM_eq, r6, mU_twice, show (i : Int) + 1 = ((i + 1 : Nat) : Int) by omega, show w 6 + (i : Int) + 1 = w 6 + ((i + 1 : Nat) : Int) by omega]
      exact mo_delay_run hW hk hw h7 hv m (i + 1) n' (by omega) (by omega)
theorem ok_delay {v : Int} (hp : I32 v) : OpOK (drv_delay v) (mo_delay v) := by
  intro k M hk hI
  show OpAt k M _ _
  have hI' := hI
  obtain ⟨hTp, hW, hL, hJ, hlw, hMm, hIm, hSr, hx, hch⟩ := hI'
  have hX : EXC M := ⟨hx.1, by omega⟩
  have c0 := hW.1.1
  have c6 := hW.1.2.2.2.2.2.2.1
  have c7 := hW.1.2.2.2.2.2.2.2.1
  have c8 := hW.1.2.2.2.2.2.2.2.2.1
  by_cases h1 : 1 ≤ v ∧ v ≤ 48
  · have preR1 : ∀ N : MM, ∀ X, mo_delay_J21 v 0 (mU N 165 0 0) = X → mo_delay v N = X := fun N X hX => by
      unfold mo_delay
      rw [← hX, sM_eq, mo_in_b hp (by decide) (by decide), decide_eq_true h1, bz_ne0, cn_t]
    by_cases hz : M 166 0 = 0
    · refine at_read (c := 2) (z := 0) hk hI (by decide) (fun h => absurd h (by decide)) ?_ (fun N hN e => ?_)
      · refine ansC_thr (E := fun c_6 M_2 => (bif Nat.beq c_6 13 then some (rI 1, M_2) else (bif Nat.beq c_6 14 then some (rI 2, M_2) else none))) (c := 14) (M1 := M) hX ?_ rfl (by decide) Core.rfl' rfl
        unfold gh_delay
        rw [bq_lt hp (by decide), if_neg (by omega), bq_le hp (by decide), if_pos h1.2, checkAny_f hL.1.1 hX hz]
      · refine ansR_thr (z' := 0) (preR1 N _ ?_) (by decide)
        unfold mo_delay_J21 mo_delay_J49 mo_delay_J54
        rw [mo_throwsIf_0, bq_ne (by decide) (by decide), if_pos rfl, mo_places_b, t0_166, e, hz, bq_eq (by decide) (by decide), if_pos rfl, mo_throwsIf_1, bq_eq (by decide) (by decide), if_neg (by decide)]
    · have h7 : M 166 7 < M 166 0 := by omega
      obtain ⟨vn, rfl⟩ : ∃ n : Nat, v = (n : Int) := ⟨v.toNat, by omega⟩
      have hwc := wcF_b (dlB (M 166)) vn 0
      have eC : ∀ X, (bif cmpB .ne ((wcF (dlB (M 166)) vn 0 : Nat) : Int) 0 then (bV (gh_rememberAct M) fun M_11 => (sM (mU M_11 23 1 ((M_11 23 1) + ((wcF (dlB (M 166)) vn 0 : Nat) : Int))) fun M_13 => some (rI ((wcF (dlB (M 166)) vn 0 : Nat) : Int), M_13))) else thx 14 M) = X → gh_delay (vn : Int) M = X := by
        intro X hX
        unfold gh_delay
        rw [← hX, bq_lt hp (by decide), if_neg (by omega), bq_le hp (by decide), if_pos h1.2, checkAny_t hW.1 hL.1.1 hz]
        have := gh_delay_run (K := fun v2_7 M_8 => (bif cmpB .ne v2_7 0 then (bV (gh_rememberAct M_8) fun M_11 => (sM (mU M_11 23 1 ((M_11 23 1) + v2_7)) fun M_13 => some (rI v2_7, M_13))) else thx 14 M_8)) hW.1 hW.2.1 (by omega) hL hJ.1.1 hJ.1.2.1 h7 (show vn ≤ 48 by omega) vn 0 FU rfl (FU_gt (by omega))
        exact this
      have preR2 : ∀ N : MM, N 166 = M 166 → ∀ X, (if dlB (M 166) 0 = true then mo_delay_J49 (vn : Int) (mU N 165 0 0) else mo_delay_J54 (vn : Int) 0 (mU N 165 0 0)) = X → mo_delay (vn : Int) N = X := by
        intro N e X hX
        refine preR1 N X ?_
        obtain ⟨s0, s1, s2, s3, s4, s5, s6, s7⟩ := now_st hW.1 hW.2.2.1
        have w1 : (mU N 165 0 0) 166 = M 166 := e
        unfold mo_delay_J21
        rw [← hX, mo_throwsIf_0, bq_ne (by decide) (by decide), if_pos rfl, mo_places_b, w1, bq_eq (by omega) (by decide), if_neg hz, mo_now_b (M := mU N 165 0 0) (n := k) (by rw [w1]; exact hW.1) (by rw [w1]; exact hW.2.1) (by rw [w1]; exact hW.2.2.1) (by rw [w1]; exact hW.2.2.2.2.1) (by omega), w1, mo_waits_b (N := mU N 165 0 0) (n := k) (by rw [w1]; exact hW.1) (by rw [w1]; exact hW.2.1) (by omega) s0 (by rw [w1, s1]; exact h7), w1, s1, s2]
        have ed : eatB (M 166) (M 166 7) (M 166 6 + 1) = dlB (M 166) 0 := by
          unfold dlB
          rw [show M 166 6 + ((0 : Nat) : Int) + 1 = M 166 6 + 1 by omega]
        rw [ed]
        cases dlB (M 166) 0 with
        | true => rw [if_pos rfl, if_pos rfl, lc_neg, bq_ge (by decide) (by decide), if_neg (by decide)]
        | false =>
          have hb := lc_nat (s := nowS (M 166) + 1) (by unfold PK at s0; omega)
          rw [if_neg (by decide), if_neg (by decide), bq_ge (by omega) (by decide), if_pos (by omega)]
      obtain ⟨vm, rfl⟩ : ∃ m, vn = m + 1 := ⟨vn - 1, by omega⟩
      cases hd : dlB (M 166) 0 with
      | true =>
        have hw0 : wcF (dlB (M 166)) (vm + 1) 0 = 0 := by
          show (bif dlB (M 166) 0 then 0 else _) = 0
          rw [hd]; rfl
        rw [hw0] at eC
        rw [hd] at preR2
        refine at_read (c := 2) (z := 0) hk hI (by decide) (fun h => absurd h (by decide)) ?_ (fun N hN e => ?_)
        · refine ansC_thr (E := fun c_6 M_2 => (bif Nat.beq c_6 13 then some (rI 1, M_2) else (bif Nat.beq c_6 14 then some (rI 2, M_2) else none))) (c := 14) (M1 := M) hX (eC _ ?_) rfl (by decide) Core.rfl' rfl
          rw [show ((0 : Nat) : Int) = 0 from rfl, bq_ne (by decide) (by decide), if_pos rfl]
          exact thx_v hX
        · refine ansR_thr (z' := 0) (preR2 N e _ ?_) (by decide)
          rw [if_pos rfl]
          unfold mo_delay_J49 mo_delay_J54
          rw [mo_throwsIf_1, bq_eq (by decide) (by decide), if_neg (by decide)]
      | false =>
        rw [hd] at preR2
        have hw1 : 1 ≤ wcF (dlB (M 166)) (vm + 1) 0 := by
          have := wcF_b (dlB (M 166)) vm 1
          show 1 ≤ (bif dlB (M 166) 0 then 0 else wcF (dlB (M 166)) vm 1)
          rw [hd]
          exact this.1
        generalize hg : wcF (dlB (M 166)) (vm + 1) 0 = g at *
        obtain ⟨rem, nx, M1, m1, m2, m3, m4, m5, e2, A⟩ := RA_ex hMm
        obtain ⟨A1, A2, A3, A4, A5, A6, A7, A8, A9⟩ := id A
        have f23 : ∀ p, 3 ≤ p → p ≤ 28 → M1 p = M p := fun p h1 h2 => A9 p (by omega) (by omega) (by omega)
        have hzI : I32 (g : Int) := by omega
        generalize hMc : mU M1 23 1 (M 166 6 + (g : Int)) = Mc
        have fc : ∀ p, p ≠ 23 → Mc p = M1 p := fun p hp => by rw [← hMc, mU_ne hp]
        have eC' : gh_delay ((vm + 1 : Nat) : Int) M = some (rI (g : Int), Mc) := by
          refine eC _ ?_
          rw [bq_ne hzI (by decide), if_neg (by omega), e2, bV_V, sM_eq, f23 23 (by decide) (by decide), hJ.1.2.1, hMc]
        have wN : (mU Mc 181 0 (g : Int)) 166 = M 166 := by rw [mU_ne (by decide), fc 166 (by decide), A9 166 (by decide) (by decide) (by omega)]
        have g5 : ∀ j, (j = 5 ∨ j = 6 ∨ j = 8 ∨ j = 13) → (mU (mU Mc 181 0 (g : Int)) 165 0 0) 165 j = M 165 j := fun j hj => by rw [mU_eq, up_ne (by omega), mU_ne (by decide), fc 165 (by decide), A9 165 (by decide) (by decide) (by omega)]
        obtain ⟨N1, r1, B⟩ := RB_ex (rem := rem) (N := mU (mU Mc 181 0 (g : Int)) 165 0 0) (by rw [g5 6 (by decide)]; exact m1) m4
        obtain ⟨B1, B2, B3, -⟩ := id B
        have w1 : N1 166 = M 166 := (B3 166 (by decide) (by decide)).trans wN
        have r2 := mo_delay_run (N := N1) (K := fun v2_26 M_27 => some (rI v2_26, M_27)) hW hk w1 h7 (show vm + 1 ≤ 48 by omega) (vm + 1) 0 FU rfl (FU_gt (by omega))
        rw [hg, show mU N1 166 6 (M 166 6 + ((0 : Nat) : Int)) = N1 from by
          funext a j
          by_cases ha : a = 166
          · subst ha
            rw [mU_eq]
            by_cases hj : j = 6
            · subst hj; rw [up_eq, w1]; omega
            · rw [up_ne hj]
          · rw [mU_ne ha]] at r2
        generalize hM2 : mU N1 166 6 (M 166 6 + (g : Int)) = M2 at r2
        have gf : ∀ p, p ≠ 166 → M2 p = N1 p := fun p hp => by rw [← hM2, mU_ne hp]
        have g166 : ∀ j, j ≠ 6 → j ≠ 7 → j ≠ 8 → M2 166 j = M 166 j := fun j h6 h7 h8 => by rw [← hM2, mU_eq, up_ne h6, w1]
        have v6 : M2 166 6 = M 166 6 + (g : Int) := by rw [← hM2]; rfl
        have v7 : M2 166 7 = M 166 7 := by rw [← hM2, mU_eq, up_ne (by decide), w1]
        have v8 : M2 166 8 = M 166 8 := by rw [← hM2, mU_eq, up_ne (by decide), w1]
        refine ⟨0, (g : Int), mU Mc 181 0 (g : Int), M2, ?_, ?_, ?_, by decide, fun _ => ⟨?_, hzI⟩, ?_⟩
        · exact hN_ret (E := fun c_6 M_2 => (bif Nat.beq c_6 13 then some (rI 1, M_2) else (bif Nat.beq c_6 14 then some (rI 2, M_2) else none))) eC' hzI
        · refine preR2 _ wN _ ?_
          rw [if_neg (by decide)]
          unfold mo_delay_J54
          rw [mo_throwsIf_0, bq_eq (by decide) (by decide), if_pos rfl, r1, bV_V]
          exact r2
        · rw [gf 165 (by decide), B2 0 (by decide)]; rfl
        · rw [gf 181 (by decide), B3 181 (by decide) (by decide)]; rfl
        · have hmv := move_row (w' := M2 166) hW g166 (by rw [v6]; omega) (by rw [v7]; exact c7) (by rw [v8]; exact c8)
          refine act_end (M := M) (M1 := M1) (N0 := mU (mU Mc 181 0 (g : Int)) 165 0 0) (N1 := N1) hI hk m1 m2 m3 m4 m5 A (fun p h1 h2 h3 h4 => ?_) g5 B (fun p h1 h2 h3 => gf p h3) (fun j hj => by rw [gf 165 (by decide)]) (fun j hj => g166 j (by omega) (by omega) (by omega)) hmv.1 hmv.2 ?_
          · rw [mU_ne h1, mU_ne h3, fc p (by omega)]
          · refine move_jny (w := M 166) (M := M) g166 hJ ?_ ?_ ?_ (fun j hj => ?_) (fun p h1 h2 => ?_)
            · rw [mU_ne (by decide), mU_ne (by decide), v7, ← hMc, mU_eq, up_ne (by decide), f23 23 (by decide) (by decide)]; exact hJ.1.1
            · rw [mU_ne (by decide), mU_ne (by decide), v6, ← hMc]; rfl
            · rw [mU_ne (by decide), mU_ne (by decide), v8, ← hMc, mU_eq, up_ne (by decide), f23 23 (by decide) (by decide)]; exact hJ.1.2.2.1
            · rw [mU_ne (by decide), mU_ne (by decide), ← hMc, mU_eq, up_ne (by omega), f23 23 (by decide) (by decide)]
            · rw [mU_ne (by omega), mU_ne (by omega), fc p (by omega), f23 p (by omega) (by omega)]
  · refine at_read (c := 1) (z := 0) hk hI (by decide) (fun h => absurd h (by decide)) ?_ (fun N hN e => ?_)
    · refine ansC_thr (E := fun c_6 M_2 => (bif Nat.beq c_6 13 then some (rI 1, M_2) else (bif Nat.beq c_6 14 then some (rI 2, M_2) else none))) (c := 13) (M1 := M) hX ?_ rfl (by decide) Core.rfl' rfl
      unfold gh_delay
      rw [bq_lt hp (by decide)]
      by_cases h2 : v < 1
      · rw [if_pos h2]; exact thx_v hX
      · rw [if_neg h2, bq_le hp (by decide), if_neg (by omega)]; exact thx_v hX
    · refine ansR_thr (z' := 0) ?_ (by decide)
      unfold mo_delay mo_delay_J21
      rw [sM_eq, mo_in_b hp (by decide) (by decide), decide_eq_false h1, bz_ne0, cn_f, mo_throwsIf_1, bq_ne (by decide) (by decide), if_neg (by decide)]
