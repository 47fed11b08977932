/-! ===== THE TALE: a keeper's line; any line ===== -/
theorem line_keep {T : Nat → Int} {n k p q : Nat} {C N : MM} (hC : TC T n C) (hN : TN T n N) (hD : DrT k C N) (hp : p ≤ n) (hq : q ≤ n) {p0 : Nat} (hp0 : p0 ≤ p) : LnR n k C N p0 (bV (tale_readKeeper (tpT C p q (-1))) fun M_23 => some (rV, M_23)) (bI (mo_readKeeper (nT N p q)) fun z_21 M_20 => (bif zo z_21 then some (rI z_21, M_20) else none)) := by
  have hD' := hD
  obtain ⟨hL, hJ, hW⟩ := hD'
  have hC0 := hW.1
  have c0 := hW.1.1
  have n4 := hC.2.1
  obtain ⟨P, hP⟩ : ∃ P : Nat, N 166 0 = (P : Int) := ⟨(N 166 0).toNat, by omega⟩
  have h290 : C 29 0 = (P : Int) := by rw [hL.1.1, hP]
  have e290 : ∀ p' l' b, tpT C p' l' b 29 0 = (P : Int) := fun p' l' b => by rw [cT_ne (by decide), h290]
  have e166 : ∀ p' e' j, nT N p' e' 166 j = N 166 j := fun p' e' j => by rw [nT_ne (by decide)]
  have cL : ∀ p' l' b, LandR 29 (N 166) (tpT C p' l' b) := fun p' l' b => LandR_fr (fun j hj => by rw [cT_ne (by omega)]) hL
  have bad : ∀ (X Y : OR) (b : Nat) (p'' : Nat), b ≤ n → WX T n (b : Int) C X → Y = some (rI 0, nT N p'' b) → LnR n k C N p0 (bV X fun M_23 => some (rV, M_23)) (bI Y fun z_21 M_20 => (bif zo z_21 then some (rI z_21, M_20) else none)) := fun X Y b p'' hb hX hY => by
    obtain ⟨C', p', l', a1, a2, a3⟩ := hX hC
    exact Or.inr ⟨b, C', p', l', N, p'', by rw [a1, bV_V], by rw [hY]; rfl, a2, FrN.rf, a3, hb⟩
  have pass : ∀ X Y : OR, LnR n k C N p0 X Y → LnR n k C N p0 (bV X fun M_23 => some (rV, M_23)) (bI Y fun z_21 M_20 => (bif zo z_21 then some (rI z_21, M_20) else none)) := fun X Y h => by
    rcases h with ⟨C', N', p', l', e', h1, h2, h3⟩ | ⟨q, C', p', l', N', p'', h1, h2, h3⟩
    · exact Or.inl ⟨C', N', p', l', e', by rw [h1, bV_V], by rw [h2]; rfl, h3⟩
    · exact Or.inr ⟨q, C', p', l', N', p'', by rw [h1, bV_V], by rw [h2]; rfl, h3⟩
  have w60 : wLen 60 = 4 ∧ wLen 8 = 4 := by decide
  have a1 := skB_le (T := T) hp
  unfold tale_readKeeper tale_readPlaceNumber mo_readKeeper mo_placeTold
  rw [e290, num_b hC hp (by decide) (by omega), mo_places_b, e166, hP, number_b hN hp (by decide) (by omega)]
  generalize skB T n p = q1 at a1
  have a2 := dgE_le (T := T) a1.2
  by_cases g1 : nuO T n q1 0 ((P : Int) - 1) = true
  · have ix : 0 ≤ nuV T n q1 ∧ nuV T n q1 ≤ (P : Int) - 1 := (nuO_i.mp g1).2.2
    rw [if_pos g1, if_pos g1, bI_I, bI_I]
    obtain ⟨x, hx⟩ : ∃ x : Nat, nuV T n q1 = (x : Int) := ⟨(nuV T n q1).toNat, by omega⟩
    rw [hx] at ix ⊢
    have h0 : (x : Int) < N 166 0 := by omega
    have hx10 : x < 10 := by omega
    have ek := kpB_eq (w := N 166) (p := (x : Int)) (by omega) h0
    rw [Int.toNat_natCast] at ek
    rw [bq_lt (by omega) (by decide), if_neg (show ¬ (x : Int) < 0 by omega), land_hasKeeper_b (cL _ _ _) (by omega) (by omega), Int.toNat_natCast, bz_eq0, mo_isKeeper_b (M := nT N (dgE T n q1) q1) (n := k) (by rw [nT_ne (by decide)]; exact hC0) (by rw [nT_ne (by decide)]; exact hW.2.1) (by omega) (by rw [nT_ne (by decide)]; exact h0), bz_eq0, nT_ne (show 166 ≠ 165 by decide), ek]
    have pp := hW.2.1 (x : Int) (by omega) h0
    rcases pp.1 with k0 | k1
    · have z := pp.2.2.2.2.2.2.2 k0
      have a3 := skB_le (T := T) a2.2
      rw [decide_eq_false (show ¬ oP (N 166) (x : Int) 0 = 1 by omega), cn_f, cn_f]
      unfold tale_readKeeper_J30 tale_readLock
      rw [need_b hC a2.2 (wk rfl), wd_cg (t := 8) (t' := 60) rfl rfl, after_b hN a2.2 (wk rfl) (by decide) (by decide)]
      generalize skB T n (dgE T n q1) = q2 at a3
      have r44 : ∀ (v2 : Int) (M : MM), mo_readKeeper_J44 (x : Int) v2 (-1) M = some (rI 0, M) := fun v2 M => by
        unfold mo_readKeeper_J44
        rw [bq_ge (by decide) (by decide), if_neg (by decide)]
      -- behind a wrong byte: from the meal on
      have rest : ∀ (C9 : MM) (p9 l9 qb : Nat), p9 ≤ n → qb ≤ n → WX T n (qb : Int) C9 (bV (tale_readMeal (x : Int) (tpT C9 p9 l9 (qb : Int))) fun M_11 => (bI (tape_tookWord 11 M_11) fun z_15 M_14 => (bif cmpB .eq z_15 0 then (tale_readKeeper_J67 (x : Int) M_14) else (sM (mU M_14 29 6 (iOr (M_14 29 6) (iShl 1 (x : Int)))) fun M_34 => (tale_readKeeper_J67 (x : Int) M_34))))) := fun C9 p9 l9 qb hp9 hqb => WX_meal (by omega) (by omega) ⟨by omega, by omega⟩ fun C8 _ => WX_took (by omega) (by omega) (WX_eq0 (WX_k67 (by omega) (by omega) ⟨by omega, by omega⟩ hp9))
      by_cases g2 : wdB T n 60 q2 = true
      · have b2 := wd_le a3.2 g2
        rw [w60.1] at b2
        have a4 := skB_le (T := T) b2
        rw [if_pos g2, if_pos g2, w60.1, w60.2, num_b hC b2 (by decide) (by decide), number_b hN b2 (by decide) (by decide)]
        generalize skB T n (q2 + 4) = q3 at a4
        have a5 := dgE_le (T := T) a4.2
        by_cases g3 : nuO T n q3 0 15 = true
        · have im : 0 ≤ nuV T n q3 ∧ nuV T n q3 ≤ 15 := (nuO_i.mp g3).2.2
          rw [if_pos g3, if_pos g3]
          generalize nuV T n q3 = m at im
          have t2 := TC_u (k := x) (x := m) hC (show 30 ≠ 1 by decide) (show 30 ≠ 2 by decide)
          have a6 := skB_le (T := T) a5.2
          rw [bq_in (by omega) (by omega), sM_eq, Int.toNat_natCast, cT_u (by decide), num_b t2 a5.2 (by decide) (by decide), bq_ge (by omega) (by decide), if_pos im.1, number_b hN a5.2 (by decide) (by decide)]
          generalize skB T n (dgE T n q3) = q4 at a6
          have a7 := dgE_le (T := T) a6.2
          by_cases g4 : nuO T n q4 0 15 = true
          · have iv : 0 ≤ nuV T n q4 ∧ nuV T n q4 ≤ 15 := (nuO_i.mp g4).2.2
            rw [if_pos g4, if_pos g4]
            generalize nuV T n q4 = v at iv
            have f0 := kp_start (w := N 166) (p := x)
            obtain ⟨N1, x1, x2, x3⟩ := sets_b (N := N) (q := dgE T n q4) (e := q4) (i := 0) (x := 1) (k := fun M_14 => (bV (mo_sets (x : Int) 1 m M_14) fun M_17 => (bV (mo_sets (x : Int) 2 v M_17) fun M_20 => (bI (mo_passes 61 M_20) fun z_24 M_23 => (bif cmpB .eq z_24 0 then (mo_readKeeper_J91 (x : Int) M_23) else (bI (mo_readEating (x : Int) M_23) fun z_48 M_47 => (bif cmpB .ne z_48 0 then (mo_readKeeper_J91 (x : Int) M_47) else some (rI 0, M_47)))))))) f0.symm hx10 (by decide)
            obtain ⟨N2, y1, y2, y3⟩ := sets_b (N := N1) (q := dgE T n q4) (e := q4) (i := 1) (x := m) (k := fun M_17 => (bV (mo_sets (x : Int) 2 v M_17) fun M_20 => (bI (mo_passes 61 M_20) fun z_24 M_23 => (bif cmpB .eq z_24 0 then (mo_readKeeper_J91 (x : Int) M_23) else (bI (mo_readEating (x : Int) M_23) fun z_48 M_47 => (bif cmpB .ne z_48 0 then (mo_readKeeper_J91 (x : Int) M_47) else some (rI 0, M_47))))))) x2 hx10 (by decide)
            obtain ⟨N3, z1, z2, z3⟩ := sets_b (N := N2) (q := dgE T n q4) (e := q4) (i := 2) (x := v) (k := fun M_20 => (bI (mo_passes 61 M_20) fun z_24 M_23 => (bif cmpB .eq z_24 0 then (mo_readKeeper_J91 (x : Int) M_23) else (bI (mo_readEating (x : Int) M_23) fun z_48 M_47 => (bif cmpB .ne z_48 0 then (mo_readKeeper_J91 (x : Int) M_47) else some (rI 0, M_47)))))) y2 hx10 (by decide)
            rw [bq_in (by omega) (by omega), sM_eq, cT_u (by decide), bV_V]
            unfold mo_readKeeper_J44
            rw [bq_ge (by omega) (by decide), if_pos iv.1, show bV (mo_sets (x : Int) 0 1 _) _ = _ from x1, show bV (mo_sets (x : Int) 1 m _) _ = _ from y1, show bV (mo_sets (x : Int) 2 v _) _ = _ from z1]
            have cell : ∀ j : Nat, j < 8 → N 166 (10 + 8 * x + j) = oP (N 166) (x : Int) (j : Int) := fun j hj => by
              unfold oP
              rw [show ((10 + 8 * (x : Int)) + (j : Int)).toNat = 10 + 8 * x + j by omega]
            refine pass _ _ (keep_meal hC hN hD a7.2 h0 k0 rfl ⟨rfl, im⟩ ⟨rfl, iv⟩ ?_ ?_ ?_ ?_ ⟨fun a ha => by rw [z3 a ha, y3 a ha, x3 a ha], z2⟩ (by omega))
            · show N 166 (10 + 8 * x + 3) = -1
              rw [cell 3 (by decide)]
              exact z.2.2.1
            · show N 166 (10 + 8 * x + 4) = -1
              rw [cell 4 (by decide)]
              exact z.2.2.2.1
            · show N 166 (10 + 8 * x + 5) = 0
              rw [cell 5 (by decide)]
              exact z.2.2.2.2.1
            · show N 166 (10 + 8 * x + 6) = -1
              rw [cell 6 (by decide)]
              exact z.2.2.2.2.2.1
          · rw [if_neg g4, if_neg g4, r44]
            refine bad _ _ q4 (dgE T n q4) a6.2 (WX_fr (FrT.u (C := C) (a := 30) (k := x) (x := m) (by omega)) ?_) rfl
            rw [bq_in (by omega) (by omega), sM_eq, cT_u (by decide), bV_V]
            exact WX_fr (FrT.u (C := mU C 30 x m) (a := 31) (k := x) (x := 0) (by omega)) (rest _ _ _ _ a6.2 a6.2)
        · rw [if_neg g3, if_neg g3, bq_ge (by decide) (by decide), if_neg (show ¬ (0 : Int) ≤ -1 by decide), r44]
          refine bad _ _ q3 (dgE T n q3) a4.2 ?_ rfl
          intro h
          have t2 := TC_u (k := x) (x := 0) h (show 30 ≠ 1 by decide) (show 30 ≠ 2 by decide)
          have a6 := skB_le (T := T) a4.2
          rw [bq_in (by omega) (by omega), sM_eq, Int.toNat_natCast, cT_u (by decide), num_w t2 a4.2 (by omega) (by omega), bq_in (by omega) (by omega), sM_eq, cT_u (by decide), bV_V]
          exact WX_fr (FrT.tr (FrT.u (C := C) (a := 30) (k := x) (x := 0) (by omega)) (FrT.u (a := 31) (k := x) (x := 0) (by omega))) (rest _ _ _ _ a6.2 a4.2) h
      · rw [if_neg g2, if_neg g2, bq_ge (by decide) (by decide), if_neg (show ¬ (0 : Int) ≤ -1 by decide), r44]
        refine bad _ _ q2 (ltE T n q2) a3.2 ?_ rfl
        intro h
        have t2 := TC_u (k := x) (x := 0) h (show 30 ≠ 1 by decide) (show 30 ≠ 2 by decide)
        have a5 := skB_le (T := T) a3.2
        have a6 := skB_le (T := T) a5.2
        rw [num_w h a3.2 (by omega) (by omega), bq_in (by omega) (by omega), sM_eq, Int.toNat_natCast, cT_u (by decide), num_w t2 a5.2 (by omega) (by omega), bq_in (by omega) (by omega), sM_eq, cT_u (by decide), bV_V]
        exact WX_fr (FrT.tr (FrT.u (C := C) (a := 30) (k := x) (x := 0) (by omega)) (FrT.u (a := 31) (k := x) (x := 0) (by omega))) (rest _ _ _ _ a6.2 a3.2) h
    · rw [decide_eq_true k1, cn_t, cn_t, cT_3, failAt_b (by decide), if_pos rfl]
      exact bad _ _ q1 (dgE T n q1) a1.2 (WX_k30 (by omega) (by omega) ⟨by omega, by omega⟩ a2.2) rfl
  · rw [if_neg g1, if_neg g1, bI_I, bI_I, bq_lt (by decide) (by decide), if_pos (by decide)]
    refine bad _ _ q1 (dgE T n q1) a1.2 ?_ rfl
    intro h
    rw [land_hasKeeper_b (cL _ _ _) (by decide) (by decide), bz_eq0]
    cases kpB (N 166) (0 : Int).toNat with
    | true =>
      rw [cn_t]
      exact WX_failAt (by omega) (by omega) (WX_k30 (by omega) (by omega) ⟨by decide, by decide⟩ a1.2) h
    | false =>
      rw [cn_f]
      exact WX_k30 (by omega) (by omega) ⟨by decide, by decide⟩ a1.2 h
/-- a line of the tale -/
theorem line_tale {T : Nat → Int} {n k p q e : Nat} {C N : MM} (hC : TC T n C) (hN : TN T n N) (hD : DrT k C N) (hp : p ≤ n) (hpe : e = skB T n p) : LnR n k C N p (tale_readLine (tpT C p q (-1))) (mo_readTaleLine (nT N (ltE T n e) e)) := by
  have a1 := skB_le (T := T) hp
  rw [← hpe] at a1
  have n4 := hC.2.1
  have sk : skB T n e = e := by rw [hpe]; exact skB_sk hp
  have wl : (wLen 0 = 5 ∧ wLen 1 = 5 ∧ wLen 4 = 4 ∧ wLen 7 = 6 ∧ wLen 13 = 7) ∧ (wLen 52 = 5 ∧ wLen 53 = 5 ∧ wLen 56 = 4 ∧ wLen 59 = 6 ∧ wLen 65 = 7) := by decide
  have at' : ∀ t, wdB T n t e = true → ltE T n e = e + wLen t := fun t h => by
    unfold wdB at h
    rw [Bool.and_eq_true] at h
    exact of_decide_eq_true h.1
  unfold tale_readLine mo_readTaleLine
  rw [word_b hC hp (wk rfl), ← hpe, wd_cg (t := 0) (t' := 52) rfl rfl, isWord_b hN (wk rfl) rfl a1.2, bz_eq0]
  by_cases g0 : wdB T n 52 e = true
  · have b0 := wd_le a1.2 g0
    have t0 := at' 52 g0
    rw [if_pos g0, g0, cn_t, bq_eq (by decide) (by decide), if_neg (show ¬ (1 : Int) = 0 by decide), t0, wl.1.1, wl.2.1]
    rw [wl.2.1] at b0
    exact line_place hC hD b0 a1.2 (by omega)
  · rw [if_neg g0, Bool.eq_false_iff.mpr g0, cn_f, bq_eq (by decide) (by decide), if_pos rfl, word_b hC a1.2 (wk rfl), sk, wd_cg (t := 1) (t' := 53) rfl rfl, isWord_b hN (wk rfl) rfl a1.2, bz_eq0]
    by_cases g1 : wdB T n 53 e = true
    · have b0 := wd_le a1.2 g1
      have t0 := at' 53 g1
      rw [if_pos g1, g1, cn_t, bq_eq (by decide) (by decide), if_neg (show ¬ (1 : Int) = 0 by decide), t0, wl.1.2.1, wl.2.2.1]
      rw [wl.2.2.1] at b0
      exact line_thing hC hN hD b0 a1.2 (by omega)
    · rw [if_neg g1, Bool.eq_false_iff.mpr g1, cn_f, bq_eq (by decide) (by decide), if_pos rfl, word_b hC a1.2 (wk rfl), sk, wd_cg (t := 4) (t' := 56) rfl rfl, isWord_b hN (wk rfl) rfl a1.2, bz_eq0]
      by_cases g2 : wdB T n 56 e = true
      · have b0 := wd_le a1.2 g2
        have t0 := at' 56 g2
        rw [if_pos g2, g2, cn_t, bq_eq (by decide) (by decide), if_neg (show ¬ (1 : Int) = 0 by decide), t0, wl.1.2.2.1, wl.2.2.2.1]
        rw [wl.2.2.2.1] at b0
        exact line_road hC hN hD b0 a1.2 (by omega)
      · rw [if_neg g2, Bool.eq_false_iff.mpr g2, cn_f, bq_eq (by decide) (by decide), if_pos rfl, word_b hC a1.2 (wk rfl), sk, wd_cg (t := 7) (t' := 59) rfl rfl, isWord_b hN (wk rfl) rfl a1.2, bz_eq0]
        by_cases g3 : wdB T n 59 e = true
        · have b0 := wd_le a1.2 g3
          have t0 := at' 59 g3
          rw [if_pos g3, g3, cn_t, bq_eq (by decide) (by decide), if_neg (show ¬ (1 : Int) = 0 by decide), t0, wl.1.2.2.2.1, wl.2.2.2.2.1]
          rw [wl.2.2.2.2.1] at b0
          exact line_keep hC hN hD b0 a1.2 (by omega)
        · rw [if_neg g3, Bool.eq_false_iff.mpr g3, cn_f, bq_eq (by decide) (by decide), if_pos rfl, word_b hC a1.2 (wk rfl), sk, wd_cg (t := 13) (t' := 65) rfl rfl, isWord_b hN (wk rfl) rfl a1.2, bz_eq0]
          by_cases g4 : wdB T n 65 e = true
          · have b0 := wd_le a1.2 g4
            have t0 := at' 65 g4
            rw [if_pos g4, g4, cn_t, bq_eq (by decide) (by decide), if_neg (show ¬ (1 : Int) = 0 by decide), t0, wl.1.2.2.2.2, wl.2.2.2.2.2]
            rw [wl.2.2.2.2.2] at b0
            exact line_bro hC hN hD b0 a1.2 (by omega)
          · rw [if_neg g4, Bool.eq_false_iff.mpr g4, cn_f, bq_eq (by decide) (by decide), if_pos rfl, fail_b hC a1.2 (by decide), if_pos rfl, sk]
            exact Or.inr ⟨e, C, e, q, N, _, rfl, rfl, FrT.rf, FrN.rf, a1.2, a1.2⟩
