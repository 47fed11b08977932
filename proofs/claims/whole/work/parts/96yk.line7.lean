/-! ===== THE TALE: a brother's line on both sides ===== -/
theorem line_bro {T : Nat → Int} {n k p q : Nat} {C N : MM} (hC : TC T n C) (hN : TN T n N) (hD : DrT k C N) (hp : p ≤ n) (hq : q ≤ n) {p0 : Nat} (hp0 : p0 ≤ p) : LnR n k C N p0 (bV (tale_readBrother (tpT C p q (-1))) fun M_20 => some (rV, M_20)) (bI (mo_readBrother (nT N p q)) fun z_18 M_17 => (bif cmpB .eq z_18 0 then some (rI 0, M_17) else some (rI 1, M_17))) := by
  have hD' := hD
  obtain ⟨hL, hJ, hW⟩ := hD'
  have c0 := hW.1.1
  have c3 := hW.1.2.2.2.1
  obtain ⟨b, hb⟩ : ∃ b : Nat, N 166 3 = (b : Int) := ⟨(N 166 3).toNat, by omega⟩
  obtain ⟨P, hP⟩ : ∃ P : Nat, N 166 0 = (P : Int) := ⟨(N 166 0).toNat, by omega⟩
  have h293 : C 29 3 = (b : Int) := by rw [hL.1.2.2.2.1, hb]
  have h290 : C 29 0 = (P : Int) := by rw [hL.1.1, hP]
  have n4 := hC.2.1
  have e290 : ∀ p' l' b, tpT C p' l' b 29 0 = (P : Int) := fun p' l' b => by rw [cT_ne (by decide), h290]
  have e166 : ∀ p' e' j, nT N p' e' 166 j = N 166 j := fun p' e' j => by rw [nT_ne (by decide)]
  have bad : ∀ (X Y : OR) (b : Nat) (p'' : Nat), b ≤ n → WX T n (b : Int) C X → Y = some (rI 0, nT N p'' b) → LnR n k C N p0 (bV X fun M_20 => some (rV, M_20)) (bI Y fun z_18 M_17 => (bif cmpB .eq z_18 0 then some (rI 0, M_17) else some (rI 1, M_17))) := fun X Y b p'' hb hX hY => by
    obtain ⟨C', p', l', a1, a2, a3⟩ := hX hC
    exact Or.inr ⟨b, C', p', l', N, p'', by rw [a1, bV_V], by rw [hY]; rfl, a2, FrN.rf, a3, hb⟩
  have w60 : wLen 60 = 4 ∧ wLen 8 = 4 ∧ wLen 66 = 3 ∧ wLen 14 = 3 ∧ wLen 67 = 3 ∧ wLen 15 = 3 := by decide
  have r102 : ∀ (v1 v2 v3 v4 v5 : Int) (M : MM), mo_readBrother_J102 v1 v2 v3 v4 v5 (-1) M = some (rI 0, M) := fun v1 v2 v3 v4 v5 M => by
    unfold mo_readBrother_J102
    rw [bq_ge (by decide) (by decide), if_neg (by decide)]
  have r81 : ∀ (v1 v2 v3 v4 : Int) (M : MM), mo_readBrother_J81 v1 v2 v3 v4 (-1) M = some (rI 0, M) := fun v1 v2 v3 v4 M => by
    unfold mo_readBrother_J81
    rw [bq_ge (by decide) (by decide), if_neg (by decide), r102]
  have r61 : ∀ (v1 v2 v3 : Int) (M : MM), mo_readBrother_J61 v1 v2 v3 (-1) M = some (rI 0, M) := fun v1 v2 v3 M => by
    unfold mo_readBrother_J61
    rw [bq_ge (by decide) (by decide), if_neg (by decide), r81]
  have r45 : ∀ (v1 v2 : Int) (M : MM), mo_readBrother_J45 v1 v2 (-1) M = some (rI 0, M) := fun v1 v2 M => by
    unfold mo_readBrother_J45
    rw [bq_ge (by decide) (by decide), if_neg (by decide), r61]
  -- the class's end, from the due on, from the way on
  have wDue : ∀ (C1 : MM) (p1 l1 : Nat) (qb : Nat), FrT C C1 → p1 ≤ n → qb ≤ n → ∀ j : Int, j = (b : Int) → b < 7 → WX T n (qb : Int) C1 (bif inB j 7 then (sM (mU (tpT C1 p1 l1 (qb : Int)) 42 j.toNat 0) fun M_23 => (sM (mU M_23 29 3 ((M_23 29 3) + 1)) fun M_25 => some (rV, M_25))) else none) := fun C1 p1 l1 qb f1 hp1 hqb j hj hb7 => by
    subst hj
    exact WX_in (by omega) (by omega) (WX_u (by omega) (WX_u (by omega) (WX_ret hp1)))
  unfold tale_readBrother mo_readBrother
  rw [cT_ne (show 29 ≠ 1 by decide), h293, bq_lt (by omega) (by decide), mo_brothers_b, mo_brothers_b, e166, hb, bq_ne (by omega) (by decide)]
  by_cases g : b < 7
  · rw [if_pos (show ((b : Nat) : Int) < 7 by omega), if_neg (show ¬ ((b : Nat) : Int) = 7 by omega)]
    have a1 := skB_le (T := T) hp
    unfold tale_readPlaceNumber mo_placeTold
    rw [e290, num_b hC hp (by decide) (by omega), mo_places_b, e166, hP, number_b hN hp (by decide) (by omega)]
    generalize skB T n p = q1 at a1
    have a2 := dgE_le (T := T) a1.2
    by_cases g1 : nuO T n q1 0 ((P : Int) - 1) = true
    · have ix : 0 ≤ nuV T n q1 ∧ nuV T n q1 ≤ (P : Int) - 1 := (nuO_i.mp g1).2.2
      rw [if_pos g1, if_pos g1, bI_I, bI_I]
      generalize nuV T n q1 = x at ix
      have t1 := TC_u (k := b) (x := x) hC (show 40 ≠ 1 by decide) (show 40 ≠ 2 by decide)
      have f1 : FrT C (mU C 40 b x) := FrT.u (by omega)
      have a3 := skB_le (T := T) a2.2
      unfold tale_readLock
      rw [bq_ge (by omega) (by decide), if_pos ix.1, bq_in (by omega) (by omega), sM_eq, cT_u (by decide), Int.toNat_natCast, need_b t1 a2.2 (wk rfl), wd_cg (t := 8) (t' := 60) rfl rfl, after_b hN a2.2 (wk rfl) (by decide) (by decide)]
      generalize skB T n (dgE T n q1) = q2 at a3
      by_cases g2 : wdB T n 60 q2 = true
      · have b2 := wd_le a3.2 g2
        rw [w60.1] at b2
        have a4 := skB_le (T := T) b2
        rw [if_pos g2, if_pos g2, w60.1, w60.2.1, num_b t1 b2 (by decide) (by decide), number_b hN b2 (by decide) (by decide)]
        generalize skB T n (q2 + 4) = q3 at a4
        have a5 := dgE_le (T := T) a4.2
        by_cases g3 : nuO T n q3 0 15 = true
        · have im : 0 ≤ nuV T n q3 ∧ nuV T n q3 ≤ 15 := (nuO_i.mp g3).2.2
          rw [if_pos g3, if_pos g3]
          generalize nuV T n q3 = m at im
          have t2 := TC_u (k := 10 + b) (x := m) t1 (show 30 ≠ 1 by decide) (show 30 ≠ 2 by decide)
          have f2 : FrT C (mU (mU C 40 b x) 30 (10 + b) m) := f1.tr (FrT.u (by omega))
          have a6 := skB_le (T := T) a5.2
          unfold mo_readBrother_J45
          rw [bq_in (by omega) (by omega), sM_eq, cT_u (by decide), show (10 + (b : Int)).toNat = 10 + b by omega, num_b t2 a5.2 (by decide) (by decide), bq_ge (by omega) (by decide), if_pos im.1, number_b hN a5.2 (by decide) (by decide)]
          generalize skB T n (dgE T n q3) = q4 at a6
          have a7 := dgE_le (T := T) a6.2
          by_cases g4 : nuO T n q4 0 15 = true
          · have iv : 0 ≤ nuV T n q4 ∧ nuV T n q4 ≤ 15 := (nuO_i.mp g4).2.2
            rw [if_pos g4, if_pos g4]
            generalize nuV T n q4 = v at iv
            have t3 := TC_u (k := 10 + b) (x := v) t2 (show 31 ≠ 1 by decide) (show 31 ≠ 2 by decide)
            have f3 : FrT C (mU (mU (mU C 40 b x) 30 (10 + b) m) 31 (10 + b) v) := f2.tr (FrT.u (by omega))
            have a8 := skB_le (T := T) a7.2
            unfold mo_readBrother_J61
            rw [bq_in (by omega) (by omega), sM_eq, cT_u (by decide), bV_V, need_b t3 a7.2 (wk rfl), wd_cg (t := 14) (t' := 66) rfl rfl, bq_ge (by omega) (by decide), if_pos iv.1, after_b hN a7.2 (wk rfl) (by decide) (by decide)]
            generalize skB T n (dgE T n q4) = q5 at a8
            by_cases g5 : wdB T n 66 q5 = true
            · have b5 := wd_le a8.2 g5
              rw [w60.2.2.1] at b5
              have a9 := skB_le (T := T) b5
              rw [if_pos g5, if_pos g5, w60.2.2.1, w60.2.2.2.1, num_b t3 b5 (by decide) (by decide), number_b hN b5 (by decide) (by decide)]
              generalize skB T n (q5 + 3) = q6 at a9
              have a10 := dgE_le (T := T) a9.2
              by_cases g6 : nuO T n q6 0 99 = true
              · have iy : 0 ≤ nuV T n q6 ∧ nuV T n q6 ≤ 99 := (nuO_i.mp g6).2.2
                rw [if_pos g6, if_pos g6]
                generalize nuV T n q6 = y at iy
                have t4 := TC_u (k := b) (x := y) t3 (show 41 ≠ 1 by decide) (show 41 ≠ 2 by decide)
                have f4 : FrT C (mU (mU (mU (mU C 40 b x) 30 (10 + b) m) 31 (10 + b) v) 41 b y) := f3.tr (FrT.u (by omega))
                have a11 := skB_le (T := T) a10.2
                unfold mo_readBrother_J81
                rw [bq_in (by omega) (by omega), sM_eq, cT_u (by decide), need_b t4 a10.2 (wk rfl), wd_cg (t := 15) (t' := 67) rfl rfl, bq_ge (by omega) (by decide), if_pos iy.1, after_b hN a10.2 (wk rfl) (by decide) (by decide)]
                generalize skB T n (dgE T n q6) = q7 at a11
                by_cases g7 : wdB T n 67 q7 = true
                · have b7 := wd_le a11.2 g7
                  rw [w60.2.2.2.2.1] at b7
                  have a12 := skB_le (T := T) b7
                  rw [if_pos g7, if_pos g7, w60.2.2.2.2.1, w60.2.2.2.2.2, num_b t4 b7 (by decide) (by decide), number_b hN b7 (by decide) (by decide)]
                  generalize skB T n (q7 + 3) = q8 at a12
                  have a13 := dgE_le (T := T) a12.2
                  by_cases g8 : nuO T n q8 0 999 = true
                  · have id : 0 ≤ nuV T n q8 ∧ nuV T n q8 ≤ 999 := (nuO_i.mp g8).2.2
                    rw [if_pos g8, if_pos g8]
                    generalize nuV T n q8 = d at id
                    obtain ⟨N', r1, r2, r3⟩ := bro_102 (N := N) (p := dgE T n q8) (e := q8) (x := x) (m := m) (v := v) (y := y) (d := d) hb g ⟨by omega, by omega⟩
                    have e3 : (mU (mU (mU (mU (mU C 40 b x) 30 (10 + b) m) 31 (10 + b) v) 41 b y) 42 b d) 29 3 = (b : Int) := by rw [mU_ne (by decide), mU_ne (by decide), mU_ne (by decide), mU_ne (by decide), mU_ne (by decide), h293]
                    rw [bq_in (by omega) (by omega), sM_eq, cT_u (by decide), sM_eq, cT_ne (show 29 ≠ 1 by decide), cT_u (by decide), bV_V, e3, r1, bI_I, bq_eq (by decide) (by decide), if_neg (show ¬ (1 : Int) = 0 by decide)]
                    exact Or.inl ⟨brC C b x m v y d, N', dgE T n q8, q8, q8, rfl, rfl, brC_fr, FrN_w r2 r3 (fun j hj => brW_hi g (by omega)) (fun j h1 h2 => brW_sm (by omega) (by omega)), Dr_br hD hb g ⟨ix.1, by omega⟩ im iv iy id r2, by omega, a13.2⟩
                  · rw [if_neg g8, if_neg g8]
                    refine bad _ _ q8 (dgE T n q8) a12.2 (WX_fr f4 ?_) (r102 _ _ _ _ _ _)
                    exact WX_in (by omega) (by omega) (WX_u (by omega) (WX_u (by omega) (WX_ret a12.2)))
                · rw [if_neg g7, if_neg g7]
                  refine bad _ _ q7 (ltE T n q7) a11.2 (WX_fr f4 ?_) (r102 _ _ _ _ _ _)
                  refine WX_num (by omega) (by omega) a11.2 fun p2 hp2 => ?_
                  exact WX_in (by omega) (by omega) (WX_u (by omega) (WX_u (by omega) (WX_ret hp2)))
              · rw [if_neg g6, if_neg g6]
                refine bad _ _ q6 (dgE T n q6) a9.2 (WX_fr f3 ?_) (r81 _ _ _ _ _)
                refine WX_in (by omega) (by omega) (WX_u (by omega) (WX_need (by omega) (by omega) a9.2 fun p1 hp1 => WX_num (by omega) (by omega) hp1 fun p2 hp2 => ?_))
                exact WX_in (by omega) (by omega) (WX_u (by omega) (WX_u (by omega) (WX_ret hp2)))
            · rw [if_neg g5, if_neg g5]
              refine bad _ _ q5 (ltE T n q5) a8.2 (WX_fr f3 ?_) (r81 _ _ _ _ _)
              refine WX_num (by omega) (by omega) a8.2 fun p0 hp0 => ?_
              refine WX_in (by omega) (by omega) (WX_u (by omega) (WX_need (by omega) (by omega) hp0 fun p1 hp1 => WX_num (by omega) (by omega) hp1 fun p2 hp2 => ?_))
              exact WX_in (by omega) (by omega) (WX_u (by omega) (WX_u (by omega) (WX_ret hp2)))
          · rw [if_neg g4, if_neg g4]
            refine bad _ _ q4 (dgE T n q4) a6.2 (WX_fr f2 ?_) (r61 _ _ _ _)
            rw [bq_in (by omega) (by omega), sM_eq, cT_u (by decide), bV_V]
            refine WX_fr (FrT.u (C := mU (mU C 40 b x) 30 (10 + b) m) (a := 31) (k := 10 + b) (x := 0) (by omega)) ?_
            refine WX_need (by omega) (by omega) a6.2 fun p9 hp9 => WX_num (by omega) (by omega) hp9 fun p0 hp0 => ?_
            refine WX_in (by omega) (by omega) (WX_u (by omega) (WX_need (by omega) (by omega) hp0 fun p1 hp1 => WX_num (by omega) (by omega) hp1 fun p2 hp2 => ?_))
            exact WX_in (by omega) (by omega) (WX_u (by omega) (WX_u (by omega) (WX_ret hp2)))
        · rw [if_neg g3, if_neg g3]
          refine bad _ _ q3 (dgE T n q3) a4.2 (WX_fr f1 ?_) (r45 _ _ _)
          intro h
          have t2 := TC_u (k := 10 + b) (x := 0) h (show 30 ≠ 1 by decide) (show 30 ≠ 2 by decide)
          have a6 := skB_le (T := T) a4.2
          rw [bq_in (by omega) (by omega), sM_eq, cT_u (by decide), show (10 + (b : Int)).toNat = 10 + b by omega, num_w t2 a4.2 (by omega) (by omega), bq_in (by omega) (by omega), sM_eq, cT_u (by decide), bV_V]
          refine WX_fr (FrT.tr (FrT.u (C := mU C 40 b x) (a := 30) (k := 10 + b) (x := 0) (by omega)) (FrT.u (a := 31) (k := 10 + b) (x := 0) (by omega))) ?_ h
          refine WX_need (by omega) (by omega) a6.2 fun p9 hp9 => WX_num (by omega) (by omega) hp9 fun p0 hp0 => ?_
          refine WX_in (by omega) (by omega) (WX_u (by omega) (WX_need (by omega) (by omega) hp0 fun p1 hp1 => WX_num (by omega) (by omega) hp1 fun p2 hp2 => ?_))
          exact WX_in (by omega) (by omega) (WX_u (by omega) (WX_u (by omega) (WX_ret hp2)))
      · rw [if_neg g2, if_neg g2]
        refine bad _ _ q2 (ltE T n q2) a3.2 (WX_fr f1 ?_) (r45 _ _ _)
        intro h
        have t2 := TC_u (k := 10 + b) (x := 0) h (show 30 ≠ 1 by decide) (show 30 ≠ 2 by decide)
        have a5 := skB_le (T := T) a3.2
        have a6 := skB_le (T := T) a5.2
        rw [num_w h a3.2 (by omega) (by omega), bq_in (by omega) (by omega), sM_eq, cT_u (by decide), show (10 + (b : Int)).toNat = 10 + b by omega, num_w t2 a5.2 (by omega) (by omega), bq_in (by omega) (by omega), sM_eq, cT_u (by decide), bV_V]
        refine WX_fr (FrT.tr (FrT.u (C := mU C 40 b x) (a := 30) (k := 10 + b) (x := 0) (by omega)) (FrT.u (a := 31) (k := 10 + b) (x := 0) (by omega))) ?_ h
        refine WX_need (by omega) (by omega) a6.2 fun p9 hp9 => WX_num (by omega) (by omega) hp9 fun p0 hp0 => ?_
        refine WX_in (by omega) (by omega) (WX_u (by omega) (WX_need (by omega) (by omega) hp0 fun p1 hp1 => WX_num (by omega) (by omega) hp1 fun p2 hp2 => ?_))
        exact WX_in (by omega) (by omega) (WX_u (by omega) (WX_u (by omega) (WX_ret hp2)))
    · rw [if_neg g1, if_neg g1, bI_I, bI_I, bq_ge (by decide) (by decide), if_neg (show ¬ (0 : Int) ≤ -1 by decide)]
      refine bad _ _ q1 (dgE T n q1) a1.2 ?_ (r45 _ _ _)
      refine WX_in (by omega) (by omega) (WX_u (by omega) (WX_lock (by omega) (by omega) ⟨by omega, by omega⟩ a1.2 fun C2 p8 f2 hp8 => ?_))
      refine WX_need (by omega) (by omega) hp8 fun p9 hp9 => WX_num (by omega) (by omega) hp9 fun p0 hp0 => ?_
      refine WX_in (by omega) (by omega) (WX_u (by omega) (WX_need (by omega) (by omega) hp0 fun p1 hp1 => WX_num (by omega) (by omega) hp1 fun p2 hp2 => ?_))
      exact WX_in (by omega) (by omega) (WX_u (by omega) (WX_u (by omega) (WX_ret hp2)))
  · rw [if_neg (show ¬ ((b : Nat) : Int) < 7 by omega), if_pos (show ((b : Nat) : Int) = 7 by omega), cT_3, failAt_b (by decide), if_pos rfl, bV_V, bI_I]
    exact Or.inr ⟨q, C, p, q, N, p, rfl, rfl, FrT.rf, FrN.rf, hp, hq⟩
