/-! ===== THE TALE: a road's line on both sides ===== -/
theorem FrN_w {N N' : MM} {w' : Nat → Int} (h : N' 166 = w') (f : ∀ a, a ≠ 166 → N' a = N a) (hi : ∀ j, 266 ≤ j → w' j = N 166 j) (sm : ∀ j, 4 ≤ j → j ≤ 9 → w' j = N 166 j) : FrN N N' := ⟨f, fun j hj => by rw [h]; exact hi j hj, fun j h1 h2 => by rw [h]; exact sm j h1 h2⟩
theorem line_road {T : Nat → Int} {n k p q : Nat} {C N : MM} (hC : TC T n C) (hN : TN T n N) (hD : DrT k C N) (hp : p ≤ n) (hq : q ≤ n) {p0 : Nat} (hp0 : p0 ≤ p) : LnR n k C N p0 (bV (tale_readRoad (tpT C p q (-1))) fun M_26 => some (rV, M_26)) (bI (mo_readRoad (nT N p q)) fun z_24 M_23 => (bif zo z_24 then some (rI z_24, M_23) else none)) := by
  have hD' := hD
  obtain ⟨hL, hJ, hW⟩ := hD'
  have c0 := hW.1.1
  have c2 := hW.1.2.2.1
  obtain ⟨r, hr⟩ : ∃ r : Nat, N 166 2 = (r : Int) := ⟨(N 166 2).toNat, by omega⟩
  obtain ⟨P, hP⟩ : ∃ P : Nat, N 166 0 = (P : Int) := ⟨(N 166 0).toNat, by omega⟩
  have h292 : C 29 2 = (r : Int) := by rw [hL.1.2.2.1, hr]
  have h290 : C 29 0 = (P : Int) := by rw [hL.1.1, hP]
  have n4 := hC.2.1
  have e290 : ∀ p' l' b, tpT C p' l' b 29 0 = (P : Int) := fun p' l' b => by rw [cT_ne (by decide), h290]
  have e166 : ∀ p' e' j, nT N p' e' 166 j = N 166 j := fun p' e' j => by rw [nT_ne (by decide)]
  have ret : ∀ (X : OR) (Z : MM), X = some (rV, Z) → (bV X fun M_26 => some (rV, M_26)) = some (rV, Z) := fun X Z h => by rw [h, bV_V]
  have bad : ∀ (X Y : OR) (b : Nat) (p'' : Nat), b ≤ n → WX T n (b : Int) C X → Y = some (rI 0, nT N p'' b) → LnR n k C N p0 (bV X fun M_26 => some (rV, M_26)) (bI Y fun z_24 M_23 => (bif zo z_24 then some (rI z_24, M_23) else none)) := fun X Y b p'' hb hX hY => by
    obtain ⟨C', p', l', a1, a2, a3⟩ := hX hC
    exact Or.inr ⟨b, C', p', l', N, p'', ret _ _ a1, by rw [hY]; rfl, a2, FrN.rf, a3, hb⟩
  unfold tale_readRoad mo_readRoad
  rw [cT_ne (show 29 ≠ 1 by decide), h292, bq_lt (by omega) (by decide), mo_roads_b, mo_roads_b, e166, hr, bq_ne (by omega) (by decide)]
  by_cases g : r < 16
  · have g0 : ((r : Nat) : Int) < 16 := by omega
    rw [if_pos g0, if_neg (show ¬ ((r : Nat) : Int) = 16 by omega)]
    have a1 := skB_le (T := T) hp
    unfold tale_readPlaceNumber mo_placeTold
    rw [e290, num_b hC hp (by decide) (by omega), mo_places_b, e166, hP, number_b hN hp (by decide) (by omega)]
    generalize skB T n p = q1 at a1
    have a2 := dgE_le (T := T) a1.2
    by_cases g1 : nuO T n q1 0 ((P : Int) - 1) = true
    · have i1 := (nuO_i.mp g1).2.2
      have ia : 0 ≤ nuV T n q1 ∧ nuV T n q1 ≤ (P : Int) - 1 := i1
      rw [if_pos g1, if_pos g1, bI_I, bI_I]
      generalize nuV T n q1 = a at ia
      have a3 := skB_le (T := T) a2.2
      rw [bq_ge (by omega) (by decide), if_pos ia.1, e290, num_b hC a2.2 (by decide) (by omega), mo_places_b, e166, hP, number_b hN a2.2 (by decide) (by omega)]
      generalize skB T n (dgE T n q1) = q2 at a3
      have a4 := dgE_le (T := T) a3.2
      by_cases g2 : nuO T n q2 0 ((P : Int) - 1) = true
      · have i2 := (nuO_i.mp g2).2.2
        have ib : 0 ≤ nuV T n q2 ∧ nuV T n q2 ≤ (P : Int) - 1 := i2
        rw [if_pos g2, if_pos g2, bI_I, bI_I]
        generalize nuV T n q2 = b at ib
        unfold mo_readRoad_J39
        rw [bq_ne (by omega) (by omega), bq_lt (by omega) (by decide), if_neg (show ¬ b < 0 by omega), bq_ne (by omega) (by omega)]
        by_cases gab : a = b
        · rw [if_pos gab, if_pos gab, cT_3, failAt_b (by decide), if_pos rfl]
          exact bad _ _ q2 _ a3.2 (WX_r64 (by omega) (by omega) ⟨by omega, by omega⟩ a4.2) rfl
        · rw [if_neg gab, if_neg gab]
          unfold tale_readRoad_J64
          have a5 := skB_le (T := T) a4.2
          rw [need_b hC a4.2 (wk rfl), wd_cg (t := 5) (t' := 57) rfl rfl, after_b hN a4.2 (wk rfl) (by decide) (by decide)]
          generalize skB T n (dgE T n q2) = q3 at a5
          by_cases g3 : wdB T n 57 q3 = true
          · have b3 := wd_le a5.2 g3
            have w57 : wLen 57 = 4 ∧ wLen 5 = 4 := by decide
            rw [w57.1] at b3
            have t1 := TC_u (k := 2 * r) (x := a) hC (show 37 ≠ 1 by decide) (show 37 ≠ 2 by decide)
            have t2 := TC_u (k := 2 * r + 1) (x := b) t1 (show 37 ≠ 1 by decide) (show 37 ≠ 2 by decide)
            have f2 : FrT C (mU (mU C 37 (2 * r) a) 37 (2 * r + 1) b) := FrT.tr (FrT.u (by omega)) (FrT.u (by omega))
            have a6 := skB_le (T := T) b3
            rw [if_pos g3, if_pos g3, w57.1, w57.2, bq_in (by omega) (by omega), sM_eq, cT_u (by decide), show (2 * (r : Int)).toNat = 2 * r by omega, bq_in (by omega) (by omega), sM_eq, cT_u (by decide), show (2 * (r : Int) + 1).toNat = 2 * r + 1 by omega, num_b t2 b3 (by decide) (by decide), number_b hN b3 (by decide) (by decide)]
            generalize skB T n (q3 + 4) = q4 at a6
            have a7 := dgE_le (T := T) a6.2
            by_cases g4 : nuO T n q4 1 9 = true
            · have ic : 1 ≤ nuV T n q4 ∧ nuV T n q4 ≤ 9 := (nuO_i.mp g4).2.2
              rw [if_pos g4, if_pos g4]
              generalize nuV T n q4 = c at ic
              have t3 := TC_u (k := r) (x := c) t2 (show 38 ≠ 1 by decide) (show 38 ≠ 2 by decide)
              have f3 : FrT C (mU (mU (mU C 37 (2 * r) a) 37 (2 * r + 1) b) 38 r c) := FrT.tr f2 (FrT.u (by omega))
              have a8 := skB_le (T := T) a7.2
              rw [bq_in (by omega) (by omega), sM_eq, cT_u (by decide), Int.toNat_natCast, word_b t3 a7.2 (wk rfl), wd_cg (t := 6) (t' := 58) rfl rfl, bq_ge (by omega) (by decide), if_pos (show (0 : Int) ≤ c by omega), passes_b hN a7.2 (wk rfl)]
              generalize skB T n (dgE T n q4) = q5 at a8
              by_cases g5 : wdB T n 58 q5 = true
              · have b5 := wd_le a8.2 g5
                have w58 : wLen 58 = 6 ∧ wLen 6 = 6 := by decide
                rw [w58.1] at b5
                have a9 := skB_le (T := T) b5
                rw [if_pos g5, if_pos g5, w58.1, w58.2, bq_eq (by decide) (by decide), if_neg (show ¬ (1 : Int) = 0 by decide), num_b t3 b5 (by decide) (by decide), bq_eq (by decide) (by decide), if_neg (show ¬ (1 : Int) = 0 by decide), number_b hN b5 (by decide) (by decide)]
                generalize skB T n (q5 + 6) = q6 at a9
                have a10 := dgE_le (T := T) a9.2
                by_cases g6 : nuO T n q6 1 100 = true
                · have id : 1 ≤ nuV T n q6 ∧ nuV T n q6 ≤ 100 := (nuO_i.mp g6).2.2
                  rw [if_pos g6, if_pos g6]
                  generalize nuV T n q6 = d at id
                  obtain ⟨N', r1, r2, r3⟩ := road_90 (N := N) (p := dgE T n q6) (e := q6) (a := a) (b := b) (c := c) (d := d) hr g ⟨by omega, by omega⟩
                  rw [bq_in (by omega) (by omega), sM_eq, cT_u (by decide), sM_eq, cT_ne (show 29 ≠ 1 by decide), cT_u (by decide), bV_V, r1, bI_I]
                  have e2 : (mU (mU (mU (mU C 37 (2 * r) a) 37 (2 * r + 1) b) 38 r c) 39 r d) 29 2 = (r : Int) := by rw [mU_ne (by decide), mU_ne (by decide), mU_ne (by decide), mU_ne (by decide), h292]
                  rw [e2]
                  refine Or.inl ⟨rdC C r a b c d, N', dgE T n q6, q6, q6, rfl, rfl, rdC_fr, FrN_w r2 r3 (fun j hj => rdW_hi g (by omega)) (fun j h1 h2 => rdW_sm (by omega) (by omega)), Dr_rd hD hr g ⟨ia.1, by omega⟩ ⟨ib.1, by omega⟩ gab ic id r2, by omega, a10.2⟩
                · rw [if_neg g6, if_neg g6]
                  refine bad _ _ q6 (dgE T n q6) a9.2 ?_ (by unfold mo_readRoad_J90; rw [bq_ge (by decide) (by decide), if_neg (by decide)])
                  refine WX_fr f3 ?_
                  exact WX_in (by omega) (by omega) (WX_u (by omega) (WX_u (by omega) (WX_ret a9.2)))
              · obtain ⟨N', r1, r2, r3⟩ := road_90 (N := N) (p := q5) (e := q5) (a := a) (b := b) (c := c) (d := 100) hr g ⟨by decide, by decide⟩
                rw [if_neg g5, if_neg g5, bq_eq (by decide) (by decide), if_pos rfl, bq_in (by omega) (by omega), sM_eq, cT_u (by decide), sM_eq, cT_ne (show 29 ≠ 1 by decide), cT_u (by decide), bV_V, bq_eq (by decide) (by decide), if_pos rfl, r1, bI_I]
                have e2 : (mU (mU (mU (mU C 37 (2 * r) a) 37 (2 * r + 1) b) 38 r c) 39 r 100) 29 2 = (r : Int) := by rw [mU_ne (by decide), mU_ne (by decide), mU_ne (by decide), mU_ne (by decide), h292]
                rw [e2]
                refine Or.inl ⟨rdC C r a b c 100, N', q5, q4, q5, rfl, rfl, rdC_fr, FrN_w r2 r3 (fun j hj => rdW_hi g (by omega)) (fun j h1 h2 => rdW_sm (by omega) (by omega)), Dr_rd hD hr g ⟨ia.1, by omega⟩ ⟨ib.1, by omega⟩ gab ic ⟨by decide, by decide⟩ r2, by omega, a8.2⟩
            · rw [if_neg g4, if_neg g4]
              refine bad _ _ q4 (dgE T n q4) a6.2 ?_ (by rw [bq_ge (by decide) (by decide), if_neg (by decide)])
              refine WX_fr f2 ?_
              exact WX_in (by omega) (by omega) (WX_u (by omega) (WX_took (by omega) (by omega) (WX_eq0 (WX_in (by omega) (by omega) (WX_u (by omega) (WX_u (by omega) (WX_ret a6.2)))))))
          · rw [if_neg g3, if_neg g3]
            refine bad _ _ q3 _ a5.2 ?_ (by rw [bq_ge (by decide) (by decide), if_neg (by decide)])
            refine WX_in (by omega) (by omega) (WX_u (by omega) (WX_in (by omega) (by omega) (WX_u (by omega) ?_)))
            refine WX_num (by omega) (by omega) a5.2 fun p2 hp2 => ?_
            exact WX_in (by omega) (by omega) (WX_u (by omega) (WX_took (by omega) (by omega) (WX_eq0 (WX_in (by omega) (by omega) (WX_u (by omega) (WX_u (by omega) (WX_ret hp2)))))))
      · rw [if_neg g2, if_neg g2, bI_I, bI_I, bq_ne (by omega) (by decide)]
        refine bad _ _ q2 (dgE T n q2) a3.2 ?_ (by unfold mo_readRoad_J39; rw [bq_lt (by decide) (by decide), if_pos (by decide)])
        by_cases ga : a = 0
        · rw [if_pos ga]
          exact WX_failAt (by omega) (by omega) (WX_r64 (by omega) (by omega) ⟨by omega, by omega⟩ a3.2)
        · rw [if_neg ga]
          exact WX_r64 (by omega) (by omega) ⟨by omega, by omega⟩ a3.2
    · rw [if_neg g1, if_neg g1, bI_I, bI_I, bq_ge (by decide) (by decide), if_neg (show ¬ (0 : Int) ≤ -1 by decide)]
      refine bad _ _ q1 (dgE T n q1) a1.2 ?_ (by unfold mo_readRoad_J39; rw [bq_lt (by decide) (by decide), if_pos (by decide)])
      refine fun h => ?_
      have a3 := skB_le (T := T) a1.2
      rw [e290, num_w h a1.2 (by omega) (by omega), bI_I, bq_ne (by decide) (by decide), if_pos rfl]
      exact WX_failAt (by omega) (by omega) (WX_r64 (by omega) (by omega) ⟨by omega, by omega⟩ a3.2) h
  · rw [if_neg (show ¬ ((r : Nat) : Int) < 16 by omega), if_pos (show ((r : Nat) : Int) = 16 by omega), cT_3, failAt_b (by decide), if_pos rfl, bV_V, bI_I]
    exact Or.inr ⟨q, C, p, q, N, p, rfl, rfl, FrT.rf, FrN.rf, hp, hq⟩
