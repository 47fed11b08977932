/-! ===== THE TALE: a keeper's line, from its begin ===== -/
theorem keep_tk {T : Nat → Int} {n k p pp l e p0 : Nat} {C N CC N2 : MM} {f : Nat → Int} (hC : TC T n C) (hN : TN T n N) (hD : DrT k C N) (hpp : pp ≤ n) (h0 : (p : Int) < N 166 0) (k0 : oP (N 166) (p : Int) 0 = 0) (hf : kpF f) (f5 : f 5 = 0) (f6 : f 6 = -1) (hK : KpR C N CC N2 p f) (hp0 : p0 ≤ pp) : LnR n k C N p0 (bI (tape_tookWord 11 (tpT CC pp l (-1))) fun z_15 M_14 => (bif cmpB .eq z_15 0 then (tale_readKeeper_J67 (p : Int) M_14) else (sM (mU M_14 29 6 (iOr (M_14 29 6) (iShl 1 (p : Int)))) fun M_34 => (tale_readKeeper_J67 (p : Int) M_34)))) (mo_readKeeper_J91 (p : Int) (nT N2 pp e)) := by
  have c0 := hD.2.2.1.1
  have hp : p < 10 := by omega
  obtain ⟨⟨q1, q2, q3, q4, q5⟩, r1, r2⟩ := hK
  have tCC := q1.t hC
  have tN2 : TN T n N2 := by
    unfold TN at *
    rw [r1 165 (by decide), r1 170 (by decide)]
    exact hN
  have a1 := skB_le (T := T) hpp
  have w63 : wLen 63 = 5 ∧ wLen 11 = 5 := by decide
  obtain ⟨F0, F1, F2, F34, F5⟩ := hf
  unfold mo_readKeeper_J91
  rw [word_b tCC hpp (wk rfl), wd_cg (t := 11) (t' := 63) rfl rfl, passes_b tN2 hpp (wk rfl)]
  generalize skB T n pp = qa at a1
  have e6 : ((bset 10 (fun i => tkB (N 166) i || (decide (f 5 = 1) && decide (i = p))) : Nat) : Int) = ((bset 10 (tkB (N 166)) : Nat) : Int) := by
    refine congrArg (fun x : Nat => (x : Int)) (bset_cg 10 fun i _ => ?_)
    rw [f5]; simp
  by_cases g : wdB T n 63 qa = true
  · have b1 := wd_le a1.2 g
    rw [w63.1] at b1
    obtain ⟨N3, x1, x2, x3⟩ := sets_b (q := qa + 5) (e := qa) (i := 5) (x := 1) (k := fun M_41 => (bI (mo_passes 64 M_41) fun z_42 M_41 => (bif cmpB .eq z_42 0 then some (rI 1, M_41) else (bI (mo_readHaving (p : Int) M_41) fun z_45 M_44 => (bif cmpB .eq z_45 0 then some (rI 0, M_44) else some (rI 1, M_44)))))) r2 hp (by decide)
    rw [if_pos g, if_pos g, w63.1, w63.2, bq_eq (by decide) (by decide), if_neg (show ¬ (1 : Int) = 0 by decide), sM_eq, cT_ne (show 29 ≠ 1 by decide), cT_u (by decide), bq_eq (by decide) (by decide), if_neg (show ¬ (1 : Int) = 0 by decide), show bV (mo_sets (p : Int) 5 1 _) _ = _ from x1]
    refine keep_has (f := up f 5 1) hC hN hD b1 h0 k0 ⟨F0, F1, F2, F34, Or.inr rfl⟩ f6 ⟨⟨q1.tr (FrT.u (by omega)), fun j hj => ?_, ?_, fun i hi j => ?_, fun a h1 h2 => ?_⟩, fun a ha => by rw [x3 a ha, r1 a ha], x2⟩ (by omega)
    · rw [mU_ap, if_pos rfl, if_neg hj]
      exact q2 j hj
    · rw [mU_ap, if_pos rfl, if_pos rfl, q3, e6, set_bs (by decide) hp]
      refine congrArg (fun x : Nat => (x : Int)) (bset_cg 10 fun i _ => ?_)
      show _ = (tkB (N 166) i || (decide ((1 : Int) = 1) && decide (i = p)))
      simp
    · rw [mU_ne (by omega), q4 i hi]
      match i, hi with
      | 0, _ => rfl
      | 1, _ => rfl
      | 2, _ => rfl
      | 3, _ => rfl
      | i + 4, h => exact absurd h (by omega)
    · rw [mU_ne (by omega), q5 a h1 h2]
  · obtain ⟨N3, x1, x2, x3⟩ := sets_b (q := qa) (e := qa) (i := 5) (x := 0) (k := fun M_29 => (bI (mo_passes 64 M_29) fun z_33 M_32 => (bif cmpB .eq z_33 0 then some (rI 1, M_32) else (bI (mo_readHaving (p : Int) M_32) fun z_36 M_35 => (bif cmpB .eq z_36 0 then some (rI 0, M_35) else some (rI 1, M_35)))))) r2 hp (by decide)
    rw [if_neg g, if_neg g, bq_eq (by decide) (by decide), if_pos rfl, bq_eq (by decide) (by decide), if_pos rfl, show bV (mo_sets (p : Int) 5 0 _) _ = _ from x1]
    refine keep_has (f := up f 5 0) hC hN hD a1.2 h0 k0 ⟨F0, F1, F2, F34, Or.inl rfl⟩ f6 ⟨⟨q1, q2, ?_, fun i hi j => ?_, q5⟩, fun a ha => by rw [x3 a ha, r1 a ha], x2⟩ (by omega)
    · rw [q3, e6]
      refine congrArg (fun x : Nat => (x : Int)) (bset_cg 10 fun i _ => ?_)
      show _ = (tkB (N 166) i || (decide ((0 : Int) = 1) && decide (i = p)))
      simp
    · rw [q4 i hi]
      match i, hi with
      | 0, _ => rfl
      | 1, _ => rfl
      | 2, _ => rfl
      | 3, _ => rfl
      | i + 4, h => exact absurd h (by omega)
/-- from the meal on -/
theorem keep_meal {T : Nat → Int} {n k p pp l e p0 : Nat} {C N N2 : MM} {f : Nat → Int} {m v : Int} (hC : TC T n C) (hN : TN T n N) (hD : DrT k C N) (hpp : pp ≤ n) (h0 : (p : Int) < N 166 0) (k0 : oP (N 166) (p : Int) 0 = 0) (f0 : f 0 = 1) (f1 : f 1 = m ∧ 0 ≤ m ∧ m ≤ 15) (f2 : f 2 = v ∧ 0 ≤ v ∧ v ≤ 15) (f3 : f 3 = -1) (f4 : f 4 = -1) (f5 : f 5 = 0) (f6 : f 6 = -1) (hK : (∀ a, a ≠ 166 → N2 a = N a) ∧ N2 166 = kpW (N 166) p f) (hp0 : p0 ≤ pp) : LnR n k C N p0 (bV (tale_readMeal (p : Int) (tpT (mU (mU C 30 p m) 31 p v) pp l (-1))) fun M_11 => (bI (tape_tookWord 11 M_11) fun z_15 M_14 => (bif cmpB .eq z_15 0 then (tale_readKeeper_J67 (p : Int) M_14) else (sM (mU M_14 29 6 (iOr (M_14 29 6) (iShl 1 (p : Int)))) fun M_34 => (tale_readKeeper_J67 (p : Int) M_34))))) (bI (mo_passes 61 (nT N2 pp e)) fun z_24 M_23 => (bif cmpB .eq z_24 0 then (mo_readKeeper_J91 (p : Int) M_23) else (bI (mo_readEating (p : Int) M_23) fun z_48 M_47 => (bif cmpB .ne z_48 0 then (mo_readKeeper_J91 (p : Int) M_47) else some (rI 0, M_47))))) := by
  have c0 := hD.2.2.1.1
  have hp : p < 10 := by omega
  have n4 := hC.2.1
  obtain ⟨r1, r2⟩ := hK
  have tN2 : TN T n N2 := by
    unfold TN at *
    rw [r1 165 (by decide), r1 170 (by decide)]
    exact hN
  have fN2 : FrN N N2 := FrN_w r2 r1 (fun j hj => kpW_hi hp (by omega)) (fun j h1 h2 => kpW_sm h2)
  have hL := hD.1
  -- what the class has when 32 and 33 are told
  have KC : ∀ (x y : Int) (g : Nat → Int) (N3 : MM), g 1 = m → g 2 = v → g 3 = x → g 4 = y → g 5 = 0 → (∀ a, a ≠ 166 → N3 a = N a) → N3 166 = kpW (N 166) p g → KpR C N (mU (mU (mU (mU C 30 p m) 31 p v) 32 p x) 33 p y) N3 p g := fun x y g N3 g1 g2 g3 g4 g5 hN3 hw => by
    refine ⟨⟨FrT.tr (FrT.tr (FrT.tr (FrT.u (by omega)) (FrT.u (by omega))) (FrT.u (by omega))) (FrT.u (by omega)), fun j _ => by rw [mU_ne (by decide), mU_ne (by decide), mU_ne (by decide), mU_ne (by decide)], ?_, fun i hi j => ?_, fun a h1 h2 => by rw [mU_ne (by omega), mU_ne (by omega), mU_ne (by omega), mU_ne (by omega)]⟩, hN3, hw⟩
    · rw [mU_ne (by decide), mU_ne (by decide), mU_ne (by decide), mU_ne (by decide), hL.2.2.1, g5]
      refine congrArg (fun x : Nat => (x : Int)) (bset_cg 10 fun i _ => ?_)
      simp
    · match i, hi with
      | 0, _ =>
        show _ = if j = p then g 1 else C 30 j
        rw [mU_ne (by decide), mU_ne (by decide), mU_ne (by decide), mU_ap, if_pos rfl, g1]
      | 1, _ =>
        show _ = if j = p then g 2 else C 31 j
        rw [mU_ne (by decide), mU_ne (by decide), mU_ap, if_pos rfl, g2, mU_ne (by decide)]
      | 2, _ =>
        show _ = if j = p then g 3 else C 32 j
        rw [mU_ne (by decide), mU_ap, if_pos rfl, g3, mU_ne (by decide), mU_ne (by decide)]
      | 3, _ =>
        show _ = if j = p then g 4 else C 33 j
        rw [mU_ap, if_pos rfl, g4, mU_ne (by decide), mU_ne (by decide), mU_ne (by decide)]
      | i + 4, h => exact absurd h (by omega)
  have tC2 : TC T n (mU (mU (mU (mU C 30 p m) 31 p v) 32 p (-1)) 33 p (-1)) := TC_u (TC_u (TC_u (TC_u hC (by decide) (by decide)) (by decide) (by decide)) (by decide) (by decide)) (by decide) (by decide)
  have fC2 : FrT C (mU (mU (mU (mU C 30 p m) 31 p v) 32 p (-1)) 33 p (-1)) := FrT.tr (FrT.tr (FrT.tr (FrT.u (by omega)) (FrT.u (by omega))) (FrT.u (by omega))) (FrT.u (by omega))
  have nrm : ∀ x y : Int, mU (mU (mU (mU (mU (mU C 30 p m) 31 p v) 32 p (-1)) 33 p (-1)) 32 p x) 33 p y = mU (mU (mU (mU C 30 p m) 31 p v) 32 p x) 33 p y := fun x y => by
    funext a j
    rw [mU_ap, mU_ap (M := mU (mU (mU C 30 p m) 31 p v) 32 p x)]
    by_cases h33 : a = 33
    · rw [if_pos h33, if_pos h33]
      by_cases hj : j = p
      · rw [if_pos hj, if_pos hj]
      · rw [if_neg hj, if_neg hj, h33, mU_ne (by decide), mU_ap, if_pos rfl, if_neg hj, mU_ne (by decide), mU_ne (show 33 ≠ 32 by decide)]
    · rw [if_neg h33, if_neg h33, mU_ap, mU_ap (M := mU (mU C 30 p m) 31 p v)]
      by_cases h32 : a = 32
      · rw [if_pos h32, if_pos h32]
        by_cases hj : j = p
        · rw [if_pos hj, if_pos hj]
        · rw [if_neg hj, if_neg hj, h32, mU_ne (by decide), mU_ap, if_pos rfl, if_neg hj]
      · rw [if_neg h32, if_neg h32, mU_ne h33, mU_ne h32]
  have a1 := skB_le (T := T) hpp
  have w61 : wLen 61 = 4 ∧ wLen 9 = 4 ∧ wLen 62 = 2 ∧ wLen 10 = 2 := by decide
  -- behind a wrong byte
  have rest : ∀ (C9 : MM) (p9 l9 qb : Nat), p9 ≤ n → qb ≤ n → WX T n (qb : Int) C9 (bI (tape_tookWord 11 (tpT C9 p9 l9 (qb : Int))) fun z_15 M_14 => (bif cmpB .eq z_15 0 then (tale_readKeeper_J67 (p : Int) M_14) else (sM (mU M_14 29 6 (iOr (M_14 29 6) (iShl 1 (p : Int)))) fun M_34 => (tale_readKeeper_J67 (p : Int) M_34)))) := fun C9 p9 l9 qb hp9 hqb => WX_took (by omega) (by omega) (WX_eq0 (WX_k67 (by omega) (by omega) ⟨by omega, by omega⟩ hp9))
  have r25 : ∀ (x : Int) (N9 : MM) (p9 e9 : Nat), ∃ N8, mo_readEating_J25 (p : Int) x (-1) (nT N9 p9 e9) = some (rI 0, nT N8 p9 e9) ∧ FrN N9 N8 := fun x N9 p9 e9 => by
    refine ⟨mU (mU N9 166 (10 + 8 * p + 3) x) 166 (10 + 8 * p + 4) (-1), ?_, FrN.tr (FrN.u (by omega)) (FrN.u (by omega))⟩
    unfold mo_readEating_J25 mo_sets
    rw [bq_in (by omega) (by omega), sM_eq, bV_V, nT_u (by decide), bq_in (by omega) (by omega), sM_eq, bV_V, nT_u (by decide), bq_lt (by decide) (by decide), if_pos (by decide), show ((10 + 8 * (p : Int)) + 3).toNat = 10 + 8 * p + 3 by omega, show ((10 + 8 * (p : Int)) + 4).toNat = 10 + 8 * p + 4 by omega]
  unfold tale_readMeal
  rw [bq_in (by omega) (by omega), sM_eq, Int.toNat_natCast, cT_u (by decide), bq_in (by omega) (by omega), sM_eq, cT_u (by decide), word_b tC2 hpp (wk rfl), wd_cg (t := 9) (t' := 61) rfl rfl, passes_b tN2 hpp (wk rfl)]
  generalize skB T n pp = qa at a1
  by_cases g : wdB T n 61 qa = true
  · have b1 := wd_le a1.2 g
    rw [w61.1] at b1
    have a2 := skB_le (T := T) b1
    unfold mo_readEating
    rw [if_pos g, if_pos g, w61.1, w61.2.1, bq_eq (by decide) (by decide), if_neg (show ¬ (1 : Int) = 0 by decide), bq_eq (by decide) (by decide), if_neg (show ¬ (1 : Int) = 0 by decide), num_b tC2 b1 (by decide) (by decide), number_b tN2 b1 (by decide) (by decide)]
    generalize skB T n (qa + 4) = q1 at a2
    have a3 := dgE_le (T := T) a2.2
    by_cases g1 : nuO T n q1 0 23 = true
    · have ix : 0 ≤ nuV T n q1 ∧ nuV T n q1 ≤ 23 := (nuO_i.mp g1).2.2
      rw [if_pos g1, if_pos g1]
      generalize nuV T n q1 = x at ix
      have a4 := skB_le (T := T) a3.2
      rw [bq_ge (by omega) (by decide), if_pos ix.1, need_b tC2 a3.2 (wk rfl), wd_cg (t := 10) (t' := 62) rfl rfl, after_b tN2 a3.2 (wk rfl) (by omega) (by decide)]
      generalize skB T n (dgE T n q1) = q2 at a4
      by_cases g2 : wdB T n 62 q2 = true
      · have b2 := wd_le a4.2 g2
        rw [w61.2.2.1] at b2
        have t3 := TC_u (k := p) (x := x) tC2 (show 32 ≠ 1 by decide) (show 32 ≠ 2 by decide)
        have a5 := skB_le (T := T) b2
        rw [if_pos g2, if_pos g2, w61.2.2.1, w61.2.2.2, bq_in (by omega) (by omega), sM_eq, cT_u (by decide), num_b t3 b2 (by omega) (by decide), number_b tN2 b2 (by omega) (by decide)]
        generalize skB T n (q2 + 2) = q3 at a5
        have a6 := dgE_le (T := T) a5.2
        by_cases g3 : nuO T n q3 x 23 = true
        · have iy : x ≤ nuV T n q3 ∧ nuV T n q3 ≤ 23 := (nuO_i.mp g3).2.2
          rw [if_pos g3, if_pos g3]
          generalize nuV T n q3 = y at iy
          obtain ⟨N3, x1, x2, x3⟩ := sets_b (q := dgE T n q3) (e := q3) (i := 3) (x := x) (k := fun M_8 => (bV (mo_sets (p : Int) 4 y M_8) fun M_11 => (bif cmpB .lt y 0 then some (rI 0, M_11) else some (rI 1, M_11)))) r2 hp (by decide)
          obtain ⟨N4, y1, y2, y3⟩ := sets_b (q := dgE T n q3) (e := q3) (i := 4) (x := y) (k := fun M_11 => (bif cmpB .lt y 0 then some (rI 0, M_11) else some (rI 1, M_11))) x2 hp (by decide)
          have ref : mo_readEating_J25 (p : Int) x y (nT N2 (dgE T n q3) q3) = some (rI 1, nT N4 (dgE T n q3) q3) := by
            unfold mo_readEating_J25
            rw [show bV (mo_sets (p : Int) 3 x _) _ = _ from x1, show bV (mo_sets (p : Int) 4 y _) _ = _ from y1, bq_lt (by omega) (by decide), if_neg (show ¬ y < 0 by omega)]
          rw [bq_in (by omega) (by omega), sM_eq, cT_u (by decide), bV_V, nrm, ref, bI_I, bq_ne (by decide) (by decide), if_neg (show ¬ (1 : Int) = 0 by decide)]
          have hF : kpF (up (up f 3 x) 4 y) := by
            refine ⟨f0, ?_, ?_, ?_, ?_⟩
            · show 0 ≤ f 1 ∧ f 1 ≤ 15
              rw [f1.1]; exact f1.2
            · show 0 ≤ f 2 ∧ f 2 ≤ 15
              rw [f2.1]; exact f2.2
            · show x = -1 ∧ y = -1 ∨ 0 ≤ x ∧ x ≤ y ∧ y ≤ 23
              exact Or.inr ⟨ix.1, iy.1, iy.2⟩
            · exact Or.inl f5
          exact keep_tk hC hN hD a6.2 h0 k0 hF f5 f6 (KC x y (up (up f 3 x) 4 y) N4 f1.1 f2.1 rfl rfl f5 (fun a ha => by rw [y3 a ha, x3 a ha, r1 a ha]) y2) (by omega)
        · rw [if_neg g3, if_neg g3]
          obtain ⟨N8, z1, z2⟩ := r25 x N2 (dgE T n q3) q3
          rw [z1, bI_I, bq_ne (by decide) (by decide), if_pos rfl]
          rw [bq_in (by omega) (by omega), sM_eq, cT_u (by decide), bV_V]
          exact LnR_w (N := N) (fC2.tr (FrT.tr (FrT.u (a := 32) (by omega)) (FrT.u (a := 33) (by omega)))) (fN2.tr z2) (TC_u t3 (by decide) (by decide)) a5.2 (rest _ _ _ _ a5.2 a5.2) rfl
      · rw [if_neg g2, if_neg g2]
        obtain ⟨N8, z1, z2⟩ := r25 x N2 (ltE T n q2) q2
        have t3 := TC_u (k := p) (x := x) tC2 (show 32 ≠ 1 by decide) (show 32 ≠ 2 by decide)
        have a5 := skB_le (T := T) a4.2
        rw [z1, bI_I, bq_ne (by decide) (by decide), if_pos rfl]
        rw [bq_in (by omega) (by omega), sM_eq, cT_u (by decide), num_w t3 a4.2 (by omega) (by omega), bq_in (by omega) (by omega), sM_eq, cT_u (by decide), bV_V]
        exact LnR_w (N := N) (fC2.tr (FrT.tr (FrT.u (a := 32) (by omega)) (FrT.u (a := 33) (by omega)))) (fN2.tr z2) (TC_u t3 (by decide) (by decide)) a4.2 (rest _ _ _ _ a5.2 a4.2) rfl
    · rw [if_neg g1, if_neg g1]
      obtain ⟨N8, z1, z2⟩ := r25 (-1) N2 (dgE T n q1) q1
      have t3 := TC_u (k := p) (x := 0) tC2 (show 32 ≠ 1 by decide) (show 32 ≠ 2 by decide)
      have a4 := skB_le (T := T) a2.2
      have a5 := skB_le (T := T) a4.2
      rw [bq_ge (by decide) (by decide), if_neg (show ¬ (0 : Int) ≤ -1 by decide), z1, bI_I, bq_ne (by decide) (by decide), if_pos rfl]
      rw [need_w tC2 a2.2 (by omega) (by omega), bq_in (by omega) (by omega), sM_eq, cT_u (by decide), num_w t3 a4.2 (by omega) (by omega), bq_in (by omega) (by omega), sM_eq, cT_u (by decide), bV_V]
      exact LnR_w (N := N) (fC2.tr (FrT.tr (FrT.u (a := 32) (by omega)) (FrT.u (a := 33) (by omega)))) (fN2.tr z2) (TC_u t3 (by decide) (by decide)) a2.2 (rest _ _ _ _ a5.2 a2.2) rfl
  · rw [if_neg g, if_neg g, bq_eq (by decide) (by decide), if_pos rfl, bV_V, bq_eq (by decide) (by decide), if_pos rfl]
    have hF : kpF f := ⟨f0, by rw [f1.1]; exact f1.2, by rw [f2.1]; exact f2.2, Or.inl ⟨f3, f4⟩, Or.inl f5⟩
    exact keep_tk hC hN hD a1.2 h0 k0 hF f5 f6 (KC (-1) (-1) f N2 f1.1 f2.1 f3 f4 f5 r1 r2) (by omega)
