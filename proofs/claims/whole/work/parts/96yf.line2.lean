/-! ===== THE TALE, line by line: a thing more ===== -/
def apW (w : Nat → Int) (t : Nat) (s v z p : Int) : Nat → Int := fun j => if j = 1 then (t : Int) + 1 else if j = 90 + 4 * t then s else if j = 90 + 4 * t + 1 then v else if j = 90 + 4 * t + 2 then z else if j = 90 + 4 * t + 3 then p else w j
section ThingL
variable {w : Nat → Int} {t k : Nat} {s v z p : Int}
theorem apW_o {j : Nat} (h1 : j ≠ 1) (h : j < 90 + 4 * t ∨ 90 + 4 * t + 4 ≤ j) : apW w t s v z p j = w j := by
  unfold apW
  rw [if_neg h1, if_neg (by omega), if_neg (by omega), if_neg (by omega), if_neg (by omega)]
theorem apW_T {i j : Int} (hi : 0 ≤ i) (hi2 : i < t) (hj : 0 ≤ j) (hj2 : j ≤ 3) : oT (apW w t s v z p) i j = oT w i j := apW_o (by omega) (by omega)
theorem apW_n {j : Int} (hj : 0 ≤ j) (hj2 : j ≤ 3) : oT (apW w t s v z p) (t : Int) j = if j = 0 then s else if j = 1 then v else if j = 2 then z else p := by
  unfold oT apW
  rw [if_neg (by omega)]
  by_cases h0 : j = 0
  · rw [if_pos (by omega), if_pos h0]
  · rw [if_neg (by omega), if_neg h0]
    by_cases h1 : j = 1
    · rw [if_pos (by omega), if_pos h1]
    · rw [if_neg (by omega), if_neg h1]
      by_cases h2 : j = 2
      · rw [if_pos (by omega), if_pos h2]
      · rw [if_neg (by omega), if_neg h2, if_pos (by omega)]
theorem apW_P {i j : Int} (hi : 0 ≤ i) (hi2 : i < 10) (hj : 0 ≤ j) (hj2 : j ≤ 7) : oP (apW w t s v z p) i j = oP w i j := apW_o (by omega) (by omega)
theorem apW_R {i j : Int} (ht : t < 10) (hi : 0 ≤ i) (hj : 0 ≤ j) : oR (apW w t s v z p) i j = oR w i j := apW_o (by omega) (by omega)
theorem apW_B {i j : Int} (ht : t < 10) (hi : 0 ≤ i) (hj : 0 ≤ j) : oB (apW w t s v z p) i j = oB w i j := apW_o (by omega) (by omega)
theorem apW_sm {j : Nat} (h1 : j ≠ 1) (hj : j ≤ 9) : apW w t s v z p j = w j := apW_o h1 (by omega)
theorem apW_hi {j : Nat} (ht : t < 10) (hj : 130 ≤ j) : apW w t s v z p j = w j := apW_o (by omega) (by omega)
theorem apW_st (h1 : w 1 = (t : Int)) {y : Int} (i : Nat) : stB' (apW w t s v z p) y i = if i = t then decide (z = y) else stB' w y i := by
  unfold stB'
  have e1 : apW w t s v z p 1 = (t : Int) + 1 := rfl
  rw [e1, h1]
  by_cases e : i = t
  · rw [if_pos e, e, decide_eq_true (show (t : Int) < (t : Int) + 1 by omega), apW_n (by decide) (by decide), Bool.true_and]; rfl
  · rw [if_neg e]
    by_cases g : (i : Int) < t
    · rw [decide_eq_true g, decide_eq_true (show (i : Int) < (t : Int) + 1 by omega), apW_T (by omega) g (by decide) (by decide)]
    · rw [decide_eq_false g, decide_eq_false (show ¬ (i : Int) < (t : Int) + 1 by omega), Bool.false_and, Bool.false_and]
end ThingL
section NewT
variable {T : Nat → Int} {n p q : Nat} {C N : MM}
def ntq1 (T : Nat → Int) (n p : Nat) : Nat := skB T n p
def ntq2 (T : Nat → Int) (n p : Nat) : Nat := skB T n (dgE T n (ntq1 T n p))
def ntq3 (T : Nat → Int) (n p : Nat) : Nat := skB T n (ntq2 T n p + 5)
def ntOK (T : Nat → Int) (n p t : Nat) : Prop := t < 10 ∧ nuO T n (ntq1 T n p) 0 15 = true ∧ wdB T n 54 (ntq2 T n p) = true ∧ nuO T n (ntq3 T n p) 1 99 = true
def ntBad (T : Nat → Int) (n p q t qb : Nat) : Prop := (¬ t < 10 ∧ qb = q) ∨ (t < 10 ∧ ¬ nuO T n (ntq1 T n p) 0 15 = true ∧ qb = ntq1 T n p) ∨ (t < 10 ∧ nuO T n (ntq1 T n p) 0 15 = true ∧ ¬ wdB T n 54 (ntq2 T n p) = true ∧ qb = ntq2 T n p) ∨ (t < 10 ∧ nuO T n (ntq1 T n p) 0 15 = true ∧ wdB T n 54 (ntq2 T n p) = true ∧ ¬ nuO T n (ntq3 T n p) 1 99 = true ∧ qb = ntq3 T n p)
theorem w54 : wLen 54 = 5 ∧ wLen 2 = 5 := by decide
theorem nt_le (hp : p ≤ n) : p ≤ ntq1 T n p ∧ ntq1 T n p ≤ n ∧ ntq1 T n p ≤ ntq2 T n p ∧ ntq2 T n p ≤ n ∧ (wdB T n 54 (ntq2 T n p) = true → ntq2 T n p + 5 ≤ n ∧ ntq2 T n p + 5 ≤ ntq3 T n p ∧ ntq3 T n p ≤ n ∧ ntq3 T n p ≤ dgE T n (ntq3 T n p) ∧ dgE T n (ntq3 T n p) ≤ n) := by
  have a1 := skB_le (T := T) hp
  have a2 := dgE_le (T := T) a1.2
  have a3 := skB_le (T := T) a2.2
  refine ⟨a1.1, a1.2, by unfold ntq2 ntq1; omega, a3.2, fun h => ?_⟩
  have b := wd_le a3.2 h
  rw [w54.1] at b
  have a4 := skB_le (T := T) b
  have a5 := dgE_le (T := T) a4.2
  exact ⟨b, a4.1, a4.2, a5.1, a5.2⟩
def ntC (C : MM) (t : Nat) (s v : Int) : MM := mU (mU (mU C 29 1 ((t : Int) + 1)) 35 t s) 36 t v
theorem ntC_fr {t : Nat} {s v : Int} : FrT C (ntC C t s v) := FrT.tr (FrT.tr (FrT.u (by omega)) (FrT.u (by omega))) (FrT.u (by omega))
theorem nt_c {k : Int → MM → OR} {t : Nat} (h : TC T n C) (hp : p ≤ n) (hq : q ≤ n) (h1 : C 29 1 = (t : Int)) (ht : t ≤ 10) : (ntOK T n p t ∧ bI (tale_readNewThing (tpT C p q (-1))) k = k (t : Int) (tpT (ntC C t (nuV T n (ntq1 T n p)) (nuV T n (ntq3 T n p))) (dgE T n (ntq3 T n p)) (ntq3 T n p) (-1))) ∨ ∃ qb C' p' l' z, ntBad T n p q t qb ∧ FrT C C' ∧ p' ≤ n ∧ qb ≤ n ∧ (-1 ≤ z ∧ z < 10) ∧ bI (tale_readNewThing (tpT C p q (-1))) k = k z (tpT C' p' l' (qb : Int)) := by
  have hl := nt_le (T := T) hp
  unfold tale_readNewThing
  rw [cT_ne (show 29 ≠ 1 by decide), h1, bq_lt (by omega) (by decide)]
  have t1 := TC_u (k := 1) (x := (t : Int) + 1) h (show 29 ≠ 1 by decide) (show 29 ≠ 2 by decide)
  by_cases g : t < 10
  · rw [if_pos (by omega), sM_eq, cT_u (by decide), num_b t1 hp (by decide) (by decide), bq_in (by omega) (by omega)]
    by_cases g1 : nuO T n (ntq1 T n p) 0 15 = true
    · have t2 := TC_u (k := t) (x := nuV T n (ntq1 T n p)) t1 (show 35 ≠ 1 by decide) (show 35 ≠ 2 by decide)
      have a2 := dgE_le (T := T) hl.2.1
      have e1 : skB T n p = ntq1 T n p := rfl
      rw [e1, if_pos g1, sM_eq, cT_u (by decide), Int.toNat_natCast, need_b t2 a2.2 (wk rfl), wd_cg (t := 2) (t' := 54) rfl rfl, w54.2]
      have e2 : skB T n (dgE T n (ntq1 T n p)) = ntq2 T n p := rfl
      rw [e2]
      by_cases g2 : wdB T n 54 (ntq2 T n p) = true
      · obtain ⟨b1, b2, b3, b4, b5⟩ := hl.2.2.2.2 g2
        rw [if_pos g2, num_b t2 b1 (by decide) (by decide)]
        have e3 : skB T n (ntq2 T n p + 5) = ntq3 T n p := rfl
        rw [e3]
        by_cases g3 : nuO T n (ntq3 T n p) 1 99 = true
        · rw [if_pos g3, bq_in (by omega) (by omega), sM_eq, cT_u (by decide), bI_I]
          exact Or.inl ⟨⟨g, g1, g2, g3⟩, rfl⟩
        · rw [if_neg g3, bq_in (by omega) (by omega), sM_eq, cT_u (by decide), bI_I]
          exact Or.inr ⟨ntq3 T n p, _, _, _, _, Or.inr (Or.inr (Or.inr ⟨g, g1, g2, g3, rfl⟩)), ntC_fr (C := C) (t := t) (s := nuV T n (ntq1 T n p)) (v := 1), b3, b3, ⟨by omega, by omega⟩, rfl⟩
      · have f35 := TC_u (k := t) (x := 1) t2 (show 36 ≠ 1 by decide) (show 36 ≠ 2 by decide)
        rw [if_neg g2, num_w t2 hl.2.2.2.1 (by have := h.2.1; omega) (by omega), bq_in (by omega) (by omega), sM_eq, cT_u (by decide), bI_I]
        exact Or.inr ⟨ntq2 T n p, _, _, _, _, Or.inr (Or.inr (Or.inl ⟨g, g1, g2, rfl⟩)), ntC_fr (C := C) (t := t) (s := nuV T n (ntq1 T n p)) (v := 1), (skB_le hl.2.2.2.1).2, hl.2.2.2.1, ⟨by omega, by omega⟩, rfl⟩
    · have t2 := TC_u (k := t) (x := 0) t1 (show 35 ≠ 1 by decide) (show 35 ≠ 2 by decide)
      have e1 : skB T n p = ntq1 T n p := rfl
      have h4 := h.2.1
      have a3 := skB_le (T := T) hl.2.1
      rw [e1, if_neg g1, sM_eq, cT_u (by decide), Int.toNat_natCast, need_w t2 hl.2.1 (by omega) (by omega), num_w t2 a3.2 (by omega) (by omega), bq_in (by omega) (by omega), sM_eq, cT_u (by decide), bq_in (by omega) (by omega), bI_I]
      exact Or.inr ⟨ntq1 T n p, _, _, _, _, Or.inr (Or.inl ⟨g, g1, rfl⟩), ntC_fr (C := C) (t := t) (s := 0) (v := 1), (skB_le a3.2).2, hl.2.1, ⟨by omega, by omega⟩, rfl⟩
  · rw [if_neg (by omega), cT_3, failAt_b (by decide), if_pos rfl, bI_I]
    exact Or.inr ⟨q, C, p, q, -1, Or.inl ⟨g, rfl⟩, FrT.rf, hp, hq, ⟨by decide, by decide⟩, rfl⟩
/-- the reference reads a thing's shape and worth -/
theorem nt_r {G : Int → Int → MM → OR} {t : Nat} (h : TN T n N) (hp : p ≤ n) (h1 : N 166 1 = (t : Int)) (ht : t ≤ 10) (hG : ∀ z M, G z (-1) M = some (rI 0, M)) : (ntOK T n p t → (bI (mo_things (nT N p q)) fun z_3 M_2 => (bif cmpB .ne z_3 10 then (bI (mo_number 0 15 M_2) fun z_6 M_5 => (bif cmpB .ge z_6 0 then (bI (mo_after 54 1 99 M_5) fun z_9 M_8 => (G z_6 z_9 M_8)) else (G z_6 (-1) M_5))) else some (rI 0, M_2))) = G (nuV T n (ntq1 T n p)) (nuV T n (ntq3 T n p)) (nT N (dgE T n (ntq3 T n p)) (ntq3 T n p))) ∧ ∀ qb, ntBad T n p q t qb → ∃ p'', (bI (mo_things (nT N p q)) fun z_3 M_2 => (bif cmpB .ne z_3 10 then (bI (mo_number 0 15 M_2) fun z_6 M_5 => (bif cmpB .ge z_6 0 then (bI (mo_after 54 1 99 M_5) fun z_9 M_8 => (G z_6 z_9 M_8)) else (G z_6 (-1) M_5))) else some (rI 0, M_2))) = some (rI 0, nT N p'' qb) := by
  have hl := nt_le (T := T) hp
  have e1 : skB T n p = ntq1 T n p := rfl
  have e2 : skB T n (dgE T n (ntq1 T n p)) = ntq2 T n p := rfl
  have e3 : skB T n (ntq2 T n p + 5) = ntq3 T n p := rfl
  have a2 := dgE_le (T := T) hl.2.1
  rw [mo_things_b, nT_ne (show 166 ≠ 165 by decide), h1, bq_ne (by omega) (by decide), number_b h hp (by decide) (by decide), e1]
  have go1 : t < 10 → nuO T n (ntq1 T n p) 0 15 = true → 0 ≤ nuV T n (ntq1 T n p) ∧ nuV T n (ntq1 T n p) < 1000 := fun _ g => nuV_J hl.2.1 (nuO_i.mp g).2.1
  refine ⟨fun ⟨g, g1, g2, g3⟩ => ?_, fun qb hb => ?_⟩
  · have v1 := go1 g g1
    obtain ⟨b1, b2, b3, b4, b5⟩ := hl.2.2.2.2 g2
    rw [if_neg (by omega), if_pos g1, bq_ge (by omega) (by decide), if_pos v1.1, after_b h a2.2 (wk rfl) (by decide) (by decide), e2, if_pos g2, w54.1, number_b h b1 (by decide) (by decide), e3, if_pos g3]
  · rcases hb with ⟨g, rfl⟩ | ⟨g, g1, rfl⟩ | ⟨g, g1, g2, rfl⟩ | ⟨g, g1, g2, g3, rfl⟩
    · rw [if_pos (by omega)]
      exact ⟨p, rfl⟩
    · rw [if_neg (by omega), if_neg g1, bq_ge (by decide) (by decide), if_neg (by decide), hG]
      exact ⟨_, rfl⟩
    · have v1 := go1 g g1
      rw [if_neg (by omega), if_pos g1, bq_ge (by omega) (by decide), if_pos v1.1, after_b h a2.2 (wk rfl) (by decide) (by decide), e2, if_neg g2, hG]
      exact ⟨_, rfl⟩
    · have v1 := go1 g g1
      obtain ⟨b1, b2, b3, b4, b5⟩ := hl.2.2.2.2 g2
      rw [if_neg (by omega), if_pos g1, bq_ge (by omega) (by decide), if_pos v1.1, after_b h a2.2 (wk rfl) (by decide) (by decide), e2, if_pos g2, w54.1, number_b h b1 (by decide) (by decide), e3, if_neg g3, hG]
      exact ⟨_, rfl⟩
theorem appends_b {k : MM → OR} {t : Nat} {s v z x : Int} {p' e' : Nat} (h1 : N 166 1 = (t : Int)) (ht : t < 10) : ∃ N', bV (mo_appends s v z x (nT N p' e')) k = k (nT N' p' e') ∧ N' 166 = apW (N 166) t s v z x ∧ ∀ a, a ≠ 166 → N' a = N a := by
  obtain ⟨N', hN'⟩ : ∃ N', N' = mU (mU (mU (mU (mU N 166 (90 + 4 * t) s) 166 (90 + 4 * t + 1) v) 166 (90 + 4 * t + 2) z) 166 (90 + 4 * t + 3) x) 166 1 ((t : Int) + 1) := ⟨_, rfl⟩
  refine ⟨N', ?_, ?_, fun a ha => by rw [hN', mU_ne ha, mU_ne ha, mU_ne ha, mU_ne ha, mU_ne ha]⟩
  · unfold mo_appends
    rw [mo_things_b, nT_ne (show 166 ≠ 165 by decide), h1, bq_in (by omega) (by omega), sM_eq, show ((90 + 4 * (t : Int)) + 0).toNat = 90 + 4 * t by omega, nT_u (by decide), bq_in (by omega) (by omega), sM_eq, show ((90 + 4 * (t : Int)) + 1).toNat = 90 + 4 * t + 1 by omega, nT_u (by decide), bq_in (by omega) (by omega), sM_eq, show ((90 + 4 * (t : Int)) + 2).toNat = 90 + 4 * t + 2 by omega, nT_u (by decide), bq_in (by omega) (by omega), sM_eq, show ((90 + 4 * (t : Int)) + 3).toNat = 90 + 4 * t + 3 by omega, nT_u (by decide), bq_in (by decide) (by decide), bq_in (by decide) (by decide), sM_eq, nT_ne (show 166 ≠ 165 by decide), nT_u (by decide), bV_V]
    have e : (mU (mU (mU (mU N 166 (90 + 4 * t) s) 166 (90 + 4 * t + 1) v) 166 (90 + 4 * t + 2) z) 166 (90 + 4 * t + 3) x) 166 1 = (t : Int) := by
      rw [mU_ap, if_pos rfl, if_neg (by omega), mU_ap, if_pos rfl, if_neg (by omega), mU_ap, if_pos rfl, if_neg (by omega), mU_ap, if_pos rfl, if_neg (by omega), h1]
    rw [e, hN']
  · funext j
    unfold apW
    rw [hN', mU_ap, if_pos rfl, mU_ap, if_pos rfl, mU_ap, if_pos rfl, mU_ap, if_pos rfl, mU_ap, if_pos rfl]
    by_cases h1 : j = 1
    · rw [if_pos h1, if_pos h1]
    · rw [if_neg h1, if_neg h1]
      by_cases h2 : j = 90 + 4 * t + 3
      · rw [if_pos h2, if_neg (by omega), if_neg (by omega), if_neg (by omega), if_pos h2]
      · rw [if_neg h2]
        by_cases h3 : j = 90 + 4 * t + 2
        · rw [if_pos h3, if_neg (by omega), if_neg (by omega), if_pos h3]
        · rw [if_neg h3]
          by_cases h4 : j = 90 + 4 * t + 1
          · rw [if_pos h4, if_neg (by omega), if_pos h4]
          · rw [if_neg h4]
            by_cases h5 : j = 90 + 4 * t
            · rw [if_pos h5, if_pos h5]
            · rw [if_neg h5, if_neg h5, if_neg h4, if_neg h3, if_neg h2]
end NewT
