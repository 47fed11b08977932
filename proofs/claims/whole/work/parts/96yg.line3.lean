/-! ===== THE TALE, line by line: thing ===== -/
section ThingD
variable {w : Nat → Int} {t k : Nat} {s v z p : Int} {C : MM}
theorem apW_kp (h1 : w 1 = (t : Int)) (c0 : w 0 ≤ 10) (i : Nat) : kpB (apW w t s v z p) i = kpB w i := by
  unfold kpB
  rw [apW_sm (by decide) (by decide)]
  by_cases g : (i : Int) < w 0
  · rw [decide_eq_true g, apW_P (by omega) (by omega) (by decide) (by decide)]
  · rw [decide_eq_false g, Bool.false_and, Bool.false_and]
theorem apW_tk (c0 : w 0 ≤ 10) (i : Nat) : tkB (apW w t s v z p) i = tkB w i := by
  unfold tkB
  rw [apW_sm (by decide) (by decide)]
  by_cases g : (i : Int) < w 0
  · rw [decide_eq_true g, apW_P (by omega) (by omega) (by decide) (by decide)]
  · rw [decide_eq_false g, Bool.false_and, Bool.false_and]
theorem apW_pa (c0 : w 0 ≤ 10) (i : Nat) : paB (apW w t s v z p) i = paB w i := by
  unfold paB
  rw [apW_sm (by decide) (by decide)]
  by_cases g : (i : Int) < w 0
  · rw [decide_eq_true g, apW_P (by omega) (by omega) (by decide) (by decide)]
  · rw [decide_eq_false g, Bool.false_and, Bool.false_and]
/-- the class's draft of a thing more; X: what stands in its set of the HAD -/
def apC (C : MM) (t : Nat) (s v p : Int) : MM := mU (ntC C t s v) 50 t p
theorem apC_ne {a : Nat} (h : a ≠ 29 ∧ a ≠ 35 ∧ a ≠ 36 ∧ a ≠ 50) : apC C t s v p a = C a := by
  unfold apC ntC
  rw [mU_ne h.2.2.2, mU_ne h.2.2.1, mU_ne h.2.1, mU_ne h.1]
theorem apC_29 {j : Nat} : apC C t s v p 29 j = if j = 1 then (t : Int) + 1 else C 29 j := by
  unfold apC ntC
  rw [mU_ne (by decide), mU_ne (by decide), mU_ne (by decide), mU_ap, if_pos rfl]
theorem apC_35 {j : Nat} : apC C t s v p 35 j = if j = t then s else C 35 j := by
  unfold apC ntC
  rw [mU_ne (by decide), mU_ne (by decide), mU_ap, if_pos rfl, mU_ne (by decide)]
theorem apC_36 {j : Nat} : apC C t s v p 36 j = if j = t then v else C 36 j := by
  unfold apC ntC
  rw [mU_ne (by decide), mU_ap, if_pos rfl, mU_ne (by decide), mU_ne (by decide)]
theorem apC_50 {j : Nat} : apC C t s v p 50 j = if j = t then p else C 50 j := by
  unfold apC ntC
  rw [mU_ap, if_pos rfl, mU_ne (by decide), mU_ne (by decide), mU_ne (by decide)]
theorem La_ap (hL : LandR 29 w C) (h1 : w 1 = (t : Int)) (ht : t < 10) (c0 : w 0 ≤ 10) : LandR 29 (apW w t s v z p) (apC C t s v p) := by
  obtain ⟨⟨a0, a1, a2, a3, a4⟩, a5, a6, a7, a8, a9, a10⟩ := hL
  have e1 : apW w t s v z p 1 = (t : Int) + 1 := rfl
  have f : ∀ a, a ≠ 29 → a ≠ 35 → a ≠ 36 → a ≠ 50 → apC C t s v p a = C a := fun a x1 x2 x3 x4 => apC_ne ⟨x1, x2, x3, x4⟩
  refine ⟨⟨by rw [apC_29, if_neg (by decide), apW_sm (by decide) (by decide)]; exact a0, by rw [apC_29, if_pos rfl, e1], by rw [apC_29, if_neg (by decide), apW_sm (by decide) (by decide)]; exact a2, by rw [apC_29, if_neg (by decide), apW_sm (by decide) (by decide)]; exact a3, by rw [apC_29, if_neg (by decide), apW_sm (by decide) (by decide)]; exact a4⟩, by rw [apC_29, if_neg (by decide), a5, bset_cg 10 (fun i _ => apW_kp h1 c0 i)], by rw [apC_29, if_neg (by decide), a6, bset_cg 10 (fun i _ => apW_tk c0 i)], fun i hi hi2 hk => ?_, fun i hi hi2 => ?_, fun r hr hr2 => ?_, fun b hb hb2 => ?_⟩
  · rw [apW_sm (by decide) (by decide)] at hi2
    rw [apW_P hi (by omega) (by decide) (by decide)] at hk
    rw [f (29 + 1) (by decide) (by decide) (by decide) (by decide), f (29 + 2) (by decide) (by decide) (by decide) (by decide), f (29 + 3) (by decide) (by decide) (by decide) (by decide), f (29 + 4) (by decide) (by decide) (by decide) (by decide), f (29 + 5) (by decide) (by decide) (by decide) (by decide), apW_P hi (by omega) (by decide) (by decide), apW_P hi (by omega) (by decide) (by decide), apW_P hi (by omega) (by decide) (by decide), apW_P hi (by omega) (by decide) (by decide), apW_P hi (by omega) (by decide) (by decide)]
    exact a7 i hi hi2 hk
  · rw [e1] at hi2
    show apC C t s v p 35 i.toNat = _ ∧ apC C t s v p 36 i.toNat = _
    rw [apC_35, apC_36]
    by_cases e : i = t
    · subst e
      rw [Int.toNat_natCast, if_pos rfl, if_pos rfl, apW_n (by decide) (by decide), apW_n (by decide) (by decide)]
      exact ⟨rfl, rfl⟩
    · rw [if_neg (by omega), if_neg (by omega), apW_T hi (by omega) (by decide) (by decide), apW_T hi (by omega) (by decide) (by decide)]
      exact a8 i hi (by omega)
  · rw [apW_sm (by decide) (by decide)] at hr2
    rw [f (29 + 8) (by decide) (by decide) (by decide) (by decide), f (29 + 9) (by decide) (by decide) (by decide) (by decide), f (29 + 10) (by decide) (by decide) (by decide) (by decide), apW_R ht hr (by decide), apW_R ht hr (by decide), apW_R ht hr (by decide), apW_R ht hr (by decide)]
    exact a9 r hr hr2
  · rw [apW_sm (by decide) (by decide)] at hb2
    rw [f (29 + 11) (by decide) (by decide) (by decide) (by decide), f (29 + 1) (by decide) (by decide) (by decide) (by decide), f (29 + 2) (by decide) (by decide) (by decide) (by decide), f (29 + 12) (by decide) (by decide) (by decide) (by decide), f (29 + 13) (by decide) (by decide) (by decide) (by decide), apW_B ht hb (by decide), apW_B ht hb (by decide), apW_B ht hb (by decide), apW_B ht hb (by decide), apW_B ht hb (by decide)]
    exact a10 b hb hb2
theorem Jn_ap {C' : MM} (hJ : JnyR 49 w C) (h1 : w 1 = (t : Int)) (ht : t < 10) (c0 : w 0 ≤ 10) (c9 : w 9 ≤ 10) (hz : z = 0 ∨ z = 1) (g : ∀ a, 51 ≤ a → a ≤ 54 → C' a = C a) (g49 : ∀ j, j ≠ 5 → C' 49 j = C 49 j) (g50 : ∀ j, C' 50 j = if j = t then p else C 50 j) (g5 : C' 49 5 = ((bset 10 (stB' (apW w t s v z p) 1) : Nat) : Int)) : JnyR 49 (apW w t s v z p) C' := by
  obtain ⟨⟨j0, j1, j2, j8⟩, j3, j4, j5, j6, j7, j9, j10, j11, j12⟩ := hJ
  have e1 : apW w t s v z p 1 = (t : Int) + 1 := rfl
  have sb : ∀ y : Int, y = 2 ∨ y = 3 → ∀ i, stB' (apW w t s v z p) y i = stB' w y i := fun y hy i => by
    rw [apW_st h1]
    by_cases e : i = t
    · rw [if_pos e, e]
      unfold stB'
      rw [h1, decide_eq_false (show ¬ ((t : Nat) : Int) < t by omega), Bool.false_and, decide_eq_false (by omega)]
    · rw [if_neg e]
  have fb : ∀ i, frB (apW w t s v z p) i = frB w i := fun i => by
    unfold frB
    rw [apW_sm (by decide) (by decide), apW_B ht (by omega) (by decide)]
  refine ⟨⟨by rw [g49 0 (by decide), apW_sm (by decide) (by decide)]; exact j0, by rw [g49 1 (by decide), apW_sm (by decide) (by decide)]; exact j1, by rw [g49 2 (by decide), apW_sm (by decide) (by decide)]; exact j2, by rw [g49 8 (by decide), apW_sm (by decide) (by decide)]; exact j8⟩, by rw [g49 3 (by decide), j3, bset_cg 10 (fun i _ => sb 2 (Or.inl rfl) i)], by rw [g49 4 (by decide), j4, bset_cg 10 (fun i _ => sb 3 (Or.inr rfl) i)], g5, by rw [g49 6 (by decide), j6, bset_cg 10 (fun i _ => apW_pa c0 i)], by rw [g49 7 (by decide), j7, bset_cg 7 (fun i _ => fb i)], fun i hi hi2 => ?_, fun i hi hi2 => ?_, fun b hb hb2 h5 => ?_, fun q hq hq2 => ?_⟩
  · rw [e1] at hi2
    show C' 50 i.toNat = _
    rw [g50]
    by_cases e : i = t
    · subst e
      rw [Int.toNat_natCast, if_pos rfl, apW_n (by decide) (by decide)]; rfl
    · rw [if_neg (by omega), apW_T hi (by omega) (by decide) (by decide)]
      exact j9 i hi (by omega)
  · rw [e1] at hi
    show C' 50 i.toNat = _
    rw [g50, if_neg (by omega)]
    exact j10 i (by omega) hi2
  · rw [apW_sm (by decide) (by decide)] at hb2
    rw [apW_B ht hb (by decide)] at h5 ⊢
    rw [g (49 + 2) (by decide) (by decide)]
    exact j11 b hb hb2 h5
  · rw [apW_sm (by decide) (by decide)] at hq2
    rw [apW_hi ht (by omega), apW_hi ht (by omega), apW_hi ht (by omega), g (49 + 3) (by decide) (by decide), g (49 + 4) (by decide) (by decide), g (49 + 5) (by decide) (by decide)]
    exact j12 q hq hq2
theorem WF_th (hW : WF k w) (h1 : w 1 = (t : Int)) (ht : t < 10) (hs : 0 ≤ s ∧ s ≤ 15) (hv : 1 ≤ v ∧ v ≤ 99) (hp : 0 ≤ p ∧ p < w 0) : WF k (apW w t s v 0 p) := by
  obtain ⟨hC, hPP, hT, hR, hB, hG, hL⟩ := hW
  obtain ⟨c0, c1, c2, c3, c4, c5, c6, c7, c8, c9, c10⟩ := hC
  have e1 : apW w t s v 0 p 1 = (t : Int) + 1 := rfl
  have sm : ∀ j, j ≠ 1 → j ≤ 9 → apW w t s v 0 p j = w j := fun j a b => apW_sm a b
  refine ⟨?_, fun i hi hi2 => ?_, fun i hi hi2 => ?_, fun r hr hr2 => ?_, fun b hb hb2 => ?_, ⟨fun i hi hi2 h6 => ?_, fun i q hi hi2 hq hq2 h6 he => ?_⟩, ?_, fun j hj hj2 => ?_⟩
  · unfold WC
    rw [e1, sm 0 (by decide) (by decide), sm 2 (by decide) (by decide), sm 3 (by decide) (by decide), sm 4 (by decide) (by decide), sm 5 (by decide) (by decide), sm 6 (by decide) (by decide), sm 7 (by decide) (by decide), sm 8 (by decide) (by decide), sm 9 (by decide) (by decide)]
    omega
  · rw [sm 0 (by decide) (by decide)] at hi2
    have := hPP i hi hi2
    rw [e1, apW_P hi (by omega) (by decide) (by decide), apW_P hi (by omega) (by decide) (by decide), apW_P hi (by omega) (by decide) (by decide), apW_P hi (by omega) (by decide) (by decide), apW_P hi (by omega) (by decide) (by decide), apW_P hi (by omega) (by decide) (by decide), apW_P hi (by omega) (by decide) (by decide), apW_P hi (by omega) (by decide) (by decide)]
    obtain ⟨b1, b2, b3, b4, b5, b6, b7, b8⟩ := this
    exact ⟨b1, b2, b3, b4, b5, by omega, b7, b8⟩
  · rw [e1] at hi2
    rw [sm 0 (by decide) (by decide)]
    by_cases e : i = t
    · subst e
      rw [apW_n (by decide) (by decide), apW_n (by decide) (by decide), apW_n (by decide) (by decide), apW_n (by decide) (by decide)]
      exact ⟨hs, hv, (show (0 : Int) ≤ 0 ∧ (0 : Int) ≤ 3 by decide), hp⟩
    · rw [apW_T hi (by omega) (by decide) (by decide), apW_T hi (by omega) (by decide) (by decide), apW_T hi (by omega) (by decide) (by decide), apW_T hi (by omega) (by decide) (by decide)]
      exact hT i hi (by omega)
  · rw [sm 2 (by decide) (by decide)] at hr2
    rw [sm 0 (by decide) (by decide), apW_R ht hr (by decide), apW_R ht hr (by decide), apW_R ht hr (by decide), apW_R ht hr (by decide)]
    exact hR r hr hr2
  · rw [sm 3 (by decide) (by decide)] at hb2
    rw [sm 0 (by decide) (by decide), sm 6 (by decide) (by decide), apW_B ht hb (by decide), apW_B ht hb (by decide), apW_B ht hb (by decide), apW_B ht hb (by decide), apW_B ht hb (by decide), apW_B ht hb (by decide)]
    exact hB b hb hb2
  · rw [sm 0 (by decide) (by decide)] at hi2
    have b6 := (hPP i hi hi2).2.2.2.2.2.1
    rw [apW_P hi (by omega) (by decide) (by decide)] at h6 ⊢
    rw [apW_P hi (by omega) (by decide) (by decide), apW_T h6 (by omega) (by decide) (by decide), apW_T h6 (by omega) (by decide) (by decide)]
    exact hG.1 i hi hi2 h6
  · rw [sm 0 (by decide) (by decide)] at hi2 hq2
    rw [apW_P hi (by omega) (by decide) (by decide)] at h6 he
    rw [apW_P hq (by omega) (by decide) (by decide)] at he
    exact hG.2 i q hi hi2 hq hq2 h6 he
  · rw [sm 9 (by decide) (by decide), hL.1, cnt_cg (f := paB (apW w t s v 0 p)) (g := paB w) 10 (fun i _ => apW_pa c0.2 i)]
  · rw [sm 9 (by decide) (by decide)] at hj2
    rw [sm 6 (by decide) (by decide), apW_hi ht (by omega), apW_hi ht (by omega), apW_hi ht (by omega)]
    exact hL.2 j hj hj2
end ThingD
theorem line_thing {T : Nat → Int} {n k p q : Nat} {C N : MM} (hC : TC T n C) (hN : TN T n N) (hD : DrT k C N) (hp : p ≤ n) (hq : q ≤ n) {p0 : Nat} (hp0 : p0 ≤ p) : LnR n k C N p0 (bV (tale_readThing (tpT C p q (-1))) fun M_29 => some (rV, M_29)) (bI (mo_readThing (nT N p q)) fun z_27 M_26 => (bif zo z_27 then some (rI z_27, M_26) else none)) := by
  obtain ⟨hL, hJ, hW⟩ := hD
  have c0 := hW.1.1
  have c1 := hW.1.2.1
  have c9 := hW.1.2.2.2.2.2.2.2.2.2.1
  obtain ⟨t, ht⟩ : ∃ t : Nat, N 166 1 = (t : Int) := ⟨(N 166 1).toNat, by omega⟩
  obtain ⟨P, hP⟩ : ∃ P : Nat, N 166 0 = (P : Int) := ⟨(N 166 0).toNat, by omega⟩
  have h291 : C 29 1 = (t : Int) := by rw [hL.1.2.1, ht]
  have hl := nt_le (T := T) hp
  have n4 := hC.2.1
  -- the reference
  have R := nt_r (q := q) (G := fun z_6 z_9 M_8 => mo_readThing_J36 z_6 z_9 M_8) hN hp ht (by omega) (fun z M => by
    unfold mo_readThing_J36
    rw [bq_ge (by decide) (by decide), if_neg (by decide)])
  have eR : mo_readThing (nT N p q) = (bI (mo_things (nT N p q)) fun z_3 M_2 => (bif cmpB .ne z_3 10 then (bI (mo_number 0 15 M_2) fun z_6 M_5 => (bif cmpB .ge z_6 0 then (bI (mo_after 54 1 99 M_5) fun z_9 M_8 => ((fun z_6 z_9 M_8 => mo_readThing_J36 z_6 z_9 M_8) z_6 z_9 M_8)) else ((fun z_6 z_9 M_8 => mo_readThing_J36 z_6 z_9 M_8) z_6 (-1) M_5))) else some (rI 0, M_2))) := rfl
  unfold tale_readThing
  rcases nt_c (k := fun z_3 M_2 => (bV (tape_needWord 3 M_2) fun M_5 => (bI (tale_readPlaceNumber M_5) fun z_9 M_8 => (bif cmpB .eq z_3 (-1) then some (rV, M_8) else (bif inB z_3 10 then (sM (mU M_8 50 (z_3).toNat z_9) fun M_10 => some (rV, M_10)) else none))))) hC hp hq h291 (by omega) with ⟨ok, run⟩ | ⟨qb, C', p', l', z, bad, f1, hp', hqb, hz, run⟩
  · obtain ⟨g, g1, g2, g3⟩ := ok
    obtain ⟨b1, b2', b3, b4, b5⟩ := hl.2.2.2.2 g2
    have i1 := nuO_i.mp g1
    have i3 := nuO_i.mp g3
    have f1 := ntC_fr (C := C) (t := t) (s := nuV T n (ntq1 T n p)) (v := nuV T n (ntq3 T n p))
    have t1 := f1.t hC
    rw [run, eR, R.1 ⟨g, g1, g2, g3⟩]
    generalize hs : nuV T n (ntq1 T n p) = s at *
    generalize hv : nuV T n (ntq3 T n p) = v at *
    have hs' : 0 ≤ s ∧ s ≤ 15 := by
      rw [← hs]; exact i1.2.2
    have hv' : 1 ≤ v ∧ v ≤ 99 := by
      rw [← hv]; exact i3.2.2
    have e29 : ∀ p' l' b, tpT (ntC C t s v) p' l' b 29 0 = (P : Int) := fun p' l' b => by
      rw [cT_ne (by decide)]
      unfold ntC
      rw [mU_ne (by decide), mU_ne (by decide), mU_ap, if_pos rfl, if_neg (by decide), hL.1.1, hP]
    show LnR n k C N p0 _ (bI (mo_readThing_J36 s v (nT N (dgE T n (ntq3 T n p)) (ntq3 T n p))) _)
    unfold mo_readThing_J36
    rw [need_b t1 b5 (wk rfl), wd_cg (t := 3) (t' := 55) rfl rfl, bq_ge (by omega) (by decide), if_pos (show (0 : Int) ≤ v by omega), mo_places_b, nT_ne (show 166 ≠ 165 by decide), hP, after_b hN b5 (wk rfl) (by decide) (by omega)]
    have a4 := skB_le (T := T) b5
    generalize skB T n (dgE T n (ntq3 T n p)) = q4 at a4
    have w3 : wLen 3 = 2 ∧ wLen 55 = 2 := by decide
    by_cases g4 : wdB T n 55 q4 = true
    · have b6 := wd_le a4.2 g4
      rw [w3.2] at b6
      have a5 := skB_le (T := T) b6
      unfold tale_readPlaceNumber
      rw [if_pos g4, if_pos g4, w3.1, w3.2, e29, num_b t1 b6 (by decide) (by omega), number_b hN b6 (by decide) (by omega)]
      generalize skB T n (q4 + 2) = q5 at a5
      by_cases g5 : nuO T n q5 0 ((P : Int) - 1) = true
      · have i5 := nuO_i.mp g5
        have v5 := nuV_J (T := T) a5.2 i5.2.1
        have hpl : 0 ≤ nuV T n q5 ∧ nuV T n q5 ≤ (P : Int) - 1 := i5.2.2
        generalize nuV T n q5 = pl at v5 hpl
        have a6 := dgE_le (T := T) a5.2
        obtain ⟨N', r1, r2, r3⟩ := appends_b (N := N) (s := s) (v := v) (z := 0) (x := pl) (p' := dgE T n q5) (e' := q5) (k := fun M_17 => (bif cmpB .lt pl 0 then some (rI 0, M_17) else some (rI 1, M_17))) ht g
        rw [if_pos g5, if_pos g5, bI_I, bq_eq (by omega) (by decide), if_neg (by omega), bq_in (by omega) (by omega), sM_eq, Int.toNat_natCast, cT_u (by decide), bV_V, bq_lt (by omega) (by decide), if_neg (by omega), r1, bq_lt (by omega) (by decide), if_neg (by omega), bI_I]
        refine Or.inl ⟨apC C t s v pl, N', dgE T n q5, q5, q5, rfl, rfl, f1.tr (FrT.u (by omega)), ⟨r3, fun j hj => by rw [r2, apW_hi g (by omega)], fun j h1 h2 => by rw [r2, apW_sm (by omega) (by omega)]⟩, ⟨?_, ?_, ?_⟩, by omega, a6.2⟩
        · rw [r2]; exact La_ap hL ht g (by omega)
        · rw [r2]
          refine Jn_ap hJ ht g (by omega) c9.2 (Or.inl rfl) (fun a h1 h2 => apC_ne (by omega)) (fun j _ => by rw [apC_ne (by decide)]) (fun j => apC_50) ?_
          rw [apC_ne (by decide), hJ.2.2.2.1]
          congr 1
          refine bset_cg 10 fun i _ => ?_
          rw [apW_st ht]
          by_cases e : i = t
          · rw [if_pos e, e]
            unfold stB'
            rw [ht, decide_eq_false (show ¬ ((t : Nat) : Int) < t by omega), Bool.false_and]; rfl
          · rw [if_neg e]
        · rw [r2]; exact WF_th hW ht g hs' hv' ⟨hpl.1, by omega⟩
      · rw [if_neg g5, if_neg g5, bI_I, bq_eq (by omega) (by decide), if_neg (by omega), bq_in (by omega) (by omega), sM_eq, cT_u (by decide), bV_V, bq_lt (by decide) (by decide), if_pos (by decide), bq_lt (by decide) (by decide), if_pos (by decide), bI_I]
        exact Or.inr ⟨q5, _, _, _, N, _, rfl, rfl, f1.tr (FrT.u (by omega)), FrN.rf, a5.2, a5.2⟩
    · rw [if_neg g4, if_neg g4, bq_lt (by decide) (by decide), if_pos (by decide), bq_lt (by decide) (by decide), if_pos (by decide), bI_I]
      have a := skB_le (T := T) a4.2
      unfold tale_readPlaceNumber
      rw [num_w t1 a4.2 (by omega) (by omega), bI_I, bq_eq (by omega) (by decide), if_neg (by omega), bq_in (by omega) (by omega), sM_eq, cT_u (by decide), bV_V]
      exact Or.inr ⟨q4, _, _, _, N, _, rfl, rfl, f1.tr (FrT.u (by omega)), FrN.rf, a.2, a4.2⟩
  · obtain ⟨p'', hr⟩ := R.2 qb bad
    rw [run, eR, hr, bI_I]
    have t1 := f1.t hC
    have a := skB_le (T := T) hp'
    have a' := skB_le (T := T) a.2
    unfold tale_readPlaceNumber
    rw [need_w t1 hp' (by omega) (by omega), num_w t1 a.2 (by omega) (by omega), bI_I, bq_eq (by omega) (by decide)]
    by_cases gz : z = -1
    · rw [if_pos gz, bV_V]
      exact Or.inr ⟨qb, C', _, _, N, _, rfl, rfl, f1, FrN.rf, a'.2, hqb⟩
    · rw [if_neg gz, bq_in (by omega) (by omega), sM_eq, cT_u (by decide), bV_V]
      exact Or.inr ⟨qb, _, _, _, N, _, rfl, rfl, f1.tr (FrT.u (by omega)), FrN.rf, a'.2, hqb⟩
