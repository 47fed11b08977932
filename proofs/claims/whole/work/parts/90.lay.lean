/-! ===== LAY, TAKE, FREE ===== -/
theorem act_pure {k rem nx : Nat} {M M1 Mc : MM} {z : Int} {w' : Nat → Int} {D R gh : MM → OR} {E : Nat → MM → OR} (hI : Inv k M) (hk : k ≤ 511) (m1 : M 165 6 = rem) (m2 : M 83 0 = rem) (m3 : M 83 1 = nx) (hr : rem ≤ 12) (hn : nx < 12) (A : RA rem nx M M1)
    (eC : gh M = some (rI z, Mc)) (hz : I32 z) (hD : D M = hN E (gh M)) (fc : ∀ p, ¬ (23 ≤ p ∧ p ≤ 28) → Mc p = M1 p)
    (eR : ∀ N1, mo_remembers (mU (mU Mc 181 0 z) 165 0 0) = some (rV, N1) → (∀ p, p ≠ 165 → p ≠ 169 → N1 p = (mU Mc 181 0 z) p) → N1 166 = M 166 → ∃ M2, R (mU Mc 181 0 z) = some (rI z, M2) ∧ (∀ p, p ≠ 166 → M2 p = N1 p) ∧ M2 166 = w')
    (hW : WF (k + 1) w') (hS : StEq (M 166) w') (h266 : ∀ j, 266 ≤ j → w' j = M 166 j) (hJ : JnyR 23 w' Mc) : OpAt k M D R := by
  obtain ⟨A1, A2, A3, A4, A5, A6, A7, A8, A9⟩ := id A
  have g5 : ∀ j, (j = 5 ∨ j = 6 ∨ j = 8 ∨ j = 13) → (mU (mU Mc 181 0 z) 165 0 0) 165 j = M 165 j := fun j hj => by rw [mU_eq, up_ne (by omega), mU_ne (by decide), fc 165 (by decide), A9 165 (by decide) (by decide) (by omega)]
  obtain ⟨N1, r1, B⟩ := RB_ex (rem := rem) (N := mU (mU Mc 181 0 z) 165 0 0) (by rw [g5 6 (by decide)]; exact m1) hr
  obtain ⟨B1, B2, B3, -⟩ := id B
  have w1 : N1 166 = M 166 := by rw [B3 166 (by decide) (by decide), mU_ne (by decide), mU_ne (by decide), fc 166 (by decide), A9 166 (by decide) (by decide) (by omega)]
  obtain ⟨M2, e1, e2, e3⟩ := eR N1 r1 (fun p h1 h2 => by rw [B3 p h1 h2, mU_ne h1]) w1
  refine ⟨0, z, mU Mc 181 0 z, M2, by rw [hD]; exact hN_ret eC hz, e1, ?_, by decide, fun _ => ⟨?_, hz⟩, ?_⟩
  · rw [e2 165 (by decide), B2 0 (by decide)]; rfl
  · rw [e2 181 (by decide), B3 181 (by decide) (by decide)]; rfl
  · refine act_end (M := M) (M1 := M1) (N0 := mU (mU Mc 181 0 z) 165 0 0) (N1 := N1) hI hk m1 m2 m3 hr hn A (fun p h1 h2 h3 h4 => by rw [mU_ne h1, mU_ne h3, fc p h4]) g5 B (fun p h1 h2 h3 => e2 p h3) (fun j hj => by rw [e2 165 (by decide)]) (fun j hj => by rw [e3]; exact h266 j hj) (by rw [e3]; exact hW) (by rw [e3]; exact hS) ?_
    rw [e3]
    exact JnyR_fr (fun j hj => by rw [mU_ne (by omega), mU_ne (by omega)]) hJ
theorem oT_c2 {w : Nat → Int} {t : Nat} : oT w (t : Int) 2 = w (92 + 4 * t) := by unfold oT; rw [show (90 + 4 * (t : Int) + 2).toNat = 92 + 4 * t by omega]
theorem oT_c3 {w : Nat → Int} {t : Nat} : oT w (t : Int) 3 = w (93 + 4 * t) := by unfold oT; rw [show (90 + 4 * (t : Int) + 3).toNat = 93 + 4 * t by omega]
theorem oP_c7 {w : Nat → Int} {t : Nat} : oP w (t : Int) 7 = w (17 + 8 * t) := by unfold oP; rw [show (10 + 8 * (t : Int) + 7).toNat = 17 + 8 * t by omega]
theorem oB_c5 {w : Nat → Int} {t : Nat} : oB w (t : Int) 5 = w (199 + 6 * t) := by unfold oB; rw [show (194 + 6 * (t : Int) + 5).toNat = 199 + 6 * t by omega]
/-- one thing changes its state, or where it lies -/
theorem thg_row {k t : Nat} {w w' : Nat → Int} (hW : WF k w) (ht : (t : Int) < w 1) (h : ∀ j, j ≠ 92 + 4 * t → j ≠ 93 + 4 * t → w' j = w j) (ho : w (92 + 4 * t) ≠ 1) (hs : (0 ≤ w' (92 + 4 * t) ∧ w' (92 + 4 * t) ≤ 3) ∧ w' (92 + 4 * t) ≠ 1) (ha : 0 ≤ w' (93 + 4 * t) ∧ w' (93 + 4 * t) < w 0) : WF (k + 1) w' ∧ StEq w w' := by
  obtain ⟨c0, c1, c2, c3, c4, c5, c6, c7, c8, c9, c10⟩ := hW.1
  have hlo : ∀ j, j < 92 → w' j = w j := fun j hj => h j (by omega) (by omega)
  have eP : ∀ p j : Int, 0 ≤ p → p < w 0 → 0 ≤ j → j ≤ 7 → oP w' p j = oP w p j := fun p j a b c d => h _ (by omega) (by omega)
  have hS : StEq w w' := ⟨fun k hk => hlo k (by omega), fun p j a b c d => eP p j a b c (by omega), fun p j a b c d => h _ (by omega) (by omega), fun p j a b c d => h _ (by omega) (by omega), fun p j a b c d => h _ (by omega) (by omega)⟩
  have eT : ∀ u j : Int, 0 ≤ u → u < w 1 → u ≠ (t : Int) → 0 ≤ j → j ≤ 3 → oT w' u j = oT w u j := fun u j a b c d e => h _ (by omega) (by omega)
  refine ⟨WF_act hW hS (by rw [hlo 6 (by decide)]; omega) (by rw [hlo 7 (by decide)]; exact c7) (by rw [hlo 8 (by decide)]; exact c8) (by rw [hlo 9 (by decide)]; exact c9) (fun p g0 g1 => ?_) (fun u g0 g1 => ?_) (fun b g0 g1 => ?_) (fun p g0 g1 g2 => ?_) ?_, hS⟩
  · rw [eP p 7 g0 g1 (by decide) (by decide)]
    obtain ⟨p0, p1, p2, p3, p4, p5, p6, p7⟩ := hW.2.1 p g0 g1
    exact ⟨p6, fun g => (p7 g).2.2.2.2.2.2⟩
  · by_cases hu : u = (t : Int)
    · subst hu
      rw [oT_c2, oT_c3]
      exact ⟨hs.1, ha⟩
    · rw [eT u 2 g0 g1 hu (by decide) (by decide), eT u 3 g0 g1 hu (by decide) (by decide)]
      obtain ⟨t0, t1, t2, t3⟩ := hW.2.2.1 u g0 g1
      exact ⟨t2, t3⟩
  · rw [show oB w' b 5 = oB w b 5 from h _ (by omega) (by omega), hlo 6 (by decide)]
    exact (hW.2.2.2.2.1 b g0 g1).2.2.2.2.2
  · rw [eP p 7 g0 g1 (by decide) (by decide)]
    obtain ⟨q1, q2⟩ := hW.2.2.2.2.2.1.1 p g0 g1 g2
    have p5 := (hW.2.1 p g0 g1).2.2.2.2.2.1
    by_cases hu : oP w p 6 = (t : Int)
    · rw [hu] at q1 q2 ⊢
      rw [oT_c2] at q1 ⊢
      refine ⟨⟨fun g => absurd (q1.mp g) ho, fun g => absurd g hs.2⟩, fun g => absurd (q1.mp g) ho⟩
    · rw [eT _ 2 g2 p5.2 hu (by decide) (by decide), eT _ 3 g2 p5.2 hu (by decide) (by decide)]
      exact ⟨q1, q2⟩
  · obtain ⟨l1, l2⟩ := hW.2.2.2.2.2.2
    refine ⟨?_, fun q g0 g1 => ?_⟩
    · rw [hlo 9 (by decide), l1]
      congr 1
      apply cnt_cg
      intro i hi
      unfold paB
      rw [hlo 0 (by decide)]
      by_cases hi0 : (i : Int) < w 0
      · rw [eP i 7 (by omega) hi0 (by decide) (by decide)]
      · rw [decide_eq_false hi0, Bool.false_and, Bool.false_and]
    · rw [hlo 9 (by decide)] at g1
      rw [h _ (by omega) (by omega), h _ (by omega) (by omega), h _ (by omega) (by omega), hlo 6 (by decide)]
      exact l2 q g0 g1
theorem stB_up {t : Nat} {w w' : Nat → Int} (ht : (t : Int) < w 1) (h1 : w' 1 = w 1) (h : ∀ i, i ≠ t → w' (92 + 4 * i) = w (92 + 4 * i)) (z : Int) (i : Nat) : stB' w' z i = if i = t then decide (w' (92 + 4 * t) = z) else stB' w z i := by
  unfold stB'
  rw [h1, oT_c2, oT_c2]
  by_cases hi : i = t
  · subst hi
    rw [if_pos rfl, decide_eq_true ht, Bool.true_and]
  · rw [if_neg hi, h i hi]
theorem thg_jny {t : Nat} {w w' : Nat → Int} {M M' : MM} {n : Nat} (hC : WC n w) (hJ : JnyR 23 w M) (ht : (t : Int) < w 1) (h : ∀ j, j ≠ 92 + 4 * t → j ≠ 93 + 4 * t → w' j = w j) (h3 : M' 23 3 = ((bset 10 (stB' w' 2) : Nat) : Int)) (h4 : M' 23 4 = ((bset 10 (stB' w' 3) : Nat) : Int)) (h5 : M' 23 5 = ((bset 10 (stB' w' 1) : Nat) : Int)) (hf : ∀ j, j ≠ 3 → j ≠ 4 → j ≠ 5 → M' 23 j = M 23 j) (hs : M' 24 t = w' (93 + 4 * t)) (h24 : ∀ j, j ≠ t → M' 24 j = M 24 j) (hr : ∀ p, 25 ≤ p → p ≤ 28 → M' p = M p) : JnyR 23 w' M' := by
  obtain ⟨⟨j0, j1, j2, j8⟩, j3, j4, j5, j6, j7, q1, q2, q3, q4⟩ := hJ
  obtain ⟨c0, c1, c2, c3, c4, c5, c6, c7, c8, c9, c10⟩ := hC
  have hlo : ∀ j, j < 92 → w' j = w j := fun j hj => h j (by omega) (by omega)
  have ep : ∀ i, i < 10 → paB w' i = paB w i := fun i hi => by
    unfold paB
    rw [hlo 0 (by decide), show oP w' (i : Int) 7 = oP w (i : Int) 7 from by rw [oP_c7, oP_c7]; exact hlo _ (by omega)]
  have ef : ∀ i, i < 7 → frB w' i = frB w i := fun i hi => by
    unfold frB
    rw [hlo 3 (by decide), oB_c5, oB_c5, h _ (by omega) (by omega)]
  refine ⟨⟨by rw [hf 0 (by decide) (by decide) (by decide), hlo 7 (by decide)]; exact j0, by rw [hf 1 (by decide) (by decide) (by decide), hlo 6 (by decide)]; exact j1, by rw [hf 2 (by decide) (by decide) (by decide), hlo 8 (by decide)]; exact j2, by rw [hf 8 (by decide) (by decide) (by decide), hlo 9 (by decide)]; exact j8⟩, h3, h4, h5, by rw [hf 6 (by decide) (by decide) (by decide), bset_cg 10 ep]; exact j6, by rw [hf 7 (by decide) (by decide) (by decide), bset_cg 7 ef]; exact j7, fun u a b => ?_, fun u a b => ?_, fun b c d e => ?_, fun q a b => ?_⟩
  · rw [hlo 1 (by decide)] at b
    by_cases hu : u = (t : Int)
    · subst hu
      rw [Int.toNat_natCast, oT_c3]; exact hs
    · show M' 24 u.toNat = _
      rw [h24 _ (by omega), show oT w' u 3 = oT w u 3 from h _ (by omega) (by omega)]
      exact q1 u a b
  · rw [hlo 1 (by decide)] at a
    show M' 24 u.toNat = _
    rw [h24 _ (by omega)]
    exact q2 u a b
  · rw [hlo 3 (by decide)] at d
    have eb : oB w' b 5 = oB w b 5 := h _ (by omega) (by omega)
    rw [eb] at e ⊢
    rw [hr _ (by decide) (by decide)]; exact q3 b c d e
  · rw [hlo 9 (by decide)] at b
    rw [hr _ (by decide) (by decide), hr _ (by decide) (by decide), hr _ (by decide) (by decide), h _ (by omega) (by omega), h _ (by omega) (by omega), h _ (by omega) (by omega)]
    exact q4 q a b
theorem bcv_I {f : Nat → Bool} : I32 (bcv ((bset 10 f : Nat) : Int)) := by
  have := cnt_le (bset 10 f).testBit 10
  rw [bcv_s (bset_1024 f)]; omega
theorem ok_lay {v : Int} (hp : I32 v) : OpOK (drv_lay v) (mo_lay v) := by
  intro k M hk hI
  show OpAt k M _ _
  have hI' := hI
  obtain ⟨hTp, hW, hL, hJ, hlw, hMm, hIm, hSr, hx, hch⟩ := hI'
  have hX : EXC M := ⟨hx.1, by omega⟩
  by_cases h1 : 0 ≤ v ∧ v < M 166 1
  · have c1 := hW.1.2.1
    have c7 := hW.1.2.2.2.2.2.2.2.1
    have c10 := hW.1.2.2.2.2.2.2.2.2.2.2
    obtain ⟨t, rfl⟩ : ∃ n : Nat, v = (n : Int) := ⟨v.toNat, by omega⟩
    obtain ⟨t0, t1, t2, t3⟩ := hW.2.2.1 t h1.1 h1.2
    have preC : ∀ X, (bif decide (oT (M 166) (t : Int) 2 = 2) then (bV (gh_rememberAct M) fun M_8 => (sM (mU M_8 23 3 (iAnd (M_8 23 3) (iXor (iShl 1 (t : Int)) (-1)))) fun M_10 => (bif inB (t : Int) 10 then (sM (mU M_10 24 ((t : Int)).toNat (M_10 23 0)) fun M_12 => (bI (jdk_bitCount (M_12 23 3) M_12) fun z_16 M_15 => some (rI z_16, M_15))) else none))) else thx 14 M) = X → gh_lay (t : Int) M = X := by
      intro X hX
      unfold gh_lay
      have := stB_eq (z := 2) h1.1 h1.2
      rw [Int.toNat_natCast] at this
      rw [← hX, checkThing_t hW.1 hL.1.2.1 h1.1 h1.2, hJ.2.1, gh_bit_s (by decide) h1.1 (by omega), Int.toNat_natCast, this, bz_ne0]
    have preR : ∀ N : MM, N 166 = M 166 → ∀ X, (if oT (M 166) (t : Int) 2 = 2 then mo_lay_J34 (t : Int) 0 (mU N 165 0 0) else mo_lay_J34 (t : Int) 1 (mU N 165 0 0)) = X → mo_lay (t : Int) N = X := by
      intro N e X hX
      have w1 : (mU N 165 0 0) 166 = M 166 := e
      unfold mo_lay
      rw [← hX, sM_eq, mo_noThing_b (M := mU N 165 0 0) (n := k) (by rw [w1]; exact hW.1) hp, decide_eq_true (show 0 ≤ (t : Int) ∧ (t : Int) < (mU N 165 0 0) 166 1 by rw [w1]; exact h1), Bool.not_true, mo_throwsIf_f, bz_ne0, cn_f, mo_ofThing_b (by omega) (by omega) (by decide) (by decide), w1, bq_eq (by omega) (by decide)]
    by_cases h2 : oT (M 166) (t : Int) 2 = 2
    · obtain ⟨rem, nx, M1, m1, m2, m3, m4, m5, e2, A⟩ := RA_ex hMm
      have A9 := A.2.2.2.2.2.2.2.2
      have f23 : ∀ p, 3 ≤ p → p ≤ 28 → M1 p = M p := fun p h1 h2 => A9 p (by omega) (by omega) (by omega)
      generalize hw' : up (up (M 166) (92 + 4 * t) 0) (93 + 4 * t) (M 166 7) = w'
      have v2 : w' (92 + 4 * t) = 0 := by rw [← hw', up_ne (by omega), up_eq]
      have v3 : w' (93 + 4 * t) = M 166 7 := by rw [← hw', up_eq]
      have vj : ∀ j, j ≠ 92 + 4 * t → j ≠ 93 + 4 * t → w' j = M 166 j := fun j h1 h2 => by rw [← hw', up_ne h2, up_ne h1]
      have o2 : M 166 (92 + 4 * t) = 2 := (oT_c2 (w := M 166) (t := t)).symm.trans h2
      obtain ⟨hW', hS⟩ := thg_row hW h1.2 vj (by omega) (by rw [v2]; omega) (by rw [v3]; omega)
      have sb := stB_up (w' := w') h1.2 (vj 1 (by omega) (by omega)) (fun i hi => vj _ (by omega) (by omega))
      have b2' : bset 10 (fun i => stB' (M 166) 2 i && !decide (i = t)) = bset 10 (stB' w' 2) := bset_cg 10 fun i _ => by
        rw [sb 2 i]
        by_cases hi : i = t
        · rw [if_pos hi, decide_eq_true hi, v2]; simp
        · rw [if_neg hi, decide_eq_false hi]; simp
      have bz : ∀ z, z ≠ 0 → z ≠ 2 → bset 10 (stB' w' z) = bset 10 (stB' (M 166) z) := fun z z0 z2 => bset_cg 10 fun i _ => by
        rw [sb z i]
        by_cases hi : i = t
        · subst hi
          rw [if_pos rfl, v2, decide_eq_false (show ¬ (0 : Int) = z from fun g => z0 g.symm)]
          unfold stB'
          rw [oT_c2, o2, decide_eq_false (show ¬ (2 : Int) = z from fun g => z2 g.symm), Bool.and_false]
        · rw [if_neg hi]
      generalize hMc : mU (mU M1 23 3 ((bset 10 (stB' w' 2) : Nat) : Int)) 24 t (M 166 7) = Mc
      have c3 : Mc 23 3 = ((bset 10 (stB' w' 2) : Nat) : Int) := by rw [← hMc, mU_ne (by decide), mU_eq, up_eq]
      have cj : ∀ j, j ≠ 3 → Mc 23 j = M 23 j := fun j hj => by rw [← hMc, mU_ne (by decide), mU_eq, up_ne hj, f23 23 (by decide) (by decide)]
      have eC : gh_lay (t : Int) M = some (rI (bcv ((bset 10 (stB' w' 2) : Nat) : Int)), Mc) := by
        refine preC _ ?_
        rw [decide_eq_true h2, cn_t, e2, bV_V, f23 23 (by decide) (by decide), hJ.2.1, clr_bs (by decide) (by omega), b2', sM_eq, bq_in h1.1 (by omega), sM_eq, Int.toNat_natCast, show (mU M1 23 3 ((bset 10 (stB' w' 2) : Nat) : Int)) 23 0 = M 166 7 from by rw [mU_eq, up_ne (by decide), f23 23 (by decide) (by decide)]; exact hJ.1.1, hMc, c3, bc_v, bI_I]
      refine act_pure (gh := gh_lay (t : Int)) (E := fun c_6 M_2 => (bif Nat.beq c_6 15 then some (rI 1, M_2) else (bif Nat.beq c_6 14 then some (rI 2, M_2) else none))) (w' := w') hI hk m1 m2 m3 m4 m5 A eC bcv_I rfl (fun p hp => by rw [← hMc, mU_ne (by omega), mU_ne (by omega)]) (fun N1 r1 f1 w1 => ?_) hW' hS (fun j hj => vj j (by omega) (by omega)) ?_
      · have wN : (mU Mc 181 0 (bcv ((bset 10 (stB' w' 2) : Nat) : Int))) 166 = M 166 := by rw [← f1 166 (by decide) (by decide)]; exact w1
        have e166 : (mU (mU N1 166 (92 + 4 * t) 0) 166 (93 + 4 * t) (M 166 7)) 166 = w' := by rw [mU_eq, mU_eq, w1]; exact hw'
        refine ⟨mU (mU N1 166 (92 + 4 * t) 0) 166 (93 + 4 * t) (M 166 7), preR _ wN _ ?_, fun p hp => by rw [mU_ne hp, mU_ne hp], e166⟩
        obtain ⟨hC', hP', hT', hR', hB', -⟩ := hW'
        have hs := (nowS_f hC' hT').1.1
        rw [if_pos h2]
        unfold mo_lay_J34
        rw [mo_throwsIf_0, bq_eq (by decide) (by decide), if_pos rfl, r1, bV_V, bq_in (by omega) (by omega), sM_eq, bq_in (by decide) (by decide), bq_in (by omega) (by omega), sM_eq, show (90 + 4 * (t : Int) + 2).toNat = 92 + 4 * t by omega, show (90 + 4 * (t : Int) + 3).toNat = 93 + 4 * t by omega, show (mU N1 166 (92 + 4 * t) 0) 166 7 = M 166 7 from by rw [mU_eq, up_ne (by omega), w1], mo_now_b (n := k + 1) (by rw [e166]; exact hC') (by rw [e166]; exact hP') (by rw [e166]; exact hT') (by rw [e166]; exact hB') (by omega), e166]
        have ts := mo_thingsIn_b (M := mU (mU N1 166 (92 + 4 * t) 0) 166 (93 + 4 * t) (M 166 7)) (n := k + 1) (s := nowS w') (z := 2) (k := fun z_27 M_26 => (bI (jdk_bitCount z_27 M_26) fun z_30 M_29 => some (rI z_30, M_29))) (by rw [e166]; exact hC') hs (by decide)
        rw [e166, nowS_ts hC' hT'] at ts
        rw [show bI (mo_thingsIn ((nowS w' : Nat) : Int) 2 (mU (mU N1 166 (92 + 4 * t) 0) 166 (93 + 4 * t) (M 166 7))) _ = _ from ts, bc_v, bI_I]
        rfl
      · refine thg_jny hW.1 hJ h1.2 vj c3 ?_ ?_ (fun j j3 j4 j5 => cj j j3) ?_ (fun j hj => ?_) (fun p p1 p2 => ?_)
        · rw [cj 4 (by decide), bz 3 (by decide) (by decide)]; exact hJ.2.2.1
        · rw [cj 5 (by decide), bz 1 (by decide) (by decide)]; exact hJ.2.2.2.1
        · rw [v3, ← hMc, mU_eq, up_eq]
        · rw [← hMc, mU_eq, up_ne hj, mU_ne (by decide), f23 24 (by decide) (by decide)]
        · rw [← hMc, mU_ne (by omega), mU_ne (by omega), f23 p (by omega) (by omega)]
    · refine at_read (c := 2) (z := 0) hk hI (by decide) (fun h => absurd h (by decide)) ?_ (fun N hN e => ?_)
      · refine ansC_thr (E := fun c_6 M_2 => (bif Nat.beq c_6 15 then some (rI 1, M_2) else (bif Nat.beq c_6 14 then some (rI 2, M_2) else none))) (c := 14) (M1 := M) hX (preC _ ?_) rfl (by decide) Core.rfl' rfl
        rw [decide_eq_false h2, cn_f]; exact thx_v hX
      · refine ansR_thr (z' := 0) (preR N e _ ?_) (by decide)
        rw [if_neg h2]
        unfold mo_lay_J34
        rw [mo_throwsIf_1, bq_eq (by decide) (by decide), if_neg (by decide)]
  · refine at_read (c := 1) (z := 0) hk hI (by decide) (fun h => absurd h (by decide)) ?_ (fun N hN e => ?_)
    · exact ansC_thr (E := fun c_6 M_2 => (bif Nat.beq c_6 15 then some (rI 1, M_2) else (bif Nat.beq c_6 14 then some (rI 2, M_2) else none))) (c := 15) hX (checkThing_f hW.1 hL.1.2.1 hX hp h1) rfl (by decide) Core.rfl' rfl
    · refine ansR_thr (z' := 0) ?_ (by decide)
      unfold mo_lay
      rw [sM_eq, mo_noThing_b (M := mU N 165 0 0) (n := k) (by rw [t0_166, e]; exact hW.1) hp, decide_eq_false (show ¬ (0 ≤ v ∧ v < (mU N 165 0 0) 166 1) by rw [t0_166, e]; exact h1), Bool.not_false, mo_throwsIf_t, bz_ne0, cn_t]
