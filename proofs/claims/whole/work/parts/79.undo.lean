/-! ===== UNDO, IMAGE, BACK ===== -/
theorem ok_undo : OpOK0 gh_undo mo_undo := by
  intro k M hk hI
  obtain ⟨i1, i2, i3, i4, i5, i6, i7, i8, i9, i10⟩ := hI
  obtain ⟨rem, nx, m1, m2, m3, m4, m5, m6⟩ := i6
  by_cases h : rem = 0
  · subst h
    refine ⟨0, M, mU M 165 0 0, ?_, ?_, by decide, Inv_core ⟨i1, i2, i3, i4, i5, ⟨0, nx, m1, m2, m3, m4, m5, m6⟩, i7, i8, i9, i10⟩ Core_t0 (by omega) i9.1 (by show M 999 0 ≤ _; omega)⟩
    · unfold gh_undo memo_recall
      rw [m2, show ((0 : Nat) : Int) = 0 from rfl, bq_ne (by decide) (by decide), if_pos rfl, bI_I, bq_ne (by decide) (by decide), if_pos rfl]
    · unfold mo_undo
      rw [sM_eq, show (mU M 165 0 0) 165 6 = 0 from m1, bq_ne (by decide) (by decide), if_pos rfl]
  · have e12 : (w32 (((nx : Int) + 12) - 1)).tmod (w32 12) = (((nx + 11) % 12 : Nat) : Int) := by
      rw [nw (by omega), nw (by decide), Int.tmod_eq_emod_of_nonneg (by omega)]; omega
    have hn : (nx + 11) % 12 < 12 := Nat.mod_lt _ (by decide)
    have hs : slJ nx rem (rem - 1) = (nx + 11) % 12 := by unfold slJ; omega
    have hrow := m6 (rem - 1) (by omega)
    rw [hs] at hrow
    obtain ⟨rW, rL, rJ', r5⟩ := hrow
    obtain ⟨Ma, e1, a1, a2, a3, a4, aF⟩ := jny_copy_v (M := mU (mU M 83 0 ((rem : Int) - 1)) 83 1 (((nx + 11) % 12 : Nat) : Int)) (a := 23) (b := 85 + 6 * ((nx + 11) % 12)) (by omega)
    have aF' : ∀ p, p ≠ 83 → (p < 23 ∨ 28 < p) → Ma p = M p := fun p hp hp2 => by rw [aF p hp2, mU_ne hp, mU_ne hp]
    generalize hM1 : mU Ma 0 18 (Ma 0 18 + 1) = M1
    have f1 : ∀ p, p ≠ 0 → p ≠ 83 → (p < 23 ∨ 28 < p) → M1 p = M p := fun p h0 h1 h2 => by rw [← hM1, mU_ne h0, aF' p h1 h2]
    have f0 : ∀ j, j ≠ 18 → M1 0 j = M 0 j := fun j hj => by rw [← hM1, mU_eq, up_ne hj, aF' 0 (by decide) (by decide)]
    have f18 : M1 0 18 = M 0 18 + 1 := by rw [← hM1, mU_eq, up_eq, aF' 0 (by decide) (by decide)]
    have fj : ∀ p, p ≠ 0 → M1 p = Ma p := fun p hp => by rw [← hM1, mU_ne hp]
    have run : mo_undo_L26 (fun M_7 => some (rI 1, M_7)) FU 0 (mU (mU M1 165 0 0) 165 6 ((rem : Int) - 1)) = some (rI 1, flM (mU (mU M1 165 0 0) 165 6 ((rem : Int) - 1)) 166 0 (0 + 266) (rwJ M (rem - 1))) := by
      refine fl_run0 (L := fun F i M => mo_undo_L26 (fun M_7 => some (rI 1, M_7)) F i M) (K := fun M => some (rI 1, M)) (a := 166) (o := 0) (N := 266) (F := FU) (f := rwJ M (rem - 1)) (FU_gt (by decide)) (fun n i hi => ?_) (fun n => ?_)
      · rw [mo_undo_L26, bq_ge (by omega) (by decide), if_neg (by omega), show (flM (mU (mU M1 165 0 0) 165 6 ((rem : Int) - 1)) 166 0 (0 + i) (rwJ M (rem - 1))) 165 6 = (rem : Int) - 1 from by rw [flM_ne (by decide), mU_eq, up_eq], bq_in (by omega) (by omega), bq_in (by omega) (by omega), sM_eq, Int.toNat_natCast, Nat.zero_add, show (266 * ((rem : Int) - 1) + (i : Int)).toNat = 266 * (rem - 1) + i by omega, flM_ne (by decide), mU_ne (by decide), mU_ne (by decide), f1 169 (by decide) (by decide) (by decide)]
        rfl
      · rw [mo_undo_L26, bq_ge (by decide) (by decide), if_pos (by decide)]
    refine ⟨1, M1, flM (mU (mU M1 165 0 0) 165 6 ((rem : Int) - 1)) 166 0 (0 + 266) (rwJ M (rem - 1)), ?_, ?_, by decide, ?_⟩
    · unfold gh_undo memo_recall
      rw [m2, bq_ne (by omega) (by decide), if_neg (by omega), sM_eq, show (mU M 83 0 ((rem : Int) - 1)) 83 1 = (nx : Int) from m3, e12, sM_eq, mU_eq, up_eq, bq_in (by omega) (by omega), Int.toNat_natCast, e1, bV_V, bI_I, bq_ne (by decide) (by decide), if_neg (by decide), sM_eq, hM1]
    · unfold mo_undo
      rw [sM_eq, show (mU M1 165 0 0) 165 6 = (rem : Int) from by rw [mU_eq, up_ne (by decide), f1 165 (by decide) (by decide) (by decide), m1], bq_ne (by omega) (by decide), if_neg (by omega), sM_eq, run]
    · generalize hM2 : flM (mU (mU M1 165 0 0) 165 6 ((rem : Int) - 1)) 166 0 (0 + 266) (rwJ M (rem - 1)) = M2
      have g166 : ∀ j, j < 266 → M2 166 j = rwJ M (rem - 1) j := fun j hj => by rw [← hM2, flM_ap, if_pos (by omega), Nat.sub_zero]
      have g166' : ∀ j, 266 ≤ j → M2 166 j = M 166 j := fun j hj => by rw [← hM2, flM_ap, if_neg (by omega), mU_ne (by decide), mU_ne (by decide), f1 166 (by decide) (by decide) (by decide)]
      have gF : ∀ p, p ≠ 165 → p ≠ 166 → M2 p = M1 p := fun p hp hp2 => by rw [← hM2, flM_ne hp2, mU_ne hp, mU_ne hp]
      have g165 : ∀ j, j ≠ 0 → j ≠ 6 → M2 165 j = M 165 j := fun j h0 h6 => by rw [← hM2, flM_ne (by decide), mU_eq, up_ne h6, mU_eq, up_ne h0, f1 165 (by decide) (by decide) (by decide)]
      have g6 : M2 165 6 = ((rem - 1 : Nat) : Int) := by rw [← hM2, flM_ne (by decide), mU_eq, up_eq]; omega
      have gA : ∀ p, p ≠ 0 → p ≠ 83 → p ≠ 165 → p ≠ 166 → (p < 23 ∨ 28 < p) → M2 p = M p := fun p p0 p1 p2 p3 p4 => (gF p p2 p3).trans (f1 p p0 p1 p4)
      have c3 : ∀ j, j < 14 → M2 (3 + j) = M (3 + j) := fun j hj => gA _ (by omega) (by omega) (by omega) (by omega) (by omega)
      have gJ : ∀ p, p ≠ 0 → p ≠ 165 → p ≠ 166 → M2 p = Ma p := fun p p0 p1 p2 => (gF p p1 p2).trans (fj p p0)
      have b85 : ∀ i, i < 6 → (mU (mU M 83 0 ((rem : Int) - 1)) 83 1 (((nx + 11) % 12 : Nat) : Int)) (85 + 6 * ((nx + 11) % 12) + i) = M (85 + 6 * ((nx + 11) % 12) + i) := fun i hi => by rw [mU_ne (by omega), mU_ne (by omega)]
      have hW' : WF (k + 1) (M2 166) := WF_cg g166 (WF_mono (by omega) rW)
      have h5 : M2 166 5 = M 166 5 := (g166 5 (by decide)).trans r5
      refine ⟨TapeR_fr (gA _ (by decide) (by decide) (by decide) (by decide) (by decide)) (gA _ (by decide) (by decide) (by decide) (by decide) (by decide)) (by rw [gA 1 (by decide) (by decide) (by decide) (by decide) (by decide)]) (by rw [gA 1 (by decide) (by decide) (by decide) (by decide) (by decide)]) (g165 8 (by decide) (by decide)) (g165 13 (by decide) (by decide)) i1, hW', LandR_cg rW.1 g166 (LandR_fr c3 rL), ?_, ?_, ?_, ?_, ?_, ?_, ?_⟩
      · refine JnyR_cg rW.1 g166 (JnyR_cp (b := 85 + 6 * ((nx + 11) % 12)) (M := M) rW.1 ?_ ?_ ?_ ?_ rJ')
        · intro j hj
          rw [gJ 23 (by decide) (by decide) (by decide), a1 j hj, mU_ne (by omega), mU_ne (by omega)]
        · intro j hj
          rw [gJ 24 (by decide) (by decide) (by decide), a2 j hj, mU_ne (by omega), mU_ne (by omega)]
        · intro j hj
          rw [gJ 25 (by decide) (by decide) (by decide), a3 j hj, mU_ne (by omega), mU_ne (by omega)]
        · intro j hj
          obtain ⟨x1, x2, x3⟩ := a4 j hj
          rw [gJ 26 (by decide) (by decide) (by decide), gJ 27 (by decide) (by decide) (by decide), gJ 28 (by decide) (by decide) (by decide), x1, x2, x3, mU_ne (by omega), mU_ne (by omega), mU_ne (by omega), mU_ne (by omega), mU_ne (by omega), mU_ne (by omega)]
          exact ⟨rfl, rfl, rfl⟩
      · refine LawR_cg (w := M 166) (fun j hj => ?_) (LawR_fr (fun j hj => gA _ (by omega) (by omega) (by omega) (by omega) (by omega)) i5)
        rcases hj with rfl | hj
        · exact h5
        · exact g166' j hj.1
      · refine ⟨rem - 1, (nx + 11) % 12, g6, ?_, ?_, by omega, hn, fun j hj => ?_⟩
        · rw [gJ 83 (by decide) (by decide) (by decide), aF 83 (by decide)]
          show (rem : Int) - 1 = _
          omega
        · rw [gJ 83 (by decide) (by decide) (by decide), aF 83 (by decide)]
          rfl
        · have e : slJ ((nx + 11) % 12) (rem - 1) j = slJ nx rem j := by unfold slJ; omega
          have hlt := slJ_lt (nx := nx) (rem := rem) (j := j)
          rw [e]
          have er : rwJ M2 j = rwJ M j := by unfold rwJ; rw [gA 169 (by decide) (by decide) (by decide) (by decide) (by decide)]
          rw [er]
          exact RowOK_fr (by omega) c3 (fun i hi => gA _ (by omega) (by omega) (by omega) (by omega) (by omega)) h5 (m6 j (by omega))
      · exact ImgR_fr (by omega) (g165 5 (by decide) (by decide)) (by rw [gF 0 (by decide) (by decide), f0 10 (by decide)]) (gA _ (by decide) (by decide) (by decide) (by decide) (by decide)) (fun a h1 h2 => gA _ (by omega) (by omega) (by omega) (by omega) (by omega)) i7
      · have e17 : M2 0 17 = M 0 17 := by rw [gF 0 (by decide) (by decide), f0 17 (by decide)]
        have e18 : M2 0 18 = M 0 18 + 1 := by rw [gF 0 (by decide) (by decide), f18]
        refine ⟨by rw [e17]; exact i8.1, fun h => ?_⟩
        rw [e17] at h
        have := (i8.2 h).1
        rw [e18, gA 1000 (by decide) (by decide) (by decide) (by decide) (by decide)]
        exact ⟨⟨this.1, by omega⟩, fun g => absurd g (by omega)⟩
      · rw [gA 999 (by decide) (by decide) (by decide) (by decide) (by decide)]
        exact ⟨i9.1, by omega⟩
      · rw [gF 0 (by decide) (by decide), f18]
        exact ⟨by omega, by omega⟩
def OpOKv (D R : MM → OR) : Prop := ∀ k M, k ≤ 511 → Inv k M → ∃ M1 M2, D M = some (rV, M1) ∧ R M1 = some (rV, M2) ∧ Inv (k + 1) M2
theorem ok_image : OpOKv gh_image mo_image := by
  intro k M hk hI
  obtain ⟨i1, i2, i3, i4, i5, i6, i7, i8, i9, i10⟩ := hI
  obtain ⟨Ma, e1, a1, a2, a3, a4, a5, a6, aF⟩ := land_copy_v (M := M) (a := 55) (b := 3) (by omega)
  obtain ⟨Mb, e2, b1, b2, b3, b4, bF⟩ := law_copy_v (M := Ma) (a := 69) (b := 17) (by omega)
  obtain ⟨Mc, e3, c1, c2, c3, c4, cF⟩ := jny_copy_v (M := Mb) (a := 75) (b := 23) (by omega)
  have fA : ∀ p, (p < 55 ∨ 80 < p) → Mc p = M p := fun p hp => by rw [cF p (by omega), bF p (by omega), aF p (by omega)]
  have run : mo_image_L7 (fun M_5 => (sM (mU M_5 165 5 1) fun M_7 => some (rV, M_7))) FU 0 (mU (mU Mc 0 10 1) 165 0 0) = some (rV, mU (flM (mU (mU Mc 0 10 1) 165 0 0) 167 0 (0 + 1115) (M 166)) 165 5 1) := by
    refine fl_run0 (L := fun F i M => mo_image_L7 (fun M_5 => (sM (mU M_5 165 5 1) fun M_7 => some (rV, M_7))) F i M) (K := fun M => some (rV, mU M 165 5 1)) (a := 167) (o := 0) (N := 1115) (F := FU) (f := M 166) (FU_gt (by decide)) (fun n i hi => ?_) (fun n => ?_)
    · rw [mo_image_L7, bq_ge (by omega) (by decide), if_neg (by omega), bq_in (by omega) (by omega), bq_in (by omega) (by omega), sM_eq, Int.toNat_natCast, Nat.zero_add, flM_ne (by decide), mU_ne (by decide), mU_ne (by decide), fA 166 (by decide)]
    · rw [mo_image_L7, bq_ge (by decide) (by decide), if_pos (by decide), sM_eq]
  refine ⟨mU Mc 0 10 1, mU (flM (mU (mU Mc 0 10 1) 165 0 0) 167 0 (0 + 1115) (M 166)) 165 5 1, ?_, ?_, ?_⟩
  · unfold gh_image
    rw [e1, bV_V, e2, bV_V, e3, bV_V, sM_eq]
  · unfold mo_image
    rw [sM_eq, run]
  · generalize hM2 : mU (flM (mU (mU Mc 0 10 1) 165 0 0) 167 0 (0 + 1115) (M 166)) 165 5 1 = M2
    have g167 : ∀ j, j < 1115 → M2 167 j = M 166 j := fun j hj => by rw [← hM2, mU_ne (by decide), flM_ap, if_pos (by omega), Nat.sub_zero]
    have gC : ∀ p, p ≠ 0 → p ≠ 165 → p ≠ 167 → M2 p = Mc p := fun p h0 h1 h2 => by rw [← hM2, mU_ne h1, flM_ne h2, mU_ne h1, mU_ne h0]
    have g0 : ∀ j, j ≠ 10 → M2 0 j = M 0 j := fun j hj => by rw [← hM2, mU_ne (by decide), flM_ne (by decide), mU_ne (by decide), mU_eq, up_ne hj, fA 0 (by decide)]
    have g010 : M2 0 10 = 1 := by rw [← hM2, mU_ne (by decide), flM_ne (by decide), mU_ne (by decide), mU_eq, up_eq]
    have g165 : ∀ j, j ≠ 0 → j ≠ 5 → M2 165 j = M 165 j := fun j h0 h5 => by rw [← hM2, mU_eq, up_ne h5, flM_ne (by decide), mU_eq, up_ne h0, mU_ne (by decide), fA 165 (by decide)]
    have g5 : M2 165 5 = 1 := by rw [← hM2, mU_eq, up_eq]
    have gM : ∀ p, p ≠ 0 → p ≠ 165 → p ≠ 167 → (p < 55 ∨ 80 < p) → M2 p = M p := fun p h0 h1 h2 h3 => (gC p h0 h1 h2).trans (fA p h3)
    have c3' : ∀ j, j < 14 → M2 (3 + j) = M (3 + j) := fun j hj => gM _ (by omega) (by omega) (by omega) (by omega)
    have hw : M2 166 = M 166 := gM 166 (by decide) (by decide) (by decide) (by decide)
    have hWk := WF_mono (Nat.le_succ k) i2
    refine ⟨TapeR_fr (gM 2 (by decide) (by decide) (by decide) (by decide)) (gM 170 (by decide) (by decide) (by decide) (by decide)) (by rw [gM 1 (by decide) (by decide) (by decide) (by decide)]) (by rw [gM 1 (by decide) (by decide) (by decide) (by decide)]) (g165 8 (by decide) (by decide)) (g165 13 (by decide) (by decide)) i1, by rw [hw]; exact hWk, by rw [hw]; exact LandR_fr c3' i3, by rw [hw]; exact JnyR_fr (fun j hj => gM _ (by omega) (by omega) (by omega) (by omega)) i4, by rw [hw]; exact LawR_fr (fun j hj => gM _ (by omega) (by omega) (by omega) (by omega)) i5, MemR_fr (by omega) (g165 6 (by decide) (by decide)) (fun a h1 h2 => gM _ (by omega) (by omega) (by omega) (by omega)) (gM 169 (by decide) (by decide) (by decide) (by decide)) c3' (by rw [hw]) i6, Or.inr ⟨g5, g010, WF_cg (fun j hj => g167 j (by omega)) hWk, LandR_cg i2.1 (fun j hj => g167 j (by omega)) ?_, JnyR_cg i2.1 (fun j hj => g167 j (by omega)) ?_, LawR_cg (fun j hj => g167 j (by omega)) ?_⟩, SrR_fr (gM _ (by decide) (by decide) (by decide) (by decide)) (gM _ (by decide) (by decide) (by decide) (by decide)) (g0 17 (by decide)) (g0 18 (by decide)) hw i8, ?_, ?_⟩
    · refine LandR_cp (b := 3) (M := M) i2.1 ?_ ?_ ?_ ?_ ?_ ?_ i3
      · intro j hj
        rw [gC 55 (by decide) (by decide) (by decide), cF 55 (by decide), bF 55 (by decide)]; exact a1 j hj
      · intro j hj
        rw [gC 56 (by decide) (by decide) (by decide), cF 56 (by decide), bF 56 (by decide), gC 57 (by decide) (by decide) (by decide), cF 57 (by decide), bF 57 (by decide)]; exact a2 j hj
      · intro j hj
        rw [gC 58 (by decide) (by decide) (by decide), cF 58 (by decide), bF 58 (by decide), gC 59 (by decide) (by decide) (by decide), cF 59 (by decide), bF 59 (by decide), gC 60 (by decide) (by decide) (by decide), cF 60 (by decide), bF 60 (by decide), gC 61 (by decide) (by decide) (by decide), cF 61 (by decide), bF 61 (by decide), gC 62 (by decide) (by decide) (by decide), cF 62 (by decide), bF 62 (by decide)]; exact a3 j hj
      · intro j hj
        rw [gC 63 (by decide) (by decide) (by decide), cF 63 (by decide), bF 63 (by decide)]; exact a4 j hj
      · intro j hj
        rw [gC 64 (by decide) (by decide) (by decide), cF 64 (by decide), bF 64 (by decide), gC 65 (by decide) (by decide) (by decide), cF 65 (by decide), bF 65 (by decide)]; exact a5 j hj
      · intro j hj
        rw [gC 66 (by decide) (by decide) (by decide), cF 66 (by decide), bF 66 (by decide), gC 67 (by decide) (by decide) (by decide), cF 67 (by decide), bF 67 (by decide), gC 68 (by decide) (by decide) (by decide), cF 68 (by decide), bF 68 (by decide)]; exact a6 j hj
    · refine JnyR_cp (b := 23) (M := M) i2.1 ?_ ?_ ?_ ?_ i4
      · intro j hj
        rw [gC 75 (by decide) (by decide) (by decide), c1 j hj, bF 23 (by decide), aF 23 (by decide)]
      · intro j hj
        rw [gC 76 (by decide) (by decide) (by decide), c2 j hj, bF 24 (by decide), aF 24 (by decide)]
      · intro j hj
        rw [gC 77 (by decide) (by decide) (by decide), c3 j hj, bF 25 (by decide), aF 25 (by decide)]
      · intro j hj
        obtain ⟨x1, x2, x3⟩ := c4 j hj
        rw [gC 78 (by decide) (by decide) (by decide), gC 79 (by decide) (by decide) (by decide), gC 80 (by decide) (by decide) (by decide), x1, x2, x3, bF 26 (by decide), aF 26 (by decide), bF 27 (by decide), aF 27 (by decide), bF 28 (by decide), aF 28 (by decide)]
        exact ⟨rfl, rfl, rfl⟩
    · refine LawR_cp (b := 17) (M := M) ?_ ?_ ?_ i5
      · rw [gC 69 (by decide) (by decide) (by decide), cF 69 (by decide), b1, aF 17 (by decide)]
      · intro j hj
        rw [gC 70 (by decide) (by decide) (by decide), cF 70 (by decide), gC 71 (by decide) (by decide) (by decide), cF 71 (by decide), (b3 j hj).1, (b3 j hj).2, aF 18 (by decide), aF 19 (by decide)]
        exact ⟨rfl, rfl⟩
      · intro j hj
        rw [gC 72 (by decide) (by decide) (by decide), cF 72 (by decide), b4 j hj, aF 20 (by decide)]
    · rw [gM 999 (by decide) (by decide) (by decide) (by decide)]
      exact ⟨i9.1, by omega⟩
    · rw [g0 18 (by decide)]
      exact ⟨i10.1, by omega⟩
theorem ok_back : OpOK0 gh_back mo_back := by
  intro k M hk hI
  obtain ⟨i1, i2, i3, i4, i5, i6, i7, i8, i9, i10⟩ := hI
  rcases i7 with ⟨m5, m10⟩ | ⟨m5, m10, w1, w2, w3, w4⟩
  · refine ⟨0, M, mU M 165 0 0, ?_, ?_, by decide, Inv_core ⟨i1, i2, i3, i4, i5, i6, Or.inl ⟨m5, m10⟩, i8, i9, i10⟩ Core_t0 (by omega) i9.1 (by show M 999 0 ≤ _; omega)⟩
    · unfold gh_back
      rw [m10, bq_ne (by decide) (by decide), if_pos rfl]
    · unfold mo_back
      rw [sM_eq, show (mU M 165 0 0) 165 5 = 0 from m5, bq_ne (by decide) (by decide), if_pos rfl]
  · obtain ⟨Ma, e1, a1, a2, a3, a4, a5, a6, aF⟩ := land_copy_v (M := M) (a := 3) (b := 55) (by omega)
    obtain ⟨Mb, e2, b1, b2, b3, b4, bF⟩ := law_copy_v (M := Ma) (a := 17) (b := 69) (by omega)
    obtain ⟨Mc, e3, c1, c2, c3, c4, cF⟩ := jny_copy_v (M := Mb) (a := 23) (b := 75) (by omega)
    have fA : ∀ p, (p < 3 ∨ 28 < p) → Mc p = M p := fun p hp => by rw [cF p (by omega), bF p (by omega), aF p (by omega)]
    have e4 : gh_forgetActs Mc = some (rV, mU (mU Mc 83 0 0) 0 18 (M 0 18 + 1)) := by
      unfold gh_forgetActs
      rw [sM_eq, sM_eq, mU_ne (by decide), fA 0 (by decide)]
    generalize hM1 : mU (mU Mc 83 0 0) 0 18 (M 0 18 + 1) = M1 at e4
    have f1 : ∀ p, p ≠ 0 → p ≠ 83 → M1 p = Mc p := fun p h0 h1 => by rw [← hM1, mU_ne h0, mU_ne h1]
    have run : mo_back_L16 (fun M_5 => (sM (mU M_5 165 6 0) fun M_7 => some (rI 1, M_7))) FU 0 (mU M1 165 0 0) = some (rI 1, mU (flM (mU M1 165 0 0) 166 0 (0 + 1115) (M 167)) 165 6 0) := by
      refine fl_run0 (L := fun F i M => mo_back_L16 (fun M_5 => (sM (mU M_5 165 6 0) fun M_7 => some (rI 1, M_7))) F i M) (K := fun M => some (rI 1, mU M 165 6 0)) (a := 166) (o := 0) (N := 1115) (F := FU) (f := M 167) (FU_gt (by decide)) (fun n i hi => ?_) (fun n => ?_)
      · rw [mo_back_L16, bq_ge (by omega) (by decide), if_neg (by omega), bq_in (by omega) (by omega), bq_in (by omega) (by omega), sM_eq, Int.toNat_natCast, Nat.zero_add, flM_ne (by decide), mU_ne (by decide), f1 167 (by decide) (by decide), fA 167 (by decide)]
      · rw [mo_back_L16, bq_ge (by decide) (by decide), if_pos (by decide), sM_eq]
    refine ⟨1, M1, mU (flM (mU M1 165 0 0) 166 0 (0 + 1115) (M 167)) 165 6 0, ?_, ?_, by decide, ?_⟩
    · unfold gh_back
      rw [m10, bq_ne (by decide) (by decide), if_neg (by decide), e1, bV_V, e2, bV_V, e3, bV_V, e4, bV_V]
    · unfold mo_back
      rw [sM_eq, show (mU M1 165 0 0) 165 5 = 1 from by rw [mU_eq, up_ne (by decide), f1 165 (by decide) (by decide), fA 165 (by decide), m5], bq_ne (by decide) (by decide), if_neg (by decide), run]
    · generalize hM2 : mU (flM (mU M1 165 0 0) 166 0 (0 + 1115) (M 167)) 165 6 0 = M2
      have g166 : ∀ j, j < 1115 → M2 166 j = M 167 j := fun j hj => by rw [← hM2, mU_ne (by decide), flM_ap, if_pos (by omega), Nat.sub_zero]
      have gC : ∀ p, p ≠ 0 → p ≠ 83 → p ≠ 165 → p ≠ 166 → M2 p = Mc p := fun p h0 h1 h2 h3 => by rw [← hM2, mU_ne h2, flM_ne h3, mU_ne h2, f1 p h0 h1]
      have g1 : M2 0 = M1 0 := by rw [← hM2, mU_ne (by decide), flM_ne (by decide), mU_ne (by decide)]
      have g0 : ∀ j, j ≠ 18 → M2 0 j = M 0 j := fun j hj => by rw [g1, ← hM1, mU_eq, up_ne hj, mU_ne (by decide), fA 0 (by decide)]
      have g018 : M2 0 18 = M 0 18 + 1 := by rw [g1, ← hM1, mU_eq, up_eq]
      have g83 : M2 83 = up (M 83) 0 0 := by rw [← hM2, mU_ne (by decide), flM_ne (by decide), mU_ne (by decide), ← hM1, mU_ne (by decide), mU_eq, fA 83 (by decide)]
      have g165 : ∀ j, j ≠ 0 → j ≠ 6 → M2 165 j = M 165 j := fun j h0 h6 => by rw [← hM2, mU_eq, up_ne h6, flM_ne (by decide), mU_eq, up_ne h0, f1 165 (by decide) (by decide), fA 165 (by decide)]
      have g6 : M2 165 6 = 0 := by rw [← hM2, mU_eq, up_eq]
      have gM : ∀ p, p ≠ 0 → p ≠ 83 → p ≠ 165 → p ≠ 166 → (p < 3 ∨ 28 < p) → M2 p = M p := fun p h0 h1 h2 h3 h4 => (gC p h0 h1 h2 h3).trans (fA p h4)
      have hWk := WF_mono (Nat.le_succ k) w1
      obtain ⟨rem, nx, -, -, n3, -, n5, -⟩ := i6
      refine ⟨TapeR_fr (gM 2 (by decide) (by decide) (by decide) (by decide) (by decide)) (gM 170 (by decide) (by decide) (by decide) (by decide) (by decide)) (by rw [gM 1 (by decide) (by decide) (by decide) (by decide) (by decide)]) (by rw [gM 1 (by decide) (by decide) (by decide) (by decide) (by decide)]) (g165 8 (by decide) (by decide)) (g165 13 (by decide) (by decide)) i1, WF_cg (fun j hj => g166 j (by omega)) hWk, LandR_cg w1.1 (fun j hj => g166 j (by omega)) ?_, JnyR_cg w1.1 (fun j hj => g166 j (by omega)) ?_, LawR_cg (fun j hj => g166 j (by omega)) ?_, ⟨0, nx, g6, by rw [g83]; rfl, by rw [g83]; exact n3, by decide, n5, fun j hj => absurd hj (by omega)⟩, Or.inr ⟨?_, ?_, ?_, ?_, ?_, ?_⟩, ?_, ?_, ?_⟩
      · refine LandR_cp (b := 55) (M := M) w1.1 ?_ ?_ ?_ ?_ ?_ ?_ w2
        · intro j hj
          rw [gC 3 (by decide) (by decide) (by decide) (by decide), cF 3 (by decide), bF 3 (by decide)]; exact a1 j hj
        · intro j hj
          rw [gC 4 (by decide) (by decide) (by decide) (by decide), cF 4 (by decide), bF 4 (by decide), gC 5 (by decide) (by decide) (by decide) (by decide), cF 5 (by decide), bF 5 (by decide)]; exact a2 j hj
        · intro j hj
          rw [gC 6 (by decide) (by decide) (by decide) (by decide), cF 6 (by decide), bF 6 (by decide), gC 7 (by decide) (by decide) (by decide) (by decide), cF 7 (by decide), bF 7 (by decide), gC 8 (by decide) (by decide) (by decide) (by decide), cF 8 (by decide), bF 8 (by decide), gC 9 (by decide) (by decide) (by decide) (by decide), cF 9 (by decide), bF 9 (by decide), gC 10 (by decide) (by decide) (by decide) (by decide), cF 10 (by decide), bF 10 (by decide)]; exact a3 j hj
        · intro j hj
          rw [gC 11 (by decide) (by decide) (by decide) (by decide), cF 11 (by decide), bF 11 (by decide)]; exact a4 j hj
        · intro j hj
          rw [gC 12 (by decide) (by decide) (by decide) (by decide), cF 12 (by decide), bF 12 (by decide), gC 13 (by decide) (by decide) (by decide) (by decide), cF 13 (by decide), bF 13 (by decide)]; exact a5 j hj
        · intro j hj
          rw [gC 14 (by decide) (by decide) (by decide) (by decide), cF 14 (by decide), bF 14 (by decide), gC 15 (by decide) (by decide) (by decide) (by decide), cF 15 (by decide), bF 15 (by decide), gC 16 (by decide) (by decide) (by decide) (by decide), cF 16 (by decide), bF 16 (by decide)]; exact a6 j hj
      · refine JnyR_cp (b := 75) (M := M) w1.1 ?_ ?_ ?_ ?_ w3
        · intro j hj
          rw [gC 23 (by decide) (by decide) (by decide) (by decide), c1 j hj, bF 75 (by decide), aF 75 (by decide)]
        · intro j hj
          rw [gC 24 (by decide) (by decide) (by decide) (by decide), c2 j hj, bF 76 (by decide), aF 76 (by decide)]
        · intro j hj
          rw [gC 25 (by decide) (by decide) (by decide) (by decide), c3 j hj, bF 77 (by decide), aF 77 (by decide)]
        · intro j hj
          obtain ⟨x1, x2, x3⟩ := c4 j hj
          rw [gC 26 (by decide) (by decide) (by decide) (by decide), gC 27 (by decide) (by decide) (by decide) (by decide), gC 28 (by decide) (by decide) (by decide) (by decide), x1, x2, x3, bF 78 (by decide), aF 78 (by decide), bF 79 (by decide), aF 79 (by decide), bF 80 (by decide), aF 80 (by decide)]
          exact ⟨rfl, rfl, rfl⟩
      · refine LawR_cp (b := 69) (M := M) ?_ ?_ ?_ w4
        · rw [gC 17 (by decide) (by decide) (by decide) (by decide), cF 17 (by decide), b1, aF 69 (by decide)]
        · intro j hj
          rw [gC 18 (by decide) (by decide) (by decide) (by decide), cF 18 (by decide), gC 19 (by decide) (by decide) (by decide) (by decide), cF 19 (by decide), (b3 j hj).1, (b3 j hj).2, aF 70 (by decide), aF 71 (by decide)]
          exact ⟨rfl, rfl⟩
        · intro j hj
          rw [gC 20 (by decide) (by decide) (by decide) (by decide), cF 20 (by decide), b4 j hj, aF 72 (by decide)]
      · rw [g165 5 (by decide) (by decide)]; exact m5
      · rw [g0 10 (by decide)]; exact m10
      · rw [gM 167 (by decide) (by decide) (by decide) (by decide) (by decide)]; exact hWk
      · rw [gM 167 (by decide) (by decide) (by decide) (by decide) (by decide)]
        exact LandR_fr (fun j hj => gM _ (by omega) (by omega) (by omega) (by omega) (by omega)) w2
      · rw [gM 167 (by decide) (by decide) (by decide) (by decide) (by decide)]
        exact JnyR_fr (fun j hj => gM _ (by omega) (by omega) (by omega) (by omega) (by omega)) w3
      · rw [gM 167 (by decide) (by decide) (by decide) (by decide) (by decide)]
        exact LawR_fr (fun j hj => gM _ (by omega) (by omega) (by omega) (by omega) (by omega)) w4
      · refine ⟨by rw [g0 17 (by decide)]; exact i8.1, fun h => ?_⟩
        rw [g0 17 (by decide)] at h
        have := (i8.2 h).1
        rw [g018, gM 1000 (by decide) (by decide) (by decide) (by decide) (by decide)]
        exact ⟨⟨this.1, by omega⟩, fun g => absurd g (by omega)⟩
      · rw [gM 999 (by decide) (by decide) (by decide) (by decide) (by decide)]
        exact ⟨i9.1, by omega⟩
      · rw [g018]
        exact ⟨by omega, by omega⟩
