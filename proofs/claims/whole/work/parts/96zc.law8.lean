/-! ===== LAW as a call: both sides ===== -/
theorem law_text {T : Nat → Int} {n e : Nat} {C0 N0 : MM} (hC : TC T n C0) (hN : TN T n N0) (h15 : N0 165 15 = 0) : LtR n C0 N0 (lawr_readText C0) (readR 0 (nT N0 0 e)) := by
  have n4 := hC.2.1
  have a1 := skB_le (T := T) (Nat.zero_le n)
  obtain ⟨C1, hC1⟩ : ∃ C1, C1 = mU (mU C0 43 0 0) 43 4 0 := ⟨_, rfl⟩
  have f1 : FrT C0 C1 := by rw [hC1]; exact FrT.tr (FrT.u (C := C0) (a := 43) (k := 0) (x := 0) (by omega)) (FrT.u (a := 43) (k := 4) (x := 0) (by omega))
  have c0 : C1 43 0 = 0 := by rw [hC1]; rfl
  have c4 : C1 43 4 = 0 := by rw [hC1]; rfl
  have hX : TxL C1 N0 0 0 := ⟨c0, c4, h15, rfl, fun i hi => absurd hi (by omega), fun i hi => absurd hi (by omega)⟩
  have hC2 := f1.t hC
  unfold lawr_readText readR
  rw [start_b, sM_eq, cT_u (by decide), sM_eq, cT_u (by decide), ← hC1, atEnd_b hC2 (Nat.zero_le n), bz_ne0, blanks_b hN (Nat.zero_le n), nT_9, nT_j (show 10 ≠ 9 by decide) (show 10 ≠ 11 by decide), hN.1, bq_ne (by omega) (by omega)]
  clear hC1
  by_cases g : skB T n 0 = n
  · obtain ⟨p', hp', he⟩ := endText_v (l := 0) (b := -1) hC2 a1.2 (by decide)
    rw [skB_sk (Nat.zero_le n), decide_eq_true ⟨rfl, g⟩, if_neg (show ¬ ((-1 : Int) = -1 ∧ skB T n 0 ≠ n) from fun x => x.2 g)] at he
    obtain ⟨F, hF⟩ := FU_s
    rw [decide_eq_true g, cn_t, if_pos (show ((skB T n 0 : Nat) : Int) = n by omega)]
    unfold lawr_readText_J38
    rw [hF, lawr_readText_L41, bq_gt (by decide) (by decide), if_neg (by decide), bq_eq (by decide) (by decide), if_pos rfl, he]
    refine Or.inl ⟨C1, N0, 0, p', skB T n 0, 0, 0, rfl, ?_, by decide, f1, FrE.rf, hX, Nat.zero_le n⟩
    rw [g]; rfl
  · rw [decide_eq_false g, cn_f, if_neg (show ¬ ((skB T n 0 : Nat) : Int) = n by omega)]
    unfold lawr_readText_J38
    exact law_loop hC hN 12 0 FU FU (skB T n 0) 0 (skB T n 0) 0 C1 N0 rfl (FU_gt (by decide)) (FU_gt (by decide)) a1.2 f1 FrE.rf hX (Nat.zero_le _)
def LtM (n : Nat) (C N : MM) (zx : Int) (X : MM) (Y : OR) : Prop := ((X 1 1 = 0) ∧ ∀ a, a ≠ 1 → (a < 29 ∨ 54 < a) → X a = C a) ∧ ((zx = 1 ∧ X 1 2 = -1 ∧ ∃ (N' : MM) (e' j s : Nat), Y = some (rI ((j : Int)), nT N' n e') ∧ j ≤ 12 ∧ FrE N N' ∧ TxL X N' j s ∧ s ≤ n) ∨ (zx = 0 ∧ ∃ (q p : Nat) (N' : MM), X 1 2 = (q : Int) ∧ q ≤ n ∧ Y = some (rI (-1), nT N' p q) ∧ FrE N N'))
theorem TxL_fr {C C' N : MM} {j s : Nat} (h : TxL C N j s) (f : ∀ a, a ≠ 1 → C' a = C a) : TxL C' N j s := by
  obtain ⟨h1, h2, h3, h4, h5, h6⟩ := h
  refine ⟨by rw [f 43 (by decide)]; exact h1, by rw [f 43 (by decide)]; exact h2, h3, by rw [f 45 (by decide)]; exact h4, by rw [f 46 (by decide)]; exact h5, fun i hi => ?_⟩
  obtain ⟨u1, a, b, u2, u3, u4, u5, u6⟩ := h6 i hi
  exact ⟨by rw [f 44 (by decide)]; exact u1, a, b, u2, u3, by rw [f 45 (by decide)]; exact u4, by rw [f 45 (by decide)]; exact u5, u6⟩
theorem LtM_of {n : Nat} {C N : MM} {X Y : OR} (h : LtR n C N X Y) : ∃ zx Mx, X = some (rI zx, Mx) ∧ LtM n C N zx Mx Y := by
  rcases h with ⟨C', N', l', p', e', j, s, h1, h2, h3, h4, h5, h6, h7⟩ | ⟨q, C', p', l', N', p'', h1, h2, h3, h4, h5⟩
  · obtain ⟨X', hX⟩ : ∃ X', X' = mU (tpT C' p' l' (-1)) 1 1 0 := ⟨_, rfl⟩
    have r : ∀ a, a ≠ 1 → X' a = C' a := fun a ha => by rw [hX, mU_ne ha, cT_ne ha]
    have r1 : X' 1 1 = 0 := by rw [hX]; rfl
    have r2 : X' 1 2 = -1 := by rw [hX]; rfl
    rw [← hX] at h1
    clear hX
    exact ⟨1, X', h1, ⟨r1, fun a g1 g2 => (r a g1).trans (h4 a g2)⟩, Or.inl ⟨rfl, r2, N', e', j, s, h2, h3, h5, TxL_fr h6 r, h7⟩⟩
  · obtain ⟨X', hX⟩ : ∃ X', X' = mU (tpT C' p' l' (q : Int)) 1 1 0 := ⟨_, rfl⟩
    have r : ∀ a, a ≠ 1 → X' a = C' a := fun a ha => by rw [hX, mU_ne ha, cT_ne ha]
    have r1 : X' 1 1 = 0 := by rw [hX]; rfl
    have r2 : X' 1 2 = (q : Int) := by rw [hX]; rfl
    rw [← hX] at h1
    clear hX
    exact ⟨0, X', h1, ⟨r1, fun a g1 g2 => (r a g1).trans (h3 a g2)⟩, Or.inr ⟨rfl, q, p'', N', r2, h5, h2, h4⟩⟩
theorem law_r {M1 : MM} {n : Nat} {T : Nat → Int} (h8 : M1 165 8 = (n : Int)) (hT : TN T n (usN M1 n)) : mo_law M1 = bI (readR 0 (nT (usN M1 n) 0 0)) fun z_3 M_2 => (bif cmpB .ge z_3 0 then (mo_law_J19 z_3 (-1) M_2) else (mo_law_J19 z_3 (M_2 165 11) M_2)) := by
  unfold mo_law
  rw [readAll_b hT h8]
theorem J19_bad {X : MM} {s : Int} : mo_law_J19 (-1) s X = some (rI 0, mU (mU X 165 13 s) 165 0 1) := by
  unfold mo_law_J19 mo_law_J32
  rw [sM_eq, bq_ge (by decide) (by decide), if_neg (by decide), throws_v (Or.inr rfl), bq_eq (by decide) (by decide), if_neg (by decide), if_neg (by decide)]
def lawW (X : MM) (j : Int) : MM := flM (mU X 166 1115 j) 166 266 (266 + 849) (fun i => (mU X 166 1115 j) 166 (1115 + i))
theorem J19_ok {X : MM} {j : Nat} {s : Int} (hj : j ≤ 12) : mo_law_J19 (j : Int) s X = some (rI (j : Int), mU (mU (lawW (mU X 165 13 s) (j : Int)) 166 5 1) 165 6 0) := by
  unfold mo_law_J19 mo_law_J32
  rw [sM_eq, bq_ge (by omega) (by decide), if_pos (by omega), throws_v (Or.inl rfl), bq_eq (by decide) (by decide), if_pos rfl, if_pos rfl, bq_in (by decide) (by decide), sM_eq]
  refine fl_run0 (L := fun F i M => mo_law_L52 (j : Int) (fun M_13 => (bif inB 5 1964 then (sM (mU M_13 166 5 1) fun M_15 => (sM (mU M_15 165 6 0) fun M_17 => some (rI (j : Int), M_17))) else none)) F i M) (K := fun M => some (rI (j : Int), mU (mU M 166 5 1) 165 6 0)) (a := 166) (o := 266) (N := 849) (F := FU) (M := mU (mU X 165 13 s) 166 1115 (j : Int)) (f := fun i => (mU (mU X 165 13 s) 166 1115 (j : Int)) 166 (1115 + i)) (FU_gt (by decide)) (fun n i hi => ?_) (fun n => ?_)
  · rw [mo_law_L52, bq_ge (by omega) (by decide), if_neg (by omega), bq_in (by omega) (by omega), bq_in (by omega) (by omega), sM_eq, show (266 + (i : Int)).toNat = 266 + i by omega, show (1115 + (i : Int)).toNat = 1115 + i by omega, flM_ap, if_neg (by omega)]
  · rw [mo_law_L52, bq_ge (by decide) (by decide), if_pos (by decide), bq_in (by decide) (by decide), sM_eq, sM_eq]
