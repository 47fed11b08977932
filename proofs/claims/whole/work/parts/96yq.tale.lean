/-! ===== TALE as a call ===== -/
def readR (v : Int) (M : MM) : OR := (bV (mo_blanks M) fun M_7 => (bif cmpB .ne (M_7 165 9) (M_7 165 10) then (mo_readAll_L28 v (fun M_20 => some (rI (-1), M_20)) (fun v2_24 M_25 => some (rI (v2_24 + 1), M_25)) (fun M_28 => some (rI (-1), M_28)) FU 0 M_7) else some (rI 0, M_7)))
theorem start_b {C : MM} {k : MM → OR} : bV (tape_startText C) k = k (tpT C 0 0 (-1)) := by
  unfold tape_startText
  rw [sM_eq, sM_eq, sM_eq, bV_V]
  congr 1
  funext a j
  rw [mU_ap, mU_ap, mU_ap]
  by_cases ha : a = 1
  · subst ha
    rw [if_pos rfl, if_pos rfl, if_pos rfl]
    show (if j = 2 then (-1 : Int) else if j = 3 then 0 else if j = 4 then 0 else C 1 j) = (if j = 4 then ((0 : Nat) : Int) else if j = 3 then ((0 : Nat) : Int) else if j = 2 then -1 else C 1 j)
    by_cases h2 : j = 2
    · subst h2; rfl
    · by_cases h3 : j = 3
      · subst h3; rfl
      · by_cases h4 : j = 4
        · subst h4; rfl
        · rw [if_neg h2, if_neg h3, if_neg h4, if_neg h4, if_neg h3, if_neg h2]
  · rw [if_neg ha, if_neg ha, if_neg ha, cT_ne ha]
theorem tale_text {T : Nat → Int} {n k e : Nat} {C0 N0 : MM} (hC : TC T n C0) (hN : TN T n N0) (hD : DrT k C0 N0) : TxR n k C0 N0 (tale_readText C0) (readR 1 (nT N0 0 e)) := by
  have n4 := hC.2.1
  have a1 := skB_le (T := T) (Nat.zero_le n)
  unfold tale_readText readR
  rw [start_b, atEnd_b hC (Nat.zero_le n), bz_ne0, blanks_b hN (Nat.zero_le n), nT_9, nT_j (show 10 ≠ 9 by decide) (show 10 ≠ 11 by decide), hN.1, bq_ne (by omega) (by omega)]
  by_cases g : skB T n 0 = n
  · obtain ⟨p', hp', he⟩ := endText_v (l := 0) (b := -1) hC a1.2 (by decide)
    rw [skB_sk (Nat.zero_le n), decide_eq_true ⟨rfl, g⟩, if_neg (show ¬ ((-1 : Int) = -1 ∧ skB T n 0 ≠ n) from fun x => x.2 g)] at he
    obtain ⟨F, hF⟩ : ∃ F, FU = F + 1 := ⟨FU - 1, by have := FU_gt (n := 1) (by decide); omega⟩
    rw [decide_eq_true g, cn_t, if_pos (show ((skB T n 0 : Nat) : Int) = n by omega)]
    unfold tale_readText_J22
    rw [hF, tale_readText_L25, bq_gt (by decide) (by decide), if_neg (by decide), bq_eq (by decide) (by decide), if_pos rfl, he]
    refine Or.inl ⟨C0, N0, 0, p', skB T n 0, 0, rfl, ?_, by decide, FrT.rf, FrN.rf, hD⟩
    rw [g]; rfl
  · rw [decide_eq_false g, cn_f, if_neg (show ¬ ((skB T n 0 : Nat) : Int) = n by omega)]
    unfold tale_readText_J22
    exact tale_loop hC hN 14 0 FU FU (skB T n 0) 0 (skB T n 0) C0 N0 rfl (FU_gt (by decide)) (FU_gt (by decide)) a1.2 FrT.rf FrN.rf hD
theorem WF_4 {k : Nat} {w : Nat → Int} (hW : WF k w) (h : w 4 < 12) : WF k (up w 4 (w 4 + 1)) ∧ (∀ p j : Int, 0 ≤ p → 0 ≤ j → oP (up w 4 (w 4 + 1)) p j = oP w p j) := by
  have o : ∀ j : Nat, j ≠ 4 → up w 4 (w 4 + 1) j = w j := fun j hj => up_ne hj
  have oPe : ∀ p j : Int, 0 ≤ p → 0 ≤ j → oP (up w 4 (w 4 + 1)) p j = oP w p j := fun p j a b => o _ (by omega)
  refine ⟨?_, oPe⟩
  obtain ⟨hC, hPP, hT, hR, hB, hG, hL⟩ := hW
  obtain ⟨c0, c1, c2, c3, c4, c5, c6, c7, c8, c9, c10⟩ := hC
  have e4 : up w 4 (w 4 + 1) 4 = w 4 + 1 := up_eq
  have oTe : ∀ p j : Int, 0 ≤ p → 0 ≤ j → oT (up w 4 (w 4 + 1)) p j = oT w p j := fun p j a b => o _ (by omega)
  have oRe : ∀ p j : Int, 0 ≤ p → 0 ≤ j → oR (up w 4 (w 4 + 1)) p j = oR w p j := fun p j a b => o _ (by omega)
  have oBe : ∀ p j : Int, 0 ≤ p → 0 ≤ j → oB (up w 4 (w 4 + 1)) p j = oB w p j := fun p j a b => o _ (by omega)
  refine ⟨?_, fun i hi hi2 => ?_, fun i hi hi2 => ?_, fun i hi hi2 => ?_, fun i hi hi2 => ?_, ⟨fun i hi hi2 h6 => ?_, fun i q hi hi2 hq hq2 h6 he => ?_⟩, ?_, fun j hj hj2 => ?_⟩
  · unfold WC
    rw [e4, o 0 (by decide), o 1 (by decide), o 2 (by decide), o 3 (by decide), o 5 (by decide), o 6 (by decide), o 7 (by decide), o 8 (by decide), o 9 (by decide)]
    omega
  · rw [o 0 (by decide)] at hi2
    rw [o 1 (by decide), oPe _ _ hi (by decide), oPe _ _ hi (by decide), oPe _ _ hi (by decide), oPe _ _ hi (by decide), oPe _ _ hi (by decide), oPe _ _ hi (by decide), oPe _ _ hi (by decide), oPe _ _ hi (by decide)]
    exact hPP i hi hi2
  · rw [o 1 (by decide)] at hi2
    rw [o 0 (by decide), oTe _ _ hi (by decide), oTe _ _ hi (by decide), oTe _ _ hi (by decide), oTe _ _ hi (by decide)]
    exact hT i hi hi2
  · rw [o 2 (by decide)] at hi2
    rw [o 0 (by decide), oRe _ _ hi (by decide), oRe _ _ hi (by decide), oRe _ _ hi (by decide), oRe _ _ hi (by decide)]
    exact hR i hi hi2
  · rw [o 3 (by decide)] at hi2
    rw [o 0 (by decide), o 6 (by decide), oBe _ _ hi (by decide), oBe _ _ hi (by decide), oBe _ _ hi (by decide), oBe _ _ hi (by decide), oBe _ _ hi (by decide), oBe _ _ hi (by decide)]
    exact hB i hi hi2
  · rw [o 0 (by decide)] at hi2
    rw [oPe _ _ hi (by decide)] at h6 ⊢
    rw [oPe _ _ hi (by decide), oTe _ _ h6 (by decide), oTe _ _ h6 (by decide)]
    exact hG.1 i hi hi2 h6
  · rw [o 0 (by decide)] at hi2 hq2
    rw [oPe _ _ hi (by decide)] at h6 he
    rw [oPe _ _ hq (by decide)] at he
    exact hG.2 i q hi hi2 hq hq2 h6 he
  · rw [o 9 (by decide), hL.1]
    refine congrArg (fun x : Nat => (x : Int)) (cnt_cg 10 fun i _ => ?_)
    unfold paB
    rw [o 0 (by decide), oPe _ _ (by omega) (by decide)]
  · rw [o 9 (by decide)] at hj2
    rw [o 6 (by decide), o _ (by omega), o _ (by omega), o _ (by omega)]
    exact hL.2 j hj hj2
theorem La_4 {w : Nat → Int} {C : MM} (hL : LandR 29 w C) : LandR 29 (up w 4 (w 4 + 1)) (mU C 29 4 (w 4 + 1)) := by
  have o : ∀ j : Nat, j ≠ 4 → up w 4 (w 4 + 1) j = w j := fun j hj => up_ne hj
  have oPe : ∀ p j : Int, 0 ≤ p → 0 ≤ j → oP (up w 4 (w 4 + 1)) p j = oP w p j := fun p j a b => o _ (by omega)
  have oTe : ∀ p j : Int, 0 ≤ p → 0 ≤ j → oT (up w 4 (w 4 + 1)) p j = oT w p j := fun p j a b => o _ (by omega)
  have oRe : ∀ p j : Int, 0 ≤ p → 0 ≤ j → oR (up w 4 (w 4 + 1)) p j = oR w p j := fun p j a b => o _ (by omega)
  have oBe : ∀ p j : Int, 0 ≤ p → 0 ≤ j → oB (up w 4 (w 4 + 1)) p j = oB w p j := fun p j a b => o _ (by omega)
  obtain ⟨⟨a0, a1, a2, a3, a4⟩, a5, a6, a7, a8, a9, a10⟩ := hL
  have m : ∀ j, j ≠ 4 → (mU C 29 4 (w 4 + 1)) 29 j = C 29 j := fun j hj => by rw [mU_ap, if_pos rfl, if_neg hj]
  have mo : ∀ a, a ≠ 29 → (mU C 29 4 (w 4 + 1)) a = C a := fun a ha => mU_ne ha
  refine ⟨⟨by rw [m 0 (by decide), o 0 (by decide)]; exact a0, by rw [m 1 (by decide), o 1 (by decide)]; exact a1, by rw [m 2 (by decide), o 2 (by decide)]; exact a2, by rw [m 3 (by decide), o 3 (by decide)]; exact a3, by rw [mU_ap, if_pos rfl, if_pos rfl, up_eq]⟩, ?_, ?_, fun i hi hi2 hk => ?_, fun i hi hi2 => ?_, fun i hi hi2 => ?_, fun i hi hi2 => ?_⟩
  · rw [m 5 (by decide), a5]
    refine congrArg (fun x : Nat => (x : Int)) (bset_cg 10 fun i _ => ?_)
    unfold kpB
    rw [o 0 (by decide), oPe _ _ (by omega) (by decide)]
  · rw [m 6 (by decide), a6]
    refine congrArg (fun x : Nat => (x : Int)) (bset_cg 10 fun i _ => ?_)
    unfold tkB
    rw [o 0 (by decide), oPe _ _ (by omega) (by decide)]
  · rw [o 0 (by decide)] at hi2
    rw [oPe _ _ hi (by decide)] at hk
    rw [mo _ (by decide), mo _ (by decide), mo _ (by decide), mo _ (by decide), mo _ (by decide), oPe _ _ hi (by decide), oPe _ _ hi (by decide), oPe _ _ hi (by decide), oPe _ _ hi (by decide), oPe _ _ hi (by decide)]
    exact a7 i hi hi2 hk
  · rw [o 1 (by decide)] at hi2
    rw [mo _ (by decide), mo _ (by decide), oTe _ _ hi (by decide), oTe _ _ hi (by decide)]
    exact a8 i hi hi2
  · rw [o 2 (by decide)] at hi2
    rw [mo _ (by decide), mo _ (by decide), mo _ (by decide), oRe _ _ hi (by decide), oRe _ _ hi (by decide), oRe _ _ hi (by decide), oRe _ _ hi (by decide)]
    exact a9 i hi hi2
  · rw [o 3 (by decide)] at hi2
    rw [mo _ (by decide), mo _ (by decide), mo _ (by decide), mo _ (by decide), mo _ (by decide), oBe _ _ hi (by decide), oBe _ _ hi (by decide), oBe _ _ hi (by decide), oBe _ _ hi (by decide), oBe _ _ hi (by decide)]
    exact a10 i hi hi2
theorem Jn_4 {w : Nat → Int} {C C' : MM} (hJ : JnyR 49 w C) (g : ∀ a, 49 ≤ a → a ≤ 54 → C' a = C a) : JnyR 49 (up w 4 (w 4 + 1)) C' := by
  have o : ∀ j : Nat, j ≠ 4 → up w 4 (w 4 + 1) j = w j := fun j hj => up_ne hj
  have oTe : ∀ p j : Int, 0 ≤ p → 0 ≤ j → oT (up w 4 (w 4 + 1)) p j = oT w p j := fun p j a b => o _ (by omega)
  have oPe : ∀ p j : Int, 0 ≤ p → 0 ≤ j → oP (up w 4 (w 4 + 1)) p j = oP w p j := fun p j a b => o _ (by omega)
  have oBe : ∀ p j : Int, 0 ≤ p → 0 ≤ j → oB (up w 4 (w 4 + 1)) p j = oB w p j := fun p j a b => o _ (by omega)
  obtain ⟨⟨j0, j1, j2, j8⟩, j3, j4, j5, j6, j7, j9, j10, j11, j12⟩ := hJ
  have sb : ∀ (y : Int) i, stB' (up w 4 (w 4 + 1)) y i = stB' w y i := fun y i => by
    unfold stB'
    rw [o 1 (by decide), oTe _ _ (by omega) (by decide)]
  have pa : ∀ i, paB (up w 4 (w 4 + 1)) i = paB w i := fun i => by
    unfold paB
    rw [o 0 (by decide), oPe _ _ (by omega) (by decide)]
  have fb : ∀ i, frB (up w 4 (w 4 + 1)) i = frB w i := fun i => by
    unfold frB
    rw [o 3 (by decide), oBe _ _ (by omega) (by decide)]
  have g49 : C' 49 = C 49 := g 49 (by decide) (by decide)
  refine ⟨⟨by rw [g49, o 7 (by decide)]; exact j0, by rw [g49, o 6 (by decide)]; exact j1, by rw [g49, o 8 (by decide)]; exact j2, by rw [g49, o 9 (by decide)]; exact j8⟩, by rw [g49, j3, bset_cg 10 (fun i _ => sb 2 i)], by rw [g49, j4, bset_cg 10 (fun i _ => sb 3 i)], by rw [g49, j5, bset_cg 10 (fun i _ => sb 1 i)], by rw [g49, j6, bset_cg 10 (fun i _ => pa i)], by rw [g49, j7, bset_cg 7 (fun i _ => fb i)], fun i hi hi2 => ?_, fun i hi hi2 => ?_, fun b hb hb2 h5 => ?_, fun q hq hq2 => ?_⟩
  · rw [o 1 (by decide)] at hi2
    rw [g (49 + 1) (by decide) (by decide), oTe _ _ hi (by decide)]
    exact j9 i hi hi2
  · rw [o 1 (by decide)] at hi
    rw [g (49 + 1) (by decide) (by decide)]
    exact j10 i hi hi2
  · rw [o 3 (by decide)] at hb2
    rw [oBe _ _ hb (by decide)] at h5 ⊢
    rw [g (49 + 2) (by decide) (by decide)]
    exact j11 b hb hb2 h5
  · rw [o 9 (by decide)] at hq2
    rw [o _ (by omega), o _ (by omega), o _ (by omega), g (49 + 3) (by decide) (by decide), g (49 + 4) (by decide) (by decide), g (49 + 5) (by decide) (by decide)]
    exact j12 q hq hq2
