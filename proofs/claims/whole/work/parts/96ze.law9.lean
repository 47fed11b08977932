/-! ===== LAW as a call: what stands after it ===== -/
theorem WF_5 {k : Nat} {w : Nat → Int} (hW : WF k w) : WF k (up w 5 1) ∧ (∀ p j : Int, 0 ≤ p → 0 ≤ j → oP (up w 5 1) p j = oP w p j) := by
  have o : ∀ j : Nat, j ≠ 5 → up w 5 1 j = w j := fun j hj => up_ne hj
  have oPe : ∀ p j : Int, 0 ≤ p → 0 ≤ j → oP (up w 5 1) p j = oP w p j := fun p j a b => o _ (by omega)
  refine ⟨?_, oPe⟩
  obtain ⟨hC, hPP, hT, hR, hB, hG, hL⟩ := hW
  obtain ⟨c0, c1, c2, c3, c4, c5, c6, c7, c8, c9, c10⟩ := hC
  have e4 : up w 5 1 5 = 1 := up_eq
  have oTe : ∀ p j : Int, 0 ≤ p → 0 ≤ j → oT (up w 5 1) p j = oT w p j := fun p j a b => o _ (by omega)
  have oRe : ∀ p j : Int, 0 ≤ p → 0 ≤ j → oR (up w 5 1) p j = oR w p j := fun p j a b => o _ (by omega)
  have oBe : ∀ p j : Int, 0 ≤ p → 0 ≤ j → oB (up w 5 1) p j = oB w p j := fun p j a b => o _ (by omega)
  refine ⟨?_, fun i hi hi2 => ?_, fun i hi hi2 => ?_, fun i hi hi2 => ?_, fun i hi hi2 => ?_, ⟨fun i hi hi2 h6 => ?_, fun i q hi hi2 hq hq2 h6 he => ?_⟩, ?_, fun j hj hj2 => ?_⟩
  · unfold WC
    rw [e4, o 0 (by decide), o 1 (by decide), o 2 (by decide), o 3 (by decide), o 4 (by decide), o 6 (by decide), o 7 (by decide), o 8 (by decide), o 9 (by decide)]
    omega
  · rw [o 0 (by decide)] at hi2
    rw [o 1 (by decide), oPe _ _ hi (by decide), oPe _ _ hi (by decide), oPe _ _ hi (by decide), oPe _ _ hi (by decide), oPe _ _ hi (by decide), oPe _ _ hi (by decide), oPe _ _ hi (by decide), oPe _ _ hi (by decide)]
    exact hPP i hi hi2
  · rw [o 1 (by decide)] at hi2
    rw [o 0 (by decide), oTe _ _ hi (by decide), oTe _ _ hi (by decide), oTe _ _ hi (by decide), oTe _ _ hi (by decide)]
    exact hT i hi hi2
  · rw [o 2 (by decide)] at hi2
    rw [o 0 (by decide), oRe _ _ hi (by decide), oRe _ _ hi (by decide), oRe _ _ hi (by decide), oRe _ _ hi (by decide)]
    exact hR i hi hi2
  · rw [o 3 (by decide)] at hi2
    rw [o 0 (by decide), o 6 (by decide), oBe _ _ hi (by decide), oBe _ _ hi (by decide), oBe _ _ hi (by decide), oBe _ _ hi (by decide), oBe _ _ hi (by decide), oBe _ _ hi (by decide)]
    exact hB i hi hi2
  · rw [o 0 (by decide)] at hi2
    rw [oPe _ _ hi (by decide)] at h6 ⊢
    rw [oPe _ _ hi (by decide), oTe _ _ h6 (by decide), oTe _ _ h6 (by decide)]
    exact hG.1 i hi hi2 h6
  · rw [o 0 (by decide)] at hi2 hq2
    rw [oPe _ _ hi (by decide)] at h6 he
    rw [oPe _ _ hq (by decide)] at he
    exact hG.2 i q hi hi2 hq hq2 h6 he
  · rw [o 9 (by decide), hL.1]
    refine congrArg (fun x : Nat => (x : Int)) (cnt_cg 10 fun i _ => ?_)
    unfold paB
    rw [o 0 (by decide), oPe _ _ (by omega) (by decide)]
  · rw [o 9 (by decide)] at hj2
    rw [o 6 (by decide), o _ (by omega), o _ (by omega), o _ (by omega)]
    exact hL.2 j hj hj2
theorem La_5 {w : Nat → Int} {C : MM} (hL : LandR 3 w C) : LandR 3 (up w 5 1) C := by
  have o : ∀ j : Nat, j ≠ 5 → up w 5 1 j = w j := fun j hj => up_ne hj
  have oPe : ∀ p j : Int, 0 ≤ p → 0 ≤ j → oP (up w 5 1) p j = oP w p j := fun p j a b => o _ (by omega)
  have oTe : ∀ p j : Int, 0 ≤ p → 0 ≤ j → oT (up w 5 1) p j = oT w p j := fun p j a b => o _ (by omega)
  have oRe : ∀ p j : Int, 0 ≤ p → 0 ≤ j → oR (up w 5 1) p j = oR w p j := fun p j a b => o _ (by omega)
  have oBe : ∀ p j : Int, 0 ≤ p → 0 ≤ j → oB (up w 5 1) p j = oB w p j := fun p j a b => o _ (by omega)
  obtain ⟨⟨a0, a1, a2, a3, a4⟩, a5, a6, a7, a8, a9, a10⟩ := hL
  refine ⟨⟨by rw [o 0 (by decide)]; exact a0, by rw [o 1 (by decide)]; exact a1, by rw [o 2 (by decide)]; exact a2, by rw [o 3 (by decide)]; exact a3, by rw [o 4 (by decide)]; exact a4⟩, ?_, ?_, fun i hi hi2 hk => ?_, fun i hi hi2 => ?_, fun i hi hi2 => ?_, fun i hi hi2 => ?_⟩
  · rw [a5]
    refine congrArg (fun x : Nat => (x : Int)) (bset_cg 10 fun i _ => ?_)
    unfold kpB
    rw [o 0 (by decide), oPe _ _ (by omega) (by decide)]
  · rw [a6]
    refine congrArg (fun x : Nat => (x : Int)) (bset_cg 10 fun i _ => ?_)
    unfold tkB
    rw [o 0 (by decide), oPe _ _ (by omega) (by decide)]
  · rw [o 0 (by decide)] at hi2
    rw [oPe _ _ hi (by decide)] at hk
    rw [oPe _ _ hi (by decide), oPe _ _ hi (by decide), oPe _ _ hi (by decide), oPe _ _ hi (by decide), oPe _ _ hi (by decide)]
    exact a7 i hi hi2 hk
  · rw [o 1 (by decide)] at hi2
    rw [oTe _ _ hi (by decide), oTe _ _ hi (by decide)]
    exact a8 i hi hi2
  · rw [o 2 (by decide)] at hi2
    rw [oRe _ _ hi (by decide), oRe _ _ hi (by decide), oRe _ _ hi (by decide), oRe _ _ hi (by decide)]
    exact a9 i hi hi2
  · rw [o 3 (by decide)] at hi2
    rw [oBe _ _ hi (by decide), oBe _ _ hi (by decide), oBe _ _ hi (by decide), oBe _ _ hi (by decide), oBe _ _ hi (by decide)]
    exact a10 i hi hi2
theorem Jn_5 {w : Nat → Int} {C C' : MM} (hJ : JnyR 23 w C) (g : ∀ a, 23 ≤ a → a ≤ 28 → C' a = C a) : JnyR 23 (up w 5 1) C' := by
  have o : ∀ j : Nat, j ≠ 5 → up w 5 1 j = w j := fun j hj => up_ne hj
  have oTe : ∀ p j : Int, 0 ≤ p → 0 ≤ j → oT (up w 5 1) p j = oT w p j := fun p j a b => o _ (by omega)
  have oPe : ∀ p j : Int, 0 ≤ p → 0 ≤ j → oP (up w 5 1) p j = oP w p j := fun p j a b => o _ (by omega)
  have oBe : ∀ p j : Int, 0 ≤ p → 0 ≤ j → oB (up w 5 1) p j = oB w p j := fun p j a b => o _ (by omega)
  obtain ⟨⟨j0, j1, j2, j8⟩, j3, j4, j5, j6, j7, j9, j10, j11, j12⟩ := hJ
  have sb : ∀ (y : Int) i, stB' (up w 5 1) y i = stB' w y i := fun y i => by
    unfold stB'
    rw [o 1 (by decide), oTe _ _ (by omega) (by decide)]
  have pa : ∀ i, paB (up w 5 1) i = paB w i := fun i => by
    unfold paB
    rw [o 0 (by decide), oPe _ _ (by omega) (by decide)]
  have fb : ∀ i, frB (up w 5 1) i = frB w i := fun i => by
    unfold frB
    rw [o 3 (by decide), oBe _ _ (by omega) (by decide)]
  have g23 : C' 23 = C 23 := g 23 (by decide) (by decide)
  refine ⟨⟨by rw [g23, o 7 (by decide)]; exact j0, by rw [g23, o 6 (by decide)]; exact j1, by rw [g23, o 8 (by decide)]; exact j2, by rw [g23, o 9 (by decide)]; exact j8⟩, by rw [g23, j3, bset_cg 10 (fun i _ => sb 2 i)], by rw [g23, j4, bset_cg 10 (fun i _ => sb 3 i)], by rw [g23, j5, bset_cg 10 (fun i _ => sb 1 i)], by rw [g23, j6, bset_cg 10 (fun i _ => pa i)], by rw [g23, j7, bset_cg 7 (fun i _ => fb i)], fun i hi hi2 => ?_, fun i hi hi2 => ?_, fun b hb hb2 h5 => ?_, fun q hq hq2 => ?_⟩
  · rw [o 1 (by decide)] at hi2
    rw [g (23 + 1) (by decide) (by decide), oTe _ _ hi (by decide)]
    exact j9 i hi hi2
  · rw [o 1 (by decide)] at hi
    rw [g (23 + 1) (by decide) (by decide)]
    exact j10 i hi hi2
  · rw [o 3 (by decide)] at hb2
    rw [oBe _ _ hb (by decide)] at h5 ⊢
    rw [g (23 + 2) (by decide) (by decide)]
    exact j11 b hb hb2 h5
  · rw [o 9 (by decide)] at hq2
    rw [o _ (by omega), o _ (by omega), o _ (by omega), g (23 + 3) (by decide) (by decide), g (23 + 4) (by decide) (by decide), g (23 + 5) (by decide) (by decide)]
    exact j12 q hq hq2
theorem tape_TU {M N : MM} {n : Nat} (t3 : n ≤ 400) (t6 : ∀ j, j < n → 0 ≤ M 2 j ∧ M 2 j < 256 ∧ M 170 j = if M 2 j < 128 then M 2 j else M 2 j - 256) (h : N 170 = M 170) : TN (M 2) n (usN N n) := ⟨rfl, t3, fun j hj => by rw [usN_ne (by decide), h]; exact (t6 j hj).2.2, fun j hj => ⟨(t6 j hj).1, (t6 j hj).2.1⟩⟩
/-- the draft of the law, copied, is the law -/
theorem law_copied {X N : MM} {j s : Nat} {w : Nat → Int} {C : MM} (h : TxL X N j s) (hj : j ≤ 12) (hs : s ≤ 400) (w5 : w 5 = 1) (w266 : w 266 = (j : Int)) (wk' : ∀ i, 267 ≤ i → i < 1115 → w i = N 166 (849 + i)) (c0 : C 17 0 = X 43 0) (c1 : ∀ i, i < 12 → C 18 i = X 44 i ∧ C 19 i = X 45 i) (c2 : ∀ i, i < 400 → C 20 i = X 46 i) : LawR 17 w C := by
  obtain ⟨h1, h2, h3, h4, h5, h6⟩ := h
  refine Or.inr ⟨w5, by rw [c0, h1, w266], by rw [w266]; omega, fun l hl => ?_⟩
  rw [w266] at hl
  obtain ⟨u1, a, b, u2, u3, u4, u5, u6, u7, u8⟩ := h6 l (by omega)
  have e1 : w (267 + 4 * l) = N 166 (1116 + 4 * l) := by rw [wk' _ (by omega) (by omega), show 849 + (267 + 4 * l) = 1116 + 4 * l by omega]
  have e2 : w (268 + 4 * l) = N 166 (1117 + 4 * l) := by rw [wk' _ (by omega) (by omega), show 849 + (268 + 4 * l) = 1117 + 4 * l by omega]
  have e3 : w (269 + 4 * l) = (a : Int) := by rw [wk' _ (by omega) (by omega), show 849 + (269 + 4 * l) = 1118 + 4 * l by omega, u2]
  have e4 : w (270 + 4 * l) = (b : Int) := by rw [wk' _ (by omega) (by omega), show 849 + (270 + 4 * l) = 1119 + 4 * l by omega, u3]
  have eS : lSt w l = a := by unfold lSt; rw [e3, Int.toNat_natCast]
  have eN : lEn w l = b := by unfold lEn; rw [e4, Int.toNat_natCast]
  have x1 : ∀ i, i < 400 → w (315 + 2 * i) = N 166 (1164 + 2 * i) := fun i hi => by rw [wk' _ (by omega) (by omega), show 849 + (315 + 2 * i) = 1164 + 2 * i by omega]
  have x2 : ∀ i, i < 400 → w (316 + 2 * i) = N 166 (1165 + 2 * i) := fun i hi => by rw [wk' _ (by omega) (by omega), show 849 + (316 + 2 * i) = 1165 + 2 * i by omega]
  refine ⟨?_, ?_, ?_, by rw [e3, e4]; omega, fun i hi hi2 => ?_, ?_⟩
  · show (w (267 + 4 * l) = 1 ∧ (0 ≤ w (268 + 4 * l) ∧ w (268 + 4 * l) ≤ 9) ∧ C 18 l = w (268 + 4 * l)) ∨ (w (267 + 4 * l) = 0 ∧ w (268 + 4 * l) = 1 ∧ C 18 l = -1)
    rw [e1, e2, (c1 l (by omega)).1]
    exact u1
  · show w (269 + 4 * l) = if l = 0 then 0 else C 19 (l - 1)
    rw [e3, u4, (c1 (l - 1) (by omega)).2]
  · show w (270 + 4 * l) = C 19 l
    rw [e4, (c1 l (by omega)).2, u5]
  · rw [eS] at hi
    rw [eN] at hi2
    show cdR (C 20 i) (w (315 + 2 * i)) (w (316 + 2 * i))
    rw [c2 i (by omega), x1 i (by omega), x2 i (by omega)]
    exact h5 i (by omega)
  · rw [eS, eN]
    rcases u8 with u8 | u8
    · exact Or.inl u8
    · refine Or.inr ?_
      rw [tyR_cg' (f := fun i => N 166 (1164 + 2 * i)) (b - a) a [] (fun i g1 g2 => x1 i (by omega))]
      exact u8
