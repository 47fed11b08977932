/-! ===== ROWS that agree ===== -/
section CongRows
variable {w w' : Nat → Int} {n a : Nat} {M : MM}
theorem WC_cg (h : ∀ k, k < 266 → w' k = w k) (H : WC n w) : WC n w' := by
  unfold WC at H ⊢
  rw [h 0 (by decide), h 1 (by decide), h 2 (by decide), h 3 (by decide), h 4 (by decide), h 5 (by decide), h 6 (by decide), h 7 (by decide), h 8 (by decide), h 9 (by decide)]
  exact H
theorem WP_cg (hC : WC n w) (h : ∀ k, k < 266 → w' k = w k) (H : WP w) : WP w' := by
  intro p h0 h1
  rw [h 0 (by decide)] at h1
  have c0 := hC.1
  have e : ∀ j, 0 ≤ j → j ≤ 7 → oP w' p j = oP w p j := fun j a b => oP_cg h h0 (by omega) a b
  rw [e 0 (by decide) (by decide), e 1 (by decide) (by decide), e 2 (by decide) (by decide), e 3 (by decide) (by decide), e 4 (by decide) (by decide), e 5 (by decide) (by decide), e 6 (by decide) (by decide), e 7 (by decide) (by decide), h 1 (by decide)]
  exact H p h0 h1
theorem WT_cg (hC : WC n w) (h : ∀ k, k < 266 → w' k = w k) (H : WT w) : WT w' := by
  intro p h0 h1
  rw [h 1 (by decide)] at h1
  have c0 := hC.2.1
  have e : ∀ j, 0 ≤ j → j ≤ 3 → oT w' p j = oT w p j := fun j a b => oT_cg h h0 (by omega) a b
  rw [e 0 (by decide) (by decide), e 1 (by decide) (by decide), e 2 (by decide) (by decide), e 3 (by decide) (by decide), h 0 (by decide)]
  exact H p h0 h1
theorem WR_cg (hC : WC n w) (h : ∀ k, k < 266 → w' k = w k) (H : WR w) : WR w' := by
  intro p h0 h1
  rw [h 2 (by decide)] at h1
  have c0 := hC.2.2.1
  have e : ∀ j, 0 ≤ j → j ≤ 3 → oR w' p j = oR w p j := fun j a b => oR_cg h h0 (by omega) a b
  rw [e 0 (by decide) (by decide), e 1 (by decide) (by decide), e 2 (by decide) (by decide), e 3 (by decide) (by decide), h 0 (by decide)]
  exact H p h0 h1
theorem WB_cg (hC : WC n w) (h : ∀ k, k < 266 → w' k = w k) (H : WB w) : WB w' := by
  intro p h0 h1
  rw [h 3 (by decide)] at h1
  have c0 := hC.2.2.2.1
  have e : ∀ j, 0 ≤ j → j ≤ 5 → oB w' p j = oB w p j := fun j a b => oB_cg h h0 (by omega) a b
  rw [e 0 (by decide) (by decide), e 1 (by decide) (by decide), e 2 (by decide) (by decide), e 3 (by decide) (by decide), e 4 (by decide) (by decide), e 5 (by decide) (by decide), h 0 (by decide), h 6 (by decide)]
  exact H p h0 h1
theorem WG_cg (hC : WC n w) (hP : WP w) (h : ∀ k, k < 266 → w' k = w k) (H : WG w) : WG w' := by
  have c0 := hC.1
  have c1 := hC.2.1
  have e : ∀ p j, 0 ≤ p → p < w 0 → 0 ≤ j → j ≤ 7 → oP w' p j = oP w p j := fun p j h0 h1 a b => oP_cg h h0 (by omega) a b
  have g : ∀ p j, 0 ≤ p → p < w 1 → 0 ≤ j → j ≤ 3 → oT w' p j = oT w p j := fun p j h0 h1 a b => oT_cg h h0 (by omega) a b
  refine ⟨fun p h0 h1 => ?_, fun p q h0 h1 h2 h3 => ?_⟩
  · rw [h 0 (by decide)] at h1
    rw [e p 6 h0 h1 (by decide) (by decide), e p 7 h0 h1 (by decide) (by decide)]
    intro h6
    have := (hP p h0 h1).2.2.2.2.2.1
    rw [g _ 2 h6 (by omega) (by decide) (by decide), g _ 3 h6 (by omega) (by decide) (by decide)]
    exact H.1 p h0 h1 h6
  · rw [h 0 (by decide)] at h1 h3
    rw [e p 6 h0 h1 (by decide) (by decide), e q 6 h2 h3 (by decide) (by decide)]
    exact H.2 p q h0 h1 h2 h3
theorem paB_cg (hC : WC n w) (h : ∀ k, k < 266 → w' k = w k) (i : Nat) (hi : i < 10) : paB w' i = paB w i := by
  unfold paB
  rw [h 0 (by decide), oP_cg h (by omega) (by omega) (by decide) (by decide)]
theorem kpB_cg (hC : WC n w) (h : ∀ k, k < 266 → w' k = w k) (i : Nat) (hi : i < 10) : kpB w' i = kpB w i := by
  unfold kpB
  rw [h 0 (by decide), oP_cg h (by omega) (by omega) (by decide) (by decide)]
theorem tkB_cg (hC : WC n w) (h : ∀ k, k < 266 → w' k = w k) (i : Nat) (hi : i < 10) : tkB w' i = tkB w i := by
  unfold tkB
  rw [h 0 (by decide), oP_cg h (by omega) (by omega) (by decide) (by decide)]
theorem stB_cg (hC : WC n w) (h : ∀ k, k < 266 → w' k = w k) (z : Int) (i : Nat) (hi : i < 10) : stB' w' z i = stB' w z i := by
  unfold stB'
  rw [h 1 (by decide), oT_cg h (by omega) (by omega) (by decide) (by decide)]
theorem frB_cg (hC : WC n w) (h : ∀ k, k < 266 → w' k = w k) (i : Nat) (hi : i < 7) : frB w' i = frB w i := by
  unfold frB
  rw [h 3 (by decide), oB_cg h (by omega) (by omega) (by decide) (by decide)]
theorem WL_cg (hC : WC n w) (h : ∀ k, k < 266 → w' k = w k) (H : WL w) : WL w' := by
  have c9 := hC.2.2.2.2.2.2.2.2.2.1
  refine ⟨?_, fun k h0 h1 => ?_⟩
  · rw [h 9 (by decide), cnt_cg 10 (paB_cg hC h)]; exact H.1
  · rw [h 9 (by decide)] at h1
    rw [h _ (by omega), h _ (by omega), h _ (by omega), h 6 (by decide)]
    exact H.2 k h0 h1
theorem WF_cg (h : ∀ k, k < 266 → w' k = w k) (H : WF n w) : WF n w' := by
  obtain ⟨hC, hP, hT, hR, hB, hG, hL⟩ := H
  exact ⟨WC_cg h hC, WP_cg hC h hP, WT_cg hC h hT, WR_cg hC h hR, WB_cg hC h hB, WG_cg hC hP h hG, WL_cg hC h hL⟩
theorem LandR_cg (hC : WC n w) (h : ∀ k, k < 266 → w' k = w k) (H : LandR a w M) : LandR a w' M := by
  obtain ⟨l0, l5, l6, q1, q2, q3, q4⟩ := H
  obtain ⟨c0, c1, c2, c3, -⟩ := id hC
  refine ⟨?_, ?_, ?_, fun p h0 h1 => ?_, fun p h0 h1 => ?_, fun p h0 h1 => ?_, fun p h0 h1 => ?_⟩
  · rw [h 0 (by decide), h 1 (by decide), h 2 (by decide), h 3 (by decide), h 4 (by decide)]; exact l0
  · rw [bset_cg 10 (kpB_cg hC h)]; exact l5
  · rw [bset_cg 10 (tkB_cg hC h)]; exact l6
  · rw [h 0 (by decide)] at h1
    have e : ∀ j, 0 ≤ j → j ≤ 7 → oP w' p j = oP w p j := fun j a b => oP_cg h h0 (by omega) a b
    rw [e 0 (by decide) (by decide), e 1 (by decide) (by decide), e 2 (by decide) (by decide), e 3 (by decide) (by decide), e 4 (by decide) (by decide), e 6 (by decide) (by decide)]
    exact q1 p h0 h1
  · rw [h 1 (by decide)] at h1
    rw [oT_cg h h0 (by omega) (by decide) (by decide), oT_cg h h0 (by omega) (by decide) (by decide)]
    exact q2 p h0 h1
  · rw [h 2 (by decide)] at h1
    have e : ∀ j, 0 ≤ j → j ≤ 3 → oR w' p j = oR w p j := fun j a b => oR_cg h h0 (by omega) a b
    rw [e 0 (by decide) (by decide), e 1 (by decide) (by decide), e 2 (by decide) (by decide), e 3 (by decide) (by decide)]
    exact q3 p h0 h1
  · rw [h 3 (by decide)] at h1
    have e : ∀ j, 0 ≤ j → j ≤ 5 → oB w' p j = oB w p j := fun j a b => oB_cg h h0 (by omega) a b
    rw [e 0 (by decide) (by decide), e 1 (by decide) (by decide), e 2 (by decide) (by decide), e 3 (by decide) (by decide), e 4 (by decide) (by decide)]
    exact q4 p h0 h1
theorem JnyR_cg (hC : WC n w) (h : ∀ k, k < 266 → w' k = w k) (H : JnyR a w M) : JnyR a w' M := by
  obtain ⟨j0, j3, j4, j5, j6, j7, q1, q2, q3, q4⟩ := H
  obtain ⟨c0, c1, c2, c3, c4, c5, c6, c7, c8, c9, -⟩ := id hC
  refine ⟨?_, ?_, ?_, ?_, ?_, ?_, fun p h0 h1 => ?_, fun p h0 h1 => ?_, fun p h0 h1 => ?_, fun p h0 h1 => ?_⟩
  · rw [h 7 (by decide), h 6 (by decide), h 8 (by decide), h 9 (by decide)]; exact j0
  · rw [bset_cg 10 (stB_cg hC h 2)]; exact j3
  · rw [bset_cg 10 (stB_cg hC h 3)]; exact j4
  · rw [bset_cg 10 (stB_cg hC h 1)]; exact j5
  · rw [bset_cg 10 (paB_cg hC h)]; exact j6
  · rw [bset_cg 7 (frB_cg hC h)]; exact j7
  · rw [h 1 (by decide)] at h1
    rw [oT_cg h h0 (by omega) (by decide) (by decide)]
    exact q1 p h0 h1
  · rw [h 1 (by decide)] at h0
    exact q2 p h0 h1
  · rw [h 3 (by decide)] at h1
    rw [oB_cg h h0 (by omega) (by decide) (by decide)]
    exact q3 p h0 h1
  · rw [h 9 (by decide)] at h1
    rw [h _ (by omega), h _ (by omega), h _ (by omega)]
    exact q4 p h0 h1
theorem LawR_cg (h : ∀ k, (k = 5 ∨ 266 ≤ k ∧ k < 1115) → w' k = w k) (H : LawR a w M) : LawR a w' M := by
  rcases H with ⟨g1, g2⟩ | ⟨g1, g2, g3, g4⟩
  · exact Or.inl ⟨by rw [h 5 (by decide)]; exact g1, g2⟩
  · refine Or.inr ⟨by rw [h 5 (by decide)]; exact g1, by rw [h 266 (by decide)]; exact g2, by rw [h 266 (by decide)]; exact g3, fun l hl => ?_⟩
    rw [h 266 (by decide)] at hl
    have hl12 : l < 12 := by omega
    obtain ⟨e1, e2, e3, e4, e5, e6⟩ := g4 l hl
    have hs : lSt w' l = lSt w l := by unfold lSt; rw [h _ (by omega)]
    have he : lEn w' l = lEn w l := by unfold lEn; rw [h _ (by omega)]
    have hE : lEn w l ≤ 400 := by unfold lEn; omega
    unfold LineR
    rw [hs, he, h (267 + 4 * l) (by omega), h (268 + 4 * l) (by omega), h (269 + 4 * l) (by omega), h (270 + 4 * l) (by omega)]
    refine ⟨e1, e2, e3, e4, fun i g5 g6 => ?_, ?_⟩
    · rw [h (315 + 2 * i) (by omega), h (316 + 2 * i) (by omega)]
      exact e5 i g5 g6
    · rcases e6 with e6 | e6
      · exact Or.inl e6
      · refine Or.inr ?_
        rw [← e6]
        have key : ∀ m i st, i + m ≤ 400 → tyR (fun i => w' (315 + 2 * i)) m i st = tyR (fun i => w (315 + 2 * i)) m i st := by
          intro m
          induction m with
          | zero => intro i st _; rfl
          | succ m ih =>
            intro i st hi
            show (ty1 (w' (315 + 2 * i)) st).bind (tyR (fun i => w' (315 + 2 * i)) m (i + 1)) = (ty1 (w (315 + 2 * i)) st).bind (tyR (fun i => w (315 + 2 * i)) m (i + 1))
            rw [h (315 + 2 * i) (by omega)]
            congr 1
            funext st'
            exact ih (i + 1) st' (by omega)
        refine key _ _ _ ?_
        unfold lEn lSt at *
        omega
end CongRows
theorem fl_run {L : Nat → Int → MM → OR} {K : MM → OR} {M : MM} {a o N : Nat} {f : Nat → Int} (hs : ∀ n (i : Nat), i < N → L (n + 1) (i : Int) (flM M a o (o + i) f) = L n ((i : Int) + 1) (mU (flM M a o (o + i) f) a (o + i) (f i))) (he : ∀ n, L (n + 1) (N : Int) (flM M a o (o + N) f) = K (flM M a o (o + N) f)) :
    ∀ k F i, k + i = N → k < F → L F (i : Int) (flM M a o (o + i) f) = K (flM M a o (o + N) f)
  | 0, F, i, h, hF => by
    obtain ⟨n, rfl⟩ : ∃ n, F = n + 1 := ⟨F - 1, by omega⟩
    obtain rfl : i = N := by omega
    exact he n
  | k + 1, F, i, h, hF => by
    obtain ⟨n, rfl⟩ : ∃ n, F = n + 1 := ⟨F - 1, by omega⟩
    rw [hs n i (by omega), flM_step (by omega) (by rw [show o + i - o = i by omega]), show (i : Int) + 1 = ((i + 1 : Nat) : Int) by omega]
    exact fl_run hs he k n (i + 1) (by omega) (by omega)
theorem fl_run0 {L : Nat → Int → MM → OR} {K : MM → OR} {M : MM} {a o N F : Nat} {f : Nat → Int} (hF : N < F) (hs : ∀ n (i : Nat), i < N → L (n + 1) (i : Int) (flM M a o (o + i) f) = L n ((i : Int) + 1) (mU (flM M a o (o + i) f) a (o + i) (f i))) (he : ∀ n, L (n + 1) (N : Int) (flM M a o (o + N) f) = K (flM M a o (o + N) f)) : L F 0 M = K (flM M a o (o + N) f) := by
  have := fl_run hs he N F 0 rfl hF
  rw [show o + 0 = o from rfl, flM_0] at this
  exact this
theorem flM_ap {M : MM} {a o m : Nat} {f : Nat → Int} {j : Nat} : flM M a o m f a j = if o ≤ j ∧ j < m then f (j - o) else M a j := by
  unfold flM
  rw [mV_eq]
