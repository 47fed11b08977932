/-! ===== THE LAW: behind a wrong byte; one reader after another ===== -/
def nOK (C : MM) : Prop := 0 ≤ C 43 4 ∧ C 43 4 ≤ 400
def WQ (T : Nat → Int) (n : Nat) (b : Int) (C : MM) (X : OR) : Prop := TC T n C → nOK C → ∃ C' p' l', X = some (rV, tpT C' p' l' b) ∧ FrT C C' ∧ p' ≤ n ∧ nOK C'
section WQ
variable {T : Nat → Int} {n p l : Nat} {b : Int} {C : MM} {X : OR}
theorem WQ_ret (hp : p ≤ n) : WQ T n b C (some (rV, tpT C p l b)) := fun _ h => ⟨C, p, l, rfl, FrT.rf, hp, h⟩
theorem WQ_num {k : Int → MM → OR} {lo hi : Int} (hb : I32 b) (hne : b ≠ -1) (hp : p ≤ n) (H : ∀ p', p' ≤ n → WQ T n b C (k lo (tpT C p' l b))) : WQ T n b C (bI (tape_needNumber lo hi (tpT C p l b)) k) := fun h => by
  rw [num_w h hp hb hne]
  exact H _ (skB_le hp).2 h
theorem WQ_took {k : Int → MM → OR} {t : Nat} (hb : I32 b) (hne : b ≠ -1) (H : WQ T n b C (k 0 (tpT C p l b))) : WQ T n b C (bI (tape_tookWord t (tpT C p l b)) k) := fun h => by
  rw [word_w hb hne]
  exact H h
theorem WQ_mark {k : Int → MM → OR} {c : Int} (hb : I32 b) (hne : b ≠ -1) (hc : I32 c) (hp : p ≤ n) (H : ∀ p', p' ≤ n → WQ T n b C (k 0 (tpT C p' l b))) : WQ T n b C (bI (tape_tookMark c (tpT C p l b)) k) := fun h => by
  rw [mark_b h hp hb hc, if_neg (fun g => hne g.1)]
  exact H _ (skB_le hp).2 h
theorem WQ_fail {k : MM → OR} (hb : I32 b) (hne : b ≠ -1) (hp : p ≤ n) (H : ∀ p', p' ≤ n → WQ T n b C (k (tpT C p' l b))) : WQ T n b C (bV (tape_fail (tpT C p l b)) k) := fun h => by
  rw [fail_b h hp hb, if_neg hne]
  exact H _ (skB_le hp).2 h
theorem WQ_digit {k : Int → MM → OR} (hb : I32 b) (hne : b ≠ -1) (hp : p ≤ n) (H : ∀ p', p' ≤ n → WQ T n b C (k 0 (tpT C p' l b))) : WQ T n b C (bI (tape_nextIsDigit (tpT C p l b)) k) := fun h => by
  rw [digit_b h hp hb, decide_eq_false hne, Bool.false_and]
  exact H _ (skB_le hp).2 h
theorem WQ_fr {C0 : MM} (h : FrT C0 C) (h2 : nOK C0 → nOK C) (H : WQ T n b C X) : WQ T n b C0 X := fun h0 h1 => by
  obtain ⟨C', p', l', a1, a2, a3⟩ := H (h.t h0) (h2 h1)
  exact ⟨C', p', l', a1, h.tr a2, a3⟩
theorem WQ_app {k : MM → OR} {c : Int} (H : ∀ C', nOK C' → FrT C C' → WQ T n b C' (k (tpT C' p l b))) : WQ T n b C (bV (law_append 43 c (tpT C p l b)) k) := fun h h2 => by
  have e1 : (tpT C p l b) 43 4 = C 43 4 := by rw [cT_ne (by decide)]
  by_cases g : C 43 4 < 400
  · obtain ⟨s, hs⟩ : ∃ s : Nat, C 43 4 = (s : Int) := ⟨(C 43 4).toNat, by have := h2.1; omega⟩
    have g2 : nOK (aqC C s c) := by
      unfold nOK aqC
      rw [mU_eq, up_eq]
      omega
    rw [app_b hs (by omega)]
    obtain ⟨C', p', l', a1, a2, a3⟩ := H _ g2 FrT_ap (FrT_ap.t h) g2
    exact ⟨C', p', l', a1, FrT_ap.tr a2, a3⟩
  · have : bV (law_append 43 c (tpT C p l b)) k = k (tpT C p l b) := by
      unfold law_append
      rw [e1, bq_ge (by have := h2; unfold nOK at this; omega) (by decide), if_pos (by omega), bV_V]
    rw [this]
    exact H C h2 FrT.rf h h2
theorem WQ_bind {X1 : OR} {k : MM → OR} (H1 : WQ T n b C X1) (H : ∀ C1 p1 l1, FrT C C1 → p1 ≤ n → WQ T n b C1 (k (tpT C1 p1 l1 b))) : WQ T n b C (bV X1 k) := fun h h2 => by
  obtain ⟨C1, p1, l1, a1, a2, a3, a4⟩ := H1 h h2
  rw [a1, bV_V]
  obtain ⟨C', p', l', b1, b2, b3⟩ := H C1 p1 l1 a2 a3 (a2.t h) a4
  exact ⟨C', p', l', b1, a2.tr b2, b3⟩
theorem WQ_eq0 {Y Z : OR} (H : WQ T n b C Y) : WQ T n b C (bif cmpB .eq 0 0 then Y else Z) := by
  rw [bq_eq (by decide) (by decide), if_pos rfl]
  exact H
theorem WQ_ne0 {Y Z : OR} (H : WQ T n b C Z) : WQ T n b C (bif cmpB .ne 0 0 then Y else Z) := by
  rw [bq_ne (by decide) (by decide), if_pos rfl]
  exact H
theorem WQ_part (hb : I32 b) (hne : b ≠ -1) (hp : p ≤ n) : WQ T n b C (lawr_readPart (tpT C p l b)) := by
  unfold lawr_readPart
  exact WQ_digit hb hne hp fun p1 h1 => WQ_eq0 (WQ_took hb hne (WQ_eq0 (WQ_took hb hne (WQ_eq0 (WQ_took hb hne (WQ_eq0 (WQ_took hb hne (WQ_eq0 (WQ_took hb hne (WQ_eq0 (WQ_took hb hne (WQ_eq0 (WQ_took hb hne (WQ_eq0 (WQ_fail hb hne h1 fun p2 h2 => WQ_ret h2))))))))))))))) 
theorem WQ_sumL {K : MM → OR} {F : Nat} {v : Int} (hv : I32 v) (hb : I32 b) (hne : b ≠ -1) (hp : p ≤ n) (H : ∀ p', p' ≤ n → WQ T n b C (K (tpT C p' l b))) : WQ T n b C (lawr_readSum_L6 K (F + 1) v (tpT C p l b)) := by
  rw [lawr_readSum_L6, bq_ge hv (by decide)]
  by_cases g : (400 : Int) ≤ v
  · rw [if_pos g]; exact H p hp
  · rw [if_neg g]
    exact WQ_mark hb hne (by decide) hp fun p1 h1 => WQ_eq0 (H p1 h1)
theorem FU_s : ∃ F, FU = F + 1 := ⟨FU - 1, by have := FU_gt (n := 1) (by decide); omega⟩
theorem WQ_sum (hb : I32 b) (hne : b ≠ -1) (hp : p ≤ n) : WQ T n b C (lawr_readSum (tpT C p l b)) := by
  obtain ⟨F, hF⟩ := FU_s
  unfold lawr_readSum
  refine WQ_bind (WQ_part hb hne hp) fun C1 p1 l1 f1 h1 => ?_
  rw [hF]
  exact WQ_sumL (by decide) hb hne h1 fun p2 h2 => WQ_ret h2
theorem cmp_w (h : TC T n C) (hb : I32 b) (hne : b ≠ -1) (hp : p ≤ n) : ∃ p', p' ≤ n ∧ lawr_readComparison (tpT C p l b) = some (rI 1013, tpT C p' l b) := by
  have h1 := skB_le (T := T) hp
  have h2 := skB_le (T := T) h1.2
  refine ⟨_, (skB_le (T := T) h2.2).2, ?_⟩
  unfold lawr_readComparison
  rw [mark_b h hp hb (by decide), if_neg (fun g => hne g.1), bq_eq (by decide) (by decide), if_pos rfl, mark_b h h1.2 hb (by decide), if_neg (fun g => hne g.1), bq_ne (by decide) (by decide), if_pos rfl, fail_b h h2.2 hb, if_neg hne]
theorem WQ_atom {R : Int → MM → OR} {v : Int} (hb : I32 b) (hne : b ≠ -1) (hp : p ≤ n) : WQ T n b C (lawr_readAtom R v (tpT C p l b)) := by
  unfold lawr_readAtom
  refine WQ_took hb hne (WQ_eq0 (WQ_mark hb hne (by decide) hp fun p1 h1 => WQ_eq0 (WQ_took hb hne (WQ_eq0 ?_))))
  refine WQ_bind (WQ_sum hb hne h1) fun C2 p2 l2 f2 h2 => ?_
  intro hT hn
  obtain ⟨p3, h3, e3⟩ := cmp_w (l := l2) hT hb hne h2
  rw [e3, bI_I]
  exact (WQ_bind (WQ_sum hb hne h3) fun C5 p5 l5 f5 h5 => WQ_app fun C6 n6 f6 => WQ_ret h5) hT hn
theorem WQ_allL {R : Int → MM → OR} {K : MM → OR} {F : Nat} {v u : Int} (hv : I32 v) (hb : I32 b) (hne : b ≠ -1) (H : WQ T n b C (K (tpT C p l b))) : WQ T n b C (lawr_readAll_L7 R u K (F + 1) v (tpT C p l b)) := by
  rw [lawr_readAll_L7, bq_ge hv (by decide)]
  by_cases g : (400 : Int) ≤ v
  · rw [if_pos g]; exact H
  · rw [if_neg g]
    exact WQ_took hb hne (WQ_eq0 H)
theorem WQ_choL {R : Int → MM → OR} {K : MM → OR} {F : Nat} {v u : Int} (hv : I32 v) (hb : I32 b) (hne : b ≠ -1) (H : WQ T n b C (K (tpT C p l b))) : WQ T n b C (lawr_readChoice_L7 R u K (F + 1) v (tpT C p l b)) := by
  rw [lawr_readChoice_L7, bq_ge hv (by decide)]
  by_cases g : (400 : Int) ≤ v
  · rw [if_pos g]; exact H
  · rw [if_neg g]
    exact WQ_took hb hne (WQ_eq0 H)
theorem WQ_all {f : Nat} {u : Int} (hb : I32 b) (hne : b ≠ -1) (hp : p ≤ n) : WQ T n b C (lawr_readAll (lawr_readAtom_F (f + 1)) u (tpT C p l b)) := by
  obtain ⟨F, hF⟩ := FU_s
  unfold lawr_readAll
  refine WQ_bind (WQ_atom hb hne hp) fun C1 p1 l1 f1 h1 => ?_
  rw [hF]
  exact WQ_allL (by decide) hb hne (WQ_ret h1)
theorem WQ_cho {f : Nat} {u : Int} (hb : I32 b) (hne : b ≠ -1) (hp : p ≤ n) : WQ T n b C (lawr_readChoice (lawr_readAtom_F (f + 1)) u (tpT C p l b)) := by
  obtain ⟨F, hF⟩ := FU_s
  unfold lawr_readChoice
  refine WQ_bind (WQ_all hb hne hp) fun C1 p1 l1 f1 h1 => ?_
  rw [hF]
  exact WQ_choL (by decide) hb hne (WQ_ret h1)
end WQ
