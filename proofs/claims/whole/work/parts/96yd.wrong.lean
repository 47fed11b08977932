/-! ===== BEHIND A WRONG BYTE: the class goes on and finds nothing ===== -/
theorem wk_all : ∀ t, t ∈ [0, 1, 2, 3, 4, 5, 6, 7, 8, 9, 10, 11, 12, 13, 14, 15, 18, 19, 20, 21, 22, 23, 24, 25, 26, 27, 28, 29, 30, 31, 52, 53, 54, 55, 56, 57, 58, 59, 60, 61, 62, 63, 64, 65, 66, 67, 68, 69, 70, 71, 72, 73, 74, 75, 76, 77, 78] → (wLen t ≤ 20) ∧ ∀ i, i < wLen t → 97 ≤ wCh t i ∧ wCh t i ≤ 122 := by decide +kernel
theorem wk {t : Nat} (h : (decide (t ∈ [0, 1, 2, 3, 4, 5, 6, 7, 8, 9, 10, 11, 12, 13, 14, 15, 18, 19, 20, 21, 22, 23, 24, 25, 26, 27, 28, 29, 30, 31, 52, 53, 54, 55, 56, 57, 58, 59, 60, 61, 62, 63, 64, 65, 66, 67, 68, 69, 70, 71, 72, 73, 74, 75, 76, 77, 78])) = true) : wOK t := wk_all t (of_decide_eq_true h)
theorem wdA_cg {T : Nat → Int} {t t' q : Nat} (h : stB.getD t [] = stB.getD t' []) : ∀ d i, wdA T t q d i = wdA T t' q d i
  | 0, i => rfl
  | d + 1, i => by
    have e : wCh t i = wCh t' i := by unfold wCh; rw [h]
    show (decide (T (q + i) = wCh t i) && wdA T t q d (i + 1)) = (decide (T (q + i) = wCh t' i) && wdA T t' q d (i + 1))
    rw [e, wdA_cg h d (i + 1)]
theorem wd_cg {T : Nat → Int} {n t t' q : Nat} (h : stB.getD t [] = stB.getD t' []) (h2 : wLen t = wLen t') : wdB T n t q = wdB T n t' q := by
  unfold wdB
  rw [h2, wdA_cg h]
def FrT (C C' : MM) : Prop := ∀ a, (a < 29 ∨ 54 < a) → C' a = C a
theorem FrT.rf {C : MM} : FrT C C := fun _ _ => rfl
theorem FrT.tr {C C1 C2 : MM} (h : FrT C C1) (g : FrT C1 C2) : FrT C C2 := fun a ha => (g a ha).trans (h a ha)
theorem FrT.u {C : MM} {a k : Nat} {x : Int} (h : 29 ≤ a ∧ a ≤ 54) : FrT C (mU C a k x) := fun c hc => mU_ne (by omega)
theorem FrT.t {T : Nat → Int} {n : Nat} {C C' : MM} (h : FrT C C') (H : TC T n C) : TC T n C' := TC_fr H (by rw [h 1 (by omega)]) (h 2 (by omega))
/-- ends with the same wrong byte -/
def WX (T : Nat → Int) (n : Nat) (b : Int) (C : MM) (X : OR) : Prop := TC T n C → ∃ C' p' l', X = some (rV, tpT C' p' l' b) ∧ FrT C C' ∧ p' ≤ n
section WX
variable {T : Nat → Int} {n p l : Nat} {b : Int} {C : MM} {X : OR}
theorem WX_fr {C0 : MM} (h : FrT C0 C) (H : WX T n b C X) : WX T n b C0 X := fun h0 => by
  obtain ⟨C', p', l', a1, a2, a3⟩ := H (h.t h0)
  exact ⟨C', p', l', a1, h.tr a2, a3⟩
theorem WX_ret (hp : p ≤ n) : WX T n b C (some (rV, tpT C p l b)) := fun _ => ⟨C, p, l, rfl, FrT.rf, hp⟩
theorem WX_need {k : MM → OR} {t : Nat} (hb : I32 b) (hne : b ≠ -1) (hp : p ≤ n) (H : ∀ p', p' ≤ n → WX T n b C (k (tpT C p' l b))) : WX T n b C (bV (tape_needWord t (tpT C p l b)) k) := fun h => by
  rw [need_w h hp hb hne]
  exact H _ (skB_le hp).2 h
theorem WX_num {k : Int → MM → OR} {lo hi : Int} (hb : I32 b) (hne : b ≠ -1) (hp : p ≤ n) (H : ∀ p', p' ≤ n → WX T n b C (k lo (tpT C p' l b))) : WX T n b C (bI (tape_needNumber lo hi (tpT C p l b)) k) := fun h => by
  rw [num_w h hp hb hne]
  exact H _ (skB_le hp).2 h
theorem WX_took {k : Int → MM → OR} {t : Nat} (hb : I32 b) (hne : b ≠ -1) (H : WX T n b C (k 0 (tpT C p l b))) : WX T n b C (bI (tape_tookWord t (tpT C p l b)) k) := fun h => by
  rw [word_w hb hne]
  exact H h
theorem WX_mark {k : Int → MM → OR} {c : Int} (hb : I32 b) (hne : b ≠ -1) (hc : I32 c) (hp : p ≤ n) (H : ∀ p', p' ≤ n → WX T n b C (k 0 (tpT C p' l b))) : WX T n b C (bI (tape_tookMark c (tpT C p l b)) k) := fun h => by
  rw [mark_b h hp hb hc, if_neg (fun g => hne g.1)]
  exact H _ (skB_le hp).2 h
theorem WX_failAt {k : MM → OR} {z : Int} (hb : I32 b) (hne : b ≠ -1) (H : WX T n b C (k (tpT C p l b))) : WX T n b C (bV (tape_failAt z (tpT C p l b)) k) := fun h => by
  rw [failAt_b hb, if_neg hne]
  exact H h
theorem WX_fail {k : MM → OR} (hb : I32 b) (hne : b ≠ -1) (hp : p ≤ n) (H : ∀ p', p' ≤ n → WX T n b C (k (tpT C p' l b))) : WX T n b C (bV (tape_fail (tpT C p l b)) k) := fun h => by
  rw [fail_b h hp hb, if_neg hne]
  exact H _ (skB_le hp).2 h
theorem WX_u {k : MM → OR} {a j : Nat} {x : Int} (ha : 29 ≤ a ∧ a ≤ 54) (H : WX T n b (mU C a j x) (k (tpT (mU C a j x) p l b))) : WX T n b C (sM (mU (tpT C p l b) a j x) k) := by
  rw [sM_eq, cT_u (by omega)]
  exact WX_fr (FrT.u ha) H
theorem WX_in {i : Int} {m : Nat} {Y Z : OR} (h0 : 0 ≤ i) (h1 : i < m) (H : WX T n b C Y) : WX T n b C (bif inB i m then Y else Z) := by
  rw [bq_in h0 h1]
  exact H
theorem WX_eq0 {Y Z : OR} (H : WX T n b C Y) : WX T n b C (bif cmpB .eq 0 0 then Y else Z) := by
  rw [bq_eq (by decide) (by decide), if_pos rfl]
  exact H
theorem WX_lock {k : MM → OR} {v : Int} (hb : I32 b) (hne : b ≠ -1) (hv : 0 ≤ v ∧ v < 17) (hp : p ≤ n) (H : ∀ C' p', FrT C C' → p' ≤ n → WX T n b C' (k (tpT C' p' l b))) : WX T n b C (bV (tale_readLock v (tpT C p l b)) k) := fun h => by
  have h1 := skB_le (T := T) hp
  have h2 := skB_le (T := T) h1.2
  have h3 := skB_le (T := T) h2.2
  unfold tale_readLock
  rw [need_w h hp hb hne, num_w h h1.2 hb hne, bq_in hv.1 hv.2, sM_eq, cT_u (by decide), num_w (TC_u h (by decide) (by decide)) h2.2 hb hne, bq_in hv.1 hv.2, sM_eq, cT_u (by decide), bV_V]
  obtain ⟨C', p', l', a1, a2, a3⟩ := H _ _ (FrT.tr (FrT.u (C := C) (a := 30) (k := v.toNat) (x := 0) (by omega)) (FrT.u (a := 31) (k := v.toNat) (x := 0) (by omega))) h3.2 (TC_u (TC_u h (by decide) (by decide)) (by decide) (by decide))
  exact ⟨C', p', l', a1, FrT.tr (FrT.tr (FrT.u (by omega)) (FrT.u (by omega))) a2, a3⟩
theorem WX_meal {k : MM → OR} {v : Int} (hb : I32 b) (hne : b ≠ -1) (hv : 0 ≤ v ∧ v < 10) (H : ∀ C', FrT C C' → WX T n b C' (k (tpT C' p l b))) : WX T n b C (bV (tale_readMeal v (tpT C p l b)) k) := fun h => by
  unfold tale_readMeal
  rw [bq_in hv.1 hv.2, sM_eq, cT_u (by decide), bq_in hv.1 hv.2, sM_eq, cT_u (by decide), word_w hb hne, bq_eq (by decide) (by decide), if_pos rfl, bV_V]
  obtain ⟨C', p', l', a1, a2, a3⟩ := H _ (FrT.tr (FrT.u (C := C) (a := 32) (k := v.toNat) (x := -1) (by omega)) (FrT.u (a := 33) (k := v.toNat) (x := -1) (by omega))) (TC_u (TC_u h (by decide) (by decide)) (by decide) (by decide))
  exact ⟨C', p', l', a1, FrT.tr (FrT.tr (FrT.u (by omega)) (FrT.u (by omega))) a2, a3⟩
theorem WX_thing {k : Int → MM → OR} (hb : I32 b) (hne : b ≠ -1) (hc : 0 ≤ C 29 1 ∧ C 29 1 ≤ 10) (hp : p ≤ n) (H : ∀ C' p' z, FrT C C' → p' ≤ n → (-1 ≤ z ∧ z < 10) → WX T n b C' (k z (tpT C' p' l b))) : WX T n b C (bI (tale_readNewThing (tpT C p l b)) k) := fun h => by
  have h1 := skB_le (T := T) hp
  have h2 := skB_le (T := T) h1.2
  have h3 := skB_le (T := T) h2.2
  unfold tale_readNewThing
  rw [cT_ne (show 29 ≠ 1 by decide), bq_lt (by omega) (by decide)]
  by_cases g : C 29 1 < 10
  · have t1 := TC_u (k := 1) (x := C 29 1 + 1) h (show 29 ≠ 1 by decide) (show 29 ≠ 2 by decide)
    have t2 := TC_u (k := (C 29 1).toNat) (x := 0) t1 (show 35 ≠ 1 by decide) (show 35 ≠ 2 by decide)
    rw [if_pos g, sM_eq, cT_u (by decide), num_w t1 hp hb hne, bq_in hc.1 (by omega), sM_eq, cT_u (by decide), need_w t2 h1.2 hb hne, num_w t2 h2.2 hb hne, bq_in hc.1 (by omega), sM_eq, cT_u (by decide), bI_I]
    have f : FrT C (mU (mU (mU C 29 1 (C 29 1 + 1)) 35 (C 29 1).toNat 0) 36 (C 29 1).toNat 1) := FrT.tr (FrT.tr (FrT.u (by omega)) (FrT.u (by omega))) (FrT.u (by omega))
    exact WX_fr f (H _ _ _ f h3.2 ⟨by omega, by omega⟩) h
  · rw [if_neg g, failAt_b hb, if_neg hne, bI_I]
    exact H C p (-1) FrT.rf hp ⟨by decide, by decide⟩ h
theorem WX_pn {k : Int → MM → OR} (hb : I32 b) (hne : b ≠ -1) (hp : p ≤ n) (H : ∀ p', p' ≤ n → WX T n b C (k 0 (tpT C p' l b))) : WX T n b C (bI (tale_readPlaceNumber (tpT C p l b)) k) := fun h => by
  unfold tale_readPlaceNumber
  rw [num_w h hp hb hne, bI_I]
  exact H _ (skB_le hp).2 h
/-- the counts of the draft -/
def CntR (C : MM) : Prop := (0 ≤ C 29 0 ∧ C 29 0 ≤ 10) ∧ (0 ≤ C 29 1 ∧ C 29 1 ≤ 10) ∧ (0 ≤ C 29 2 ∧ C 29 2 ≤ 16) ∧ (0 ≤ C 29 3 ∧ C 29 3 ≤ 7) ∧ (0 ≤ C 29 5 ∧ C 29 5 < 1024)
theorem WX_k87 {v z : Int} (hv : 0 ≤ v ∧ v < 10) (hz : -1 ≤ z ∧ z < 10) (hp : p ≤ n) : WX T n b C (tale_readKeeper_J87 v z (tpT C p l b)) := by
  unfold tale_readKeeper_J87
  rw [bq_eq (by omega) (by decide)]
  by_cases g : z = -1
  · rw [if_pos g]
    exact WX_in hv.1 hv.2 (WX_u (by omega) (WX_u (by omega) (WX_ret hp)))
  · rw [if_neg g]
    exact WX_in (by omega) (by omega) (WX_u (by omega) (WX_u (by omega) (WX_in hv.1 hv.2 (WX_u (by omega) (WX_u (by omega) (WX_ret hp))))))
theorem WX_k67 {v : Int} (hb : I32 b) (hne : b ≠ -1) (hv : 0 ≤ v ∧ v < 10) (hp : p ≤ n) : WX T n b C (tale_readKeeper_J67 v (tpT C p l b)) := by
  unfold tale_readKeeper_J67
  exact WX_took hb hne (WX_eq0 (WX_k87 hv ⟨by decide, by decide⟩ hp))
theorem WX_k30 {v : Int} (hb : I32 b) (hne : b ≠ -1) (hv : 0 ≤ v ∧ v < 10) (hp : p ≤ n) : WX T n b C (tale_readKeeper_J30 v (tpT C p l b)) := by
  unfold tale_readKeeper_J30
  refine WX_lock hb hne ⟨hv.1, by omega⟩ hp fun C1 p1 f1 hp1 => ?_
  refine WX_meal hb hne hv fun C2 f2 => ?_
  exact WX_took hb hne (WX_eq0 (WX_k67 hb hne hv hp1))
theorem WX_r64 {v y z : Int} (hb : I32 b) (hne : b ≠ -1) (hv : 0 ≤ v ∧ v < 16) (hp : p ≤ n) : WX T n b C (tale_readRoad_J64 v y z (tpT C p l b)) := by
  unfold tale_readRoad_J64
  refine WX_need hb hne hp fun p1 hp1 => ?_
  refine WX_in (by omega) (by omega) (WX_u (by omega) (WX_in (by omega) (by omega) (WX_u (by omega) ?_)))
  refine WX_num hb hne hp1 fun p2 hp2 => ?_
  refine WX_in (by omega) (by omega) (WX_u (by omega) (WX_took hb hne (WX_eq0 (WX_in (by omega) (by omega) (WX_u (by omega) (WX_u (by omega) (WX_ret hp2)))))))
theorem WX_line (hb : I32 b) (hne : b ≠ -1) (hp : p ≤ n) : WX T n b C (tale_readLine (tpT C p l b)) := by
  unfold tale_readLine
  refine WX_took hb hne (WX_eq0 (WX_took hb hne (WX_eq0 (WX_took hb hne (WX_eq0 (WX_took hb hne (WX_eq0 (WX_took hb hne (WX_eq0 ?_)))))))))
  exact WX_fail hb hne hp fun p1 hp1 => WX_ret hp1
end WX
