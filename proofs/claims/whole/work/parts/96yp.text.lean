/-! ===== THE TALE: a whole text on both sides ===== -/
theorem endText_v {T : Nat → Int} {n p l : Nat} {b : Int} {C : MM} (h : TC T n C) (hp : p ≤ n) (hb : I32 b) : ∃ p', p' ≤ n ∧ tape_endText (tpT C p l b) = some (rI (b2 (decide (b = -1 ∧ skB T n p = n))), mU (tpT C p' l (if b = -1 ∧ skB T n p ≠ n then ((skB T n p : Nat) : Int) else b)) 1 1 0) := by
  have n4 := h.2.1
  have a1 := skB_le (T := T) hp
  refine ⟨skB T n p, a1.2, ?_⟩
  unfold tape_endText
  rw [atEnd_b h hp, bz_ne0]
  by_cases g : skB T n p = n
  · rw [decide_eq_true g, cn_t, sM_eq, mU_ap, if_pos rfl, if_neg (by decide), cT_2, bq_ne hb (by decide), if_neg (show ¬ (b = -1 ∧ skB T n p ≠ n) from fun x => x.2 g)]
    by_cases gb : b = -1
    · rw [if_pos gb, decide_eq_true ⟨gb, g⟩]; rfl
    · rw [if_neg gb, decide_eq_false (fun x => gb x.1)]; rfl
  · rw [decide_eq_false g, cn_f, fail_b h a1.2 hb, skB_sk hp, sM_eq, mU_ap, if_pos rfl, if_neg (by decide), cT_2, decide_eq_false (show ¬ (b = -1 ∧ skB T n p = n) from fun x => g x.2)]
    by_cases gb : b = -1
    · rw [if_pos gb, if_pos ⟨gb, g⟩, bq_ne (by omega) (by decide), if_neg (by omega)]; rfl
    · rw [if_neg gb, if_neg (fun x => gb x.1), bq_ne hb (by decide), if_neg gb]; rfl
def TxR (n k : Nat) (C N : MM) (X Y : OR) : Prop := (∃ (C' N' : MM) (l' p' e' j : Nat), X = some (rI 1, mU (tpT C' p' l' (-1)) 1 1 0) ∧ Y = some (rI ((j : Int)), nT N' n e') ∧ j ≤ 20 ∧ FrT C C' ∧ FrN N N' ∧ DrT k C' N') ∨ ∃ (q : Nat) (C' : MM) (p' l' : Nat) (N' : MM) (p'' : Nat), X = some (rI 0, mU (tpT C' p' l' (q : Int)) 1 1 0) ∧ Y = some (rI (-1), nT N' p'' q) ∧ FrT C C' ∧ FrN N N' ∧ q ≤ n
theorem tale_loop {T : Nat → Int} {n k : Nat} {C0 N0 : MM} (hC0 : TC T n C0) (hN0 : TN T n N0) : ∀ (d i F G p l e : Nat) (C N : MM), i + d = 14 → d + 2 < F → d + 1 < G → p ≤ n → FrT C0 C → FrN N0 N → DrT k C N →
    TxR n k C0 N0 (tale_readText_L25 (fun M_19 => (bI (tape_endText M_19) fun z_24 M_23 => (bif zo z_24 then some (rI z_24, M_23) else none))) F 1 (i : Int) (tpT C p l (-1))) (mo_readAll_L28 1 (fun M_20 => some (rI (-1), M_20)) (fun v2_24 M_25 => some (rI (v2_24 + 1), M_25)) (fun M_28 => some (rI (-1), M_28)) G (i : Int) (nT N p e)) := by
  have n4 := hC0.2.1
  -- the end behind a wrong byte
  have fin : ∀ (F : Nat) (v : Int) (C1 : MM) (p1 l1 : Nat) (b : Nat), I32 v → FrT C0 C1 → p1 ≤ n → b ≤ n → ∃ C' p' l', tale_readText_L25 (fun M_19 => (bI (tape_endText M_19) fun z_24 M_23 => (bif zo z_24 then some (rI z_24, M_23) else none))) (F + 1) 0 v (tpT C1 p1 l1 (b : Int)) = some (rI 0, mU (tpT C' p' l' (b : Int)) 1 1 0) ∧ FrT C0 C' := fun F v C1 p1 l1 b hv f1 hp1 hb => by
    obtain ⟨p', hp', he⟩ := endText_v (l := l1) (b := (b : Int)) (f1.t hC0) hp1 (by omega)
    refine ⟨C1, p', l1, ?_, f1⟩
    have e0 : (bI (tape_endText (tpT C1 p1 l1 (b : Int))) fun z_24 M_23 => (bif zo z_24 then some (rI z_24, M_23) else none)) = some (rI 0, mU (tpT C1 p' l1 (b : Int)) 1 1 0) := by
      rw [he, decide_eq_false (show ¬ (((b : Nat) : Int) = -1 ∧ skB T n p1 = n) from fun x => by have := x.1; omega), if_neg (show ¬ (((b : Nat) : Int) = -1 ∧ skB T n p1 ≠ n) from fun x => by have := x.1; omega)]; rfl
    rw [tale_readText_L25, bq_gt hv (by decide)]
    by_cases g : (14 : Int) < v
    · rw [if_pos g]; exact e0
    · rw [if_neg g, bq_eq (by decide) (by decide), if_pos rfl]; exact e0
  intro d
  induction d with
  | zero =>
    intro i F G p l e C N hi hF hG hp fC fN hD
    obtain ⟨F, rfl⟩ : ∃ n, F = n + 1 := ⟨F - 1, by omega⟩
    obtain ⟨F, rfl⟩ : ∃ n, F = n + 1 := ⟨F - 1, by omega⟩
    obtain ⟨G, rfl⟩ : ∃ n, G = n + 1 := ⟨G - 1, by omega⟩
    obtain rfl : i = 14 := by omega
    have hC := fC.t hC0
    have hN := fN.t hN0
    have a1 := skB_le (T := T) hp
    obtain ⟨C', p', l', z1, z2⟩ := fin F (((14 : Nat) : Int) + 1) C (skB T n (skB T n p)) l (skB T n p) (by decide) fC (skB_le a1.2).2 a1.2
    rw [tale_readText_L25, bq_gt (by decide) (by decide), if_neg (by decide), bq_eq (by decide) (by decide), if_neg (show ¬ (1 : Int) = 0 by decide), bq_ne (by decide) (by decide), if_pos (by decide), fail_b hC hp (by decide), if_pos rfl, mark_b hC a1.2 (by omega) (by decide), if_neg (show ¬ (((skB T n p : Nat) : Int) = -1 ∧ _ ∧ _) from fun x => by have := x.1; omega)]
    refine Or.inr ⟨skB T n p, C', p', l', N, ltE T n (skB T n p), z1, ?_, z2, fN, a1.2⟩
    unfold mo_readAll_L28 mo_readLine
    rw [letters_b hN hp, bq_eq (by decide) (by decide), if_neg (show ¬ (1 : Int) = 0 by decide), bq_ge (by decide) (by decide), if_pos (by decide), bI_I, bq_ne (by decide) (by decide), if_pos rfl]
  | succ d ih =>
    intro i F G p l e C N hi hF hG hp fC fN hD
    obtain ⟨F, rfl⟩ : ∃ n, F = n + 1 := ⟨F - 1, by omega⟩
    obtain ⟨F, rfl⟩ : ∃ n, F = n + 1 := ⟨F - 1, by omega⟩
    obtain ⟨G, rfl⟩ : ∃ n, G = n + 1 := ⟨G - 1, by omega⟩
    have hC := fC.t hC0
    have hN := fN.t hN0
    have a1 := skB_le (T := T) hp
    have eRef : ∀ Z : OR, Z = mo_readTaleLine (nT N (ltE T n (skB T n p)) (skB T n p)) → mo_readAll_L28 1 (fun M_20 => some (rI (-1), M_20)) (fun v2_24 M_25 => some (rI (v2_24 + 1), M_25)) (fun M_28 => some (rI (-1), M_28)) (G + 1) (i : Int) (nT N p e) = (bI (bI Z fun z_15 M_14 => (bif cmpB .eq z_15 0 then some (rI 0, M_14) else some (rI 1, M_14))) fun z_11 M_10 => (bif cmpB .ne z_11 0 then (bV (mo_blanks M_10) fun M_13 => (bif cmpB .ne (M_13 165 9) (M_13 165 10) then (bI (mo_isAt 59 59 M_13) fun z_17 M_16 => (bif cmpB .ne z_17 0 then (sM (mU M_16 165 9 ((M_16 165 9) + 1)) fun M_18 => (mo_readAll_L28 1 (fun M_20 => some (rI (-1), M_20)) (fun v2_24 M_25 => some (rI (v2_24 + 1), M_25)) (fun M_28 => some (rI (-1), M_28)) G ((i : Int) + 1) M_18)) else some (rI (-1), M_16))) else some (rI ((i : Int) + 1), M_13))) else some (rI (-1), M_10))) := fun Z hZ => by
      rw [mo_readAll_L28]
      unfold mo_readLine
      rw [letters_b hN hp, bq_eq (by decide) (by decide), if_neg (show ¬ (1 : Int) = 0 by decide), bq_ge (by omega) (by decide), if_neg (show ¬ (14 : Int) ≤ (i : Int) by omega), bq_eq (by decide) (by decide), if_neg (show ¬ (1 : Int) = 0 by decide), ← hZ]
    rw [tale_readText_L25, bq_gt (by omega) (by decide), if_neg (show ¬ (14 : Int) < (i : Int) by omega), bq_eq (by decide) (by decide), if_neg (show ¬ (1 : Int) = 0 by decide), bq_ne (by omega) (by decide), if_neg (show ¬ (i : Int) = 14 by omega), eRef _ rfl]
    rcases line_tale (q := l) hC hN hD hp rfl with ⟨C1, N1, p1, l1, e1, x1, x2, x3, x4, x5, x6, x7⟩ | ⟨qb, C1, p1, l1, N1, p2, x1, x2, x3, x4, x5, x6⟩
    · have fC1 := fC.tr x3
      have fN1 := fN.tr x4
      have hC1 := fC1.t hC0
      have hN1 := fN1.t hN0
      have a2 := skB_le (T := T) x7
      rw [x1, x2, bV_V, bI_I, bq_eq (by decide) (by decide), if_neg (show ¬ (1 : Int) = 0 by decide), bI_I, bq_ne (by decide) (by decide), if_neg (show ¬ (1 : Int) = 0 by decide), blanks_b hN1 x7, mark_b hC1 x7 (by decide) (by decide), nT_9, nT_j (show 10 ≠ 9 by decide) (show 10 ≠ 11 by decide), hN1.1, bq_ne (by omega) (by omega)]
      by_cases g : skB T n p1 = n
      · rw [if_pos (show ((skB T n p1 : Nat) : Int) = n by omega), if_neg (show ¬ ((-1 : Int) = -1 ∧ skB T n p1 < n ∧ T (skB T n p1) = 59) from fun x => by have := x.2.1; omega)]
        obtain ⟨p', hp', he⟩ := endText_v (l := l1) (b := -1) hC1 a2.2 (by decide)
        rw [skB_sk x7, decide_eq_true ⟨rfl, g⟩, if_neg (show ¬ ((-1 : Int) = -1 ∧ skB T n p1 ≠ n) from fun x => x.2 g)] at he
        have e0 : tale_readText_L25 (fun M_19 => (bI (tape_endText M_19) fun z_24 M_23 => (bif zo z_24 then some (rI z_24, M_23) else none))) (F + 1) 0 ((i : Int) + 1) (tpT C1 (skB T n p1) l1 (-1)) = some (rI 1, mU (tpT C1 p' l1 (-1)) 1 1 0) := by
          rw [tale_readText_L25, bq_gt (by omega) (by decide), if_neg (show ¬ (14 : Int) < (i : Int) + 1 by omega), bq_eq (by decide) (by decide), if_pos rfl, he]; rfl
        rw [e0]
        refine Or.inl ⟨C1, N1, l1, p', skB T n p1, i + 1, rfl, ?_, by omega, fC1, fN1, x5⟩
        rw [show (i : Int) + 1 = ((i + 1 : Nat) : Int) by omega]
        congr 3
      · rw [if_neg (show ¬ ((skB T n p1 : Nat) : Int) = n by omega), isAt_b hN1 a2.2 (by decide) (by decide) (by decide), decide_eq_true (show skB T n p1 < n by omega), Bool.true_and, bz_ne0]
        by_cases g2 : T (skB T n p1) = 59
        · rw [if_pos (show (-1 : Int) = -1 ∧ skB T n p1 < n ∧ T (skB T n p1) = 59 from ⟨rfl, by omega, g2⟩), decide_eq_true (show (59 : Int) ≤ T (skB T n p1) by omega), decide_eq_true (show T (skB T n p1) ≤ 59 by omega), Bool.true_and, cn_t, sM_eq, nT_9, nT_p (x := skB T n p1 + 1) (by omega), show (i : Int) + 1 = ((i + 1 : Nat) : Int) by omega]
          have := ih (i + 1) (F + 1) G (skB T n p1 + 1) (skB T n p1) (skB T n p1) C1 N1 (by omega) (by omega) (by omega) (by omega) fC1 fN1 x5
          exact this
        · have h59 : (decide ((59 : Int) ≤ T (skB T n p1)) && decide (T (skB T n p1) ≤ 59)) = false := by
            by_cases a : (59 : Int) ≤ T (skB T n p1)
            · rw [decide_eq_false (show ¬ T (skB T n p1) ≤ 59 by omega), Bool.and_false]
            · rw [decide_eq_false a, Bool.false_and]
          rw [if_neg (show ¬ ((-1 : Int) = -1 ∧ skB T n p1 < n ∧ T (skB T n p1) = 59) from fun x => g2 x.2.2), h59, cn_f]
          obtain ⟨p', hp', he⟩ := endText_v (l := l1) (b := -1) hC1 a2.2 (by decide)
          rw [skB_sk x7, decide_eq_false (show ¬ ((-1 : Int) = -1 ∧ skB T n p1 = n) from fun x => g x.2), if_pos (show (-1 : Int) = -1 ∧ skB T n p1 ≠ n from ⟨rfl, g⟩)] at he
          have e0 : tale_readText_L25 (fun M_19 => (bI (tape_endText M_19) fun z_24 M_23 => (bif zo z_24 then some (rI z_24, M_23) else none))) (F + 1) 0 ((i : Int) + 1) (tpT C1 (skB T n p1) l1 (-1)) = some (rI 0, mU (tpT C1 p' l1 ((skB T n p1 : Nat) : Int)) 1 1 0) := by
            rw [tale_readText_L25, bq_gt (by omega) (by decide), if_neg (show ¬ (14 : Int) < (i : Int) + 1 by omega), bq_eq (by decide) (by decide), if_pos rfl, he]; rfl
          rw [e0]
          exact Or.inr ⟨skB T n p1, C1, p', l1, N1, _, rfl, rfl, fC1, fN1, a2.2⟩
    · have fC1 := fC.tr x3
      have fN1 := fN.tr x4
      have hC1 := fC1.t hC0
      obtain ⟨C', p', l', z1, z2⟩ := fin F ((i : Int) + 1) C1 (skB T n p1) l1 qb (by omega) fC1 (skB_le x5).2 x6
      rw [x1, x2, bV_V, bI_I, bq_eq (by decide) (by decide), if_pos rfl, bI_I, bq_ne (by decide) (by decide), if_pos rfl, mark_b hC1 x5 (by omega) (by decide), if_neg (show ¬ (((qb : Nat) : Int) = -1 ∧ _ ∧ _) from fun x => by have := x.1; omega)]
      exact Or.inr ⟨qb, C', p', l', N1, p2, z1, rfl, z2, fN1, x6⟩
