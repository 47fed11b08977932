/-! ===== PAY, both sides ===== -/
section PySets
variable {w : Nat → Int} {p t n : Nat}
/-- the class's sets behind the payment are those of the new row -/
theorem py_sets (hC : WC n w) (hp : (p : Int) < w 0) (ht : (t : Int) < w 1) (h2 : w (92 + 4 * t) = 2) (hg1 : ∀ g : Nat, (g : Int) = oP w (p : Int) 6 → w (92 + 4 * g) = 1) (hg : oP w (p : Int) 6 < w 1) (hth : ∀ i : Nat, (i : Int) < w 1 → pyW w p t (92 + 4 * i) = pyS w p t i) (h1 : pyW w p t 1 = w 1) :
    (∀ g : Nat, (g : Int) = oP w (p : Int) 6 → bset 10 (stB' (pyW w p t) 2) = (bif pyR w p t then bset 10 (fun i => pyC w p t i || decide (i = g)) else bset 10 (pyC w p t)) ∧ bset 10 (stB' (pyW w p t) 1) = bset 10 (fun i => stB' w 1 i && !decide (i = g))) ∧
    (oP w (p : Int) 6 = -1 → bset 10 (stB' (pyW w p t) 2) = bset 10 (pyC w p t) ∧ bset 10 (stB' (pyW w p t) 1) = bset 10 (stB' w 1)) ∧
    bset 10 (stB' (pyW w p t) 3) = bset 10 (fun i => stB' w 3 i || (decide (oP w (p : Int) 5 = 1) && decide (i = t))) := by
  have c1 := hC.2.1
  have base : ∀ z i, stB' (pyW w p t) z i = (decide ((i : Int) < w 1) && decide (pyS w p t i = z)) := fun z i => by
    unfold stB'
    rw [h1, oT_c2]
    by_cases hi : (i : Int) < w 1
    · rw [hth i hi]
    · rw [decide_eq_false hi, Bool.false_and, Bool.false_and]
  have old : ∀ z i, stB' w z i = (decide ((i : Int) < w 1) && decide (w (92 + 4 * i) = z)) := fun z i => by unfold stB'; rw [oT_c2]
  refine ⟨fun g hgg => ⟨?_, ?_⟩, fun hn => ⟨?_, ?_⟩, ?_⟩
  · have key : ∀ i, stB' (pyW w p t) 2 i = (bif pyR w p t then (pyC w p t i || decide (i = g)) else pyC w p t i) := fun i => by
      rw [base]
      unfold pyC pyS
      rw [old 2 i]
      by_cases hi : (i : Int) < w 1
      · rw [decide_eq_true hi, Bool.true_and, Bool.true_and]
        by_cases hig : i = g
        · subst hig
          rw [if_pos hgg, hg1 i hgg, decide_eq_true rfl]
          cases pyR w p t <;> simp
        · rw [if_neg (by omega), decide_eq_false hig]
          by_cases hit : i = t
          · subst hit
            by_cases h5 : oP w (p : Int) 5 = 1
            · rw [if_pos ⟨rfl, h5⟩, h2, decide_eq_true h5]; cases pyR w p i <;> simp
            · rw [if_neg (fun h => h5 h.2), h2, decide_eq_false h5]; cases pyR w p i <;> simp
          · rw [if_neg (fun h => hit h.1), decide_eq_false hit]; cases pyR w p t <;> simp
      · have hig : i ≠ g := fun h => hi (by subst h; omega)
        rw [decide_eq_false hi, decide_eq_false hig]; cases pyR w p t <;> simp
    rw [show stB' (pyW w p t) 2 = (fun i => bif pyR w p t then (pyC w p t i || decide (i = g)) else pyC w p t i) from funext key]
    cases pyR w p t <;> rfl
  · refine bset_cg 10 fun i _ => ?_
    rw [base, old 1 i]
    unfold pyS
    by_cases hi : (i : Int) < w 1
    · rw [decide_eq_true hi, Bool.true_and, Bool.true_and]
      by_cases hig : i = g
      · subst hig
        rw [if_pos hgg, decide_eq_true (show i = i from rfl)]
        cases pyR w p t <;> simp
      · rw [if_neg (by omega), decide_eq_false hig]
        by_cases hit : i = t
        · subst hit
          by_cases h5 : oP w (p : Int) 5 = 1
          · rw [if_pos ⟨rfl, h5⟩, h2]; simp
          · rw [if_neg (fun h => h5 h.2), h2]; simp
        · rw [if_neg (fun h => hit h.1)]; simp
    · rw [decide_eq_false hi]; simp
  · refine bset_cg 10 fun i _ => ?_
    rw [base]
    unfold pyC pyS
    rw [old 2 i]
    by_cases hi : (i : Int) < w 1
    · rw [decide_eq_true hi, Bool.true_and, Bool.true_and, if_neg (by omega)]
      by_cases hit : i = t
      · subst hit
        by_cases h5 : oP w (p : Int) 5 = 1
        · rw [if_pos ⟨rfl, h5⟩, h2, decide_eq_true h5]; simp
        · rw [if_neg (fun h => h5 h.2), h2, decide_eq_false h5]; simp
      · rw [if_neg (fun h => hit h.1), decide_eq_false hit]; simp
    · rw [decide_eq_false hi]; simp
  · refine bset_cg 10 fun i _ => ?_
    rw [base, old 1 i]
    unfold pyS
    by_cases hi : (i : Int) < w 1
    · rw [decide_eq_true hi, Bool.true_and, Bool.true_and, if_neg (by omega)]
      by_cases hit : i = t
      · subst hit
        by_cases h5 : oP w (p : Int) 5 = 1
        · rw [if_pos ⟨rfl, h5⟩, h2]; simp
        · rw [if_neg (fun h => h5 h.2)]
      · rw [if_neg (fun h => hit h.1)]
    · rw [decide_eq_false hi]; simp
  · refine bset_cg 10 fun i _ => ?_
    rw [base, old 3 i]
    unfold pyS
    by_cases hi : (i : Int) < w 1
    · rw [decide_eq_true hi, Bool.true_and, Bool.true_and]
      by_cases hig : (i : Int) = oP w (p : Int) 6
      · have hne : i ≠ t := fun h => by
          subst h
          have := hg1 i hig
          omega
        rw [if_pos hig, hg1 i hig, decide_eq_false hne]
        cases pyR w p t <;> simp
      · rw [if_neg hig]
        by_cases hit : i = t
        · subst hit
          by_cases h5 : oP w (p : Int) 5 = 1
          · rw [if_pos ⟨rfl, h5⟩, h2, decide_eq_true h5]; simp
          · rw [if_neg (fun h => h5 h.2), h2, decide_eq_false h5]; simp
        · rw [if_neg (fun h => hit h.1), decide_eq_false hit]; simp
    · have hit : i ≠ t := fun h => hi (by subst h; exact ht)
      rw [decide_eq_false hi, decide_eq_false hit]; simp
end PySets
/-- the class pays -/
theorem pay_cls {w : Nat → Int} {n p t : Nat} {M1 : MM} (hW : WF n w) (hp : (p : Int) < w 0) (ht : (t : Int) < w 1) (h9 : w 9 < 10) (hL : LandR 3 w M1) (hJ : JnyR 23 w M1) (hk1 : oP w (p : Int) 0 = 1) :
    ∃ Mc, (bV (jny_letPass 23 (p : Int) (t : Int) M1) fun M_17 => (bI (gh_bit (M_17 3 6) (p : Int) M_17) fun z_21 M_20 => (bif cmpB .ne z_21 1 then (bif inB (p : Int) 10 then (bif cmpB .eq (M_20 8 ((p : Int)).toNat) (-1) then some (rI (M_20 8 ((p : Int)).toNat), M_20) else (bV (jny_receive 23 (M_20 8 ((p : Int)).toNat) M_20) fun M_23 => some (rI (M_20 8 ((p : Int)).toNat), M_23))) else none) else (bV (jny_lose 23 (t : Int) M_20) fun M_26 => (bif inB (p : Int) 10 then (bif cmpB .eq (M_26 8 ((p : Int)).toNat) (-1) then some (rI (M_26 8 ((p : Int)).toNat), M_26) else (bV (jny_receive 23 (M_26 8 ((p : Int)).toNat) M_26) fun M_29 => some (rI (M_26 8 ((p : Int)).toNat), M_29))) else none))))) = some (rI (oP w (p : Int) 6), Mc) ∧
      (∀ q, ¬ (23 ≤ q ∧ q ≤ 28) → Mc q = M1 q) ∧ Mc 24 = M1 24 ∧ Mc 25 = M1 25 ∧ (∀ j, j < 3 → Mc 23 j = M1 23 j) ∧ Mc 23 7 = M1 23 7 ∧ Mc 23 8 = w 9 + 1 ∧ Mc 23 6 = ((bset 10 (fun i => paB w i || decide (i = p)) : Nat) : Int) ∧
      Mc 23 4 = ((bset 10 (fun i => stB' w 3 i || (decide (oP w (p : Int) 5 = 1) && decide (i = t))) : Nat) : Int) ∧
      (∀ g : Nat, (g : Int) = oP w (p : Int) 6 → Mc 23 3 = (((bif pyR w p t then bset 10 (fun i => pyC w p t i || decide (i = g)) else bset 10 (pyC w p t)) : Nat) : Int) ∧ Mc 23 5 = ((bset 10 (fun i => stB' w 1 i && !decide (i = g)) : Nat) : Int)) ∧
      (oP w (p : Int) 6 = -1 → Mc 23 3 = ((bset 10 (pyC w p t) : Nat) : Int) ∧ Mc 23 5 = ((bset 10 (stB' w 1) : Nat) : Int)) ∧
      Mc 26 = up (M1 26) (w 9).toNat (p : Int) ∧ Mc 27 = up (M1 27) (w 9).toNat (t : Int) ∧ Mc 28 = up (M1 28) (w 9).toNat (w 6) := by
  obtain ⟨c0, c1, c2, c3, c4, c5, c6, c7, c8, c9, c10⟩ := hW.1
  obtain ⟨⟨j0, j1, j2, j8⟩, j3, j4, j5, j6, j7, -⟩ := hJ
  obtain ⟨p0, p1, p2, p3, p4, p5, p6, p7⟩ := hW.2.1 p (by omega) hp
  have hp10 : p < 10 := by omega
  have ht10 : t < 10 := by omega
  have l8 : M1 8 p = oP w (p : Int) 6 := by
    have := (hL.2.2.2.1 p (by omega) hp hk1).2.2.2.2
    rw [Int.toNat_natCast] at this
    exact this
  -- the log
  generalize hA : mU (mU (mU (mU (mU M1 23 6 ((bset 10 (fun i => paB w i || decide (i = p)) : Nat) : Int)) 26 (w 9).toNat (p : Int)) 27 (w 9).toNat (t : Int)) 28 (w 9).toNat (w 6)) 23 8 (w 9 + 1) = A
  have eA : jny_letPass 23 (p : Int) (t : Int) M1 = some (rV, A) := by
    unfold jny_letPass
    rw [j6, set_bs (by decide) hp10, sM_eq]
    generalize hB : mU M1 23 6 ((bset 10 (fun i => paB w i || decide (i = p)) : Nat) : Int) = B at hA
    have b8 : B 23 8 = w 9 := by rw [← hB, mU_eq, up_ne (by decide)]; exact j8
    have b1 : B 23 1 = w 6 := by rw [← hB, mU_eq, up_ne (by decide)]; exact j1
    rw [b8, bq_ge (by omega) (by decide), if_neg (by omega), bq_in (by omega) (by omega), sM_eq, show (mU B (23 + 3) (w 9).toNat (p : Int)) 23 8 = w 9 from by rw [mU_ne (by decide)]; exact b8, bq_in (by omega) (by omega), sM_eq, show (mU (mU B (23 + 3) (w 9).toNat (p : Int)) (23 + 4) (w 9).toNat (t : Int)) 23 8 = w 9 from by rw [mU_ne (by decide), mU_ne (by decide)]; exact b8, bq_in (by omega) (by omega), sM_eq, show (mU (mU B (23 + 3) (w 9).toNat (p : Int)) (23 + 4) (w 9).toNat (t : Int)) 23 1 = w 6 from by rw [mU_ne (by decide), mU_ne (by decide)]; exact b1, sM_eq, show (mU (mU (mU B (23 + 3) (w 9).toNat (p : Int)) (23 + 4) (w 9).toNat (t : Int)) (23 + 5) (w 9).toNat (w 6)) 23 8 = w 9 from by rw [mU_ne (by decide), mU_ne (by decide), mU_ne (by decide)]; exact b8]
    exact congrArg (fun x => some (rV, x)) hA
  have a23 : ∀ j, j ≠ 6 → j ≠ 8 → A 23 j = M1 23 j := fun j h6 h8 => by rw [← hA, mU_eq, up_ne h8, mU_ne (by decide), mU_ne (by decide), mU_ne (by decide), mU_eq, up_ne h6]
  have aF : ∀ q, ¬ (23 ≤ q ∧ q ≤ 28) → A q = M1 q := fun q hq => by rw [← hA, mU_ne (by omega), mU_ne (by omega), mU_ne (by omega), mU_ne (by omega), mU_ne (by omega)]
  have a24 : A 24 = M1 24 := by rw [← hA]; simp only [mU_ne (show (24 : Nat) ≠ 23 by decide), mU_ne (show (24 : Nat) ≠ 26 by decide), mU_ne (show (24 : Nat) ≠ 27 by decide), mU_ne (show (24 : Nat) ≠ 28 by decide)]
  have a25 : A 25 = M1 25 := by rw [← hA]; simp only [mU_ne (show (25 : Nat) ≠ 23 by decide), mU_ne (show (25 : Nat) ≠ 26 by decide), mU_ne (show (25 : Nat) ≠ 27 by decide), mU_ne (show (25 : Nat) ≠ 28 by decide)]
  have a26 : A 26 = up (M1 26) (w 9).toNat (p : Int) := by rw [← hA, mU_ne (by decide), mU_ne (by decide), mU_ne (by decide), mU_eq, mU_ne (by decide)]
  have a27 : A 27 = up (M1 27) (w 9).toNat (t : Int) := by rw [← hA, mU_ne (by decide), mU_ne (by decide), mU_eq, mU_ne (by decide), mU_ne (by decide)]
  have a28 : A 28 = up (M1 28) (w 9).toNat (w 6) := by rw [← hA, mU_ne (by decide), mU_eq, mU_ne (by decide), mU_ne (by decide), mU_ne (by decide)]
  have a6 : A 23 6 = ((bset 10 (fun i => paB w i || decide (i = p)) : Nat) : Int) := by rw [← hA, mU_eq, up_ne (by decide), mU_ne (by decide), mU_ne (by decide), mU_ne (by decide), mU_eq, up_eq]
  have a8 : A 23 8 = w 9 + 1 := by rw [← hA, mU_eq, up_eq]
  -- what is lost
  have lose : ∃ B, (∀ X : MM → OR, (bif cmpB .ne (b2 (decide (oP w (p : Int) 5 = 1))) 1 then X A else bV (jny_lose 23 (t : Int) A) X) = X B) ∧ B 23 3 = ((bset 10 (pyC w p t) : Nat) : Int) ∧ B 23 4 = ((bset 10 (fun i => stB' w 3 i || (decide (oP w (p : Int) 5 = 1) && decide (i = t))) : Nat) : Int) ∧ (∀ j, j ≠ 3 → j ≠ 4 → B 23 j = A 23 j) ∧ ∀ q, q ≠ 23 → B q = A q := by
    by_cases h5 : oP w (p : Int) 5 = 1
    · refine ⟨mU (mU A 23 3 ((bset 10 (pyC w p t) : Nat) : Int)) 23 4 ((bset 10 (fun i => stB' w 3 i || (decide (oP w (p : Int) 5 = 1) && decide (i = t))) : Nat) : Int), fun X => ?_, rfl, rfl, fun j h3 h4 => by rw [mU_eq, up_ne h4, mU_eq, up_ne h3], fun q hq => by rw [mU_ne hq, mU_ne hq]⟩
      have q3 : bset 10 (fun i => stB' w 2 i && !decide (i = t)) = bset 10 (pyC w p t) := bset_cg 10 fun i _ => by
        unfold pyC
        rw [decide_eq_true h5, Bool.true_and]
      have q4 : bset 10 (fun i => stB' w 3 i || decide (i = t)) = bset 10 (fun i => stB' w 3 i || (decide (oP w (p : Int) 5 = 1) && decide (i = t))) := bset_cg 10 fun i _ => by
        rw [decide_eq_true h5, Bool.true_and]
      rw [bz_ne1, show decide (oP w (p : Int) 5 = 1) = true from decide_eq_true h5, cn_t]
      rw [decide_eq_true h5] at q4
      unfold jny_lose
      rw [a23 3 (by decide) (by decide), j3, clr_bs (by decide) ht10, q3, sM_eq, show (mU A 23 3 ((bset 10 (pyC w p t) : Nat) : Int)) 23 4 = A 23 4 from by rw [mU_eq, up_ne (by decide)], a23 4 (by decide) (by decide), j4, set_bs (by decide) ht10, q4, sM_eq, bV_V]
    · refine ⟨A, fun X => by rw [bz_ne1, decide_eq_false h5, cn_f], ?_, ?_, fun _ _ _ => rfl, fun _ _ => rfl⟩
      · rw [a23 3 (by decide) (by decide), j3]
        congr 1
        refine bset_cg 10 fun i _ => ?_
        unfold pyC
        rw [decide_eq_false h5]; simp
      · rw [a23 4 (by decide) (by decide), j4]
        congr 1
        refine bset_cg 10 fun i _ => ?_
        rw [decide_eq_false h5]; simp
  obtain ⟨B, b0, b3, b4, bj, bF⟩ := lose
  have b8 : B 8 p = oP w (p : Int) 6 := by rw [bF 8 (by decide), aF 8 (by decide)]; exact l8
  -- what is received
  have recv : ∃ Mc, (bif inB (p : Int) 10 then (bif cmpB .eq (B 8 ((p : Int)).toNat) (-1) then some (rI (B 8 ((p : Int)).toNat), B) else (bV (jny_receive 23 (B 8 ((p : Int)).toNat) B) fun M_23 => some (rI (B 8 ((p : Int)).toNat), M_23))) else none) = some (rI (oP w (p : Int) 6), Mc) ∧
      (∀ g : Nat, (g : Int) = oP w (p : Int) 6 → Mc 23 3 = (((bif pyR w p t then bset 10 (fun i => pyC w p t i || decide (i = g)) else bset 10 (pyC w p t)) : Nat) : Int) ∧ Mc 23 5 = ((bset 10 (fun i => stB' w 1 i && !decide (i = g)) : Nat) : Int)) ∧
      (oP w (p : Int) 6 = -1 → Mc 23 3 = ((bset 10 (pyC w p t) : Nat) : Int) ∧ Mc 23 5 = ((bset 10 (stB' w 1) : Nat) : Int)) ∧ (∀ j, j ≠ 3 → j ≠ 5 → Mc 23 j = B 23 j) ∧ ∀ q, q ≠ 23 → Mc q = B q := by
    rw [Int.toNat_natCast, b8, bq_in (by omega) (by omega), bq_eq (by omega) (by decide)]
    have b5 : B 23 5 = ((bset 10 (stB' w 1) : Nat) : Int) := by rw [bj 5 (by decide) (by decide), a23 5 (by decide) (by decide)]; exact j5
    by_cases hg : oP w (p : Int) 6 = -1
    · refine ⟨B, by rw [if_pos hg], fun g h => absurd h (by omega), fun _ => ⟨b3, b5⟩, fun _ _ _ => rfl, fun _ _ => rfl⟩
    · obtain ⟨g, hgg⟩ : ∃ g : Nat, (g : Int) = oP w (p : Int) 6 := ⟨(oP w (p : Int) 6).toNat, by omega⟩
      have hg10 : g < 10 := by omega
      refine ⟨bif pyR w p t then mU (mU B 23 5 ((bset 10 (fun i => stB' w 1 i && !decide (i = g)) : Nat) : Int)) 23 3 ((bset 10 (fun i => pyC w p t i || decide (i = g)) : Nat) : Int) else mU B 23 5 ((bset 10 (fun i => stB' w 1 i && !decide (i = g)) : Nat) : Int), ?_, fun g' h => ?_, fun h => absurd h hg, fun j h3 h5 => ?_, fun q hq => ?_⟩
      · rw [if_neg hg, ← hgg]
        unfold jny_receive
        rw [b5, clr_bs (by decide) hg10, sM_eq, show (mU B 23 5 ((bset 10 (fun i => stB' w 1 i && !decide (i = g)) : Nat) : Int)) 23 3 = B 23 3 from by rw [mU_eq, up_ne (by decide)], b3, gh_hasRoom_b (bset_1024 _), bz_eq0, show decide (cnt (bset 10 (pyC w p t)).testBit 10 < 4) = pyR w p t from rfl]
        cases hr : pyR w p t with
        | true =>
          rw [cn_t, show (mU B 23 5 ((bset 10 (fun i => stB' w 1 i && !decide (i = g)) : Nat) : Int)) 23 3 = ((bset 10 (pyC w p t) : Nat) : Int) from by rw [mU_eq, up_ne (by decide)]; exact b3, set_bs (by decide) hg10, sM_eq, bV_V, cn_t]
        | false => rw [cn_f, bV_V, cn_f]
      · obtain rfl : g' = g := by omega
        cases pyR w p t with
        | true => exact ⟨rfl, rfl⟩
        | false => exact ⟨b3, rfl⟩
      · cases pyR w p t with
        | true => rw [cn_t, mU_eq, up_ne h3, mU_eq, up_ne h5]
        | false => rw [cn_f, mU_eq, up_ne h5]
      · cases pyR w p t with
        | true => rw [cn_t, mU_ne hq, mU_ne hq]
        | false => rw [cn_f, mU_ne hq]
  obtain ⟨Mc, e1, e2, e3, e4, e5⟩ := recv
  have eF : ∀ q, q ≠ 23 → Mc q = A q := fun q hq => (e5 q hq).trans (bF q hq)
  have ej : ∀ j, j ≠ 3 → j ≠ 4 → j ≠ 5 → Mc 23 j = A 23 j := fun j h3 h4 h5 => (e4 j h3 h5).trans (bj j h3 h4)
  refine ⟨Mc, ?_, fun q hq => by rw [eF q (by omega), aF q hq], by rw [eF 24 (by decide), a24], by rw [eF 25 (by decide), a25], fun j hj => by rw [ej j (by omega) (by omega) (by omega), a23 j (by omega) (by omega)], by rw [ej 7 (by decide) (by decide) (by decide), a23 7 (by decide) (by decide)], by rw [ej 8 (by decide) (by decide) (by decide), a8], by rw [ej 6 (by decide) (by decide) (by decide), a6], by rw [e4 4 (by decide) (by decide), b4], e2, e3, by rw [eF 26 (by decide), a26], by rw [eF 27 (by decide), a27], by rw [eF 28 (by decide), a28]⟩
  rw [eA, bV_V, aF 3 (by decide), hL.2.2.1, gh_bit_s (by decide) (by omega) (by omega), Int.toNat_natCast]
  have := tkB_eq (w := w) (p := (p : Int)) (by omega) hp
  rw [Int.toNat_natCast] at this
  rw [this]
  rw [b0 (fun M_20 => (bif inB (p : Int) 10 then (bif cmpB .eq (M_20 8 p) (-1) then some (rI (M_20 8 p), M_20) else (bV (jny_receive 23 (M_20 8 p) M_20) fun M_23 => some (rI (M_20 8 p), M_23))) else none))]
  rw [Int.toNat_natCast] at e1
  exact e1
