/-! ===== THE LAW: a line, a whole text ===== -/
theorem law_line {T : Nat → Int} {n l s p lw : Nat} {C N : MM} (hn : n ≤ 400) (hl : l < 12) (hC : TC T n C) (hN : TN T n N) (hX : TxL C N l s) (hs : s ≤ p) (hp : p ≤ n) : LnL n l C N (lawr_readLine (l : Int) (tpT C p lw (-1))) (mo_readLawLine (l : Int) (nT N (ltE T n (skB T n p)) (skB T n p))) := by
  have a1 := skB_le (T := T) hp
  have hk := skB_sk (T := T) hp
  have a2 := ltE_le (T := T) a1.2
  obtain ⟨c0, c4, n15, hst, hcd, hln⟩ := hX
  -- the draft with the line's head
  have nxt : ∀ (c h : Int) (p1 l1 e1 : Nat) (z : Int), 0 ≤ z ∧ z ≤ 9 → (h = 1 ∧ c = z) ∨ (h = 0 ∧ z = 1 ∧ c = -1) → s + 1 ≤ p1 → p1 ≤ n → LnL n l C N (lawr_readLine_J66 (l : Int) (tpT (mU C 44 l c) p1 l1 (-1))) (mo_readLawLine_J67 (1116 + 4 * (l : Int)) z (1116 + 4 * (l : Int) + 1) (nT (mU N 166 (1116 + 4 * l) h) p1 e1)) := fun c h p1 l1 e1 z hz hh hs1 hp1 => by
    obtain ⟨C1, hC1⟩ : ∃ C1, C1 = mU C 44 l c := ⟨_, rfl⟩
    obtain ⟨N1, hN1⟩ : ∃ N1, N1 = mU N 166 (1116 + 4 * l) h := ⟨_, rfl⟩
    have fC : FrT C C1 := by rw [hC1]; exact FrT.u (C := C) (a := 44) (k := l) (x := c) (by omega)
    have fN : FrE N N1 := by rw [hN1]; exact FrE.u (by omega)
    have g44 : ∀ j, C1 44 j = if j = l then c else C 44 j := fun j => by rw [hC1, mU_ap, if_pos rfl]
    have gC : ∀ a, a ≠ 44 → C1 a = C a := fun a ha => by rw [hC1, mU_ne ha]
    have gN : ∀ j, N1 166 j = if j = 1116 + 4 * l then h else N 166 j := fun j => by rw [hN1, mU_ap, if_pos rfl]
    have g165 : N1 165 = N 165 := by rw [hN1, mU_ne (by decide)]
    rw [← hC1, ← hN1]
    clear hC1 hN1
    refine LnL_fr fC fN (law_tail (s := s) hn hl (fC.t hC) (fN.t hN) (by rw [gC 43 (by decide)]; exact c4) (by rw [g165]; exact n15) (by rw [gC 45 (by decide)]; exact hst) (fun i hi => by rw [gC 46 (by decide), gN, if_neg (by omega), gN, if_neg (by omega)]; exact hcd i hi) (fun i hi => LnD_fr (L := l) (hln i hi) hi (by omega) (Nat.le_refl s) (by rw [g44, if_neg (by omega)]) (fun j hj => by rw [gC 45 (by decide)]) (fun j hj => by rw [gN, if_neg (by omega)])) hz ?_ hs1 hp1)
    rw [gN, if_pos rfl, g44, if_pos rfl]
    exact hh
  unfold lawr_readLine mo_readLawLine
  rw [word_b hC hp (wk rfl), isWord_b hN (wk rfl) rfl a1.2]
  by_cases g1 : wdB T n 18 (skB T n p) = true
  · have t1 := wd_ch g1 (by decide)
    have k1 : wCh 18 0 = 98 := by decide
    have k2 : wCh 68 0 = 115 := by decide
    have g2 : wdB T n 68 (skB T n p) = false := Bool.eq_false_iff.mpr fun x => by
      have := wd_ch x (by decide)
      omega
    have l1 := wd_le a1.2 g1
    have l3 : 0 < wLen 18 := by decide
    have e : ltE T n (skB T n p) = skB T n p + wLen 18 := by
      unfold wdB at g1
      rw [Bool.and_eq_true] at g1
      exact of_decide_eq_true g1.1
    rw [if_pos g1, g2, bq_eq (by decide) (by decide), if_neg (by decide), bq_in (by omega) (by omega), sM_eq, Int.toNat_natCast, cT_u (by decide), show b2 false = 0 from rfl, bq_ne (by decide) (by decide), if_pos rfl, isWord_b hN (wk rfl) rfl a1.2, ← wd_cg (t := 18) (t' := 69) (by decide) (by decide), g1, show b2 true = 1 from rfl, bq_ne (by decide) (by decide), if_neg (by decide)]
    unfold mo_readLawLine_J30 mo_readLawLine_J44
    rw [bq_eq (by decide) (by decide), if_pos rfl, bq_in (by omega) (by omega), sM_eq, bq_eq (by decide) (by decide), if_pos rfl, show (1116 + 4 * (l : Int)).toNat = 1116 + 4 * l by omega, nT_u (by decide), e]
    exact nxt (-1) 0 _ _ _ 1 (by decide) (Or.inr ⟨rfl, rfl, rfl⟩) (by omega) l1
  · rw [if_neg g1, bq_eq (by decide) (by decide), if_pos rfl, word_b hC a1.2 (wk rfl), hk, ← wd_cg (t := 19) (t' := 68) (by decide) (by decide)]
    by_cases g2 : wdB T n 19 (skB T n p) = true
    · have l1 := wd_le a1.2 g2
      have l3 : 0 < wLen 19 := by decide
      have e : ltE T n (skB T n p) = skB T n p + wLen 19 := by
        unfold wdB at g2
        rw [Bool.and_eq_true] at g2
        exact of_decide_eq_true g2.1
      have b1 := skB_le (T := T) l1
      have b2' := dgE_le (T := T) b1.2
      have eR : mo_readLawLine_J30 (1116 + 4 * (l : Int)) 1 (nT N (ltE T n (skB T n p)) (skB T n p)) = bI (mo_number 0 9 (nT (mU N 166 (1116 + 4 * l) 1) (skB T n p + wLen 19) (skB T n p))) fun z_24 M_23 => (mo_readLawLine_J67 (1116 + 4 * (l : Int)) z_24 (1116 + 4 * (l : Int) + 1) M_23) := by
        unfold mo_readLawLine_J30 mo_readLawLine_J44
        rw [bq_eq (by decide) (by decide), if_neg (by decide), bq_in (by omega) (by omega), sM_eq, bq_eq (by decide) (by decide), if_neg (by decide), show (1116 + 4 * (l : Int)).toNat = 1116 + 4 * l by omega, nT_u (by decide), e]
      have hN1 : TN T n (mU N 166 (1116 + 4 * l) 1) := (FrE.u (N := N) (j := 1116 + 4 * l) (x := 1) (by omega)).t hN
      rw [if_pos g2, g2, show b2 true = 1 from rfl, bq_eq (by decide) (by decide), if_neg (show ¬ (1 : Int) = 0 by decide), num_b hC l1 (by decide) (by decide), bq_ne (by decide) (by decide), if_neg (show ¬ (1 : Int) = 0 by decide), eR, number_b hN1 l1 (by decide) (by decide)]
      by_cases g3 : nuO T n (skB T n (skB T n p + wLen 19)) 0 9 = true
      · have o := nuO_i.mp g3
        rw [if_pos g3, if_pos g3, bq_in (by omega) (by omega), sM_eq, Int.toNat_natCast, cT_u (by decide)]
        exact nxt _ 1 _ _ _ _ ⟨o.2.2.1, o.2.2.2⟩ (Or.inl ⟨rfl, rfl⟩) (by omega) b2'.2
      · rw [if_neg g3, if_neg g3, bq_in (by omega) (by omega), sM_eq, Int.toNat_natCast, cT_u (by decide)]
        obtain ⟨C', y1, y2⟩ := J66_w (n := n) (C := mU C 44 l 0) (p := skB T n (skB T n p + wLen 19)) (lw := skB T n p) (q := skB T n (skB T n p + wLen 19)) hl b1.2 hn
        have eF : mo_readLawLine_J67 (1116 + 4 * (l : Int)) (-1) (1116 + 4 * (l : Int) + 1) (nT (mU N 166 (1116 + 4 * l) 1) (dgE T n (skB T n (skB T n p + wLen 19))) (skB T n (skB T n p + wLen 19))) = some (rI 0, nT (mU (mU N 166 (1116 + 4 * l) 1) 166 (1117 + 4 * l) (-1)) (dgE T n (skB T n (skB T n p + wLen 19))) (skB T n (skB T n p + wLen 19))) := by
          unfold mo_readLawLine_J67
          rw [bq_in (by omega) (by omega), sM_eq, bq_in (by omega) (by omega), show ((1116 + 4 * (l : Int)) + 1).toNat = 1117 + 4 * l by omega, nT_u (by decide), nT_ne (by decide), mU_eq, up_eq, bq_ge (by decide) (by decide), if_neg (by decide)]
        rw [y1, eF]
        exact Or.inr ⟨_, C', _, _, _, _, rfl, rfl, FrT.tr (FrT.u (C := C) (a := 44) (k := l) (x := 0) (by omega)) y2, FrE.tr (FrE.u (N := N) (j := 1116 + 4 * l) (x := 1) (by omega)) (FrE.u (by omega)), b1.2, b1.2⟩
    · rw [if_neg g2, Bool.eq_false_iff.mpr g2, bq_eq (by decide) (by decide), if_pos rfl, fail_b hC a1.2 (by decide), if_pos rfl, hk, show b2 false = 0 from rfl, bq_ne (by decide) (by decide), if_pos rfl, isWord_b hN (wk rfl) rfl a1.2, ← wd_cg (t := 18) (t' := 69) (by decide) (by decide), Bool.eq_false_iff.mpr g1, show b2 false = 0 from rfl, bq_ne (by decide) (by decide), if_pos rfl]
      obtain ⟨C', y1, y2⟩ := J66_w (n := n) (C := C) (p := skB T n p) (lw := lw) (q := skB T n p) hl a1.2 hn
      rw [y1]
      exact Or.inr ⟨skB T n p, C', _, _, N, _, rfl, rfl, y2, FrE.rf, a1.2, a1.2⟩
def LtR (n : Nat) (C N : MM) (X Y : OR) : Prop := (∃ (C' N' : MM) (l' p' e' j s : Nat), X = some (rI 1, mU (tpT C' p' l' (-1)) 1 1 0) ∧ Y = some (rI ((j : Int)), nT N' n e') ∧ j ≤ 12 ∧ FrT C C' ∧ FrE N N' ∧ TxL C' N' j s ∧ s ≤ n) ∨ ∃ (q : Nat) (C' : MM) (p' l' : Nat) (N' : MM) (p'' : Nat), X = some (rI 0, mU (tpT C' p' l' (q : Int)) 1 1 0) ∧ Y = some (rI (-1), nT N' p'' q) ∧ FrT C C' ∧ FrE N N' ∧ q ≤ n
theorem law_loop {T : Nat → Int} {n : Nat} {C0 N0 : MM} (hC0 : TC T n C0) (hN0 : TN T n N0) : ∀ (d i F G p l e s : Nat) (C N : MM), i + d = 12 → d + 2 < F → d + 1 < G → p ≤ n → FrT C0 C → FrE N0 N → TxL C N i s → s ≤ p →
    LtR n C0 N0 (lawr_readText_L41 (fun M_19 => (bI (tape_endText M_19) fun z_24 M_23 => (bif zo z_24 then some (rI z_24, M_23) else none))) F 1 (i : Int) (tpT C p l (-1))) (mo_readAll_L28 0 (fun M_20 => some (rI (-1), M_20)) (fun v2_24 M_25 => some (rI (v2_24 + 1), M_25)) (fun M_28 => some (rI (-1), M_28)) G (i : Int) (nT N p e)) := by
  have n4 := hC0.2.1
  have hn4 : n ≤ 400 := n4
  -- the end behind a wrong byte
  have fin : ∀ (F : Nat) (v : Int) (C1 : MM) (p1 l1 : Nat) (b : Nat), I32 v → FrT C0 C1 → p1 ≤ n → b ≤ n → ∃ C' p' l', lawr_readText_L41 (fun M_19 => (bI (tape_endText M_19) fun z_24 M_23 => (bif zo z_24 then some (rI z_24, M_23) else none))) (F + 1) 0 v (tpT C1 p1 l1 (b : Int)) = some (rI 0, mU (tpT C' p' l' (b : Int)) 1 1 0) ∧ FrT C0 C' := fun F v C1 p1 l1 b hv f1 hp1 hb => by
    obtain ⟨p', hp', he⟩ := endText_v (l := l1) (b := (b : Int)) (f1.t hC0) hp1 (by omega)
    refine ⟨C1, p', l1, ?_, f1⟩
    have e0 : (bI (tape_endText (tpT C1 p1 l1 (b : Int))) fun z_24 M_23 => (bif zo z_24 then some (rI z_24, M_23) else none)) = some (rI 0, mU (tpT C1 p' l1 (b : Int)) 1 1 0) := by
      rw [he, decide_eq_false (show ¬ (((b : Nat) : Int) = -1 ∧ skB T n p1 = n) from fun x => by have := x.1; omega), if_neg (show ¬ (((b : Nat) : Int) = -1 ∧ skB T n p1 ≠ n) from fun x => by have := x.1; omega)]; rfl
    rw [lawr_readText_L41, bq_gt hv (by decide)]
    by_cases g : (12 : Int) < v
    · rw [if_pos g]; exact e0
    · rw [if_neg g, bq_eq (by decide) (by decide), if_pos rfl]; exact e0
  intro d
  induction d with
  | zero =>
    intro i F G p l e s C N hi hF hG hp fC fN hD hsp
    obtain ⟨F, rfl⟩ : ∃ n, F = n + 1 := ⟨F - 1, by omega⟩
    obtain ⟨F, rfl⟩ : ∃ n, F = n + 1 := ⟨F - 1, by omega⟩
    obtain ⟨G, rfl⟩ : ∃ n, G = n + 1 := ⟨G - 1, by omega⟩
    obtain rfl : i = 12 := by omega
    have hC := fC.t hC0
    have hN := fN.t hN0
    have a1 := skB_le (T := T) hp
    obtain ⟨C', p', l', z1, z2⟩ := fin F (((12 : Nat) : Int) + 1) C (skB T n (skB T n p)) l (skB T n p) (by decide) fC (skB_le a1.2).2 a1.2
    rw [lawr_readText_L41, bq_gt (by decide) (by decide), if_neg (by decide), bq_eq (by decide) (by decide), if_neg (show ¬ (1 : Int) = 0 by decide), bq_ne (by decide) (by decide), if_pos (by decide), fail_b hC hp (by decide), if_pos rfl, mark_b hC a1.2 (by omega) (by decide), if_neg (show ¬ (((skB T n p : Nat) : Int) = -1 ∧ _ ∧ _) from fun x => by have := x.1; omega)]
    refine Or.inr ⟨skB T n p, C', p', l', N, ltE T n (skB T n p), z1, ?_, z2, fN, a1.2⟩
    unfold mo_readAll_L28 mo_readLine
    rw [letters_b hN hp, bq_eq (by decide) (by decide), if_pos rfl, bq_ge (by decide) (by decide), if_pos (by decide), bI_I, bq_ne (by decide) (by decide), if_pos rfl]
  | succ d ih =>
    intro i F G p l e s C N hi hF hG hp fC fN hD hsp
    obtain ⟨F, rfl⟩ : ∃ n, F = n + 1 := ⟨F - 1, by omega⟩
    obtain ⟨F, rfl⟩ : ∃ n, F = n + 1 := ⟨F - 1, by omega⟩
    obtain ⟨G, rfl⟩ : ∃ n, G = n + 1 := ⟨G - 1, by omega⟩
    have hC := fC.t hC0
    have hN := fN.t hN0
    have a1 := skB_le (T := T) hp
    have eRef : ∀ Z : OR, Z = mo_readLawLine (i : Int) (nT N (ltE T n (skB T n p)) (skB T n p)) → mo_readAll_L28 0 (fun M_20 => some (rI (-1), M_20)) (fun v2_24 M_25 => some (rI (v2_24 + 1), M_25)) (fun M_28 => some (rI (-1), M_28)) (G + 1) (i : Int) (nT N p e) = (bI (bI Z fun z_15 M_12 => (bif cmpB .eq z_15 0 then some (rI 0, M_12) else some (rI 1, M_12))) fun z_11 M_10 => (bif cmpB .ne z_11 0 then (bV (mo_blanks M_10) fun M_13 => (bif cmpB .ne (M_13 165 9) (M_13 165 10) then (bI (mo_isAt 59 59 M_13) fun z_17 M_16 => (bif cmpB .ne z_17 0 then (sM (mU M_16 165 9 ((M_16 165 9) + 1)) fun M_18 => (mo_readAll_L28 0 (fun M_20 => some (rI (-1), M_20)) (fun v2_24 M_25 => some (rI (v2_24 + 1), M_25)) (fun M_28 => some (rI (-1), M_28)) G ((i : Int) + 1) M_18)) else some (rI (-1), M_16))) else some (rI ((i : Int) + 1), M_13))) else some (rI (-1), M_10))) := fun Z hZ => by
      rw [mo_readAll_L28]
      unfold mo_readLine
      rw [letters_b hN hp, bq_eq (by decide) (by decide), if_pos rfl, bq_ge (by omega) (by decide), if_neg (show ¬ (12 : Int) ≤ (i : Int) by omega), bq_eq (by decide) (by decide), if_pos rfl, ← hZ]
    rw [lawr_readText_L41, bq_gt (by omega) (by decide), if_neg (show ¬ (12 : Int) < (i : Int) by omega), bq_eq (by decide) (by decide), if_neg (show ¬ (1 : Int) = 0 by decide), bq_ne (by omega) (by decide), if_neg (show ¬ (i : Int) = 12 by omega), eRef _ rfl]
    rcases law_line (lw := l) hn4 (show i < 12 by omega) hC hN hD hsp hp with ⟨C1, N1, s1, p1, l1, e1, x1, x2, x3, x4, x5, x6, x7⟩ | ⟨qb, C1, p1, l1, N1, p2, x1, x2, x3, x4, x5, x6⟩
    · have fC1 := fC.tr x3
      have fN1 := fN.tr x4
      have hC1 := fC1.t hC0
      have hN1 := fN1.t hN0
      have a2 := skB_le (T := T) x7
      rw [x1, x2, bV_V, bI_I, bq_eq (by decide) (by decide), if_neg (show ¬ (1 : Int) = 0 by decide), bI_I, bq_ne (by decide) (by decide), if_neg (show ¬ (1 : Int) = 0 by decide), blanks_b hN1 x7, mark_b hC1 x7 (by decide) (by decide), nT_9, nT_j (show 10 ≠ 9 by decide) (show 10 ≠ 11 by decide), hN1.1, bq_ne (by omega) (by omega)]
      by_cases g : skB T n p1 = n
      · rw [if_pos (show ((skB T n p1 : Nat) : Int) = n by omega), if_neg (show ¬ ((-1 : Int) = -1 ∧ skB T n p1 < n ∧ T (skB T n p1) = 59) from fun x => by have := x.2.1; omega)]
        obtain ⟨p', hp', he⟩ := endText_v (l := l1) (b := -1) hC1 a2.2 (by decide)
        rw [skB_sk x7, decide_eq_true ⟨rfl, g⟩, if_neg (show ¬ ((-1 : Int) = -1 ∧ skB T n p1 ≠ n) from fun x => x.2 g)] at he
        have e0 : lawr_readText_L41 (fun M_19 => (bI (tape_endText M_19) fun z_24 M_23 => (bif zo z_24 then some (rI z_24, M_23) else none))) (F + 1) 0 ((i : Int) + 1) (tpT C1 (skB T n p1) l1 (-1)) = some (rI 1, mU (tpT C1 p' l1 (-1)) 1 1 0) := by
          rw [lawr_readText_L41, bq_gt (by omega) (by decide), if_neg (show ¬ (12 : Int) < (i : Int) + 1 by omega), bq_eq (by decide) (by decide), if_pos rfl, he]; rfl
        rw [e0]
        refine Or.inl ⟨C1, N1, l1, p', skB T n p1, i + 1, s1, rfl, ?_, by omega, fC1, fN1, x5, by omega⟩
        rw [show (i : Int) + 1 = ((i + 1 : Nat) : Int) by omega]
        congr 3
      · rw [if_neg (show ¬ ((skB T n p1 : Nat) : Int) = n by omega), isAt_b hN1 a2.2 (by decide) (by decide) (by decide), decide_eq_true (show skB T n p1 < n by omega), Bool.true_and, bz_ne0]
        by_cases g2 : T (skB T n p1) = 59
        · rw [if_pos (show (-1 : Int) = -1 ∧ skB T n p1 < n ∧ T (skB T n p1) = 59 from ⟨rfl, by omega, g2⟩), decide_eq_true (show (59 : Int) ≤ T (skB T n p1) by omega), decide_eq_true (show T (skB T n p1) ≤ 59 by omega), Bool.true_and, cn_t, sM_eq, nT_9, nT_p (x := skB T n p1 + 1) (by omega), show (i : Int) + 1 = ((i + 1 : Nat) : Int) by omega]
          have := ih (i + 1) (F + 1) G (skB T n p1 + 1) (skB T n p1) (skB T n p1) s1 C1 N1 (by omega) (by omega) (by omega) (by omega) fC1 fN1 x5 (by omega)
          exact this
        · have h59 : (decide ((59 : Int) ≤ T (skB T n p1)) && decide (T (skB T n p1) ≤ 59)) = false := by
            by_cases a : (59 : Int) ≤ T (skB T n p1)
            · rw [decide_eq_false (show ¬ T (skB T n p1) ≤ 59 by omega), Bool.and_false]
            · rw [decide_eq_false a, Bool.false_and]
          rw [if_neg (show ¬ ((-1 : Int) = -1 ∧ skB T n p1 < n ∧ T (skB T n p1) = 59) from fun x => g2 x.2.2), h59, cn_f]
          obtain ⟨p', hp', he⟩ := endText_v (l := l1) (b := -1) hC1 a2.2 (by decide)
          rw [skB_sk x7, decide_eq_false (show ¬ ((-1 : Int) = -1 ∧ skB T n p1 = n) from fun x => g x.2), if_pos (show (-1 : Int) = -1 ∧ skB T n p1 ≠ n from ⟨rfl, g⟩)] at he
          have e0 : lawr_readText_L41 (fun M_19 => (bI (tape_endText M_19) fun z_24 M_23 => (bif zo z_24 then some (rI z_24, M_23) else none))) (F + 1) 0 ((i : Int) + 1) (tpT C1 (skB T n p1) l1 (-1)) = some (rI 0, mU (tpT C1 p' l1 ((skB T n p1 : Nat) : Int)) 1 1 0) := by
            rw [lawr_readText_L41, bq_gt (by omega) (by decide), if_neg (show ¬ (12 : Int) < (i : Int) + 1 by omega), bq_eq (by decide) (by decide), if_pos rfl, he]; rfl
          rw [e0]
          exact Or.inr ⟨skB T n p1, C1, p', l1, N1, _, rfl, rfl, fC1, fN1, a2.2⟩
    · have fC1 := fC.tr x3
      have fN1 := fN.tr x4
      have hC1 := fC1.t hC0
      obtain ⟨C', p', l', z1, z2⟩ := fin F ((i : Int) + 1) C1 (skB T n p1) l1 qb (by omega) fC1 (skB_le x5).2 x6
      rw [x1, x2, bV_V, bI_I, bq_eq (by decide) (by decide), if_pos rfl, bI_I, bq_ne (by decide) (by decide), if_pos rfl, mark_b hC1 x5 (by omega) (by decide), if_neg (show ¬ (((qb : Nat) : Int) = -1 ∧ _ ∧ _) from fun x => by have := x.1; omega)]
      exact Or.inr ⟨qb, C', p', l', N1, p2, z1, rfl, z2, fN1, x6⟩
