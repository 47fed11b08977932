/-! ===== THE LAW: a line ===== -/
def FrE (N N' : MM) : Prop := (∀ a, a ≠ 165 → a ≠ 166 → N' a = N a) ∧ (∀ j, j < 1115 → N' 166 j = N 166 j) ∧ ∀ j, j ≠ 9 → j ≠ 11 → j ≠ 12 → j ≠ 15 → N' 165 j = N 165 j
theorem FrE.rf {N : MM} : FrE N N := ⟨fun _ _ _ => rfl, fun _ _ => rfl, fun _ _ _ _ _ => rfl⟩
theorem FrE.tr {N N1 N2 : MM} (h : FrE N N1) (g : FrE N1 N2) : FrE N N2 := ⟨fun a h1 h2 => (g.1 a h1 h2).trans (h.1 a h1 h2), fun j hj => (g.2.1 j hj).trans (h.2.1 j hj), fun j a b c d => (g.2.2 j a b c d).trans (h.2.2 j a b c d)⟩
theorem FrE.l {s : Nat} {N N' : MM} (h : FrL s N N') : FrE N N' := ⟨h.1, fun j hj => h.2.1 j (by omega), h.2.2⟩
theorem FrE.t {T : Nat → Int} {n : Nat} {N N' : MM} (h : FrE N N') (H : TN T n N) : TN T n N' := by
  unfold TN at *
  rw [h.2.2 10 (by decide) (by decide) (by decide) (by decide), h.1 170 (by decide) (by decide)]
  exact H
theorem FrE.u {N : MM} {j : Nat} {x : Int} (hj : 1115 ≤ j) : FrE N (mU N 166 j x) := ⟨fun a h1 h2 => mU_ne h2, fun i hi => by rw [mU_eq, up_ne (by omega)], fun i a b c d => by rw [mU_ne (by decide)]⟩
/-- what a line of the draft is -/
def LnD (C N : MM) (s l : Nat) : Prop := ((N 166 (1116 + 4 * l) = 1 ∧ (0 ≤ N 166 (1117 + 4 * l) ∧ N 166 (1117 + 4 * l) ≤ 9) ∧ C 44 l = N 166 (1117 + 4 * l)) ∨ (N 166 (1116 + 4 * l) = 0 ∧ N 166 (1117 + 4 * l) = 1 ∧ C 44 l = -1)) ∧ ∃ a b : Nat, N 166 (1118 + 4 * l) = (a : Int) ∧ N 166 (1119 + 4 * l) = (b : Int) ∧ (a : Int) = (if l = 0 then 0 else C 45 (l - 1)) ∧ C 45 l = (b : Int) ∧ a ≤ b ∧ b ≤ s ∧ (a = b ∨ tyR (fun i => N 166 (1164 + 2 * i)) (b - a) a [] = some [true])
theorem LnD_fr {C C' N N' : MM} {s s' l L : Nat} (h : LnD C N s l) (hl : l < L) (hL : L ≤ 12) (hs : s ≤ s') (c44 : C' 44 l = C 44 l) (c45 : ∀ i, i ≤ l → C' 45 i = C 45 i) (w : ∀ j, (1116 ≤ j ∧ j < 1116 + 4 * L) ∨ (1164 ≤ j ∧ j < 1164 + 2 * s) → N' 166 j = N 166 j) : LnD C' N' s' l := by
  obtain ⟨h1, a, b, h2, h3, h4, h5, h6, h7, h8⟩ := h
  refine ⟨?_, a, b, ?_, ?_, ?_, ?_, h6, by omega, ?_⟩
  · rw [c44, w _ (by omega), w _ (by omega)]; exact h1
  · rw [w _ (by omega)]; exact h2
  · rw [w _ (by omega)]; exact h3
  · rw [c45 (l - 1) (by omega)]; exact h4
  · rw [c45 l (Nat.le_refl l)]; exact h5
  · rcases h8 with h8 | h8
    · exact Or.inl h8
    · refine Or.inr ?_
      rw [tyR_cg' (f := fun i => N 166 (1164 + 2 * i)) (b - a) a [] (fun j g1 g2 => w _ (by omega))]
      exact h8
/-- the draft after l lines -/
def TxL (C N : MM) (l s : Nat) : Prop := C 43 0 = (l : Int) ∧ C 43 4 = (s : Int) ∧ N 165 15 = (s : Int) ∧ ((s : Int) = if l = 0 then 0 else C 45 (l - 1)) ∧ (∀ i, i < s → cdR (C 46 i) (N 166 (1164 + 2 * i)) (N 166 (1165 + 2 * i))) ∧ ∀ i, i < l → LnD C N s i
def LnL (n l : Nat) (C N : MM) (X Y : OR) : Prop := (∃ (C' N' : MM) (s' p' l' e' : Nat), X = some (rV, tpT C' p' l' (-1)) ∧ Y = some (rI 1, nT N' p' e') ∧ FrT C C' ∧ FrE N N' ∧ TxL C' N' (l + 1) s' ∧ s' ≤ p' ∧ p' ≤ n) ∨ ∃ (q : Nat) (C' : MM) (p' l' : Nat) (N' : MM) (p'' : Nat), X = some (rV, tpT C' p' l' (q : Int)) ∧ Y = some (rI 0, nT N' p'' q) ∧ FrT C C' ∧ FrE N N' ∧ p' ≤ n ∧ q ≤ n
section Ln
variable {T : Nat → Int} {n l : Nat}
theorem LnL_fr {C C0 N N0 : MM} {X Y : OR} (h1 : FrT C0 C) (h2 : FrE N0 N) (H : LnL n l C N X Y) : LnL n l C0 N0 X Y := by
  rcases H with ⟨C', N', s', p', l', e', x1, x2, x3, x4, x5⟩ | ⟨q, C', p', l', N', p'', x1, x2, x3, x4, x5⟩
  · exact Or.inl ⟨C', N', s', p', l', e', x1, x2, h1.tr x3, h2.tr x4, x5⟩
  · exact Or.inr ⟨q, C', p', l', N', p'', x1, x2, h1.tr x3, h2.tr x4, x5⟩
theorem end_w {C : MM} {p lw q : Nat} (hl : l < 12) : ∃ C', (bif inB (l : Int) 12 then (sM (mU (tpT C p lw (q : Int)) 45 ((l : Int)).toNat ((tpT C p lw (q : Int)) 43 4)) fun M_13 => (sM (mU M_13 43 0 ((l : Int) + 1)) fun M_15 => some (rV, M_15))) else none) = some (rV, tpT C' p lw (q : Int)) ∧ FrT C C' := by
  refine ⟨mU (mU C 45 l (C 43 4)) 43 0 ((l : Int) + 1), ?_, FrT.tr (FrT.u (C := C) (a := 45) (k := l) (x := C 43 4) (by omega)) (FrT.u (a := 43) (k := 0) (x := (l : Int) + 1) (by omega))⟩
  rw [bq_in (by omega) (by omega), sM_eq, sM_eq, Int.toNat_natCast, cT_ne (by decide), cT_u (by decide), cT_u (by decide)]
theorem J66_w {C : MM} {p lw q : Nat} (hl : l < 12) (hq : q ≤ n) (hn : n ≤ 400) : ∃ C', lawr_readLine_J66 (l : Int) (tpT C p lw (q : Int)) = some (rV, tpT C' p lw (q : Int)) ∧ FrT C C' := by
  obtain ⟨C', e1, e2⟩ := end_w (C := C) (p := p) (lw := lw) (q := q) hl
  refine ⟨C', ?_, e2⟩
  unfold lawr_readLine_J66
  rw [word_w (by omega) (by omega), bq_eq (by decide) (by decide), if_pos rfl]
  exact e1
/-- from the word on: what the line asks -/
theorem law_tail {C N : MM} {s p lw e : Nat} {z : Int} (hn : n ≤ 400) (hl : l < 12) (hC : TC T n C) (hN : TN T n N) (c0 : C 43 4 = (s : Int)) (n15 : N 165 15 = (s : Int)) (hst : (s : Int) = if l = 0 then 0 else C 45 (l - 1)) (hcd : ∀ i, i < s → cdR (C 46 i) (N 166 (1164 + 2 * i)) (N 166 (1165 + 2 * i))) (hln : ∀ i, i < l → LnD C N s i) (hz : 0 ≤ z ∧ z ≤ 9) (hh : (N 166 (1116 + 4 * l) = 1 ∧ C 44 l = z) ∨ (N 166 (1116 + 4 * l) = 0 ∧ z = 1 ∧ C 44 l = -1)) (hs : s + 1 ≤ p) (hp : p ≤ n) : LnL n l C N (lawr_readLine_J66 (l : Int) (tpT C p lw (-1))) (mo_readLawLine_J67 (1116 + 4 * (l : Int)) z (1116 + 4 * (l : Int) + 1) (nT N p e)) := by
  have a1 := skB_le (T := T) hp
  obtain ⟨N1, hN1⟩ : ∃ N1, N1 = mU (mU (mU N 166 (1117 + 4 * l) z) 166 (1118 + 4 * l) (s : Int)) 165 12 0 := ⟨_, rfl⟩
  have w1 : ∀ j, N1 166 j = if j = 1118 + 4 * l then (s : Int) else if j = 1117 + 4 * l then z else N 166 j := fun j => by
    rw [hN1, mU_ne (by decide), mU_ap, if_pos rfl, mU_ap, if_pos rfl]
  have w165 : ∀ j, j ≠ 12 → N1 165 j = N 165 j := fun j hj => by rw [hN1, mU_eq, up_ne hj, mU_ne (by decide), mU_ne (by decide)]
  have w12 : N1 165 12 = 0 := by rw [hN1, mU_eq, up_eq]
  have wF : ∀ a, a ≠ 165 → a ≠ 166 → N1 a = N a := fun a h1 h2 => by rw [hN1, mU_ne h1, mU_ne h2, mU_ne h2]
  have fD1 : FrE N N1 := ⟨wF, fun j hj => by rw [w1, if_neg (by omega), if_neg (by omega)], fun j _ _ h12 _ => w165 j h12⟩
  have hTN := fD1.t hN
  have eR : mo_readLawLine_J67 (1116 + 4 * (l : Int)) z (1116 + 4 * (l : Int) + 1) (nT N p e) = (bI (mo_passes 70 (nT N1 p e)) fun z_14 M_13 => (bif cmpB .eq z_14 0 then (bif inB (1116 + 4 * (l : Int) + 3) 1964 then (sM (mU M_13 166 ((1116 + 4 * (l : Int) + 3)).toNat (M_13 165 15)) fun M_15 => some (rI 1, M_15)) else none) else (bI (mo_readCond (mo_readAtom_F 12) M_13) fun z_19 M_18 => (bif cmpB .ne z_19 0 then (bif inB (1116 + 4 * (l : Int) + 3) 1964 then (sM (mU M_18 166 ((1116 + 4 * (l : Int) + 3)).toNat (M_18 165 15)) fun M_20 => some (rI 1, M_20)) else none) else some (rI 0, M_18))))) := by
    unfold mo_readLawLine_J67
    rw [bq_in (by omega) (by omega), sM_eq, bq_in (by omega) (by omega), show ((1116 + 4 * (l : Int)) + 1).toNat = 1117 + 4 * l by omega, nT_u (by decide), nT_ne (by decide), mU_eq, up_eq, bq_ge (by omega) (by decide), if_pos hz.1, bq_in (by omega) (by omega), sM_eq, show ((1116 + 4 * (l : Int)) + 2).toNat = 1118 + 4 * l by omega, nT_j (by decide) (by decide), mU_ne (by decide), n15, nT_u (by decide), sM_eq, nT_v (by decide) (by decide), ← hN1]
  have eC : lawr_readLine_J66 (l : Int) (tpT C p lw (-1)) = (bI (tape_tookWord 20 (tpT C p lw (-1))) fun z_12 M_11 => (bif cmpB .eq z_12 0 then (bif inB (l : Int) 12 then (sM (mU M_11 45 ((l : Int)).toNat (M_11 43 4)) fun M_13 => (sM (mU M_13 43 0 ((l : Int) + 1)) fun M_15 => some (rV, M_15))) else none) else (bV (lawr_readChoice (lawr_readAtom_F 12) 0 M_11) fun M_18 => (bif inB (l : Int) 12 then (sM (mU M_18 45 ((l : Int)).toNat (M_18 43 4)) fun M_20 => (sM (mU M_20 43 0 ((l : Int) + 1)) fun M_22 => some (rV, M_22))) else none)))) := rfl
  clear hN1
  -- the end of the line, both
  have fin : ∀ (C3 N3 : MM) (s3 p3 l3 e3 : Nat), FrQ C C3 → FrL s N1 N3 → C3 43 4 = (s3 : Int) → N3 165 15 = (s3 : Int) → (∀ i, i < s3 → cdR (C3 46 i) (N3 166 (1164 + 2 * i)) (N3 166 (1165 + 2 * i))) → s ≤ s3 → s3 ≤ p3 → p3 ≤ n → (s = s3 ∨ tyR (fun i => N3 166 (1164 + 2 * i)) (s3 - s) s [] = some [true]) → LnL n l C N (bif inB (l : Int) 12 then (sM (mU (tpT C3 p3 l3 (-1)) 45 ((l : Int)).toNat ((tpT C3 p3 l3 (-1)) 43 4)) fun M_20 => (sM (mU M_20 43 0 ((l : Int) + 1)) fun M_22 => some (rV, M_22))) else none) (bif inB (1116 + 4 * (l : Int) + 3) 1964 then (sM (mU (nT N3 p3 e3) 166 ((1116 + 4 * (l : Int) + 3)).toNat ((nT N3 p3 e3) 165 15)) fun M_20 => some (rI 1, M_20)) else none) := by
    intro C3 N3 s3 p3 l3 e3 fC fN c3 n3 cd3 hs3 hp3 hpn ht3
    rw [bq_in (by omega) (by omega), bq_in (by omega) (by omega), sM_eq, sM_eq, sM_eq, Int.toNat_natCast, cT_ne (by decide), cT_u (by decide), cT_u (by decide), c3, nT_j (by decide) (by decide), n3, show ((1116 + 4 * (l : Int)) + 3).toNat = 1119 + 4 * l by omega, nT_u (by decide)]
    obtain ⟨C4, hC4⟩ : ∃ C4, C4 = mU (mU C3 45 l (s3 : Int)) 43 0 ((l : Int) + 1) := ⟨_, rfl⟩
    obtain ⟨N4, hN4⟩ : ∃ N4, N4 = mU N3 166 (1119 + 4 * l) (s3 : Int) := ⟨_, rfl⟩
    have f4 : FrT C3 C4 := by rw [hC4]; exact FrT.tr (FrT.u (C := C3) (a := 45) (k := l) (x := (s3 : Int)) (by omega)) (FrT.u (a := 43) (k := 0) (x := (l : Int) + 1) (by omega))
    have d4 : FrE N3 N4 := by rw [hN4]; exact FrE.u (by omega)
    have c43 : ∀ j, C4 43 j = if j = 0 then (l : Int) + 1 else C3 43 j := fun j => by rw [hC4, mU_ap, if_pos rfl, mU_ne (by decide)]
    have c45 : ∀ j, C4 45 j = if j = l then (s3 : Int) else C3 45 j := fun j => by rw [hC4, mU_ne (by decide), mU_ap, if_pos rfl]
    have c44 : C4 44 = C3 44 := by rw [hC4, mU_ne (by decide), mU_ne (by decide)]
    have c46 : C4 46 = C3 46 := by rw [hC4, mU_ne (by decide), mU_ne (by decide)]
    have w4 : ∀ j, N4 166 j = if j = 1119 + 4 * l then (s3 : Int) else N3 166 j := fun j => by rw [hN4, mU_ap, if_pos rfl]
    have n4 : N4 165 = N3 165 := by rw [hN4, mU_ne (by decide)]
    rw [← hC4, ← hN4]
    clear hC4 hN4
    have wN : ∀ j, j < 1164 + 2 * s → j ≠ 1119 + 4 * l → j ≠ 1118 + 4 * l → j ≠ 1117 + 4 * l → N4 166 j = N 166 j := fun j h0 h1 h2 h3 => by rw [w4, if_neg h1, fN.2.1 j h0, w1, if_neg h2, if_neg h3]
    refine Or.inl ⟨C4, N4, s3, p3, l3, e3, rfl, rfl, fC.1.tr f4, fD1.tr ((FrE.l fN).tr d4), ⟨by rw [c43, if_pos rfl]; omega, by rw [c43, if_neg (by decide)]; exact c3, by rw [n4]; exact n3, by rw [if_neg (by omega), c45, if_pos (by omega)], fun i hi => by rw [c46, w4, if_neg (by omega), w4, if_neg (by omega)]; exact cd3 i hi, fun i hi => ?_⟩, hp3, hpn⟩
    by_cases hil : i = l
    · subst hil
      refine ⟨?_, s, s3, ?_, ?_, ?_, ?_, hs3, Nat.le_refl s3, ?_⟩
      · rw [c44, fC.2.2.1, wN _ (by omega) (by omega) (by omega) (by omega), show N4 166 (1117 + 4 * i) = z by rw [w4, if_neg (by omega), fN.2.1 _ (by omega), w1, if_neg (by omega), if_pos rfl]]
        rcases hh with h | h
        · exact Or.inl ⟨h.1, hz, h.2⟩
        · exact Or.inr ⟨h.1, h.2.1, h.2.2⟩
      · rw [w4, if_neg (by omega), fN.2.1 _ (by omega), w1, if_pos rfl]
      · rw [w4, if_pos rfl]
      · rw [hst]
        by_cases h0 : i = 0
        · rw [if_pos h0, if_pos h0]
        · rw [if_neg h0, if_neg h0, c45, if_neg (by omega), fC.2.2.2]
      · rw [c45, if_pos rfl]
      · rcases ht3 with h | h
        · exact Or.inl h
        · refine Or.inr ?_
          rw [tyR_cg' (f := fun i => N3 166 (1164 + 2 * i)) (s3 - s) s [] (fun j g1 g2 => by show N4 166 (1164 + 2 * j) = N3 166 (1164 + 2 * j); rw [w4, if_neg (by omega)])]
          exact h
    · exact LnD_fr (L := l) (hln i (by omega)) (by omega) (by omega) hs3 (by rw [c44, fC.2.2.1]) (fun j hj => by rw [c45, if_neg (by omega), fC.2.2.2]) (fun j hj => wN j (by omega) (by omega) (by omega) (by omega))
  rw [eC, eR, word_b hC hp (wk rfl), passes_b hTN hp (wk rfl), ← wd_cg (t := 20) (t' := 70) (by decide) (by decide)]
  have hcd1 : ∀ i, i < s → cdR (C 46 i) (N1 166 (1164 + 2 * i)) (N1 166 (1165 + 2 * i)) := fun i hi => by
    rw [w1, if_neg (by omega), if_neg (by omega), w1, if_neg (by omega), if_neg (by omega)]
    exact hcd i hi
  by_cases g : wdB T n 20 (skB T n p) = true
  · have lg := wd_le a1.2 g
    have e2 : wLen 20 = wLen 70 := by decide
    rw [if_pos g, if_pos g, bq_eq (by decide) (by decide), if_neg (by decide), bq_eq (by decide) (by decide), if_neg (by decide), ← e2]
    have hS : LwS C N1 s s [] 0 := ⟨c0, (w165 15 (by decide)).trans n15, w12, Nat.le_refl s, hcd1, by rw [Nat.sub_self]; rfl⟩
    have hch : RdOK T n s 0 [] [true] (lawr_readChoice (lawr_readAtom_F 12) ((0 : Nat) : Int)) (mo_readCond (mo_readAtom_F 12)) := law_cho (f := 12) (u := 0) (v := 0) (a0 := s) (T := T) hn (law_atom hn 12 0 [] (by decide) (by decide) (by decide)) (law_atom hn 12 0 [true] (by decide) (by decide) (by decide)) (law_atom hn 12 0 [true, true] (by decide) (by decide) (by decide))
    have hr := hch (skB T n p + wLen 20) (skB T n p) (skB T n p) s 1 C N1 hC hTN hS (by omega) (Nat.le_refl 1) lg
    rcases hr with ⟨C3, N3, s3, p3, l3, e3, x1, x2, x3, x4, x5, x6, x7, x8⟩ | ⟨q, C3, p3, l3, N3, p4, x1, x2, x3, x4, x5, x6, x7⟩
    · rw [show lawr_readChoice (lawr_readAtom_F 12) 0 (tpT C (skB T n p + wLen 20) (skB T n p) (-1)) = _ from x1, x2, bV_V, bI_I, bq_ne (by decide) (by decide), if_neg (by decide)]
      exact fin C3 N3 s3 p3 l3 e3 x3 x4 x5.1 x5.2.1 x5.2.2.2.2.1 x6 (by omega) x8 (Or.inr x5.2.2.2.2.2)
    · rw [show lawr_readChoice (lawr_readAtom_F 12) 0 (tpT C (skB T n p + wLen 20) (skB T n p) (-1)) = _ from x1, x2, bV_V, bI_I, bq_ne (by decide) (by decide), if_pos rfl]
      obtain ⟨C', y1, y2⟩ := end_w (C := C3) (p := p3) (lw := l3) (q := q) hl
      exact Or.inr ⟨q, C', p3, l3, N3, p4, y1, rfl, x3.tr y2, fD1.tr (FrE.l x4), x5, x6⟩
  · rw [if_neg g, if_neg g, bq_eq (by decide) (by decide), if_pos rfl, bq_eq (by decide) (by decide), if_pos rfl]
    exact fin C N1 s (skB T n p) lw (skB T n p) FrQ.rf FrL.rf c0 ((w165 15 (by decide)).trans n15) hcd1 (Nat.le_refl s) (by omega) a1.2 (Or.inl rfl)
end Ln
