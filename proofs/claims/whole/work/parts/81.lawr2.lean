/-! ===== THE LAW, as the reference sums it up; hours, whether she can go ===== -/
/-- of a line what its reading needs -/
def LnOK (w : Nat → Int) (l : Nat) : Prop := ((w (267 + 4 * l) = 1 ∧ 0 ≤ w (268 + 4 * l) ∧ w (268 + 4 * l) ≤ 9) ∨ (w (267 + 4 * l) = 0 ∧ w (268 + 4 * l) = 1)) ∧ (0 ≤ w (269 + 4 * l) ∧ w (269 + 4 * l) ≤ w (270 + 4 * l) ∧ w (270 + 4 * l) ≤ 400) ∧
  (∀ i, lSt w l ≤ i → i < lEn w l → 0 ≤ w (315 + 2 * i) ∧ w (315 + 2 * i) ≤ 14) ∧ (lSt w l = lEn w l ∨ tyR (fun i => w (315 + 2 * i)) (lEn w l - lSt w l) (lSt w l) [] = some [true])
def LwOK (w : Nat → Int) : Prop := (w 5 = 0 ∨ w 5 = 1) ∧ (w 5 = 1 → (0 ≤ w 266 ∧ w 266 ≤ 12) ∧ ∀ l : Nat, (l : Int) < w 266 → LnOK w l)
theorem cdR_s {c s n : Int} (h : cdR c s n) : 0 ≤ s ∧ s ≤ 14 := by
  rcases h with h | h | h | h | h | h | h | h <;> omega
theorem LawR_ok {a : Nat} {w : Nat → Int} {M : MM} (h : LawR a w M) : LwOK w := by
  rcases h with ⟨h1, h2⟩ | ⟨h1, h2, h3, h4⟩
  · exact ⟨Or.inl h1, fun g => absurd g (by omega)⟩
  · refine ⟨Or.inr h1, fun _ => ⟨h3, fun l hl => ?_⟩⟩
    obtain ⟨e1, e2, e3, e4, e5, e6⟩ := h4 l hl
    refine ⟨?_, e4, fun i g1 g2 => cdR_s (e5 i g1 g2), e6⟩
    rcases e1 with e | e
    · exact Or.inl ⟨e.1, e.2.1⟩
    · exact Or.inr ⟨e.1, e.2.1⟩
theorem mo_holdsLine_v {w : Nat → Int} {N : MM} {l : Nat} (hw : N 166 = w) (hl : l < 12) (hO : LnOK w l) (t0 : 0 ≤ N 165 20) (t1 : I32 (N 165 20)) : ∃ N', mo_holdsLine (l : Int) N = some (rI (b2 (lHd w (factT N) l)), N') ∧ Fr 172 N N' := by
  obtain ⟨-, ⟨h1, h2, h3⟩, h4, h5⟩ := hO
  have e9 : w (269 + 4 * l) = ((lSt w l : Nat) : Int) := by unfold lSt; omega
  have e0 : w (270 + 4 * l) = ((lEn w l : Nat) : Int) := by unfold lEn; omega
  have hle : lSt w l ≤ lEn w l := by unfold lSt lEn; omega
  have h400 : lEn w l ≤ 400 := by unfold lEn; omega
  unfold mo_holdsLine
  rw [bq_in (by omega) (by omega), hw, show (267 + 4 * (l : Int) + 2).toNat = 269 + 4 * l by omega, e9]
  rcases h5 with h5 | h5
  · refine ⟨N, ?_, fun p _ => rfl⟩
    rw [show FU = 999999 + 1 from rfl, mo_holdsLine_L20, bq_in (by omega) (by omega), hw, show (267 + 4 * (l : Int) + 3).toNat = 270 + 4 * l by omega, e0, bq_ge (by omega) (by omega), if_pos (by omega), bq_eq (by decide) (by decide), if_pos rfl]
    unfold lHd
    rw [h5, Nat.sub_self]
    rfl
  · obtain ⟨N', q1, q2, q3, q4⟩ := mo_holds_run (K := fun v2_16 M_17 => (bif cmpB .eq v2_16 0 then some (rI 1, M_17) else (bif inB 0 400 then (bif cmpB .ne (M_17 172 0) 1 then some (rI 0, M_17) else some (rI 1, M_17)) else none))) hl e0 h400 (lEn w l - lSt w l) FU (lSt w l) [] [] [true] N h4 hw t0 t1 (FU_gt (by omega)) (by omega) h5 (by decide) trivial trivial
    refine ⟨N', ?_, q4⟩
    rw [show (((([] : List Int).length : Nat)) : Int) = 0 from rfl] at q1
    rw [q1]
    unfold lHd
    generalize lrun w (factT N) (lEn w l - lSt w l) (lSt w l) [] = st at *
    obtain ⟨x, s, rfl, v1, v2⟩ := VT_1 q3
    match s, v2 with
    | [], _ =>
      have hx : N' 172 0 = x := q2.1
      rw [hx]
      rcases v1 rfl with rfl | rfl <;> rfl
/-- what the sums of the law leave as it is -/
theorem factT_fr {N N' : MM} (h : Fr 172 N N') : factT N' = factT N := by unfold factT; rw [h 165 (by decide)]
theorem mo_sumOf_v {w : Nat → Int} {kd : Int} (hO : LwOK w) (hk : kd = 0 ∨ kd = 1) : ∀ (N : MM), N 166 = w → 0 ≤ N 165 20 → I32 (N 165 20) → ∃ N', mo_sumOf kd N = some (rI (lSum w (factT N) kd), N') ∧ Fr 172 N N' := by
  intro N hw t0 t1
  unfold mo_sumOf lSum
  by_cases h5 : w 5 = 1
  · obtain ⟨h6, h7⟩ := hO.2 h5
    rw [if_pos h5]
    have key : ∀ (k i F : Nat) (N : MM), N 166 = w → 0 ≤ N 165 20 → I32 (N 165 20) → k + i = (w 266).toNat → k < F → ∀ (T : Int → Int) (a : Int), factT N = T → ∃ N', mo_sumOf_L4 kd (fun v2_4 M_5 => some (rI v2_4, M_5)) F a (i : Int) N = some (rI (fo (fun l a => if w (267 + 4 * l) = kd ∧ lHd w T l = true then a + w (268 + 4 * l) else a) k i a), N') ∧ Fr 172 N N' := by
      intro k
      induction k with
      | zero =>
        intro i F N hw t0 t1 hk hF T a hT
        obtain ⟨n, rfl⟩ : ∃ n, F = n + 1 := ⟨F - 1, by omega⟩
        refine ⟨N, ?_, fun p _ => rfl⟩
        rw [mo_sumOf_L4, bq_in (by decide) (by decide), hw, bq_ne (by omega) (by decide), if_pos h5, bq_in (by decide) (by decide), bq_ge (by omega) (by omega), if_pos (by omega)]
        rfl
      | succ k ih =>
        intro i F N hw t0 t1 hk' hF T a hT
        obtain ⟨n, rfl⟩ : ∃ n, F = n + 1 := ⟨F - 1, by omega⟩
        have hln := h7 i (by omega)
        have k01 : w (267 + 4 * i) = 0 ∨ w (267 + 4 * i) = 1 := by rcases hln.1 with h | h <;> omega
        rw [mo_sumOf_L4, bq_in (by decide) (by decide), hw, bq_ne (by omega) (by decide), if_pos h5, bq_in (by decide) (by decide), bq_ge (by omega) (by omega), if_neg (by omega), bq_in (by omega) (by omega), show (267 + 4 * (i : Int)).toNat = 267 + 4 * i by omega, bq_ne (by omega) (by omega), Int.add_zero, show (i : Int) + 1 = ((i + 1 : Nat) : Int) by omega]
        by_cases hkd : w (267 + 4 * i) = kd
        · obtain ⟨N1, e1, f1⟩ := mo_holdsLine_v hw (by omega) hln t0 t1
          have w1 : N1 166 = w := by rw [f1 166 (by decide)]; exact hw
          have g165 := f1 165 (by decide)
          rw [if_pos hkd, e1, bI_I, bz_eq0, hT]
          obtain ⟨N', q1, q2⟩ := ih (i + 1) n N1 w1 (by rw [g165]; exact t0) (by rw [g165]; exact t1) (by omega) (by omega) T (if w (267 + 4 * i) = kd ∧ lHd w T i = true then a + w (268 + 4 * i) else a) ((factT_fr f1).trans hT)
          refine ⟨N', ?_, fun p hp => (q2 p hp).trans (f1 p hp)⟩
          show _ = some (rI (fo _ k (i + 1) (if w (267 + 4 * i) = kd ∧ lHd w T i = true then a + w (268 + 4 * i) else a)), N')
          rw [← q1]
          cases hh : lHd w T i with
          | true => rw [cn_t, bq_in (by omega) (by omega), show (267 + 4 * (i : Int) + 1).toNat = 268 + 4 * i by omega, w1, if_pos ⟨hkd, rfl⟩]
          | false => rw [cn_f, if_neg (fun h => by cases h.2)]
        · obtain ⟨N', q1, q2⟩ := ih (i + 1) n N hw t0 t1 (by omega) (by omega) T (if w (267 + 4 * i) = kd ∧ lHd w T i = true then a + w (268 + 4 * i) else a) hT
          refine ⟨N', ?_, q2⟩
          show _ = some (rI (fo _ k (i + 1) (if w (267 + 4 * i) = kd ∧ lHd w T i = true then a + w (268 + 4 * i) else a)), N')
          rw [← q1, if_neg hkd, if_neg (fun h => hkd h.1)]
    exact key (w 266).toNat 0 FU N hw t0 t1 (by omega) (FU_gt (by omega)) (factT N) 0 rfl
  · refine ⟨N, ?_, fun p _ => rfl⟩
    have := hO.1
    rw [if_neg h5, show FU = 999999 + 1 from rfl, mo_sumOf_L4, bq_in (by decide) (by decide), hw, bq_ne (by omega) (by decide), if_neg h5]
theorem lSum_b {w : Nat → Int} (hO : LwOK w) (T : Int → Int) (kd : Int) : 0 ≤ lSum w T kd ∧ lSum w T kd ≤ 108 := by
  unfold lSum
  by_cases h5 : w 5 = 1
  · obtain ⟨h6, h7⟩ := hO.2 h5
    rw [if_pos h5]
    have := fo_inv (g := fun l (a : Int) => if w (267 + 4 * l) = kd ∧ lHd w T l = true then a + w (268 + 4 * l) else a) (P := fun i a => 0 ≤ a ∧ a ≤ 9 * (i : Int)) (w 266).toNat 0 0 (by omega) (fun j a g1 g2 g3 => by
      have hln := (h7 j (by omega)).1
      split
      · rcases hln with h | h <;> omega
      · omega)
    omega
  · rw [if_neg h5]; decide
/-- what looking at a road, or summing the law up, may change -/
def Ts (N N' : MM) : Prop := (∀ p, p ≠ 165 → p ≠ 172 → N' p = N p) ∧ ∀ j, (j < 17 ∨ 22 < j) → N' 165 j = N 165 j
theorem Ts.tr {N N1 N2 : MM} (h : Ts N N1) (g : Ts N1 N2) : Ts N N2 := ⟨fun p h1 h2 => (g.1 p h1 h2).trans (h.1 p h1 h2), fun j hj => (g.2 j hj).trans (h.2 j hj)⟩
theorem Ts.fr {N N' : MM} (h : Fr 172 N N') : Ts N N' := ⟨fun p _ h2 => h p h2, fun j _ => by rw [h 165 (by decide)]⟩
theorem Ts.core {N N' : MM} (h : Ts N N') : Core N N' := by
  refine ⟨fun a ha => h.1 a (by unfold coreA at ha; omega) (by unfold coreA at ha; omega), ?_, ?_, ?_⟩
  · rw [h.1 1 (by decide) (by decide)]; exact ⟨rfl, rfl⟩
  · exact ⟨h.2 5 (by decide), h.2 6 (by decide), h.2 8 (by decide), h.2 13 (by decide)⟩
  · rw [h.1 0 (by decide) (by decide)]; exact ⟨rfl, rfl, rfl⟩
theorem sCar_lt {n : Nat} {w : Nat → Int} (hC : WC n w) (s : Nat) : sCar w s < 1024 := by
  have c1 := hC.2.1
  unfold sCar
  exact Nat.lt_of_lt_of_le (bset_lt _ _) (Nat.pow_le_pow_right (by decide) (show (w 1).toNat ≤ 10 by omega))
theorem oE_b {n : Nat} {w : Nat → Int} (hC : WC n w) (hR : WR w) {r p : Int} (h0 : 0 ≤ r) (h1 : r < w 2) : -1 ≤ oE w r p ∧ oE w r p < w 0 ∨ oE w r p = -1 := by
  obtain ⟨a, b, -⟩ := hR r h0 h1
  unfold oE
  split
  · omega
  · split <;> omega
theorem mo_looksAt_b {N : MM} {n s : Nat} {r : Int} {k : MM → OR} (hC : WC n (N 166)) (hR : WR (N 166)) (hT : WT (N 166)) (hn : n ≤ 1000) (hs : PK s) (h0 : 0 ≤ r) (h1 : r < N 166 2) : ∃ N', bV (mo_looksAt (s : Int) r N) k = k N' ∧ Ts N N' ∧ factT N' = sTT (N 166) s r ∧ N' 165 19 = oE (N 166) r (sPl s) ∧ N' 165 20 = sTm (N 166) s := by
  have hb := cnt_le (sCar (N 166) s).testBit 10
  have ts : ∀ (N1 : MM) (k : Int → MM → OR), N1 166 = N 166 → bI (mo_thingsIn (s : Int) 2 N1) k = k ((sCar (N 166) s : Nat) : Int) N1 := fun N1 k e => by
    have := mo_thingsIn_b (M := N1) (k := k) (z := 2) (by rw [e]; exact hC) hs (by decide)
    rw [e] at this
    exact this
  refine ⟨mU (mU (mU (mU (mU (mU N 165 17 r) 165 18 (fd s 5 4 : Nat)) 165 19 (oE (N 166) r (sPl s))) 165 20 (sTm (N 166) s)) 165 21 (cnt (sCar (N 166) s).testBit 10 : Nat)) 165 22 (wO (N 166) (sCar (N 166) s)), ?_, ⟨fun p h2 h3 => by simp only [mU_ne h2], fun j hj => ?_⟩, rfl, rfl, rfl⟩
  · unfold mo_looksAt
    rw [sM_eq, mo_placeOf_b hs, sM_eq, show (mU (mU N 165 17 r) 165 18 (fd s 5 4 : Nat)) 165 18 = sPl s from rfl, mo_otherEnd_b (M := mU (mU N 165 17 r) 165 18 (fd s 5 4 : Nat)) hC hR h0 h1 (by have := fd_lt s 5 4; unfold sPl; omega), sM_eq, bq_in (by decide) (by decide), mo_hoursOf_b hs, sM_eq, ts _ _ (by rfl), bc_v, bI_I, bcv_s (sCar_lt hC s), sM_eq, ts _ _ (by rfl), mo_worthOf_b (n := n) (by exact hC) (by have := sCar_lt hC s; omega), sM_eq, bV_V]
    rfl
  · simp only [mU_eq]
    rw [up_ne (by omega), up_ne (by omega), up_ne (by omega), up_ne (by omega), up_ne (by omega), up_ne (by omega)]
theorem mo_hoursBy_v {N : MM} {n s : Nat} {r : Int} (hC : WC n (N 166)) (hR : WR (N 166)) (hT : WT (N 166)) (hO : LwOK (N 166)) (hn : n ≤ 1000) (hs : PK s) (h0 : 0 ≤ r) (h1 : r < N 166 2) : ∃ N', mo_hoursBy (s : Int) r N = some (rI (sHr (N 166) s r), N') ∧ Ts N N' ∧ factT N' = sTT (N 166) s r ∧ N' 165 19 = oE (N 166) r (sPl s) ∧ N' 165 20 = sTm (N 166) s := by
  have c2 := hC.2.2.1
  have c6 := hC.2.2.2.2.2.2.1
  have hf := fd_lt s 0 5
  obtain ⟨N1, e1, f1, f2, f3, f4⟩ := mo_looksAt_b (k := fun M_2 => (bI (mo_ofRoad r 2 M_2) fun z_6 M_5 => (bI (mo_sumOf 1 M_5) fun z_9 M_8 => some (rI (z_6 + z_9), M_8)))) hC hR hT hn hs h0 h1
  have w1 : N1 166 = N 166 := f1.1 166 (by decide) (by decide)
  obtain ⟨N2, e2, g2⟩ := mo_sumOf_v (w := N 166) (kd := 1) hO (Or.inr rfl) N1 w1 (by rw [f4]; unfold sTm; omega) (by rw [f4]; unfold sTm; omega)
  have g165 := g2 165 (by decide)
  refine ⟨N2, ?_, f1.tr (Ts.fr g2), (factT_fr g2).trans f2, by rw [g165]; exact f3, by rw [g165]; exact f4⟩
  unfold mo_hoursBy
  rw [e1, mo_ofRoad_b h0 (by omega) (by decide) (by decide), e2, bI_I, w1, f2]
  rfl
theorem sHr_b {n : Nat} {w : Nat → Int} (hR : WR w) (hO : LwOK w) {r : Int} (h0 : 0 ≤ r) (h1 : r < w 2) (s : Nat) : 1 ≤ sHr w s r ∧ sHr w s r ≤ 117 := by
  obtain ⟨-, -, -, a, -⟩ := hR r h0 h1
  have := lSum_b hO (sTT w s r) 1
  unfold sHr
  omega
theorem mo_canGo_v {N : MM} {n s : Nat} {r : Int} (hC : WC n (N 166)) (hP : WP (N 166)) (hR : WR (N 166)) (hT : WT (N 166)) (hO : LwOK (N 166)) (hn : n ≤ 1000) (hs : PK s) (hp : sPl s < N 166 0) (h0 : 0 ≤ r) (h1 : r < N 166 2) : ∃ N', mo_canGo (s : Int) r N = some (rI (b2 (sCan (N 166) s r)), N') ∧ Ts N N' := by
  have c0 := hC.1
  have c6 := hC.2.2.2.2.2.2.1
  have c2 := hC.2.2.1
  have hf := fd_lt s 0 5
  have hf5 := fd_lt s 5 4
  have hf9 := fd_lt s 9 5
  have hf34 := fd_lt s 34 10
  have hp0 : 0 ≤ sPl s := by unfold sPl; omega
  have hE := oE_b hC hR (p := sPl s) h0 h1
  have hH := sHr_b (n := n) hR hO h0 h1 s
  -- what comes behind the way
  have J : ∀ b, sFreeway (N 166) s r = b → 0 ≤ oE (N 166) r (sPl s) → b = true → ∃ N', mo_canGo_J51 (s : Int) r (oE (N 166) r (sPl s)) N = some (rI (b2 (sCan (N 166) s r)), N') ∧ Ts N N' := by
    intro b hb hE0 hbt
    obtain ⟨N1, e1, f1, f2, f3, f4⟩ := mo_hoursBy_v hC hR hT hO hn hs h0 h1
    have w1 : N1 166 = N 166 := f1.1 166 (by decide) (by decide)
    obtain ⟨N2, e2, g2⟩ := mo_sumOf_v (w := N 166) (kd := 0) hO (Or.inl rfl) N1 w1 (by rw [f4]; unfold sTm; omega) (by rw [f4]; unfold sTm; omega)
    have w2 : N2 166 = N 166 := (g2 166 (by decide)).trans w1
    have hS := lSum_b hO (sTT (N 166) s r) 0
    refine ⟨N2, ?_, f1.tr (Ts.fr g2)⟩
    unfold mo_canGo_J51 sCan
    rw [e1, bI_I, e2, bI_I, f2, bq_ne (by omega) (by decide), decide_eq_true hE0, hb, hbt, Bool.true_and, Bool.true_and]
    by_cases hz : lSum (N 166) (sTT (N 166) s r) 0 = 0
    · have e20 : N2 165 20 = sTm (N 166) s := by rw [g2 165 (by decide), f4]
      rw [if_pos hz, decide_eq_true hz, Bool.true_and, e20, mo_isEating_b (M := N2) (n := n) (by rw [w2]; exact hC) (by rw [w2]; exact hP) hE0 (by rw [w2]; omega) (by unfold sTm; omega) (by unfold sTm; omega), w2, bz_ne0, b_10]
    · rw [if_neg hz, decide_eq_false hz, Bool.false_and]; rfl
  unfold mo_canGo
  rw [mo_placeOf_b hs, show ((fd s 5 4 : Nat) : Int) = sPl s from rfl, mo_otherEnd_b hC hR h0 h1 (by omega), bq_lt (by omega) (by decide)]
  by_cases hE0 : oE (N 166) r (sPl s) < 0
  · refine ⟨N, ?_, fun p _ _ => rfl, fun j _ => rfl⟩
    rw [if_pos hE0]
    unfold sCan
    rw [decide_eq_false (by omega), Bool.false_and]; rfl
  · rw [if_neg hE0, mo_isKeeper_b hC hP hp0 hp, bz_eq0]
    by_cases hk : oP (N 166) (sPl s) 0 = 1
    · rw [decide_eq_true hk, cn_t, mo_passedIn_b hs, show sPl s = ((fd s 5 4 : Nat) : Int) from rfl, mo_has_b (by omega) (by omega), bz_ne0]
      cases hpa : (fd s 34 10).testBit (fd s 5 4) with
      | true =>
        rw [cn_t]
        exact J true (by unfold sFreeway; rw [hpa]; simp) (by omega) rfl
      | false =>
        rw [cn_f, mo_roadOf_b hs, bq_eq (by omega) (by omega)]
        by_cases hr : (fd s 9 5 : Int) - 1 = r
        · rw [if_pos hr]
          exact J true (by unfold sFreeway; rw [decide_eq_true hr]; simp) (by omega) rfl
        · refine ⟨N, ?_, fun p _ _ => rfl, fun j _ => rfl⟩
          rw [if_neg hr]
          have : sFreeway (N 166) s r = false := by unfold sFreeway; rw [decide_eq_false hr, decide_eq_true hk, hpa]; rfl
          unfold sCan
          rw [this, Bool.false_and, Bool.and_false]; rfl
    · rw [decide_eq_false hk, cn_f]
      exact J true (by unfold sFreeway; rw [decide_eq_false hk]; simp) (by omega) rfl
