/-! ===== A ROAD JUDGED by the class ===== -/
/-- what judging may change -/
def Js (M M' : MM) : Prop := ∀ p, p ≠ 157 → p ≠ 21 → p ≠ 22 → M' p = M p
theorem Js.tr {M M1 M2 : MM} (h : Js M M1) (g : Js M1 M2) : Js M M2 := fun p h1 h2 h3 => (g p h1 h2 h3).trans (h p h1 h2 h3)
theorem Js.core {M M' : MM} (h : Js M M') : Core M M' := by
  refine ⟨fun a ha => h a (by unfold coreA at ha; omega) (by unfold coreA at ha; omega) (by unfold coreA at ha; omega), ?_, ?_, ?_⟩
  · rw [h 1 (by decide) (by decide) (by decide)]; exact ⟨rfl, rfl⟩
  · rw [h 165 (by decide) (by decide) (by decide)]; exact ⟨rfl, rfl, rfl, rfl⟩
  · rw [h 0 (by decide) (by decide) (by decide)]; exact ⟨rfl, rfl, rfl⟩
theorem lTT_7 (w : Nat → Int) (r p tm : Int) (s : Nat) : lTT w r p tm s 7 = 0 ∨ lTT w r p tm s 7 = 1 := by
  unfold lTT
  simp only [if_neg (show ¬ (7 : Int) = 0 by decide), if_neg (show ¬ (7 : Int) = 1 by decide), if_neg (show ¬ (7 : Int) = 2 by decide), if_neg (show ¬ (7 : Int) = 3 by decide), if_neg (show ¬ (7 : Int) = 4 by decide), if_neg (show ¬ (7 : Int) = 5 by decide), if_neg (show ¬ (7 : Int) = 6 by decide)]
  split
  · exact Or.inr rfl
  · exact Or.inl rfl
theorem judge_run {w : Nat → Int} {T : Int → Int} {base : Int} {K : MM → OR} (h5 : w 5 = 1) (hT7 : T 7 = 0 ∨ T 7 = 1) (hb : 0 ≤ base ∧ base ≤ 1000) : ∀ (k i F : Nat) (M : MM) (a0 a1 : Int), LawT 17 w M → (∀ j : Nat, j < 8 → M 21 j = T (j : Int)) → k + i = (w 266).toNat → k < F → M 157 0 = b2 (decide (a0 ≠ 0)) → M 157 1 = base + a1 → 0 ≤ a0 → (0 ≤ a1 ∧ a1 ≤ 9 * (i : Int)) →
    ∃ M', stps_judge_L71 K F (i : Int) M = K M' ∧ M' 157 0 = b2 (decide (fo (fun l a => if w (267 + 4 * l) = 0 ∧ lHd w T l = true then a + w (268 + 4 * l) else a) k i a0 ≠ 0)) ∧ M' 157 1 = base + fo (fun l a => if w (267 + 4 * l) = 1 ∧ lHd w T l = true then a + w (268 + 4 * l) else a) k i a1 ∧ ∀ p, p ≠ 157 → p ≠ 22 → M' p = M p
  | 0, i, F, M, a0, a1, hL, hT, hk, hF, m0, m1, g0, g1 => by
    obtain ⟨n, rfl⟩ : ∃ n, F = n + 1 := ⟨F - 1, by omega⟩
    obtain ⟨l0, l1, l2⟩ := hL
    refine ⟨M, ?_, m0, m1, fun p _ _ => rfl⟩
    rw [stps_judge_L71, l0, bq_ge (by omega) (by omega), if_pos (by omega)]
  | k + 1, i, F, M, a0, a1, hL, hT, hk, hF, m0, m1, g0, g1 => by
    obtain ⟨n, rfl⟩ : ∃ n, F = n + 1 := ⟨F - 1, by omega⟩
    have hL' := hL
    obtain ⟨l0, l1, l2⟩ := hL
    have hi : (i : Int) < w 266 := by omega
    obtain ⟨e1, -⟩ := l2 i hi
    obtain ⟨M1, q1, q2⟩ := law_holds_v hL' hi hT7 hT
    have st : ∀ M2 a0' a1', (∀ p, p ≠ 157 → M2 p = M1 p) → M2 157 0 = b2 (decide (a0' ≠ 0)) → M2 157 1 = base + a1' → 0 ≤ a0' → (0 ≤ a1' ∧ a1' ≤ 9 * ((i + 1 : Nat) : Int)) → (if w (267 + 4 * i) = 0 ∧ lHd w T i = true then a0 + w (268 + 4 * i) else a0) = a0' → (if w (267 + 4 * i) = 1 ∧ lHd w T i = true then a1 + w (268 + 4 * i) else a1) = a1' → stps_judge_L71 K (n + 1) (i : Int) M = stps_judge_L71 K n ((i : Int) + 1) M2 → ∃ M', stps_judge_L71 K (n + 1) (i : Int) M = K M' ∧ M' 157 0 = b2 (decide (fo (fun l a => if w (267 + 4 * l) = 0 ∧ lHd w T l = true then a + w (268 + 4 * l) else a) (k + 1) i a0 ≠ 0)) ∧ M' 157 1 = base + fo (fun l a => if w (267 + 4 * l) = 1 ∧ lHd w T l = true then a + w (268 + 4 * l) else a) (k + 1) i a1 ∧ ∀ p, p ≠ 157 → p ≠ 22 → M' p = M p := by
      intro M2 a0' a1' f z0 z1 z2 z3 z4 z5 z6
      have fM : ∀ p, p ≠ 157 → p ≠ 22 → M2 p = M p := fun p h1 h2 => (f p h1).trans (q2 p h2)
      have hL2 : LawT 17 w M2 := by
        have := LawR_fr (a := 17) (w := w) (M := M) (M' := M2) (fun j hj => fM _ (by omega) (by omega)) (Or.inr ⟨h5, hL'⟩)
        rcases this with h | h
        · omega
        · exact h.2
      obtain ⟨M', r1, r2, r3, r4⟩ := judge_run h5 hT7 hb k (i + 1) n M2 a0' a1' hL2 (fun j hj => by rw [fM 21 (by decide) (by decide)]; exact hT j hj) (by omega) (by omega) z0 z1 z2 z3
      refine ⟨M', ?_, ?_, ?_, fun p h1 h2 => (r4 p h1 h2).trans (fM p h1 h2)⟩
      · rw [z6, show (i : Int) + 1 = ((i + 1 : Nat) : Int) by omega]; exact r1
      · rw [r2, ← z4]; rfl
      · rw [r3, ← z5]; rfl
    have unf : ∀ X, (bif lHd w T i then (bif cmpB .ne (M1 18 i) (-1) then (stps_judge_L71 K n ((i : Int) + 1) (mU M1 157 1 (M1 157 1 + M1 18 i))) else (stps_judge_L71 K n ((i : Int) + 1) (mU M1 157 0 1))) else stps_judge_L71 K n ((i : Int) + 1) M1) = X → stps_judge_L71 K (n + 1) (i : Int) M = X := by
      intro X hX
      rw [← hX, stps_judge_L71, l0, bq_ge (by omega) (by omega), if_neg (by omega), bq_ge (by omega) (by decide), if_neg (by omega), q1, bI_I, bz_eq0, bq_in (by omega) (by omega), Int.toNat_natCast]
      simp only [bq_in (show (0 : Int) ≤ (i : Int) by omega) (show (i : Int) < (12 : Nat) by omega), sM_eq]
      all_goals rfl
    have f157 : M1 157 = M 157 := q2 157 (by decide)
    have f18 : M1 18 = M 18 := q2 18 (by decide)
    cases hh : lHd w T i with
    | false =>
      rw [hh] at unf st
      refine st M1 a0 a1 (fun p _ => rfl) (by rw [f157]; exact m0) (by rw [f157]; exact m1) g0 (by omega) (if_neg (fun h => by cases h.2)) (if_neg (fun h => by cases h.2)) (unf _ ?_)
      rw [cn_f]
    | true =>
      rw [hh] at unf st
      rcases e1 with ⟨k1, k2, k3⟩ | ⟨k1, k2, k3⟩
      · -- it slows
        have hs18 : M1 18 i = w (268 + 4 * i) := by rw [f18]; exact k3
        refine st (mU M1 157 1 (base + a1 + w (268 + 4 * i))) a0 (a1 + w (268 + 4 * i)) (fun p hp => by rw [mU_ne hp]) (by rw [mU_eq, up_ne (by decide), f157]; exact m0) (by rw [mU_eq, up_eq]; omega) g0 (by omega) (if_neg (by omega)) (if_pos ⟨k1, rfl⟩) (unf _ ?_)
        rw [cn_t, hs18, bq_ne (by omega) (by decide), if_neg (by omega), f157, m1]
      · -- it bars
        have hs18 : M1 18 i = -1 := by rw [f18]; exact k3
        refine st (mU M1 157 0 1) (a0 + w (268 + 4 * i)) a1 (fun p hp => by rw [mU_ne hp]) ?_ (by rw [mU_eq, up_ne (by decide), f157]; exact m1) (by omega) (by omega) (if_pos ⟨k1, rfl⟩) (if_neg (by omega)) (unf _ ?_)
        · rw [mU_eq, up_eq]
          exact (congrArg b2 (decide_eq_true (show a0 + w (268 + 4 * i) ≠ 0 by omega))).symm
        · rw [cn_t, hs18, bq_ne (by decide) (by decide), if_pos rfl]
theorem judge_v {w : Nat → Int} {n s : Nat} {r p tm : Int} {M : MM} {k : MM → OR} (hC : WC n w) (hT : WT w) (hR : WR w) (hL : LandR 3 w M) (hlw : LawR 17 w M) (h0 : 0 ≤ r) (h1 : r < w 2) (hp : I32 p) (hs : s < 1024) (t0 : 0 ≤ tm) (t1 : I32 tm) : ∃ M', bV (stps_judge r p (s : Int) tm M) k = k M' ∧ M' 157 0 = b2 (decide (lSum w (lTT w r p tm s) 0 ≠ 0)) ∧ M' 157 1 = oR w r 2 + lSum w (lTT w r p tm s) 1 ∧ Js M M' := by
  have c2 := hC.2.2.1
  obtain ⟨r0, r1, r2, r3, -⟩ := hR r h0 h1
  have l12 : M 12 r.toNat = oR w r 2 := (hL.2.2.2.2.2.1 r h0 h1).2.2.1
  generalize hMa : mU (mU M 157 0 0) 157 1 (oR w r 2) = Ma
  have fa : ∀ q, q ≠ 157 → Ma q = M q := fun q hq => by rw [← hMa, mU_ne hq, mU_ne hq]
  have a0 : Ma 157 0 = 0 := by rw [← hMa]; rfl
  have a1 : Ma 157 1 = oR w r 2 := by rw [← hMa]; rfl
  have unf : ∀ X, (bif cmpB .gt (M 17 0) 0 then (bI (land_otherEnd 3 r p Ma) fun z_7 M_6 => (bV (law_tellRoad 17 r p z_7 tm M_6) fun M_9 => (bI (jdk_bitCount (s : Int) M_9) fun z_13 M_12 => (bI (land_worthOf 3 (s : Int) M_12) fun z_16 M_15 => (bV (law_tellCarried 17 z_13 z_16 M_15) fun M_18 => (stps_judge_L71 (fun M_34 => some (rV, M_34)) FU 0 M_18)))))) else some (rV, Ma)) = X → stps_judge r p (s : Int) tm M = X := by
    intro X hX
    unfold stps_judge
    rw [← hX, sM_eq, bq_in h0 (by omega), sM_eq, show (mU M 157 0 0) 12 r.toNat = oR w r 2 from l12, hMa, fa 17 (by decide)]
  rcases hlw with ⟨h5, h6⟩ | ⟨h5, h6⟩
  · refine ⟨Ma, ?_, ?_, ?_, fun q q1 q2 q3 => fa q q1⟩
    · rw [unf (some (rV, Ma)) ?_, bV_V]
      rw [h6, bq_gt (by decide) (by decide), if_neg (by decide)]
    · unfold lSum
      rw [if_neg (by omega), a0]; rfl
    · unfold lSum
      rw [if_neg (by omega), a1]; omega
  · have h6' := h6
    obtain ⟨l0, l1, l2⟩ := h6
    by_cases hz : w 266 = 0
    · refine ⟨Ma, ?_, ?_, ?_, fun q q1 q2 q3 => fa q q1⟩
      · rw [unf (some (rV, Ma)) ?_, bV_V]
        rw [l0, hz, bq_gt (by decide) (by decide), if_neg (by decide)]
      · unfold lSum
        rw [if_pos h5, hz, a0]; rfl
      · unfold lSum
        rw [if_pos h5, hz, a1]
        show oR w r 2 = oR w r 2 + 0
        omega
    · have hLa : LandR 3 w Ma := LandR_fr (fun j hj => fa _ (by omega)) hL
      -- what is told
      have tell : ∀ (X : MM), X = mU (mU (mU (mU (mU (mU Ma 21 0 r) 21 1 p) 21 2 (oE w r p)) 21 3 (tm % 24)) 21 4 (tm / 24)) 21 7 (lTT w r p tm s 7) → law_tellRoad 17 r p (oE w r p) tm Ma = some (rV, X) := by
        intro X hX
        subst hX
        unfold law_tellRoad
        rw [tmod24 t1 t0, tdiv24 t1 t0]
        rw [bq_in (by decide) (by decide), sM_eq, bq_in (by decide) (by decide), sM_eq, bq_in (by decide) (by decide), sM_eq, bq_in (by decide) (by decide), sM_eq, bq_in (by decide) (by decide), sM_eq, bq_lt (by omega) (by decide), bq_in (by decide) (by decide), sM_eq, bq_le (by omega) (by decide), bq_in (by decide) (by decide), sM_eq]
        have e7 : lTT w r p tm s 7 = if tm % 24 < 6 ∨ 19 < tm % 24 then 1 else 0 := by
          unfold lTT
          simp only [if_neg (show ¬ (7 : Int) = 0 by decide), if_neg (show ¬ (7 : Int) = 1 by decide), if_neg (show ¬ (7 : Int) = 2 by decide), if_neg (show ¬ (7 : Int) = 3 by decide), if_neg (show ¬ (7 : Int) = 4 by decide), if_neg (show ¬ (7 : Int) = 5 by decide), if_neg (show ¬ (7 : Int) = 6 by decide)]
        rw [e7]
        by_cases q1 : tm % 24 < 6
        · rw [if_pos q1, if_pos (Or.inl q1)]
        · rw [if_neg q1]
          by_cases q2 : tm % 24 ≤ 19
          · rw [if_pos q2, if_neg (by omega)]
          · rw [if_neg q2, if_pos (by omega)]
      generalize hMb : mU (mU (mU (mU (mU (mU Ma 21 0 r) 21 1 p) 21 2 (oE w r p)) 21 3 (tm % 24)) 21 4 (tm / 24)) 21 7 (lTT w r p tm s 7) = Mb at tell
      have fb : ∀ q, q ≠ 21 → Mb q = Ma q := fun q hq => by rw [← hMb, mU_ne hq, mU_ne hq, mU_ne hq, mU_ne hq, mU_ne hq, mU_ne hq]
      have hLb : LandR 3 w Mb := LandR_fr (fun j hj => fb _ (by omega)) hLa
      generalize hMc : mU (mU Mb 21 5 (cnt s.testBit 10 : Nat)) 21 6 (wO w s) = Mc
      have fc : ∀ q, q ≠ 21 → Mc q = Mb q := fun q hq => by rw [← hMc, mU_ne hq, mU_ne hq]
      have fM : ∀ q, q ≠ 157 → q ≠ 21 → Mc q = M q := fun q q1 q2 => by rw [fc q q2, fb q q2, fa q q1]
      have terms : ∀ j : Nat, j < 8 → Mc 21 j = lTT w r p tm s (j : Int) := by
        intro j hj
        rw [← hMc, ← hMb]
        match j, hj with
        | 0, _ => rfl
        | 1, _ => rfl
        | 2, _ => rfl
        | 3, _ => rfl
        | 4, _ => rfl
        | 5, _ => rfl
        | 6, _ => rfl
        | 7, _ => rfl
      have hLc : LawT 17 w Mc := by
        have := LawR_fr (a := 17) (w := w) (M := M) (M' := Mc) (fun j hj => fM _ (by omega) (by omega)) (Or.inr ⟨h5, h6'⟩)
        rcases this with h | h
        · omega
        · exact h.2
      obtain ⟨M', q1, q2, q3, q4⟩ := judge_run (w := w) (T := lTT w r p tm s) (base := oR w r 2) (K := fun M_34 => some (rV, M_34)) h5 (lTT_7 w r p tm s) (by omega) (w 266).toNat 0 FU Mc 0 0 hLc terms (by omega) (FU_gt (by omega)) (by rw [fc 157 (by decide), fb 157 (by decide), a0]; rfl) (by rw [fc 157 (by decide), fb 157 (by decide), a1]; omega) (by decide) (by omega)
      refine ⟨M', ?_, ?_, ?_, fun q h2 h3 h4 => (q4 q h2 h4).trans (fM q h2 h3)⟩
      · rw [unf (some (rV, M')) ?_, bV_V]
        rw [l0, bq_gt (by omega) (by decide), if_pos (by omega), land_otherEnd_b hLa hC hR h0 h1 hp, tell _ rfl, bV_V, bc_v, bI_I, bcv_s hs, land_worthOf_b hLb hC (by omega)]
        have tc : law_tellCarried 17 ((cnt s.testBit 10 : Nat) : Int) (wO w s) Mb = some (rV, Mc) := by
          unfold law_tellCarried
          rw [bq_in (by decide) (by decide), sM_eq, bq_in (by decide) (by decide), sM_eq, ← hMc]
        rw [tc, bV_V]
        exact q1
      · rw [q2]; unfold lSum; rw [if_pos h5]
      · rw [q3]; unfold lSum; rw [if_pos h5]
/-- when she would be there: for her acts as for the search -/
theorem arrival_v {w : Nat → Int} {n s : Nat} {r : Int} {M : MM} (hC : WC n w) (hP : WP w) (hT : WT w) (hR : WR w) (hn : n ≤ 1000) (hL : LandR 3 w M) (hlw : LawR 17 w M) (hp : sPl s < w 0) (h0 : 0 ≤ r) (h1 : r < w 2) : ∃ M', stps_arrival r (sPl s) ((fd s 9 5 : Nat) - 1) ((fd s 34 10 : Nat) : Int) ((sCar w s : Nat) : Int) (sTm w s) M = some (rI (if sCan w s r = true then sTm w s + sHr w s r else -1), M') ∧ Js M M' := by
  have hO := LawR_ok hlw
  have c0 := hC.1
  have c2 := hC.2.2.1
  have c6 := hC.2.2.2.2.2.2.1
  have hf := fd_lt s 0 5
  have hf9 := fd_lt s 9 5
  have hf34 := fd_lt s 34 10
  have hp0 : 0 ≤ sPl s := by unfold sPl; omega
  have hE := oE_b hC hR (p := sPl s) h0 h1
  have hH := sHr_b (n := n) hR hO h0 h1 s
  have hS := lSum_b hO (sTT w s r) 0
  have t0 : 0 ≤ sTm w s := by unfold sTm; omega
  have t1 : sTm w s ≤ 200100 := by unfold sTm; omega
  have J : sFreeway w s r = true → 0 ≤ oE w r (sPl s) → ∃ M', stps_arrival_J37 r (sPl s) ((sCar w s : Nat) : Int) (sTm w s) (oE w r (sPl s)) M = some (rI (if sCan w s r = true then sTm w s + sHr w s r else -1), M') ∧ Js M M' := by
    intro hF hE0
    obtain ⟨M', e1, e2, e3, e4⟩ := judge_v (s := sCar w s) (tm := sTm w s) (p := sPl s) (k := fun M_5 => (bif cmpB .ne (M_5 157 0) 0 then some (rI (-1), M_5) else (bI (land_eatsAt 3 (oE w r (sPl s)) (sTm w s + (M_5 157 1)) M_5) fun z_9 M_8 => (bif cmpB .eq z_9 0 then some (rI (sTm w s + (M_8 157 1)), M_8) else some (rI (-1), M_8))))) hC hT hR hL hlw h0 h1 (by omega) (sCar_lt hC s) t0 (by omega)
    refine ⟨M', ?_, e4⟩
    have hL' : LandR 3 w M' := LandR_fr (fun j hj => e4 _ (by omega) (by omega) (by omega)) hL
    unfold stps_arrival_J37
    rw [e1, e2, bz_ne0, e3, show oR w r 2 + lSum w (lTT w r (sPl s) (sTm w s) (sCar w s)) 1 = sHr w s r from rfl, show lSum w (lTT w r (sPl s) (sTm w s) (sCar w s)) 0 = lSum w (sTT w s r) 0 from rfl]
    unfold sCan
    rw [decide_eq_true hE0, hF, Bool.true_and, Bool.true_and]
    by_cases hz : lSum w (sTT w s r) 0 = 0
    · rw [decide_eq_false (not_not_intro hz), decide_eq_true hz, cn_f, Bool.true_and, land_eatsAt_b hC hP hL' hE0 (by omega) (by omega) (by omega), bz_eq0]
      cases eatB w (oE w r (sPl s)) (sTm w s + sHr w s r) with
      | true => rw [cn_t, if_neg (by decide)]
      | false => rw [cn_f, if_pos (by decide), e3]; rfl
    · rw [decide_eq_true hz, decide_eq_false hz, cn_t, Bool.false_and, if_neg (by decide)]
  unfold stps_arrival
  rw [land_otherEnd_b hL hC hR h0 h1 (by omega), bq_eq (by omega) (by decide)]
  by_cases hE0 : oE w r (sPl s) = -1
  · refine ⟨M, ?_, fun _ _ _ _ => rfl⟩
    rw [if_pos hE0]
    have : sCan w s r = false := by unfold sCan; rw [decide_eq_false (by omega), Bool.false_and]
    rw [this, if_neg (by decide)]
  · rw [if_neg hE0, bq_eq (by omega) (by omega)]
    by_cases hr : r = (fd s 9 5 : Int) - 1
    · rw [if_pos hr]
      exact J (by unfold sFreeway; rw [decide_eq_true hr.symm]; simp) (by omega)
    · rw [if_neg hr, land_isHeldBy_b hL hp0 (by omega) (by omega), kpB_eq hp0 hp, bz_eq0, show (sPl s).toNat = fd s 5 4 from Int.toNat_natCast _]
      cases hh : (decide (oP w (sPl s) 0 = 1) && !(fd s 34 10).testBit (fd s 5 4)) with
      | false =>
        rw [cn_f]
        exact J (by unfold sFreeway; rw [hh]; rfl) (by omega)
      | true =>
        refine ⟨M, ?_, fun _ _ _ _ => rfl⟩
        rw [cn_t]
        have : sCan w s r = false := by unfold sCan sFreeway; rw [hh, decide_eq_false (show ¬ (fd s 9 5 : Int) - 1 = r from fun g => hr g.symm)]; simp
        rw [this, if_neg (by decide)]
