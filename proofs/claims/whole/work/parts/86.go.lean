/-! ===== GO, DELAY ===== -/
def OpAt (k : Nat) (M : MM) (D R : MM → OR) : Prop := ∃ c z M1 M2, D M = some (rI c, M1) ∧ R M1 = some (rI z, M2) ∧ M2 165 0 = c ∧ I32 c ∧ (c = 0 → M2 181 0 = z ∧ I32 z) ∧ Inv (k + 1) M2
theorem at_read {D R : MM → OR} {k : Nat} {M : MM} {c z : Int} (hk : k ≤ 511) (hI : Inv k M) (hc : I32 c) (hz : c = 0 → I32 z) (hA : AnsC (D M) M c z) (hR : ∀ N, Inv (k + 1) N → N 166 = M 166 → AnsR (R N) N c z) : OpAt k M D R := by
  have hx := hI.2.2.2.2.2.2.2.2.1
  obtain ⟨M1, a1, a2, a3, a4⟩ := hA
  have hI1 : Inv (k + 1) M1 := Inv_core hI a3 (by omega) a4.1 (by omega)
  obtain ⟨N2, z', r1, r2, r3, r4, r5, r6⟩ := hR M1 hI1 a3.w
  refine ⟨c, z', M1, N2, a1, r1, r2, hc, fun h => ⟨by rw [r5, a2 h, r3 h], by rw [r3 h]; exact hz h⟩, Inv_core hI1 r4 (Nat.le_refl _) (by rw [r6]; exact a4.1) (by rw [r6]; omega)⟩
theorem oP_hi {w w' : Nat → Int} (h : ∀ k, 10 ≤ k → w' k = w k) {p j : Int} (h0 : 0 ≤ p) (h1 : 0 ≤ j) : oP w' p j = oP w p j := h _ (by omega)
theorem oT_hi {w w' : Nat → Int} (h : ∀ k, 10 ≤ k → w' k = w k) {p j : Int} (h0 : 0 ≤ p) (h1 : 0 ≤ j) : oT w' p j = oT w p j := h _ (by omega)
theorem oR_hi {w w' : Nat → Int} (h : ∀ k, 10 ≤ k → w' k = w k) {p j : Int} (h0 : 0 ≤ p) (h1 : 0 ≤ j) : oR w' p j = oR w p j := h _ (by omega)
theorem oB_hi {w w' : Nat → Int} (h : ∀ k, 10 ≤ k → w' k = w k) {p j : Int} (h0 : 0 ≤ p) (h1 : 0 ≤ j) : oB w' p j = oB w p j := h _ (by omega)
/-- she moves, or waits -/
theorem move_row {k : Nat} {w w' : Nat → Int} (hW : WF k w) (h : ∀ j, j ≠ 6 → j ≠ 7 → j ≠ 8 → w' j = w j) (h6 : w 6 ≤ w' 6 ∧ w' 6 ≤ 200 * ((k + 1 : Nat) : Int)) (h7 : 0 ≤ w' 7 ∧ (w' 7 < w 0 ∨ (w 0 = 0 ∧ w' 7 = 0))) (h8 : -1 ≤ w' 8 ∧ w' 8 < w 2 ∨ w' 8 = -1) : WF (k + 1) w' ∧ StEq w w' := by
  have hh : ∀ k, 10 ≤ k → w' k = w k := fun k hk => h k (by omega) (by omega) (by omega)
  have hS : StEq w w' := ⟨fun k hk => h k (by omega) (by omega) (by omega), fun p j a b c d => oP_hi hh a c, fun p j a b c d => oT_hi hh a c, fun p j a b c d => oR_hi hh a c, fun p j a b c d => oB_hi hh a c⟩
  refine ⟨WF_act hW hS h6 h7 h8 (by rw [h 9 (by decide) (by decide) (by decide)]; exact hW.1.2.2.2.2.2.2.2.2.2.1) (fun p g0 g1 => ?_) (fun t g0 g1 => ?_) (fun b g0 g1 => ?_) (fun p g0 g1 g2 => ?_) ?_, hS⟩
  · rw [oP_hi hh g0 (by decide)]
    obtain ⟨p0, p1, p2, p3, p4, p5, p6, p7⟩ := hW.2.1 p g0 g1
    exact ⟨p6, fun g => (p7 g).2.2.2.2.2.2⟩
  · rw [oT_hi hh g0 (by decide), oT_hi hh g0 (by decide)]
    obtain ⟨t0, t1, t2, t3⟩ := hW.2.2.1 t g0 g1
    exact ⟨t2, t3⟩
  · rw [oB_hi hh g0 (by decide)]
    obtain ⟨-, -, -, -, -, b5⟩ := hW.2.2.2.2.1 b g0 g1
    exact ⟨b5.1, by omega⟩
  · rw [oP_hi hh g0 (by decide), oT_hi hh g2 (by decide), oT_hi hh g2 (by decide)]
    exact hW.2.2.2.2.2.1.1 p g0 g1 g2
  · obtain ⟨l1, l2⟩ := hW.2.2.2.2.2.2
    refine ⟨?_, fun q g0 g1 => ?_⟩
    · rw [h 9 (by decide) (by decide) (by decide), l1]
      congr 1
      apply cnt_cg
      intro i hi
      unfold paB
      rw [h 0 (by decide) (by decide) (by decide), oP_hi hh (by omega) (by decide)]
    · rw [h 9 (by decide) (by decide) (by decide)] at g1
      obtain ⟨a, b, c⟩ := l2 q g0 g1
      rw [hh _ (by omega), hh _ (by omega), hh _ (by omega)]
      exact ⟨a, b, c.1, by omega⟩
theorem move_jny {w w' : Nat → Int} {M M' : MM} (h : ∀ j, j ≠ 6 → j ≠ 7 → j ≠ 8 → w' j = w j) (hJ : JnyR 23 w M) (h0 : M' 23 0 = w' 7) (h1 : M' 23 1 = w' 6) (h2 : M' 23 2 = w' 8) (h3 : ∀ j, 3 ≤ j → M' 23 j = M 23 j) (hr : ∀ p, 24 ≤ p → p ≤ 28 → M' p = M p) : JnyR 23 w' M' := by
  have hh : ∀ k, 10 ≤ k → w' k = w k := fun k hk => h k (by omega) (by omega) (by omega)
  obtain ⟨⟨j0, j1, j2, j8⟩, j3, j4, j5, j6, j7, q1, q2, q3, q4⟩ := hJ
  have es : ∀ z, stB' w' z = stB' w z := fun z => by
    funext i
    unfold stB'
    rw [h 1 (by decide) (by decide) (by decide), oT_hi hh (by omega) (by decide)]
  have ep : paB w' = paB w := by
    funext i
    unfold paB
    rw [h 0 (by decide) (by decide) (by decide), oP_hi hh (by omega) (by decide)]
  have ef : frB w' = frB w := by
    funext i
    unfold frB
    rw [h 3 (by decide) (by decide) (by decide), oB_hi hh (by omega) (by decide)]
  refine ⟨⟨h0, h1, h2, by rw [h3 8 (by decide), h 9 (by decide) (by decide) (by decide)]; exact j8⟩, by rw [h3 3 (by decide), es]; exact j3, by rw [h3 4 (by decide), es]; exact j4, by rw [h3 5 (by decide), es]; exact j5, by rw [h3 6 (by decide), ep]; exact j6, by rw [h3 7 (by decide), ef]; exact j7, fun t a b => ?_, fun t a b => ?_, fun b c d e => ?_, fun q a b => ?_⟩
  · rw [h 1 (by decide) (by decide) (by decide)] at b
    rw [hr _ (by decide) (by decide), oT_hi hh a (by decide)]; exact q1 t a b
  · rw [h 1 (by decide) (by decide) (by decide)] at a
    rw [hr _ (by decide) (by decide)]; exact q2 t a b
  · rw [h 3 (by decide) (by decide) (by decide)] at d
    rw [oB_hi hh c (by decide)] at e
    rw [hr _ (by decide) (by decide), oB_hi hh c (by decide)]; exact q3 b c d e
  · rw [h 9 (by decide) (by decide) (by decide)] at b
    rw [hr _ (by decide) (by decide), hr _ (by decide) (by decide), hr _ (by decide) (by decide), hh _ (by omega), hh _ (by omega), hh _ (by omega)]
    exact q4 q a b
theorem hN_ret {E : Nat → MM → OR} {x : OR} {M1 : MM} {z : Int} (h : x = some (rI z, M1)) (hz : I32 z) : hN E x = some (rI 0, mU M1 181 0 z) := by
  rw [h]
  show (bif inB 0 1 then some (rI 0, mU M1 181 0 (w32 z)) else none) = _
  rw [nw hz]; rfl
theorem ok_go {r : Int} (hp : I32 r) : OpOK (drv_go r) (mo_go r) := by
  intro k M hk hI
  show OpAt k M _ _
  have hI' := hI
  obtain ⟨hTp, hW, hL, hJ, hlw, hMm, hIm, hSr, hx, hch⟩ := hI'
  have hX : EXC M := ⟨hx.1, by omega⟩
  have hO := LawR_ok hlw
  by_cases h1 : 0 ≤ r ∧ r < M 166 2
  · obtain ⟨s0, s1, s2, s3, s4, s5, s6, s7⟩ := now_st hW.1 hW.2.2.1
    have h7 := hW.1.2.2.2.2.2.2.2.1
    have c0 := hW.1.1
    have c2 := hW.1.2.2.1
    have c6 := hW.1.2.2.2.2.2.2.1
    have hr := (hW.2.2.2.1 r h1.1 h1.2).1
    have hH := sHr_b (n := k) hW.2.2.2.1 hO h1.1 h1.2 (nowS (M 166))
    have hE := oE_b hW.1 hW.2.2.2.1 (p := M 166 7) h1.1 h1.2
    obtain ⟨Ma, e1, f1⟩ := arrivalNow_v hW (by omega) hL hJ hlw h1.1 h1.2
    have preC : ∀ X, (bif cmpB .ne (if sCan (M 166) (nowS (M 166)) r = true then M 166 6 + sHr (M 166) (nowS (M 166)) r else -1) (-1) then (bV (gh_rememberAct Ma) fun M_8 => (bI (land_otherEnd 3 r (M_8 23 0) M_8) fun z_12 M_11 => (sM (mU M_11 23 0 z_12) fun M_13 => (sM (mU M_13 23 1 (if sCan (M 166) (nowS (M 166)) r = true then M 166 6 + sHr (M 166) (nowS (M 166)) r else -1)) fun M_15 => (sM (mU M_15 23 2 r) fun M_17 => some (rI (if sCan (M 166) (nowS (M 166)) r = true then M 166 6 + sHr (M 166) (nowS (M 166)) r else -1), M_17)))))) else thx 14 Ma) = X → gh_go r M = X := by
      intro X hX
      unfold gh_go
      rw [← hX, checkRoad_t hW.1 hL.1.2.2.1 h1.1 h1.2, e1, bI_I]
    have preR : ∀ (N : MM), N 166 = M 166 → ∃ N', Ts (mU N 165 0 0) N' ∧ ∀ X, (bif cmpB .ne (b2 (sCan (M 166) (nowS (M 166)) r)) 0 then (mo_go_J45 r 0 N') else (mo_go_J40 r N')) = X → mo_go r N = X := by
      intro N hN
      have w1 : (mU N 165 0 0) 166 = M 166 := hN
      obtain ⟨N', q1, q2⟩ := mo_canGo_v (N := mU N 165 0 0) (n := k) (s := nowS (M 166)) (r := r) (by rw [w1]; exact hW.1) (by rw [w1]; exact hW.2.1) (by rw [w1]; exact hW.2.2.2.1) (by rw [w1]; exact hW.2.2.1) (by rw [w1]; exact hO) (by omega) s0 (by rw [w1, s1]; omega) h1.1 (by rw [w1]; exact h1.2)
      refine ⟨N', q2, fun X hX => ?_⟩
      unfold mo_go
      rw [← hX, sM_eq, mo_noRoad_b (M := mU N 165 0 0) (n := k) (by rw [w1]; exact hW.1) hp, decide_eq_true (show 0 ≤ r ∧ r < (mU N 165 0 0) 166 2 by rw [w1]; exact h1), Bool.not_true, mo_throwsIf_f, bz_eq0, cn_f, mo_places_b, w1, bq_eq (by omega) (by decide), if_neg (by omega), mo_now_b (M := mU N 165 0 0) (n := k) (by rw [w1]; exact hW.1) (by rw [w1]; exact hW.2.1) (by rw [w1]; exact hW.2.2.1) (by rw [w1]; exact hW.2.2.2.2.1) (by omega), w1, q1, bI_I, w1]
    cases hc : sCan (M 166) (nowS (M 166)) r with
    | false =>
      refine at_read (c := 2) (z := 0) hk hI (by decide) (fun h => absurd h (by decide)) ?_ (fun N hN e => ?_)
      · show AnsC (hN (fun c_6 M_2 => (bif Nat.beq c_6 15 then some (rI 1, M_2) else (bif Nat.beq c_6 14 then some (rI 2, M_2) else none))) (gh_go r M)) M _ _
        refine ansC_thr (c := 14) (M1 := Ma) hX (preC _ ?_) rfl (by decide) f1.core (f1 999 (by decide) (by decide) (by decide))
        rw [hc, if_neg (by decide), bq_ne (by decide) (by decide), if_pos rfl]
        exact thx_v (by unfold EXC; rw [f1 999 (by decide) (by decide) (by decide)]; exact hX)
      · obtain ⟨N', q2, q3⟩ := preR N e
        rw [hc] at q3
        refine ⟨mU N' 165 0 2, 0, q3 _ ?_, rfl, fun h => absurd h (by decide), Core_m165 (Core_t0.trans' q2.core) (by decide) (by decide) (by decide) (by decide), q2.1 181 (by decide) (by decide), q2.1 999 (by decide) (by decide)⟩
        unfold mo_go_J40 mo_go_J45
        rw [bz_ne0, cn_f, mo_throwsIf_1, bq_eq (by decide) (by decide), if_neg (by decide)]
    | true =>
      have hIa : Inv k Ma := Inv_core hI f1.core (Nat.le_refl _) (by rw [f1 999 (by decide) (by decide) (by decide)]; exact hx.1) (by rw [f1 999 (by decide) (by decide) (by decide)]; exact hx.2)
      have wa : Ma 166 = M 166 := f1 166 (by decide) (by decide) (by decide)
      obtain ⟨rem, nx, M1, m1, m2, m3, m4, m5, e2, A⟩ := RA_ex hIa.2.2.2.2.2.1
      obtain ⟨A1, A2, A3, A4, A5, A6, A7, A8, A9⟩ := id A
      have f23 : ∀ p, 3 ≤ p → p ≤ 28 → M1 p = Ma p := fun p h1 h2 => A9 p (by omega) (by omega) (by omega)
      have hL1 : LandR 3 (M 166) M1 := LandR_fr (fun j hj => by rw [f23 _ (by omega) (by omega), f1 _ (by omega) (by omega) (by omega)]) hL
      have z0 : M1 23 0 = M 166 7 := by rw [f23 23 (by decide) (by decide), f1 23 (by decide) (by decide) (by decide)]; exact hJ.1.1
      generalize hz : M 166 6 + sHr (M 166) (nowS (M 166)) r = z at *
      have hzI : I32 z := by omega
      generalize hMc : mU (mU (mU M1 23 0 (oE (M 166) r (M 166 7))) 23 1 z) 23 2 r = Mc
      have fc : ∀ p, p ≠ 23 → Mc p = M1 p := fun p hp => by rw [← hMc, mU_ne hp, mU_ne hp, mU_ne hp]
      have eC : gh_go r M = some (rI z, Mc) := by
        refine preC _ ?_
        rw [hc, if_pos rfl, bq_ne hzI (by decide), if_neg (by omega), e2, bV_V, z0, land_otherEnd_b hL1 hW.1 hW.2.2.2.1 h1.1 h1.2 (by omega), sM_eq, sM_eq, sM_eq, hMc]
      have sc := hc
      unfold sCan at sc
      have hE0 : 0 ≤ oE (M 166) r (M 166 7) := by
        rw [s1] at sc
        simp only [Bool.and_eq_true, decide_eq_true_eq] at sc
        exact sc.1
      -- the reference
      have wN : (mU Mc 181 0 z) 166 = M 166 := by rw [mU_ne (by decide), fc 166 (by decide), A9 166 (by decide) (by decide) (by omega), wa]
      obtain ⟨N', q2, q3⟩ := preR (mU Mc 181 0 z) wN
      rw [hc] at q3
      have gN' : ∀ p, p ≠ 165 → p ≠ 172 → p ≠ 181 → N' p = Mc p := fun p h1 h2 h3 => by rw [q2.1 p h1 h2, mU_ne h1, mU_ne h3]
      have g5 : ∀ j, (j = 5 ∨ j = 6 ∨ j = 8 ∨ j = 13) → N' 165 j = Ma 165 j := fun j hj => by rw [q2.2 j (by omega), mU_eq, up_ne (by omega), mU_ne (by decide), fc 165 (by decide), A9 165 (by decide) (by decide) (by omega)]
      obtain ⟨N1, r1, B⟩ := RB_ex (rem := rem) (N := N') (by rw [g5 6 (by decide)]; exact m1) m4
      obtain ⟨B1, B2, B3, -⟩ := id B
      have w' : N' 166 = M 166 := by rw [q2.1 166 (by decide) (by decide)]; exact wN
      have w1 : N1 166 = M 166 := (B3 166 (by decide) (by decide)).trans w'
      obtain ⟨N2, r2, t1, t2, t3, t4⟩ := mo_hoursBy_v (N := N1) (n := k) (s := nowS (M 166)) (r := r) (by rw [w1]; exact hW.1) (by rw [w1]; exact hW.2.2.2.1) (by rw [w1]; exact hW.2.2.1) (by rw [w1]; exact hO) (by omega) s0 h1.1 (by rw [w1]; exact h1.2)
      have w2 : N2 166 = M 166 := (t1.1 166 (by decide) (by decide)).trans w1
      generalize hM2 : mU (mU (mU N2 166 6 z) 166 7 (oE (M 166) r (M 166 7))) 166 8 r = M2
      have gf : ∀ p, p ≠ 166 → M2 p = N2 p := fun p hp => by rw [← hM2, mU_ne hp, mU_ne hp, mU_ne hp]
      have g166 : ∀ j, j ≠ 6 → j ≠ 7 → j ≠ 8 → M2 166 j = M 166 j := fun j h6 h7 h8 => by rw [← hM2, mU_eq, up_ne h8, mU_eq, up_ne h7, mU_eq, up_ne h6, w2]
      have v6 : M2 166 6 = z := by rw [← hM2]; rfl
      have v7 : M2 166 7 = oE (M 166) r (M 166 7) := by rw [← hM2]; rfl
      have v8 : M2 166 8 = r := by rw [← hM2]; rfl
      refine ⟨0, z, mU Mc 181 0 z, M2, ?_, ?_, ?_, by decide, fun _ => ⟨?_, hzI⟩, ?_⟩
      · exact hN_ret (E := fun c_6 M_2 => (bif Nat.beq c_6 15 then some (rI 1, M_2) else (bif Nat.beq c_6 14 then some (rI 2, M_2) else none))) eC hzI
      · refine q3 _ ?_
        unfold mo_go_J45
        rw [bz_ne0, cn_t, mo_throwsIf_0, bq_eq (by decide) (by decide), if_pos rfl, r1, bV_V, mo_now_b (M := N1) (n := k) (by rw [w1]; exact hW.1) (by rw [w1]; exact hW.2.1) (by rw [w1]; exact hW.2.2.1) (by rw [w1]; exact hW.2.2.2.2.1) (by omega), w1, r2, bI_I, bq_in (by decide) (by decide), mo_otherEnd_b (M := N2) (n := k) (by rw [w2]; exact hW.1) (by rw [w2]; exact hW.2.2.2.1) h1.1 (by rw [w2]; exact h1.2) (by rw [w2]; omega), w1, w2, bq_in (by decide) (by decide), bq_in (by decide) (by decide), sM_eq, bq_in (by decide) (by decide), sM_eq, bq_in (by decide) (by decide), sM_eq, bq_in (by decide) (by decide), hz, hM2, v6]
      · rw [gf 165 (by decide), t1.2 0 (by decide), B2 0 (by decide), q2.2 0 (by decide)]; rfl
      · rw [gf 181 (by decide), t1.1 181 (by decide) (by decide), B3 181 (by decide) (by decide), q2.1 181 (by decide) (by decide)]; rfl
      · have hmv := move_row (w' := M2 166) hW g166 (by omega) (by rw [v7]; omega) (by rw [v8]; omega)
        refine act_end (M := Ma) (M1 := M1) (N0 := N') (N1 := N1) hIa hk m1 m2 m3 m4 m5 A (fun p h1 h2 h3 h4 => ?_) g5 B (fun p h1 h2 h3 => ?_) (fun j hj => ?_) (fun j hj => ?_) hmv.1 (by rw [wa]; exact hmv.2) ?_
        · rw [gN' p h1 h2 h3, fc p (by omega)]
        · rw [gf p h3, t1.1 p h1 h2]
        · rw [gf 165 (by decide), t1.2 j (by omega)]
        · rw [wa]; exact g166 j (by omega) (by omega) (by omega)
        · refine move_jny (w := M 166) (M := M) g166 hJ ?_ ?_ ?_ (fun j hj => ?_) (fun p h1 h2 => ?_)
          · rw [gN' 23 (by decide) (by decide) (by decide), v7, ← hMc]; rfl
          · rw [gN' 23 (by decide) (by decide) (by decide), v6, ← hMc]; rfl
          · rw [gN' 23 (by decide) (by decide) (by decide), v8, ← hMc]; rfl
          · rw [gN' 23 (by decide) (by decide) (by decide), ← hMc, mU_eq, up_ne (by omega), mU_eq, up_ne (by omega), mU_eq, up_ne (by omega), f23 23 (by decide) (by decide), f1 23 (by decide) (by decide) (by decide)]
          · rw [gN' p (by omega) (by omega) (by omega), fc p (by omega), f23 p (by omega) (by omega), f1 p (by omega) (by omega) (by omega)]
  · refine at_read (c := 1) (z := 0) hk hI (by decide) (fun h => absurd h (by decide)) ?_ (fun N hN e => ?_)
    · exact ansC_thr (E := fun c_6 M_2 => (bif Nat.beq c_6 15 then some (rI 1, M_2) else (bif Nat.beq c_6 14 then some (rI 2, M_2) else none))) (c := 15) hX (checkRoad_f hW.1 hL.1.2.2.1 hX hp h1) rfl (by decide) Core.rfl' rfl
    · refine ansR_thr (z' := 0) ?_ (by decide)
      unfold mo_go
      rw [sM_eq, mo_noRoad_b (M := mU N 165 0 0) (n := k) (by rw [t0_166, e]; exact hW.1) hp, decide_eq_false (show ¬ (0 ≤ r ∧ r < (mU N 165 0 0) 166 2) by rw [t0_166, e]; exact h1), Bool.not_false, mo_throwsIf_t, bz_eq0, cn_t]
