/-! ===== SOONEST, REACHED, SPARED, LOCKED as calls ===== -/
theorem FrR.core {N N' : MM} (h : FrR N N') : Core N N' := by
  refine ⟨fun a ha => h.1 a (by unfold coreA at ha; omega) (by unfold coreA at ha; omega) (by unfold coreA at ha; omega) (by unfold coreA at ha; omega), ?_, ?_, ?_⟩
  · rw [h.1 1 (by decide) (by decide) (by decide) (by decide)]; exact ⟨rfl, rfl⟩
  · exact ⟨h.2 5 (by decide) (by decide), h.2 6 (by decide) (by decide), h.2 8 (by decide) (by decide), h.2 13 (by decide) (by decide)⟩
  · rw [h.1 0 (by decide) (by decide) (by decide) (by decide)]; exact ⟨rfl, rfl, rfl⟩
theorem thr_call {D : MM → OR} {G : MM → OR} {c : Nat} {k : Nat} {M : MM} (hD : ∀ X, D X = hN (fun c_6 M_2 => (bif Nat.beq c_6 c then some (rI 1, M_2) else none)) (G X)) (hk : k ≤ 512) (hI : Inv k M) (hx : EXC M) (h1 : G M = some (.inr c, xM M)) : ∃ M1, D M = some (rI 1, M1) ∧ ((1 : Int) = 0 → M1 181 0 = 0) ∧ Inv (k + 1) M1 ∧ M1 166 = M 166 := by
  have hx9 := hI.2.2.2.2.2.2.2.2.1
  obtain ⟨M1, a1, a2, a3, a4⟩ := ansC_thr (z := 0) (E := fun c_6 M_2 => (bif Nat.beq c_6 c then some (rI 1, M_2) else none)) (j := 1) hx h1 (by rw [show Nat.beq c c = true from Nat.beq_refl c, cn_t]) (by decide) Core.rfl' rfl
  exact ⟨M1, by rw [hD, a1], fun h => absurd h (by decide), Inv_core hI a3 (by omega) a4.1 (by omega), a3.w⟩
theorem ansR_srch {y : OR} {N N' : MM} {z : Int} (h : y = some (rI z, N')) (hf : FrR (mU N 165 0 0) N') : AnsR y N 0 z := by
  refine ansR_ret h ?_ (Core_t0.trans' hf.core) ?_ ?_
  · rw [hf.2 0 (by decide) (by decide)]; rfl
  · rw [hf.1 181 (by decide) (by decide) (by decide) (by decide)]; rfl
  · rw [hf.1 999 (by decide) (by decide) (by decide) (by decide)]; rfl
theorem ok_soonest {v1 : Int} : OpOK (drv_soonest v1) (mo_soonest v1) := by
  refine op_srch fun k M hk hI hx => ?_
  have hW := hI.2.1
  have hL := hI.2.2.1
  have hc := hW.1.1
  by_cases hz : M 166 0 = 0
  · refine ⟨1, 0, by decide, fun h => absurd h (by decide), thr_call (G := gh_soonest v1) (c := 14) (fun X => rfl) hk hI hx ?_, fun N hN e => ?_⟩
    · unfold gh_soonest
      rw [checkAny_f hL.1.1 hx hz]
    · refine ansR_thr (z' := 0) ?_ (by decide)
      unfold mo_soonest mo_soonest_J18
      rw [sM_eq, mo_places_b, show (mU N 165 0 0) 166 0 = M 166 0 by rw [mU_ne (by decide), e], hz, bq_ne (by decide) (by decide), if_pos rfl, mo_throwsIf_1, bq_eq (by decide) (by decide), if_neg (by decide)]
  · obtain ⟨Ms, q, s1, s2, s3, s4, s5⟩ := search_b hk hI hz
    have l33 : Ms 3 3 = M 166 3 := by rw [s5 3 (by decide) (by decide) (by decide) (by decide) (by decide) (by decide) (by decide) (by decide) (by decide)]; exact hL.1.2.2.2.1
    obtain ⟨X, hX⟩ : ∃ X, X = iAnd v1 (iShl 1 (M 166 3) - 1) := ⟨_, rfl⟩
    have ref : ∀ (N : MM) (K : Int → MM → OR), Inv (k + 1) N → N 166 = M 166 → (K = fun z_11 M_10 => (bif cmpB .ne z_11 0 then (bI (mo_allBrothers v1 M_10) fun z_14 M_13 => (mo_soonest_L48 z_14 (fun v3_21 M_22 => some (rI v3_21, M_22)) FU (-1) 0 M_13)) else some (rI (-3), M_10))) → mo_soonest v1 N = bI (mo_searches (mU N 165 0 0)) K := fun N K hN e hK => by
      unfold mo_soonest mo_soonest_J18
      rw [sM_eq, mo_places_b, bq_ne (by rw [mU_ne (by decide), e]; omega) (by decide), if_neg (by rw [mU_ne (by decide), e]; exact hz), mo_throwsIf_0, bq_eq (by decide) (by decide), if_pos rfl, hK]
    have clsD := s2
    rcases s2 with ⟨d4, n, f, d3, dA, d1⟩ | ⟨d4, dB⟩
    · have zI := mn_J (P := fewB X) (h := hrsN) (f := f) (n := n) hrsN_J
      refine ⟨0, fo (mnG (fewB X) hrsN f) n 0 (-1), by decide, fun _ => by omega, srch_call (G := gh_soonest v1) (c := 14) (fun X => rfl) hk hI hz (by omega) (Ms := Ms) ?_ s3 s4 s5 clsD, fun N hN e => ?_⟩
      · unfold gh_soonest land_allBrothers
        rw [checkAny_t hW.1 hL.1.1 hz, s1, d4, bq_eq (by decide) (by decide), if_pos rfl, l33, bI_I, ← hX, few_c d3 dA.1 d1]
      · obtain ⟨N', o, r1, r2, r3, r4⟩ := searches_b (N := mU N 165 0 0) (m := k + 1) (k := fun z_11 M_10 => (bif cmpB .ne z_11 0 then (bI (mo_allBrothers v1 M_10) fun z_14 M_13 => (mo_soonest_L48 z_14 (fun v3_21 M_22 => some (rI v3_21, M_22)) FU (-1) 0 M_13)) else some (rI (-3), M_10))) hN.2.1 (by omega) (LawR_ok hN.2.2.2.2.1) (by rw [mU_ne (by decide), e]; exact hz)
        have e' : (mU N 165 0 0) 166 = M 166 := by rw [mU_ne (by decide), e]
        rw [e'] at r3 r4
        cases o with
        | true => exact (allr_big dA (r3 rfl)).elim
        | false =>
          obtain ⟨n', f', q1, q2, q3, q4, q5⟩ := r4 rfl
          have gs : ∀ i, i < n' → GS (M 166) (f' i) := fun i hi => GS_rch hW hz (q2.2.1 i hi)
          have w' : N' 166 = M 166 := by rw [r2.1 166 (by decide) (by decide) (by decide) (by decide), e']
          refine ansR_srch (N' := N') ?_ r2
          rw [ref N _ hN e rfl, r1, bz_ne0, Bool.not_false, cn_t]
          unfold mo_allBrothers
          rw [mo_brothers_b, w', bI_I, ← hX, few_r q1 q2.1 (fun i hi => (gs i hi).1) q3, mn_same dA q2 (mn_spec fun i _ => (hrsN_J _).1) (mn_spec fun i _ => (hrsN_J _).1)]
    · refine ⟨0, -3, by decide, fun _ => by decide, srch_call (G := gh_soonest v1) (c := 14) (fun X => rfl) hk hI hz (by decide) (Ms := Ms) ?_ s3 s4 s5 clsD, fun N hN e => ?_⟩
      · unfold gh_soonest
        rw [checkAny_t hW.1 hL.1.1 hz, s1, d4, bq_eq (by decide) (by decide), if_neg (by decide)]
      · obtain ⟨N', o, r1, r2, r3, r4⟩ := searches_b (N := mU N 165 0 0) (m := k + 1) (k := fun z_11 M_10 => (bif cmpB .ne z_11 0 then (bI (mo_allBrothers v1 M_10) fun z_14 M_13 => (mo_soonest_L48 z_14 (fun v3_21 M_22 => some (rI v3_21, M_22)) FU (-1) 0 M_13)) else some (rI (-3), M_10))) hN.2.1 (by omega) (LawR_ok hN.2.2.2.2.1) (by rw [mU_ne (by decide), e]; exact hz)
        have e' : (mU N 165 0 0) 166 = M 166 := by rw [mU_ne (by decide), e]
        rw [e'] at r3 r4
        cases o with
        | false =>
          obtain ⟨n', f', q1, q2, -⟩ := r4 rfl
          exact (allr_big q2 dB).elim
        | true =>
          refine ansR_srch (N' := N') ?_ r2
          rw [ref N _ hN e rfl, r1, bz_ne0, Bool.not_true, cn_f]
theorem ok_reached {v1 : Int} (h1 : I32 v1) : OpOK (drv_reached v1) (mo_reached v1) := by
  refine op_srch fun k M hk hI hx => ?_
  have hW := hI.2.1
  have hL := hI.2.2.1
  have hc := hW.1.1
  by_cases hp : 0 ≤ v1 ∧ v1 < M 166 0
  · have hz : M 166 0 ≠ 0 := by omega
    obtain ⟨Ms, q, s1, s2, s3, s4, s5⟩ := search_b hk hI hz
    have ref : ∀ (N : MM) (K : Int → MM → OR), Inv (k + 1) N → N 166 = M 166 → (K = fun z_11 M_10 => (bif cmpB .ne z_11 0 then (mo_reached_L34 v1 (fun v2_24 M_25 => some (rI v2_24, M_25)) FU (-1) 0 M_10) else some (rI (-3), M_10))) → mo_reached v1 N = bI (mo_searches (mU N 165 0 0)) K := fun N K hN e hK => by
      unfold mo_reached
      rw [sM_eq, mo_noPlace_b (M := mU N 165 0 0) hN.2.1.1 h1, decide_eq_true (show 0 ≤ v1 ∧ v1 < (mU N 165 0 0) 166 0 by rw [mU_ne (by decide), e]; exact hp), Bool.not_true, show b2 false = 0 from rfl, mo_throwsIf_0, bq_eq (by decide) (by decide), if_pos rfl, hK]
    have clsD := s2
    rcases s2 with ⟨d4, n, f, d3, dA, d1⟩ | ⟨d4, dB⟩
    · have zI := mn_J (P := fun s => decide (sPl s = v1)) (h := hrsN) (f := f) (n := n) hrsN_J
      refine ⟨0, fo (mnG (fun s => decide (sPl s = v1)) hrsN f) n 0 (-1), by decide, fun _ => by omega, srch_call (G := gh_reached v1) (c := 15) (fun X => rfl) hk hI hz (by omega) (Ms := Ms) ?_ s3 s4 s5 clsD, fun N hN e => ?_⟩
      · unfold gh_reached
        rw [checkPlace_t hW.1 hL.1.1 hp.1 hp.2, s1, d4, bq_eq (by decide) (by decide), if_pos rfl, to_c h1 d3 dA.1 d1]
      · obtain ⟨N', o, r1, r2, r3, r4⟩ := searches_b (N := mU N 165 0 0) (m := k + 1) (k := fun z_11 M_10 => (bif cmpB .ne z_11 0 then (mo_reached_L34 v1 (fun v2_24 M_25 => some (rI v2_24, M_25)) FU (-1) 0 M_10) else some (rI (-3), M_10))) hN.2.1 (by omega) (LawR_ok hN.2.2.2.2.1) (by rw [mU_ne (by decide), e]; exact hz)
        have e' : (mU N 165 0 0) 166 = M 166 := by rw [mU_ne (by decide), e]
        rw [e'] at r3 r4
        cases o with
        | true => exact (allr_big dA (r3 rfl)).elim
        | false =>
          obtain ⟨n', f', q1, q2, q3, q4, q5⟩ := r4 rfl
          refine ansR_srch (N' := N') ?_ r2
          rw [ref N _ hN e rfl, r1, bz_ne0, Bool.not_false, cn_t, to_r h1 q1 q2.1 (fun i hi => (GS_rch hW hz (q2.2.1 i hi)).1) q3, mn_same dA q2 (mn_spec fun i _ => (hrsN_J _).1) (mn_spec fun i _ => (hrsN_J _).1)]
    · refine ⟨0, -3, by decide, fun _ => by decide, srch_call (G := gh_reached v1) (c := 15) (fun X => rfl) hk hI hz (by decide) (Ms := Ms) ?_ s3 s4 s5 clsD, fun N hN e => ?_⟩
      · unfold gh_reached
        rw [checkPlace_t hW.1 hL.1.1 hp.1 hp.2, s1, d4, bq_eq (by decide) (by decide), if_neg (by decide)]
      · obtain ⟨N', o, r1, r2, r3, r4⟩ := searches_b (N := mU N 165 0 0) (m := k + 1) (k := fun z_11 M_10 => (bif cmpB .ne z_11 0 then (mo_reached_L34 v1 (fun v2_24 M_25 => some (rI v2_24, M_25)) FU (-1) 0 M_10) else some (rI (-3), M_10))) hN.2.1 (by omega) (LawR_ok hN.2.2.2.2.1) (by rw [mU_ne (by decide), e]; exact hz)
        have e' : (mU N 165 0 0) 166 = M 166 := by rw [mU_ne (by decide), e]
        rw [e'] at r3 r4
        cases o with
        | false =>
          obtain ⟨n', f', q1, q2, -⟩ := r4 rfl
          exact (allr_big q2 dB).elim
        | true =>
          refine ansR_srch (N' := N') ?_ r2
          rw [ref N _ hN e rfl, r1, bz_ne0, Bool.not_true, cn_f]
  · refine ⟨1, 0, by decide, fun h => absurd h (by decide), thr_call (G := gh_reached v1) (c := 15) (fun X => rfl) hk hI hx ?_, fun N hN e => ?_⟩
    · unfold gh_reached
      rw [checkPlace_f hW.1 hL.1.1 hx h1 hp]
    · refine ansR_thr (z' := 0) ?_ (by decide)
      unfold mo_reached
      rw [sM_eq, mo_noPlace_b (M := mU N 165 0 0) hN.2.1.1 h1, decide_eq_false (show ¬ (0 ≤ v1 ∧ v1 < (mU N 165 0 0) 166 0) by rw [mU_ne (by decide), e]; exact hp), Bool.not_false, show b2 true = 1 from rfl, mo_throwsIf_1, bq_eq (by decide) (by decide), if_neg (by decide)]
theorem ok_spared {v1 : Int} : OpOK (drv_spared v1) (mo_spared v1) := by
  refine op_srch fun k M hk hI hx => ?_
  have hW := hI.2.1
  have hL := hI.2.2.1
  have hJ := hI.2.2.2.1
  have hc := hW.1.1
  by_cases hz : M 166 0 = 0
  · refine ⟨1, 0, by decide, fun h => absurd h (by decide), thr_call (G := gh_spared v1) (c := 14) (fun X => rfl) hk hI hx ?_, fun N hN e => ?_⟩
    · unfold gh_spared
      rw [checkAny_f hL.1.1 hx hz]
    · refine ansR_thr (z' := 0) ?_ (by decide)
      unfold mo_spared mo_spared_J18
      rw [sM_eq, mo_places_b, show (mU N 165 0 0) 166 0 = M 166 0 by rw [mU_ne (by decide), e], hz, bq_ne (by decide) (by decide), if_pos rfl, mo_throwsIf_1, bq_eq (by decide) (by decide), if_neg (by decide)]
  · obtain ⟨Ms, q, s1, s2, s3, s4, s5⟩ := search_b hk hI hz
    have sF : ∀ j, (j ≤ 16 ∨ (23 ≤ j ∧ j ≤ 28)) → 3 ≤ j → Ms j = M j := fun j hj h3 => s5 j (by omega) (by omega) (by omega) (by omega) (by omega) (by omega) (by omega) (by omega) (by omega)
    have l33 : Ms 3 3 = M 166 3 := by rw [sF 3 (by omega) (by omega)]; exact hL.1.2.2.2.1
    obtain ⟨X, hX⟩ : ∃ X, X = iAnd v1 (iShl 1 (M 166 3) - 1) := ⟨_, rfl⟩
    have ref : ∀ (N : MM) (K : Int → MM → OR), Inv (k + 1) N → N 166 = M 166 → (K = fun z_11 M_10 => (bif cmpB .ne z_11 0 then (bI (mo_allBrothers v1 M_10) fun z_14 M_13 => (bif inB 0 6000 then (bI (mo_thingsIn (M_13 173 0) 3 M_13) fun z_17 M_16 => (mo_spared_L61 z_14 z_17 (fun v4_27 M_28 => some (rI v4_27, M_28)) FU (-1) 0 M_16)) else none)) else some (rI (-3), M_10))) → mo_spared v1 N = bI (mo_searches (mU N 165 0 0)) K := fun N K hN e hK => by
      unfold mo_spared mo_spared_J18
      rw [sM_eq, mo_places_b, bq_ne (by rw [mU_ne (by decide), e]; omega) (by decide), if_neg (by rw [mU_ne (by decide), e]; exact hz), mo_throwsIf_0, bq_eq (by decide) (by decide), if_pos rfl, hK]
    have clsD := s2
    rcases s2 with ⟨d4, n, f, d3, dA, d1⟩ | ⟨d4, dB⟩
    · have zI := mn_J (P := fewB X) (h := lossN (M 166)) (f := f) (n := n) (lossN_J hW.1 hW.2.2.1)
      refine ⟨0, fo (mnG (fewB X) (lossN (M 166)) f) n 0 (-1), by decide, fun _ => by omega, srch_call (G := gh_spared v1) (c := 14) (fun X => rfl) hk hI hz (by omega) (Ms := Ms) ?_ s3 s4 s5 clsD, fun N hN e => ?_⟩
      · unfold gh_spared land_allBrothers
        rw [checkAny_t hW.1 hL.1.1 hz, s1, d4, bq_eq (by decide) (by decide), if_pos rfl, l33, bI_I, ← hX, loss_c (w := M 166) hW.1 hW.2.2.1 (LandR_fr (fun j hj => sF _ (by omega) (by omega)) hL) (JnyR_fr (fun j hj => sF _ (by omega) (by omega)) hJ) d3 dA.1 d1]
      · obtain ⟨N', o, r1, r2, r3, r4⟩ := searches_b (N := mU N 165 0 0) (m := k + 1) (k := fun z_11 M_10 => (bif cmpB .ne z_11 0 then (bI (mo_allBrothers v1 M_10) fun z_14 M_13 => (bif inB 0 6000 then (bI (mo_thingsIn (M_13 173 0) 3 M_13) fun z_17 M_16 => (mo_spared_L61 z_14 z_17 (fun v4_27 M_28 => some (rI v4_27, M_28)) FU (-1) 0 M_16)) else none)) else some (rI (-3), M_10))) hN.2.1 (by omega) (LawR_ok hN.2.2.2.2.1) (by rw [mU_ne (by decide), e]; exact hz)
        have e' : (mU N 165 0 0) 166 = M 166 := by rw [mU_ne (by decide), e]
        rw [e'] at r3 r4
        cases o with
        | true => exact (allr_big dA (r3 rfl)).elim
        | false =>
          obtain ⟨n', f', q1, q2, q3, q4, q5⟩ := r4 rfl
          have gs : ∀ i, i < n' → GS (M 166) (f' i) := fun i hi => GS_rch hW hz (q2.2.1 i hi)
          have w' : N' 166 = M 166 := by rw [r2.1 166 (by decide) (by decide) (by decide) (by decide), e']
          have eT : ∀ kk : Int → MM → OR, bI (mo_thingsIn (N' 173 0) 3 N') kk = kk ((bset 10 (stB' (M 166) 3) : Nat) : Int) N' := fun kk => by
            have := mo_thingsIn_b (M := N') (n := k) (k := kk) (s := nowS (M 166)) (z := 3) (by rw [w']; exact hW.1) (GS_now hW hz).1 (by decide)
            rw [w', nowS_ts hW.1 hW.2.2.1 3] at this
            rw [q3 0 q4, q5]
            exact this
          refine ansR_srch (N' := N') ?_ r2
          rw [ref N _ hN e rfl, r1, bz_ne0, Bool.not_false, cn_t]
          unfold mo_allBrothers
          rw [mo_brothers_b, w', bI_I, ← hX, bq_in (by decide) (by decide), eT, loss_r (w := M 166) w' hW q1 q2.1 gs q3, mn_same dA q2 (mn_spec fun i _ => (lossN_J hW.1 hW.2.2.1 _).1) (mn_spec fun i _ => (lossN_J hW.1 hW.2.2.1 _).1)]
    · refine ⟨0, -3, by decide, fun _ => by decide, srch_call (G := gh_spared v1) (c := 14) (fun X => rfl) hk hI hz (by decide) (Ms := Ms) ?_ s3 s4 s5 clsD, fun N hN e => ?_⟩
      · unfold gh_spared
        rw [checkAny_t hW.1 hL.1.1 hz, s1, d4, bq_eq (by decide) (by decide), if_neg (by decide)]
      · obtain ⟨N', o, r1, r2, r3, r4⟩ := searches_b (N := mU N 165 0 0) (m := k + 1) (k := fun z_11 M_10 => (bif cmpB .ne z_11 0 then (bI (mo_allBrothers v1 M_10) fun z_14 M_13 => (bif inB 0 6000 then (bI (mo_thingsIn (M_13 173 0) 3 M_13) fun z_17 M_16 => (mo_spared_L61 z_14 z_17 (fun v4_27 M_28 => some (rI v4_27, M_28)) FU (-1) 0 M_16)) else none)) else some (rI (-3), M_10))) hN.2.1 (by omega) (LawR_ok hN.2.2.2.2.1) (by rw [mU_ne (by decide), e]; exact hz)
        have e' : (mU N 165 0 0) 166 = M 166 := by rw [mU_ne (by decide), e]
        rw [e'] at r3 r4
        cases o with
        | false =>
          obtain ⟨n', f', q1, q2, -⟩ := r4 rfl
          exact (allr_big q2 dB).elim
        | true =>
          refine ansR_srch (N' := N') ?_ r2
          rw [ref N _ hN e rfl, r1, bz_ne0, Bool.not_true, cn_f]
theorem ok_locked {v1 : Int} (hv : v1 = 0 ∨ v1 = 1) : OpOK (drv_locked v1) (mo_locked v1) := by
  refine op_srch fun k M hk hI hx => ?_
  have hW := hI.2.1
  have hL := hI.2.2.1
  have hc := hW.1.1
  by_cases hz : M 166 0 = 0
  · refine ⟨1, 0, by decide, fun h => absurd h (by decide), thr_call (G := gh_locked v1) (c := 14) (fun X => rfl) hk hI hx ?_, fun N hN e => ?_⟩
    · unfold gh_locked
      rw [checkAny_f hL.1.1 hx hz]
    · refine ansR_thr (z' := 0) ?_ (by decide)
      unfold mo_locked mo_locked_J18
      rw [sM_eq, mo_places_b, show (mU N 165 0 0) 166 0 = M 166 0 by rw [mU_ne (by decide), e], hz, bq_ne (by decide) (by decide), if_pos rfl, mo_throwsIf_1, bq_eq (by decide) (by decide), if_neg (by decide)]
  · obtain ⟨Ms, q, s1, s2, s3, s4, s5⟩ := search_b hk hI hz
    have l35 : Ms 3 5 = ((bset 10 (kpB (M 166)) : Nat) : Int) := by rw [s5 3 (by decide) (by decide) (by decide) (by decide) (by decide) (by decide) (by decide) (by decide) (by decide)]; exact hL.2.1
    have ref : ∀ (N : MM) (K : Int → MM → OR), Inv (k + 1) N → N 166 = M 166 → (K = fun z_11 M_10 => (bif cmpB .ne z_11 0 then (bif cmpB .eq v1 0 then (mo_locked_L50 (fun v2_20 M_21 => (mo_locked_L84 (fun v2_28 M_29 => some (rI v2_28, M_29)) FU v2_20 0 M_21)) FU 0 0 M_10) else some (rI (M_10 165 25), M_10)) else some (rI (-3), M_10))) → mo_locked v1 N = bI (mo_searches (mU N 165 0 0)) K := fun N K hN e hK => by
      unfold mo_locked mo_locked_J18
      rw [sM_eq, mo_places_b, bq_ne (by rw [mU_ne (by decide), e]; omega) (by decide), if_neg (by rw [mU_ne (by decide), e]; exact hz), mo_throwsIf_0, bq_eq (by decide) (by decide), if_pos rfl, hK]
    have clsD := s2
    rcases s2 with ⟨d4, n, f, d3, dA, d1⟩ | ⟨d4, dB⟩
    · have dn := dA.1
      have b31 := bset_31 (f := fun p => kpB (M 166) p && !evP f n p) (show 10 ≤ 31 by decide)
      refine ⟨0, if v1 = 0 then ((bset 10 (fun p => kpB (M 166) p && !evP f n p) : Nat) : Int) else (n : Int), by decide, fun _ => by split <;> omega, srch_call (G := gh_locked v1) (c := 14) (fun X => rfl) hk hI hz (by split <;> omega) (Ms := Ms) ?_ s3 s4 s5 clsD, fun N hN e => ?_⟩
      · unfold gh_locked
        rw [checkAny_t hW.1 hL.1.1 hz, s1, d4, bq_eq (by decide) (by decide), if_pos rfl]
        rcases hv with rfl | rfl
        · rw [bq_eq (by decide) (by decide), if_pos rfl, if_pos rfl, ever_c d3 dn d1, l35, andn_s (bset_31 (by decide)) (by decide)]
          congr 4
          exact bset_cg 10 fun p hp => by rw [bset_bit, decide_eq_true hp, Bool.true_and]
        · rw [bq_eq (by decide) (by decide), if_neg (by decide), if_neg (by decide), d3]
      · obtain ⟨N', o, r1, r2, r3, r4⟩ := searches_b (N := mU N 165 0 0) (m := k + 1) (k := fun z_11 M_10 => (bif cmpB .ne z_11 0 then (bif cmpB .eq v1 0 then (mo_locked_L50 (fun v2_20 M_21 => (mo_locked_L84 (fun v2_28 M_29 => some (rI v2_28, M_29)) FU v2_20 0 M_21)) FU 0 0 M_10) else some (rI (M_10 165 25), M_10)) else some (rI (-3), M_10))) hN.2.1 (by omega) (LawR_ok hN.2.2.2.2.1) (by rw [mU_ne (by decide), e]; exact hz)
        have e' : (mU N 165 0 0) 166 = M 166 := by rw [mU_ne (by decide), e]
        rw [e'] at r3 r4
        cases o with
        | true => exact (allr_big dA (r3 rfl)).elim
        | false =>
          obtain ⟨n', f', q1, q2, q3, q4, q5⟩ := r4 rfl
          have w' : N' 166 = M 166 := by rw [r2.1 166 (by decide) (by decide) (by decide) (by decide), e']
          have ev : ∀ p, evP f n p = evP f' n' p := fun p => by
            rw [Bool.eq_iff_iff, evP_iff, evP_iff]
            constructor
            · rintro ⟨i, hi, h⟩
              obtain ⟨j, j1, j2⟩ := q2.2.2.1 _ (dA.2.1 i hi)
              exact ⟨j, j1, by rw [j2]; exact h⟩
            · rintro ⟨i, hi, h⟩
              obtain ⟨j, j1, j2⟩ := dA.2.2.1 _ (q2.2.1 i hi)
              exact ⟨j, j1, by rw [j2]; exact h⟩
          refine ansR_srch (N' := N') ?_ r2
          rw [ref N _ hN e rfl, r1, bz_ne0, Bool.not_false, cn_t]
          rcases hv with rfl | rfl
          · have lk := lock_r (N := N') (n := n') (f := f') (K := fun v2_28 M_29 => some (rI v2_28, M_29)) q1 q2.1 (fun i hi => (GS_rch hW hz (q2.2.1 i hi)).1) q3 (kpB (M 166)) n' FU 0 (by omega) (FU_gt (by have := q2.1; omega))
            have e0 : bset 10 (fun p => kpB (M 166) p && !evP f' 0 p) = bset 10 (kpB (M 166)) := bset_cg 10 fun p hp => by
              show (kpB (M 166) p && !false) = _
              rw [Bool.not_false, Bool.and_true]
            rw [e0] at lk
            rw [bq_eq (by decide) (by decide), if_pos rfl, if_pos rfl, keep_r (w := M 166) w' hW, show mo_locked_L84 _ FU _ 0 N' = _ from lk, bset_cg (f := fun p => kpB (M 166) p && !evP f' n' p) (f' := fun p => kpB (M 166) p && !evP f n p) 10 fun p hp => by rw [ev]]
          · rw [bq_eq (by decide) (by decide), if_neg (by decide), if_neg (by decide), q1, allr_n dA q2]
    · refine ⟨0, -3, by decide, fun _ => by decide, srch_call (G := gh_locked v1) (c := 14) (fun X => rfl) hk hI hz (by decide) (Ms := Ms) ?_ s3 s4 s5 clsD, fun N hN e => ?_⟩
      · unfold gh_locked
        rw [checkAny_t hW.1 hL.1.1 hz, s1, d4, bq_eq (by decide) (by decide), if_neg (by decide)]
      · obtain ⟨N', o, r1, r2, r3, r4⟩ := searches_b (N := mU N 165 0 0) (m := k + 1) (k := fun z_11 M_10 => (bif cmpB .ne z_11 0 then (bif cmpB .eq v1 0 then (mo_locked_L50 (fun v2_20 M_21 => (mo_locked_L84 (fun v2_28 M_29 => some (rI v2_28, M_29)) FU v2_20 0 M_21)) FU 0 0 M_10) else some (rI (M_10 165 25), M_10)) else some (rI (-3), M_10))) hN.2.1 (by omega) (LawR_ok hN.2.2.2.2.1) (by rw [mU_ne (by decide), e]; exact hz)
        have e' : (mU N 165 0 0) 166 = M 166 := by rw [mU_ne (by decide), e]
        rw [e'] at r3 r4
        cases o with
        | false =>
          obtain ⟨n', f', q1, q2, -⟩ := r4 rfl
          exact (allr_big q2 dB).elim
        | true =>
          refine ansR_srch (N' := N') ?_ r2
          rw [ref N _ hN e rfl, r1, bz_ne0, Bool.not_true, cn_f]
