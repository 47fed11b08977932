/-! ===== FAR, TURN BACK, MEET as calls ===== -/
def faV (w : Nat → Int) (a p : Nat) : Int := if dF w a p = 100000 then -1 else dF w a p
theorem faV_b {w : Nat → Int} {n a p : Nat} (hC : WC n w) (hR : WR w) (ha : (a : Int) < w 0) (hp : (p : Int) < w 0) : -1 ≤ faV w a p ∧ faV w a p ≤ 9000 := by
  have := cF_dF hC hR ha hp
  unfold faV
  split <;> omega
theorem fewest_b {M : MM} {w : Nat → Int} {n a p : Nat} {k : Int → MM → OR} (hC : WC n w) (hR : WR w) (hL : LandR 3 w M) (ha : (a : Int) < w 0) (hp : (p : Int) < w 0) : bI (ways_fewestHours (a : Int) (p : Int) M) k = k (faV w a p) (rwG M 159 (farF w a)) := by
  have c0 := hC.1
  have hcd := cF_dF hC hR ha hp
  unfold ways_fewestHours faV
  rw [measure_b (Or.inl rfl) hC hR hL ha, bq_in (by omega) (by omega), Int.toNat_natCast, rwG_at (by omega), bq_ge (by omega) (by decide), bq_in (by omega) (by omega)]
  by_cases h : dF w a p = 100000
  · rw [if_pos (by omega), if_pos h]; rfl
  · rw [if_neg (by omega), if_neg h, show farF w a p = dF w a p by omega]; rfl
theorem Core_rwG {M : MM} {b : Nat} {W : Nat → Int} (hb : ¬ coreA b) (h0 : b ≠ 0) (h1 : b ≠ 1) (h2 : b ≠ 165) : Core M (rwG M b W) := Core_mV Core.rfl' hb h0 h1 h2
theorem ok_far {v1 v2 : Int} (h1 : I32 v1) (h2 : I32 v2) : OpOK (drv_far v1 v2) (mo_far v1 v2) := by
  refine op_read fun k M hk hI => ?_
  obtain ⟨-, hW, hL, hJ, -⟩ := hI
  have c0 := hW.1.1
  by_cases h : (0 ≤ v1 ∧ v1 < M 166 0) ∧ (0 ≤ v2 ∧ v2 < M 166 0)
  · obtain ⟨a, rfl⟩ : ∃ n : Nat, v1 = (n : Int) := ⟨v1.toNat, by omega⟩
    obtain ⟨p, rfl⟩ : ∃ n : Nat, v2 = (n : Int) := ⟨v2.toNat, by omega⟩
    have hb := faV_b hW.1 hW.2.2.2.1 h.1.2 h.2.2
    refine ⟨0, faV (M 166) a p, by decide, fun _ => by omega, fun hx => ?_, fun N hN e _ => ?_⟩
    · refine ansC_ret (E := fun c_6 M_2 => (bif Nat.beq c_6 15 then some (rI 1, M_2) else none)) (M1 := rwG M 159 (farF (M 166) a)) hx ?_ (by omega) (Core_rwG (by unfold coreA; omega) (by decide) (by decide) (by decide)) (rwG_ne (by decide))
      unfold gh_far
      rw [checkPlace_t hW.1 hL.1.1 h.1.1 h.1.2, checkPlace_t hW.1 hL.1.1 h.2.1 h.2.2, fewest_b hW.1 hW.2.2.2.1 hL h.1.2 h.2.2]
    · have hWN := hN.2.1
      rw [← e] at h c0 ⊢
      refine ansR_ret (N2 := rwG (mU N 165 0 0) 175 (dF (N 166) a)) ?_ (by rw [rwG_ne (by decide)]; rfl) (Core_t0.trans' (Core_rwG (by unfold coreA; omega) (by decide) (by decide) (by decide))) (by rw [rwG_ne (by decide)]; rfl) (by rw [rwG_ne (by decide)]; rfl)
      have hcd := cF_dF hWN.1 hWN.2.2.2.1 h.1.2 h.2.2
      unfold mo_far mo_far_J27 faV
      rw [sM_eq, mo_noPlace_b (M := mU N 165 0 0) hWN.1 h1, decide_eq_true (show 0 ≤ (a : Int) ∧ (a : Int) < (mU N 165 0 0) 166 0 from h.1), Bool.not_true, bz_ne0, cn_f, mo_noPlace_b (M := mU N 165 0 0) hWN.1 h2, decide_eq_true (show 0 ≤ (p : Int) ∧ (p : Int) < (mU N 165 0 0) 166 0 from h.2), Bool.not_true, bz_eq0, cn_f, mo_throwsIf_0, bq_eq (by decide) (by decide), if_pos rfl, lays_b (M := mU N 165 0 0) (w := N 166) rfl hWN.1 hWN.2.2.2.1 h.1.2, bq_in (by omega) (by omega), Int.toNat_natCast, rwG_at (by omega), bq_ne (by omega) (by decide), bq_in (by omega) (by omega)]
      by_cases hd : dF (N 166) a p = 100000
      · rw [if_pos hd, if_pos hd]
      · rw [if_neg hd, if_neg hd]
  · refine ⟨1, 0, by decide, fun g => absurd g (by decide), fun hx => ?_, fun N hN e _ => ?_⟩
    · refine ansC_thr (E := fun c_6 M_2 => (bif Nat.beq c_6 15 then some (rI 1, M_2) else none)) (c := 15) (M1 := M) hx ?_ rfl (by decide) Core.rfl' rfl
      unfold gh_far
      by_cases g1 : 0 ≤ v1 ∧ v1 < M 166 0
      · rw [checkPlace_t hW.1 hL.1.1 g1.1 g1.2, checkPlace_f hW.1 hL.1.1 hx h2 (fun g => h ⟨g1, g⟩)]
      · rw [checkPlace_f hW.1 hL.1.1 hx h1 g1]
    · have hWN := hN.2.1
      rw [← e] at h
      refine ansR_thr (z' := 0) ?_ (by decide)
      unfold mo_far mo_far_J22 mo_far_J27
      rw [sM_eq, mo_noPlace_b (M := mU N 165 0 0) hWN.1 h1, bz_ne0]
      by_cases g1 : 0 ≤ v1 ∧ v1 < N 166 0
      · rw [decide_eq_true (show 0 ≤ v1 ∧ v1 < (mU N 165 0 0) 166 0 from g1), Bool.not_true, cn_f, mo_noPlace_b (M := mU N 165 0 0) hWN.1 h2, decide_eq_false (show ¬ (0 ≤ v2 ∧ v2 < (mU N 165 0 0) 166 0) from fun g => h ⟨g1, g⟩), Bool.not_false, bz_eq0, cn_t, mo_throwsIf_1, bq_eq (by decide) (by decide), if_neg (by decide)]
      · rw [decide_eq_false (show ¬ (0 ≤ v1 ∧ v1 < (mU N 165 0 0) 166 0) from g1), Bool.not_false, cn_t, mo_throwsIf_1, bq_eq (by decide) (by decide), if_neg (by decide)]
def tbV (w : Nat → Int) (v : Int) : Int := if dF w (w 7).toNat 0 = 100000 ∨ v - dF w (w 7).toNat 0 < w 6 then -1 else v - dF w (w 7).toNat 0
theorem ok_turnBack {v : Int} (hv : I32 v) : OpOK (drv_turnBack v) (mo_turnBack v) := by
  refine op_read fun k M hk hI => ?_
  obtain ⟨-, hW, hL, hJ, -⟩ := hI
  have c0 := hW.1.1
  have c6 := hW.1.2.2.2.2.2.2.1
  have c7 := hW.1.2.2.2.2.2.2.2.1
  by_cases h1 : 0 ≤ v ∧ v ≤ 100000
  · by_cases h0 : M 166 0 = 0
    · refine ⟨2, 0, by decide, fun g => absurd g (by decide), fun hx => ?_, fun N hN e _ => ?_⟩
      · refine ansC_thr (E := fun c_6 M_2 => (bif Nat.beq c_6 13 then some (rI 1, M_2) else (bif Nat.beq c_6 14 then some (rI 2, M_2) else none))) (c := 14) (M1 := M) hx ?_ rfl (by decide) Core.rfl' rfl
        unfold gh_turnBack
        rw [bq_lt hv (by decide), if_neg (by omega), bq_le hv (by decide), if_pos h1.2, checkAny_f hL.1.1 hx h0]
      · refine ansR_thr (z' := 0) ?_ (by decide)
        unfold mo_turnBack mo_turnBack_J22 mo_turnBack_J42
        rw [sM_eq, mo_in_b hv (by decide) (by decide), decide_eq_true h1, bz_ne0, cn_t, mo_throwsIf_0, bq_ne (by decide) (by decide), if_pos rfl, mo_places_b, t0_166, e, h0, bq_ne (by decide) (by decide), if_pos rfl, mo_throwsIf_1, bq_eq (by decide) (by decide), if_neg (by decide)]
    · have hp7 : M 166 7 = (((M 166 7).toNat : Nat) : Int) := by omega
      have ha : (((M 166 7).toNat : Nat) : Int) < M 166 0 := by omega
      have hcd := cF_dF (p := 0) hW.1 hW.2.2.2.1 ha (by omega)
      have hzI : I32 (tbV (M 166) v) := by unfold tbV; split <;> omega
      refine ⟨0, tbV (M 166) v, by decide, fun _ => hzI, fun hx => ?_, fun N hN e _ => ?_⟩
      · refine ansC_ret (E := fun c_6 M_2 => (bif Nat.beq c_6 13 then some (rI 1, M_2) else (bif Nat.beq c_6 14 then some (rI 2, M_2) else none))) (M1 := rwG M 159 (farF (M 166) (M 166 7).toNat)) hx ?_ hzI (Core_rwG (by unfold coreA; omega) (by decide) (by decide) (by decide)) (rwG_ne (by decide))
        have fb := fewest_b (M := M) (a := (M 166 7).toNat) (p := 0) (k := fun z_6 M_5 => (bif cmpB .eq z_6 (-1) then some (rI (-1), M_5) else (bif cmpB .ge (v - z_6) (M_5 23 1) then some (rI (v - z_6), M_5) else some (rI (-1), M_5)))) hW.1 hW.2.2.2.1 hL ha (by omega)
        rw [← hp7] at fb
        unfold gh_turnBack
        rw [bq_lt hv (by decide), if_neg (by omega), bq_le hv (by decide), if_pos h1.2, checkAny_t hW.1 hL.1.1 h0, hJ.1.1, show bI (ways_fewestHours (M 166 7) 0 M) _ = _ from fb, show (rwG M 159 (farF (M 166) (M 166 7).toNat)) 23 1 = M 166 6 from by rw [rwG_ne (by decide)]; exact hJ.1.2.1]
        unfold faV tbV
        by_cases hd : dF (M 166) (M 166 7).toNat 0 = 100000
        · rw [if_pos hd, if_pos (Or.inl hd), bq_eq (by decide) (by decide), if_pos rfl]
        · rw [if_neg hd, bq_eq (by omega) (by decide), if_neg (by omega), bq_ge (by omega) (by omega)]
          by_cases hl : v - dF (M 166) (M 166 7).toNat 0 < M 166 6
          · rw [if_neg (by omega), if_pos (Or.inr hl)]
          · rw [if_pos (by omega), if_neg (fun g => by rcases g with g | g <;> omega)]
      · have hWN := hN.2.1
        rw [← e] at h0 c0 c6 c7 hp7 ha hcd ⊢
        refine ansR_ret (N2 := rwG (mU N 165 0 0) 175 (dF (N 166) (N 166 7).toNat)) ?_ (by rw [rwG_ne (by decide)]; rfl) (Core_t0.trans' (Core_rwG (by unfold coreA; omega) (by decide) (by decide) (by decide))) (by rw [rwG_ne (by decide)]; rfl) (by rw [rwG_ne (by decide)]; rfl)
        have lb := lays_b (M := mU N 165 0 0) (w := N 166) (a := (N 166 7).toNat) (k := fun M_16 => (bif inB 0 10 then (bif cmpB .eq (M_16 175 0) 100000 then some (rI (-1), M_16) else (bif inB 0 10 then (bif inB 6 1964 then (bif cmpB .ge (v - (M_16 175 0)) (M_16 166 6) then (bif inB 0 10 then some (rI (v - (M_16 175 0)), M_16) else none) else some (rI (-1), M_16)) else none) else none)) else none)) rfl hWN.1 hWN.2.2.2.1 ha
        rw [← hp7] at lb
        unfold mo_turnBack mo_turnBack_J22 mo_turnBack_J42
        rw [sM_eq, mo_in_b hv (by decide) (by decide), decide_eq_true h1, bz_ne0, cn_t, mo_throwsIf_0, bq_ne (by decide) (by decide), if_pos rfl, mo_places_b, t0_166, bq_ne (by omega) (by decide), if_neg h0, mo_throwsIf_0, bq_eq (by decide) (by decide), if_pos rfl, bq_in (by decide) (by decide), t0_166, show bV (mo_laysFar (N 166 7) (mU N 165 0 0)) _ = _ from lb, bq_in (by decide) (by decide), rwG_at (by decide), bq_eq (by omega) (by decide), bq_in (by decide) (by decide), bq_in (by decide) (by decide), show (rwG (mU N 165 0 0) 175 (dF (N 166) (N 166 7).toNat)) 166 6 = N 166 6 from by rw [rwG_ne (by decide)]; rfl, bq_ge (by omega) (by omega), bq_in (by decide) (by decide)]
        unfold tbV
        by_cases hd : dF (N 166) (N 166 7).toNat 0 = 100000
        · rw [if_pos hd, if_pos (Or.inl hd)]
        · rw [if_neg hd]
          by_cases hl : v - dF (N 166) (N 166 7).toNat 0 < N 166 6
          · rw [if_neg (by omega), if_pos (Or.inr hl)]
          · rw [if_pos (by omega), if_neg (fun g => by rcases g with g | g <;> omega)]
  · refine ⟨1, 0, by decide, fun g => absurd g (by decide), fun hx => ?_, fun N hN e _ => ?_⟩
    · refine ansC_thr (E := fun c_6 M_2 => (bif Nat.beq c_6 13 then some (rI 1, M_2) else (bif Nat.beq c_6 14 then some (rI 2, M_2) else none))) (c := 13) (M1 := M) hx ?_ rfl (by decide) Core.rfl' rfl
      unfold gh_turnBack
      rw [bq_lt hv (by decide)]
      by_cases g : v < 0
      · rw [if_pos g]; exact thx_v hx
      · rw [if_neg g, bq_le hv (by decide), if_neg (by omega)]; exact thx_v hx
    · refine ansR_thr (z' := 0) ?_ (by decide)
      unfold mo_turnBack mo_turnBack_J22
      rw [sM_eq, mo_in_b hv (by decide) (by decide), decide_eq_false h1, bz_ne0, cn_f, mo_throwsIf_1, bq_ne (by decide) (by decide), if_neg (by decide)]
