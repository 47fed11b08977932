/-! ===== MEET ===== -/
def hh2 (f g : Nat → Int) (p : Nat) : Int := if f p < g p then g p else f p
def mtG (f g : Nat → Int) (i : Nat) (a : Int × Int) : Int × Int := if hh2 f g i < a.2 then ((i : Int), hh2 f g i) else a
theorem mt_rel {w : Nat → Int} {n x y : Nat} (hC : WC n w) (hR : WR w) (hx : (x : Int) < w 0) (hy : (y : Int) < w 0) : ∀ m : Nat, (m : Int) ≤ w 0 → (fo (mtG (farF w x) (farF w y)) m 0 (-1, 1000000)).1 = (fo (mtG (dF w y) (dF w x)) m 0 (-1, 100000)).1 ∧ ((-1 = (fo (mtG (dF w y) (dF w x)) m 0 (-1, 100000)).1 ∧ (fo (mtG (farF w x) (farF w y)) m 0 (-1, 1000000)).2 = 1000000 ∧ (fo (mtG (dF w y) (dF w x)) m 0 (-1, 100000)).2 = 100000) ∨ ((0 ≤ (fo (mtG (dF w y) (dF w x)) m 0 (-1, 100000)).1 ∧ (fo (mtG (dF w y) (dF w x)) m 0 (-1, 100000)).1 < (m : Int)) ∧ (fo (mtG (farF w x) (farF w y)) m 0 (-1, 1000000)).2 = (fo (mtG (dF w y) (dF w x)) m 0 (-1, 100000)).2 ∧ (0 ≤ (fo (mtG (dF w y) (dF w x)) m 0 (-1, 100000)).2 ∧ (fo (mtG (dF w y) (dF w x)) m 0 (-1, 100000)).2 ≤ 9000) ∧ hh2 (farF w x) (farF w y) ((fo (mtG (dF w y) (dF w x)) m 0 (-1, 100000)).1).toNat = (fo (mtG (dF w y) (dF w x)) m 0 (-1, 100000)).2))
  | 0, _ => ⟨rfl, Or.inl ⟨rfl, rfl, rfl⟩⟩
  | m + 1, hm => by
    obtain ⟨i1, i2⟩ := mt_rel hC hR hx hy m (by omega)
    have a1 := cF_dF (p := m) hC hR hx (by omega)
    have a2 := cF_dF (p := m) hC hR hy (by omega)
    rw [fo_s, fo_s, Nat.zero_add]
    generalize fo (mtG (farF w x) (farF w y)) m 0 (-1, 1000000) = a at *
    generalize fo (mtG (dF w y) (dF w x)) m 0 (-1, 100000) = b at *
    have hv : (hh2 (farF w x) (farF w y) m = hh2 (dF w y) (dF w x) m ∧ 0 ≤ hh2 (dF w y) (dF w x) m ∧ hh2 (dF w y) (dF w x) m ≤ 9000) ∨ (hh2 (farF w x) (farF w y) m = 1000000 ∧ hh2 (dF w y) (dF w x) m = 100000) := by
      unfold hh2
      split <;> split <;> omega
    unfold mtG
    by_cases h1 : hh2 (farF w x) (farF w y) m < a.2
    · rw [if_pos h1, if_pos (show hh2 (dF w y) (dF w x) m < b.2 by omega)]
      refine ⟨rfl, Or.inr ⟨⟨by show (0 : Int) ≤ (m : Int); omega, by show (m : Int) < ((m + 1 : Nat) : Int); omega⟩, ?_, ?_, ?_⟩⟩
      · show hh2 (farF w x) (farF w y) m = hh2 (dF w y) (dF w x) m
        omega
      · show 0 ≤ hh2 (dF w y) (dF w x) m ∧ hh2 (dF w y) (dF w x) m ≤ 9000
        omega
      · show hh2 (farF w x) (farF w y) ((m : Int)).toNat = hh2 (dF w y) (dF w x) m
        rw [Int.toNat_natCast]; omega
    · rw [if_neg h1, if_neg (show ¬ hh2 (dF w y) (dF w x) m < b.2 by omega)]
      refine ⟨i1, ?_⟩
      rcases i2 with h | ⟨h2, h3, h4, h5⟩
      · exact Or.inl h
      · exact Or.inr ⟨by omega, h3, h4, h5⟩
theorem imax_hh {a b : Int} (ha : I32 a) (hb : I32 b) : imax a b = if a < b then b else a := imax_v ha hb
theorem both_b {M : MM} {p : Nat} {f g : Nat → Int} {k : Int → MM → OR} (hp : p < 10) (hf : ∀ j, j < 10 → M 159 j = f j) (hg : ∀ j, j < 10 → M 160 j = g j) (fI : I32 (f p)) (gI : I32 (g p)) : bI (ways_hoursToBothEnds (p : Int) M) k = k (hh2 f g p) M := by
  unfold ways_hoursToBothEnds
  rw [bq_in (by omega) (by omega), bq_in (by omega) (by omega), Int.toNat_natCast, hf p hp, hg p hp, imax_v fI gI]; rfl
theorem cF_I {w : Nat → Int} {n a p : Nat} (hC : WC n w) (hR : WR w) (ha : (a : Int) < w 0) (hp : (p : Int) < w 0) : (0 ≤ farF w a p ∧ farF w a p ≤ 1000000) ∧ (0 ≤ dF w a p ∧ dF w a p ≤ 100000) := by
  have := cF_dF hC hR ha hp; omega
def meV (w : Nat → Int) (x y : Nat) (v3 : Int) : Int := if v3 = 0 ∧ 0 ≤ (fo (mtG (dF w y) (dF w x)) (w 0).toNat 0 (-1, 100000)).1 then (fo (mtG (dF w y) (dF w x)) (w 0).toNat 0 (-1, 100000)).2 else (fo (mtG (dF w y) (dF w x)) (w 0).toNat 0 (-1, 100000)).1
theorem ok_meet {v1 v2 v3 : Int} (h1 : I32 v1) (h2 : I32 v2) (h3 : v3 = 0 ∨ v3 = 1) : OpOK (drv_meet v1 v2 v3) (mo_meet v1 v2 v3) := by
  refine op_read fun k M hk hI => ?_
  obtain ⟨-, hW, hL, hJ, -⟩ := hI
  have c0 := hW.1.1
  by_cases h : (0 ≤ v1 ∧ v1 < M 166 0) ∧ (0 ≤ v2 ∧ v2 < M 166 0)
  · obtain ⟨x, rfl⟩ : ∃ n : Nat, v1 = (n : Int) := ⟨v1.toNat, by omega⟩
    obtain ⟨y, rfl⟩ : ∃ n : Nat, v2 = (n : Int) := ⟨v2.toNat, by omega⟩
    obtain ⟨r1, r2⟩ := mt_rel hW.1 hW.2.2.2.1 h.1.2 h.2.2 (M 166 0).toNat (by omega)
    have hzI : I32 (meV (M 166) x y v3) := by unfold meV; split <;> omega
    refine ⟨0, meV (M 166) x y v3, by decide, fun _ => hzI, fun hx => ?_, fun N hN e _ => ?_⟩
    · generalize hA : rwG (rwG M 159 (farF (M 166) x)) 160 (farF (M 166) y) = A
      have a159 : ∀ j, j < 10 → A 159 j = farF (M 166) x j := fun j hj => by rw [← hA, rwG_ne (by decide), rwG_at hj]
      have a160 : ∀ j, j < 10 → A 160 j = farF (M 166) y j := fun j hj => by rw [← hA, rwG_at hj]
      have a3 : A 3 = M 3 := by rw [← hA, rwG_ne (by decide), rwG_ne (by decide)]
      have cA : Core M A := by
        rw [← hA]
        exact Core_mV (Core_mV Core.rfl' (by unfold coreA; omega) (by decide) (by decide) (by decide)) (by unfold coreA; omega) (by decide) (by decide) (by decide)
      have a9 : A 999 = M 999 := by rw [← hA, rwG_ne (by decide), rwG_ne (by decide)]
      refine ansC_ret (E := fun c_6 M_2 => (bif Nat.beq c_6 15 then some (rI 1, M_2) else none)) (M1 := A) hx ?_ hzI cA a9
      have hL1 : LandR 3 (M 166) (rwG M 159 (farF (M 166) x)) := LandR_fr (fun j hj => rwG_ne (by omega)) hL
      have run : ways_meetingPlace_L27 (fun v3_14 M_15 => some (rI v3_14, M_15)) FU (-1) 1000000 0 A = some (rI (fo (mtG (farF (M 166) x) (farF (M 166) y)) (M 166 0).toNat 0 (-1, 1000000)).1, A) := by
        have := fo_runP0 (F := FU) (a := ((-1 : Int), (1000000 : Int))) (L := fun F (a : Int × Int) i => ways_meetingPlace_L27 (fun v3_14 M_15 => some (rI v3_14, M_15)) F a.1 a.2 i A) (K := fun a => some (rI a.1, A)) (g := mtG (farF (M 166) x) (farF (M 166) y)) (N := (M 166 0).toNat) (P := fun _ a => 0 ≤ a.2 ∧ a.2 ≤ 1000000) (fun m a i hi ha => ?_) (fun m a ha => ?_) (fun i a hi ha => ?_) (FU_gt (by omega)) (by decide)
        · exact this
        · have b1 := (cF_I (p := i) hW.1 hW.2.2.2.1 h.1.2 (by omega)).1
          have b2 := (cF_I (p := i) hW.1 hW.2.2.2.1 h.2.2 (by omega)).1
          have hb : 0 ≤ hh2 (farF (M 166) x) (farF (M 166) y) i ∧ hh2 (farF (M 166) x) (farF (M 166) y) i ≤ 1000000 := by unfold hh2; split <;> omega
          rw [ways_meetingPlace_L27, a3, show M 3 0 = M 166 0 from hL.1.1, bq_ge (by omega) (by omega), if_neg (by omega), bq_ge (by omega) (by decide), if_neg (by omega), both_b (by omega) a159 a160 (by omega) (by omega), bq_ge (by omega) (by omega), both_b (by omega) a159 a160 (by omega) (by omega)]
          unfold mtG
          by_cases hl : hh2 (farF (M 166) x) (farF (M 166) y) i < a.2
          · rw [if_neg (by omega), if_pos hl]
          · rw [if_pos (by omega), if_neg hl]
        · rw [ways_meetingPlace_L27, a3, show M 3 0 = M 166 0 from hL.1.1, bq_ge (by omega) (by omega), if_pos (by omega)]
        · have b1 := (cF_I (p := i) hW.1 hW.2.2.2.1 h.1.2 (by omega)).1
          have b2 := (cF_I (p := i) hW.1 hW.2.2.2.1 h.2.2 (by omega)).1
          have hb : 0 ≤ hh2 (farF (M 166) x) (farF (M 166) y) i ∧ hh2 (farF (M 166) x) (farF (M 166) y) i ≤ 1000000 := by unfold hh2; split <;> omega
          unfold mtG
          split
          · exact hb
          · exact ha
      unfold gh_meet ways_meetingPlace
      rw [checkPlace_t hW.1 hL.1.1 h.1.1 h.1.2, checkPlace_t hW.1 hL.1.1 h.2.1 h.2.2, measure_b (Or.inl rfl) hW.1 hW.2.2.2.1 hL h.1.2, measure_b (Or.inr rfl) hW.1 hW.2.2.2.1 hL1 h.2.2, hA, run, bI_I, r1]
      unfold meV
      generalize fo (mtG (dF (M 166) y) (dF (M 166) x)) (M 166 0).toNat 0 (-1, 100000) = b at *
      rcases h3 with rfl | rfl
      · rw [bq_ne (by decide) (by decide), if_pos rfl, bq_ne (by omega) (by decide)]
        by_cases hb : b.1 = -1
        · rw [if_pos hb, if_neg (by omega)]
        · obtain ⟨g1, g2, g3, g4⟩ := r2.resolve_left (by omega)
          obtain ⟨q, hq⟩ : ∃ q : Nat, b.1 = (q : Int) := ⟨b.1.toNat, by omega⟩
          have b1 := (cF_I (p := q) hW.1 hW.2.2.2.1 h.1.2 (by omega)).1
          have b2 := (cF_I (p := q) hW.1 hW.2.2.2.1 h.2.2 (by omega)).1
          rw [hq, Int.toNat_natCast] at g4
          rw [if_neg hb, if_pos ⟨rfl, by omega⟩, hq, both_b (by omega) a159 a160 (by omega) (by omega), g4]
      · rw [bq_ne (by decide) (by decide), if_neg (by decide), if_neg (by omega)]
    · have hWN := hN.2.1
      rw [← e] at h c0 r1 r2 hzI ⊢
      generalize hA : rwG (flM (rwG (mU N 165 0 0) 175 (dF (N 166) x)) 176 0 (0 + 10) (dF (N 166) x)) 175 (dF (N 166) y) = A
      have a175 : ∀ j, j < 10 → A 175 j = dF (N 166) y j := fun j hj => by rw [← hA, rwG_at hj]
      have a176 : ∀ j, j < 10 → A 176 j = dF (N 166) x j := fun j hj => by rw [← hA, rwG_ne (by decide), flM_ap, if_pos (by omega), Nat.sub_zero]
      have aF : ∀ q, q ≠ 165 → q ≠ 175 → q ≠ 176 → A q = N q := fun q g1 g2 g3 => by rw [← hA, rwG_ne g2, flM_ne g3, rwG_ne g2, mU_ne g1]
      have a165 : A 165 = (mU N 165 0 0) 165 := by rw [← hA, rwG_ne (by decide), flM_ne (by decide), rwG_ne (by decide)]
      have cA : Core N A := by
        rw [← hA]
        refine Core_mV (Core_mV (Core_mV Core_t0 ?_ ?_ ?_ ?_) ?_ ?_ ?_ ?_) ?_ ?_ ?_ ?_ <;> first | decide | (unfold coreA; omega)
      refine ansR_ret (N2 := A) ?_ (by rw [a165]; rfl) cA (aF 181 (by decide) (by decide) (by decide)) (aF 999 (by decide) (by decide) (by decide))
      have copy : ∀ K : MM → OR, mo_meet_L44 (y : Int) v3 K FU 0 (rwG (mU N 165 0 0) 175 (dF (N 166) x)) = K (flM (rwG (mU N 165 0 0) 175 (dF (N 166) x)) 176 0 (0 + 10) (dF (N 166) x)) := by
        intro K
        have := fl_run0 (L := fun F i M => mo_meet_L44 (y : Int) v3 K F i M) (K := K) (M := rwG (mU N 165 0 0) 175 (dF (N 166) x)) (a := 176) (o := 0) (N := 10) (F := FU) (f := dF (N 166) x) (FU_gt (by decide)) (fun m i hi => ?_) (fun m => ?_)
        · exact this
        · rw [mo_meet_L44, bq_ge (by omega) (by decide), if_neg (by omega), bq_in (by omega) (by omega), bq_in (by omega) (by omega), sM_eq, Int.toNat_natCast, Nat.zero_add, flM_ne (by decide), rwG_at hi]
        · rw [mo_meet_L44, bq_ge (by decide) (by decide), if_pos (by decide)]
      have run : ∀ K : Int → Int → MM → OR, mo_meet_L87 v3 K FU (-1) 100000 0 A = K (fo (mtG (dF (N 166) y) (dF (N 166) x)) (N 166 0).toNat 0 (-1, 100000)).1 (fo (mtG (dF (N 166) y) (dF (N 166) x)) (N 166 0).toNat 0 (-1, 100000)).2 A := by
        intro K
        have := fo_runP0 (F := FU) (a := ((-1 : Int), (100000 : Int))) (L := fun F (a : Int × Int) i => mo_meet_L87 v3 K F a.1 a.2 i A) (K := fun a => K a.1 a.2 A) (g := mtG (dF (N 166) y) (dF (N 166) x)) (N := (N 166 0).toNat) (P := fun _ a => 0 ≤ a.2 ∧ a.2 ≤ 100000) (fun m a i hi ha => ?_) (fun m a ha => ?_) (fun i a hi ha => ?_) (FU_gt (by omega)) (by decide)
        · exact this
        · have b1 := (cF_I (p := i) hWN.1 hWN.2.2.2.1 h.1.2 (by omega)).2
          have b2 := (cF_I (p := i) hWN.1 hWN.2.2.2.1 h.2.2 (by omega)).2
          have hm : imax (dF (N 166) y i) (dF (N 166) x i) = hh2 (dF (N 166) y) (dF (N 166) x) i := imax_v (by omega) (by omega)
          have hb : 0 ≤ hh2 (dF (N 166) y) (dF (N 166) x) i ∧ hh2 (dF (N 166) y) (dF (N 166) x) i ≤ 100000 := by unfold hh2; split <;> omega
          rw [mo_meet_L87, mo_places_b, aF 166 (by decide) (by decide) (by decide), bq_ge (by omega) (by omega), if_neg (by omega), bq_in (by omega) (by omega), bq_in (by omega) (by omega), Int.toNat_natCast, a175 i (by omega), a176 i (by omega), hm, bq_lt (by omega) (by omega)]
          unfold mtG
          by_cases hl : hh2 (dF (N 166) y) (dF (N 166) x) i < a.2
          · rw [if_pos hl, if_pos hl]
          · rw [if_neg hl, if_neg hl]
        · rw [mo_meet_L87, mo_places_b, aF 166 (by decide) (by decide) (by decide), bq_ge (by omega) (by omega), if_pos (by omega)]
        · have b1 := (cF_I (p := i) hWN.1 hWN.2.2.2.1 h.1.2 (by omega)).2
          have b2 := (cF_I (p := i) hWN.1 hWN.2.2.2.1 h.2.2 (by omega)).2
          have hb : 0 ≤ hh2 (dF (N 166) y) (dF (N 166) x) i ∧ hh2 (dF (N 166) y) (dF (N 166) x) i ≤ 100000 := by unfold hh2; split <;> omega
          unfold mtG
          split
          · exact hb
          · exact ha
      unfold mo_meet mo_meet_J27
      rw [sM_eq, mo_noPlace_b (M := mU N 165 0 0) hWN.1 h1, decide_eq_true (show 0 ≤ (x : Int) ∧ (x : Int) < (mU N 165 0 0) 166 0 from h.1), Bool.not_true, bz_ne0, cn_f, mo_noPlace_b (M := mU N 165 0 0) hWN.1 h2, decide_eq_true (show 0 ≤ (y : Int) ∧ (y : Int) < (mU N 165 0 0) 166 0 from h.2), Bool.not_true, bz_eq0, cn_f, mo_throwsIf_0, bq_eq (by decide) (by decide), if_pos rfl, lays_b (M := mU N 165 0 0) (w := N 166) rfl hWN.1 hWN.2.2.2.1 h.1.2, copy, lays_b (M := flM (rwG (mU N 165 0 0) 175 (dF (N 166) x)) 176 0 (0 + 10) (dF (N 166) x)) (w := N 166) (by rw [flM_ne (by decide), rwG_ne (by decide)]; rfl) hWN.1 hWN.2.2.2.1 h.2.2, hA, run]
      unfold meV
      generalize fo (mtG (dF (N 166) y) (dF (N 166) x)) (N 166 0).toNat 0 (-1, 100000) = b at *
      rcases h3 with rfl | rfl
      · rw [bq_ne (by decide) (by decide), if_pos rfl, bq_ge (by omega) (by decide)]
        by_cases hb : 0 ≤ b.1
        · rw [if_pos hb, if_pos ⟨rfl, hb⟩]
        · rw [if_neg hb, if_neg (fun g => hb g.2)]
      · rw [bq_ne (by decide) (by decide), if_neg (by decide), if_neg (by omega)]
  · refine ⟨1, 0, by decide, fun g => absurd g (by decide), fun hx => ?_, fun N hN e _ => ?_⟩
    · refine ansC_thr (E := fun c_6 M_2 => (bif Nat.beq c_6 15 then some (rI 1, M_2) else none)) (c := 15) (M1 := M) hx ?_ rfl (by decide) Core.rfl' rfl
      unfold gh_meet
      by_cases g1 : 0 ≤ v1 ∧ v1 < M 166 0
      · rw [checkPlace_t hW.1 hL.1.1 g1.1 g1.2, checkPlace_f hW.1 hL.1.1 hx h2 (fun g => h ⟨g1, g⟩)]
      · rw [checkPlace_f hW.1 hL.1.1 hx h1 g1]
    · have hWN := hN.2.1
      rw [← e] at h
      refine ansR_thr (z' := 0) ?_ (by decide)
      unfold mo_meet mo_meet_J22 mo_meet_J27
      rw [sM_eq, mo_noPlace_b (M := mU N 165 0 0) hWN.1 h1, bz_ne0]
      by_cases g1 : 0 ≤ v1 ∧ v1 < N 166 0
      · rw [decide_eq_true (show 0 ≤ v1 ∧ v1 < (mU N 165 0 0) 166 0 from g1), Bool.not_true, cn_f, mo_noPlace_b (M := mU N 165 0 0) hWN.1 h2, decide_eq_false (show ¬ (0 ≤ v2 ∧ v2 < (mU N 165 0 0) 166 0) from fun g => h ⟨g1, g⟩), Bool.not_false, bz_eq0, cn_t, mo_throwsIf_1, bq_eq (by decide) (by decide), if_neg (by decide)]
      · rw [decide_eq_false (show ¬ (0 ≤ v1 ∧ v1 < (mU N 165 0 0) 166 0) from g1), Bool.not_false, cn_t, mo_throwsIf_1, bq_eq (by decide) (by decide), if_neg (by decide)]
