/-! ===== QUESTIONS: count, fault; calls that throw nothing ===== -/
theorem op_read0 {D R : MM → OR} (H : ∀ k M, k ≤ 512 → Inv k M → ∃ z, I32 z ∧ (∃ M1, D M = some (rI z, M1) ∧ Core M M1 ∧ M1 999 = M 999) ∧ ∀ N, Inv (k + 1) N → N 166 = M 166 → Core M N → ∃ N2, R N = some (rI z, N2) ∧ Core N N2 ∧ N2 999 = N 999) : OpOK0 D R := by
  intro k M hk hI
  obtain ⟨z, hz, ⟨M1, a1, a2, a3⟩, hR⟩ := H k M (by omega) hI
  have hx := hI.2.2.2.2.2.2.2.2.1
  have hI1 : Inv (k + 1) M1 := Inv_core hI a2 (by omega) (by rw [a3]; exact hx.1) (by rw [a3]; omega)
  obtain ⟨N2, r1, r2, r3⟩ := hR M1 hI1 a2.w a2
  exact ⟨z, M1, N2, a1, r1, hz, Inv_core hI1 r2 (Nat.le_refl _) (by rw [r3, a3]; exact hx.1) (by rw [r3, a3]; omega)⟩
theorem cnt_ext {f : Nat → Bool} {n : Nat} : ∀ m, n ≤ m → cnt (fun i => decide (i < n) && f i) m = cnt f n
  | 0, h => by
    obtain rfl : n = 0 := by omega
    rfl
  | m + 1, h => by
    by_cases h1 : n ≤ m
    · show cnt _ m + (bif decide (m < n) && f m then 1 else 0) = _
      rw [cnt_ext m h1, decide_eq_false (by omega), Bool.false_and]; rfl
    · obtain rfl : n = m + 1 := by omega
      exact cnt_cg _ fun i hi => by rw [decide_eq_true hi, Bool.true_and]
theorem fo_cnt {f : Nat → Bool} : ∀ n, fo (fun i (a : Int) => bif f i then a + 1 else a) n 0 0 = (cnt f n : Nat)
  | 0 => rfl
  | n + 1 => by
    rw [fo_s, fo_cnt n, Nat.zero_add]
    show (bif f n then _ else _) = ((cnt f n + (bif f n then 1 else 0) : Nat) : Int)
    cases f n <;> rfl
theorem cnt_bset (f : Nat → Bool) (n : Nat) : cnt (bset n f).testBit n = cnt f n := cnt_cg n fun i hi => by rw [bset_bit, decide_eq_true hi, Bool.true_and]
theorem bset_1024 (f : Nat → Bool) : bset 10 f < 1024 := bset_lt f 10
theorem mo_keepers_b {M : MM} {k : Int → MM → OR} {n : Nat} (hC : WC n (M 166)) (hP : WP (M 166)) : bI (mo_keepers M) k = k (cnt (kpB (M 166)) 10 : Nat) M := by
  have hC' := hC
  obtain ⟨c0, -⟩ := hC'
  unfold mo_keepers
  rw [fo_run0 (L := fun F a i => mo_keepers_L4 (fun v1_7 M_8 => some (rI v1_7, M_8)) F a i M) (K := fun a => some (rI a, M)) (g := fun i a => bif decide (oP (M 166) (i : Int) 0 = 1) then a + 1 else a) (N := (M 166 0).toNat) (FU_gt (by omega)) ?_ ?_]
  · rw [fo_cnt, bI_I]
    congr 2
    rw [← cnt_ext (f := fun i => decide (oP (M 166) (i : Int) 0 = 1)) 10 (show (M 166 0).toNat ≤ 10 by omega)]
    apply cnt_cg
    intro i hi
    unfold kpB
    congr 1
    exact decide_eq_decide.mpr (by omega)
  · intro n a i hi
    rw [mo_keepers_L4, mo_places_b, bq_ge (by omega) (by omega), if_neg (by omega), mo_isKeeper_b hC hP (by omega) (by omega), bz_eq0, Int.add_zero]
    cases decide (oP (M 166) (i : Int) 0 = 1) <;> rfl
  · intro n a
    rw [mo_keepers_L4, mo_places_b, bq_ge (by omega) (by omega), if_pos (by omega)]
def coV (w : Nat → Int) (rem v : Int) : Int := if v = 4 then (cnt (kpB w) 10 : Nat) else if v = 5 then w 4 else if v = 6 then (if w 5 = 1 then w 266 else -1) else if v = 7 then w 6 else if v = 8 then (bset 10 (paB w) : Nat) else if v = 9 then (bset 7 (frB w) : Nat) else if v = 10 then (bset 10 (stB' w 3) : Nat) else if v = 11 then wO w (bset 10 (stB' w 3)) else if v = 12 then rem else if v = 0 then w 0 else if v = 1 then w 1 else if v = 2 then w 2 else if v = 3 then w 3 else -1
theorem ok_count {v : Int} (hv : I32 v) : OpOK0 (gh_count v) (mo_count v) := by
  refine op_read0 fun k M hk hI => ⟨coV (M 166) (M 165 6) v, ?_, ⟨M, ?_, Core.rfl', rfl⟩, fun N hN e C => ?_⟩
  · obtain ⟨-, hW, hL, hJ, hLw, hMm, -⟩ := hI
    obtain ⟨rem, nx, m1, m2, m3, m4, m5, -⟩ := hMm
    obtain ⟨i0, i1, i2, i3, i4, i5, i6, i7, i8, i9, i10⟩ := hW.1
    have := wO_b hW.1 hW.2.2.1 (bset 10 (stB' (M 166) 3))
    have b1 := cnt_le (kpB (M 166)) 10
    have b2 := bset_lt (paB (M 166)) 10
    have b3 := bset_lt (frB (M 166)) 7
    have b4 := bset_lt (stB' (M 166) 3) 10
    have hl : M 166 5 = 1 → 0 ≤ M 166 266 ∧ M 166 266 ≤ 12 := fun h => by
      rcases hLw with g | g
      · omega
      · exact g.2.2.1
    unfold coV
    repeat' split
    all_goals first | omega | (have := hl (by assumption); omega)
  · obtain ⟨-, hW, hL, hJ, hLw, hMm, -⟩ := hI
    obtain ⟨rem, nx, m1, m2, m3, m4, m5, -⟩ := hMm
    obtain ⟨⟨l0, l1, l2, l3, l4⟩, l5, -⟩ := id hL
    obtain ⟨⟨j0, j1, j2, j8⟩, j3, j4, j5, j6, j7, -⟩ := id hJ
    have b4 := bset_lt (stB' (M 166) 3) 10
    have hl : M 17 0 = if M 166 5 = 1 then M 166 266 else -1 := by
      rcases hLw with g | g
      · rw [if_neg (by omega)]; exact g.2
      · rw [if_pos g.1]; exact g.2.1
    unfold gh_count
    rw [bq_eq hv (by decide), bq_eq hv (by decide), bq_eq hv (by decide), bq_eq hv (by decide), bq_eq hv (by decide), bq_eq hv (by decide), bq_eq hv (by decide), bq_eq hv (by decide), bq_eq hv (by decide), bq_eq hv (by decide), bq_eq hv (by decide), bq_eq hv (by decide), bq_eq hv (by decide), l0, l1, l2, l3, l4, hl, j1, j4, j6, j7, m2, ← m1, l5, bc_v, bI_I, bcv_s (bset_1024 _), cnt_bset, land_worthOf_b hL hW.1 (by omega)]
    unfold coV
    by_cases h0 : v = 0
    · subst h0; rfl
    by_cases h1 : v = 1
    · subst h1; rfl
    by_cases h2 : v = 2
    · subst h2; rfl
    by_cases h3 : v = 3
    · subst h3; rfl
    simp only [if_neg h0, if_neg h1, if_neg h2, if_neg h3]
    repeat' split
    all_goals rfl
  · have e6 : M 165 6 = N 165 6 := C.2.2.1.2.1.symm
    rw [e6, ← e]
    obtain ⟨-, hW, -⟩ := hN
    clear hI C e6 e
    obtain ⟨hC, hP, hT, hR, hB, hG, -⟩ := hW
    have hs := (nowS_f hC hT).1.1
    have b4 := bset_lt (stB' (N 166) 3) 10
    have ts : ∀ k : Int → MM → OR, bI (mo_thingsIn ((nowS (N 166) : Nat) : Int) 3 (mU N 165 0 0)) k = k ((bset 10 (stB' (N 166) 3) : Nat) : Int) (mU N 165 0 0) := by
      intro k
      have := mo_thingsIn_b (M := mU N 165 0 0) (k := k) (z := 3) hC hs (by decide)
      rw [t0_166, nowS_ts hC hT] at this
      exact this
    refine ⟨mU N 165 0 0, ?_, Core_t0, rfl⟩
    have i5 := hC.2.2.2.2.2.1
    unfold mo_count
    rw [sM_eq, bq_eq hv (by decide), bq_eq hv (by decide), bq_eq hv (by decide), bq_eq hv (by decide), bq_eq hv (by decide), bq_eq hv (by decide), bq_eq hv (by decide), bq_eq hv (by decide), bq_eq hv (by decide)]
    unfold coV
    by_cases h4 : v = 4
    · rw [if_pos h4, if_pos h4, mo_keepers_b (M := mU N 165 0 0) hC hP, t0_166]
    rw [if_neg h4, if_neg h4]
    by_cases h5 : v = 5
    · rw [if_pos h5, if_pos h5, bq_in (by decide) (by decide)]; rfl
    rw [if_neg h5, if_neg h5]
    by_cases h6 : v = 6
    · rw [if_pos h6, if_pos h6, bq_in (by decide) (by decide), bq_ne (by rw [t0_166]; omega) (by decide), t0_166]
      by_cases h9 : N 166 5 = 1
      · rw [if_pos h9, if_pos h9, bq_in (by decide) (by decide)]
      · rw [if_neg h9, if_neg h9]
    rw [if_neg h6, if_neg h6]
    by_cases h7 : v = 7
    · rw [if_pos h7, if_pos h7, bq_in (by decide) (by decide)]; rfl
    rw [if_neg h7, if_neg h7]
    by_cases h8 : v = 8
    · rw [if_pos h8, if_pos h8, mo_passedNow_v (M := mU N 165 0 0) hC hP, bI_I, t0_166]
    rw [if_neg h8, if_neg h8]
    by_cases h9 : v = 9
    · rw [if_pos h9, if_pos h9, mo_freedNow_v (M := mU N 165 0 0) hC hB (by omega), bI_I, t0_166]
    rw [if_neg h9, if_neg h9]
    by_cases h10 : v = 10
    · rw [if_pos h10, if_pos h10, mo_now_b (M := mU N 165 0 0) hC hP hT hB (by omega), t0_166, ts]
    rw [if_neg h10, if_neg h10]
    by_cases h11 : v = 11
    · rw [if_pos h11, if_pos h11, mo_now_b (M := mU N 165 0 0) hC hP hT hB (by omega), t0_166, ts, mo_worthOf_b (M := mU N 165 0 0) hC (by omega), t0_166]
    rw [if_neg h11, if_neg h11]
    by_cases h12 : v = 12
    · rw [if_pos h12, if_pos h12]; rfl
    rw [if_neg h12, if_neg h12, mo_in_b hv (by decide) (by decide), bz_eq0]
    by_cases h : 0 ≤ v ∧ v ≤ 3
    · rw [decide_eq_true h, cn_t, bq_in h.1 (by omega)]
      rcases (show v = 0 ∨ v = 1 ∨ v = 2 ∨ v = 3 by omega) with rfl | rfl | rfl | rfl <;> rfl
    · rw [decide_eq_false h, cn_f, if_neg (by omega), if_neg (by omega), if_neg (by omega), if_neg (by omega)]
-- fault
theorem ok_fault : OpOK0 gh_fault mo_fault := by
  refine op_read0 fun k M hk hI => ?_
  obtain ⟨T, -⟩ := hI
  obtain ⟨n, t1, t2, t3, t4, t5, t6⟩ := T
  refine ⟨M 1 2, by omega, ⟨M, rfl, Core.rfl', rfl⟩, fun N hN e C => ⟨mU N 165 0 0, ?_, Core_t0, rfl⟩⟩
  unfold mo_fault
  rw [sM_eq, t4, ← C.2.2.1.2.2.2]
  rfl
