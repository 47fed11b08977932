/-! ===== A PACKED STATE COMES TO BE: the reference's comes ===== -/
theorem bitv {s j : Nat} (hs : s < 2147483648) (hk : j < 32) : iAnd (iShr (s : Int) (j : Int)) 1 = b2 (s.testBit j) := by
  rw [nu_shr hs hk]
  have h1 : s >>> j < 2147483648 := Nat.lt_of_le_of_lt (by rw [Nat.shiftRight_eq_div_pow]; exact Nat.div_le_self _ _) hs
  have := nu_and (b := 1) h1 (by decide)
  rw [show ((1 : Nat) : Int) = 1 from rfl] at this
  rw [this, bit_1]
  cases s.testBit j <;> rfl
theorem comes_things {s : Nat} {K : MM → OR} (hs : PK s) : ∀ k i F (N : MM) (T : Nat), N 166 1 = T → T ≤ 10 → k + i = T → k < F → ∃ N', mo_comes_L38 (s : Int) K F (i : Int) N = K N' ∧ (∀ p, p ≠ 166 → N' p = N p) ∧ (∀ t, i ≤ t → t < T → N' 166 (92 + 4 * t) = (sG s t : Nat)) ∧ ∀ j, (∀ t, i ≤ t → t < T → j ≠ 92 + 4 * t) → N' 166 j = N 166 j
  | 0, i, F, N, T, h1, hT, hk, hF => by
    obtain ⟨n, rfl⟩ : ∃ n, F = n + 1 := ⟨F - 1, by omega⟩
    refine ⟨N, ?_, fun _ _ => rfl, fun t h2 h3 => absurd h3 (by omega), fun j _ => rfl⟩
    rw [mo_comes_L38, mo_things_b, h1, bq_ge (by omega) (by omega), if_pos (by omega)]
  | k + 1, i, F, N, T, h1, hT, hk, hF => by
    obtain ⟨n, rfl⟩ : ∃ n, F = n + 1 := ⟨F - 1, by omega⟩
    obtain ⟨N', q1, q2, q3, q4⟩ := comes_things (K := K) hs k (i + 1) n (mU N 166 (92 + 4 * i) (sG s i : Nat)) T (by rw [mU_eq, up_ne (by omega)]; exact h1) hT (by omega) (by omega)
    refine ⟨N', ?_, fun p hp => (q2 p hp).trans (mU_ne hp), fun t h2 h3 => ?_, fun j hj => ?_⟩
    · rw [mo_comes_L38, mo_things_b, h1, bq_ge (by omega) (by omega), if_neg (by omega), mo_stateOf_b hs (by omega), bq_in (by omega) (by omega), sM_eq, show (90 + 4 * (i : Int) + 2).toNat = 92 + 4 * i by omega, show (i : Int) + 1 = ((i + 1 : Nat) : Int) by omega]
      exact q1
    · by_cases ht : t = i
      · subst ht
        rw [q4 _ (fun t' h4 h5 => by omega), mU_eq, up_eq]
      · exact q3 t (by omega) h3
    · rw [q4 j (fun t h4 h5 => hj t (by omega) h5), mU_eq, up_ne (hj i (Nat.le_refl _) (by omega))]
theorem comes_places {s : Nat} {K : MM → OR} (hs : PK s) : ∀ k i F (N : MM) (T : Nat), N 166 0 = T → T ≤ 10 → k + i = T → k < F → ∃ N', mo_comes_L72 (s : Int) K F (i : Int) N = K N' ∧ (∀ p, p ≠ 166 → N' p = N p) ∧ (∀ t, i ≤ t → t < T → N' 166 (17 + 8 * t) = b2 ((fd s 34 10).testBit t)) ∧ ∀ j, (∀ t, i ≤ t → t < T → j ≠ 17 + 8 * t) → N' 166 j = N 166 j
  | 0, i, F, N, T, h1, hT, hk, hF => by
    obtain ⟨n, rfl⟩ : ∃ n, F = n + 1 := ⟨F - 1, by omega⟩
    refine ⟨N, ?_, fun _ _ => rfl, fun t h2 h3 => absurd h3 (by omega), fun j _ => rfl⟩
    rw [mo_comes_L72, mo_places_b, h1, bq_ge (by omega) (by omega), if_pos (by omega)]
  | k + 1, i, F, N, T, h1, hT, hk, hF => by
    obtain ⟨n, rfl⟩ : ∃ n, F = n + 1 := ⟨F - 1, by omega⟩
    have hf := fd_lt s 34 10
    obtain ⟨N', q1, q2, q3, q4⟩ := comes_places (K := K) hs k (i + 1) n (mU N 166 (17 + 8 * i) (b2 ((fd s 34 10).testBit i))) T (by rw [mU_eq, up_ne (by omega)]; exact h1) hT (by omega) (by omega)
    refine ⟨N', ?_, fun p hp => (q2 p hp).trans (mU_ne hp), fun t h2 h3 => ?_, fun j hj => ?_⟩
    · rw [mo_comes_L72, mo_places_b, h1, bq_ge (by omega) (by omega), if_neg (by omega), mo_passedIn_b hs, bitv (by omega) (by omega)]
      unfold mo_sets
      rw [bq_in (by omega) (by omega), sM_eq, bV_V, show (10 + 8 * (i : Int) + 7).toNat = 17 + 8 * i by omega, show (i : Int) + 1 = ((i + 1 : Nat) : Int) by omega]
      exact q1
    · by_cases ht : t = i
      · subst ht
        rw [q4 _ (fun t' h4 h5 => by omega), mU_eq, up_eq]
      · exact q3 t (by omega) h3
    · rw [q4 j (fun t h4 h5 => hj t (by omega) h5), mU_eq, up_ne (hj i (Nat.le_refl _) (by omega))]
theorem comes_brothers {s : Nat} {K : MM → OR} (hs : PK s) : ∀ k i F (N : MM) (T : Nat), N 166 3 = T → T ≤ 7 → (∀ t, i ≤ t → t < T → I32 (N 166 (199 + 6 * t))) → k + i = T → k < F → ∃ N', mo_comes_L103 (s : Int) K F (i : Int) N = K N' ∧ (∀ p, p ≠ 166 → N' p = N p) ∧ (∀ t, i ≤ t → t < T → N' 166 (199 + 6 * t) = if (fd s 44 7).testBit t = true ∧ N 166 (199 + 6 * t) < 0 then N 166 6 else N 166 (199 + 6 * t)) ∧ ∀ j, (∀ t, i ≤ t → t < T → j ≠ 199 + 6 * t) → N' 166 j = N 166 j
  | 0, i, F, N, T, h1, hT, hI, hk, hF => by
    obtain ⟨n, rfl⟩ : ∃ n, F = n + 1 := ⟨F - 1, by omega⟩
    refine ⟨N, ?_, fun _ _ => rfl, fun t h2 h3 => absurd h3 (by omega), fun j _ => rfl⟩
    rw [mo_comes_L103, mo_brothers_b, h1, bq_ge (by omega) (by omega), if_pos (by omega)]
  | k + 1, i, F, N, T, h1, hT, hI, hk, hF => by
    obtain ⟨n, rfl⟩ : ∃ n, F = n + 1 := ⟨F - 1, by omega⟩
    have hf := fd_lt s 44 7
    have hi := hI i (Nat.le_refl _) (by omega)
    by_cases hc : (fd s 44 7).testBit i = true ∧ N 166 (199 + 6 * i) < 0
    · obtain ⟨N', q1, q2, q3, q4⟩ := comes_brothers (K := K) hs k (i + 1) n (mU N 166 (199 + 6 * i) (N 166 6)) T (by rw [mU_eq, up_ne (by omega)]; exact h1) hT (fun t h2 h3 => by rw [mU_eq, up_ne (by omega)]; exact hI t (by omega) h3) (by omega) (by omega)
      refine ⟨N', ?_, fun p hp => (q2 p hp).trans (mU_ne hp), fun t h2 h3 => ?_, fun j hj => ?_⟩
      · rw [mo_comes_L103, mo_brothers_b, h1, bq_ge (by omega) (by omega), if_neg (by omega), mo_freedIn_b hs, mo_has_b (by omega) (by omega), hc.1, bz_eq0, cn_t, mo_ofBrother_b (by omega) (by omega) (by decide) (by decide), show oB (N 166) (i : Int) 5 = N 166 (199 + 6 * i) from by unfold oB; rw [show (194 + 6 * (i : Int) + 5).toNat = 199 + 6 * i by omega], bq_ge hi (by decide), if_neg (by omega), bq_in (by decide) (by decide), bq_in (by omega) (by omega), sM_eq, show (194 + 6 * (i : Int) + 5).toNat = 199 + 6 * i by omega, show (i : Int) + 1 = ((i + 1 : Nat) : Int) by omega]
        exact q1
      · by_cases ht : t = i
        · subst ht
          rw [q4 _ (fun t' h4 h5 => by omega), mU_eq, up_eq, if_pos hc]
        · rw [q3 t (by omega) h3, mU_eq, up_ne (by omega), up_ne (by omega)]
      · rw [q4 j (fun t h4 h5 => hj t (by omega) h5), mU_eq, up_ne (hj i (Nat.le_refl _) (by omega))]
    · obtain ⟨N', q1, q2, q3, q4⟩ := comes_brothers (K := K) hs k (i + 1) n N T h1 hT (fun t h2 h3 => hI t (by omega) h3) (by omega) (by omega)
      refine ⟨N', ?_, q2, fun t h2 h3 => ?_, fun j hj => q4 j (fun t h4 h5 => hj t (by omega) h5)⟩
      · rw [mo_comes_L103, mo_brothers_b, h1, bq_ge (by omega) (by omega), if_neg (by omega), mo_freedIn_b hs, mo_has_b (by omega) (by omega), bz_eq0, show (i : Int) + 1 = ((i + 1 : Nat) : Int) by omega, ← q1]
        cases hb : (fd s 44 7).testBit i with
        | false => rw [cn_f]
        | true =>
          rw [cn_t, mo_ofBrother_b (by omega) (by omega) (by decide) (by decide), show oB (N 166) (i : Int) 5 = N 166 (199 + 6 * i) from by unfold oB; rw [show (194 + 6 * (i : Int) + 5).toNat = 199 + 6 * i by omega], bq_ge hi (by decide), if_pos (by have : ¬ N 166 (199 + 6 * i) < 0 := fun g => hc ⟨hb, g⟩; omega)]
      · by_cases ht : t = i
        · subst ht
          rw [q4 _ (fun t' h4 h5 => by omega), if_neg hc]
        · exact q3 t (by omega) h3
/-- what comes leaves in the row -/
def Post (w : Nat → Int) (s : Nat) (w' : Nat → Int) : Prop := (w' 6 = w 6 + (fd s 0 5 : Nat) ∧ w' 7 = sPl s ∧ w' 8 = (fd s 9 5 : Nat) - 1) ∧ (∀ t : Nat, (t : Int) < w 1 → w' (92 + 4 * t) = (sG s t : Nat)) ∧ (∀ p : Nat, (p : Int) < w 0 → w' (17 + 8 * p) = b2 ((fd s 34 10).testBit p)) ∧ (∀ b : Nat, (b : Int) < w 3 → w' (199 + 6 * b) = if (fd s 44 7).testBit b = true ∧ w (199 + 6 * b) < 0 then w 6 + (fd s 0 5 : Nat) else w (199 + 6 * b)) ∧
  ∀ j, j ≠ 6 → j ≠ 7 → j ≠ 8 → (∀ t : Nat, (t : Int) < w 1 → j ≠ 92 + 4 * t) → (∀ p : Nat, (p : Int) < w 0 → j ≠ 17 + 8 * p) → (∀ b : Nat, (b : Int) < w 3 → j ≠ 199 + 6 * b) → w' j = w j
theorem mo_comes_v {w : Nat → Int} {n s : Nat} {N : MM} (hw : N 166 = w) (hC : WC n w) (hB : WB w) (hn : n ≤ 1000) (hs : PK s) : ∃ N', mo_comes (s : Int) N = some (rV, N') ∧ (∀ p, p ≠ 166 → N' p = N p) ∧ Post w s (N' 166) := by
  obtain ⟨c0, c1, c2, c3, c4, c5, c6, c7, c8, -⟩ := hC
  generalize hA : mU (mU (mU N 166 6 (w 6 + (fd s 0 5 : Nat))) 166 7 (sPl s)) 166 8 ((fd s 9 5 : Nat) - 1) = A
  have a6 : A 166 6 = w 6 + (fd s 0 5 : Nat) := by rw [← hA]; rfl
  have a7 : A 166 7 = sPl s := by rw [← hA]; rfl
  have a8 : A 166 8 = (fd s 9 5 : Nat) - 1 := by rw [← hA]; rfl
  have aj : ∀ j, j ≠ 6 → j ≠ 7 → j ≠ 8 → A 166 j = w j := fun j h1 h2 h3 => by rw [← hA, mU_eq, up_ne h3, mU_eq, up_ne h2, mU_eq, up_ne h1, hw]
  have ap : ∀ p, p ≠ 166 → A p = N p := fun p hp => by rw [← hA, mU_ne hp, mU_ne hp, mU_ne hp]
  obtain ⟨B, b1, b2', b3, b4⟩ := comes_things (K := fun M_24 => (mo_comes_L72 (s : Int) (fun M_35 => (mo_comes_L103 (s : Int) (fun M_51 => some (rV, M_51)) FU 0 M_35)) FU 0 M_24)) hs (w 1).toNat 0 FU A (w 1).toNat (by rw [aj 1 (by decide) (by decide) (by decide)]; omega) (by omega) rfl (FU_gt (by omega))
  have bA : ∀ j, (∀ t, t < (w 1).toNat → j ≠ 92 + 4 * t) → B 166 j = A 166 j := fun j h => b4 j (fun t _ h2 => h t h2)
  obtain ⟨D, d1, d2, d3, d4⟩ := comes_places (K := fun M_35 => (mo_comes_L103 (s : Int) (fun M_51 => some (rV, M_51)) FU 0 M_35)) hs (w 0).toNat 0 FU B (w 0).toNat (by rw [bA 0 (fun t _ => by omega), aj 0 (by decide) (by decide) (by decide)]; omega) (by omega) rfl (FU_gt (by omega))
  have dB : ∀ j, (∀ t, t < (w 0).toNat → j ≠ 17 + 8 * t) → D 166 j = B 166 j := fun j h => d4 j (fun t _ h2 => h t h2)
  have d199 : ∀ t, D 166 (199 + 6 * t) = w (199 + 6 * t) := fun t => by rw [dB _ (fun t' _ => by omega), bA _ (fun t' _ => by omega), aj _ (by omega) (by omega) (by omega)]
  have dI : ∀ t, 0 ≤ t → t < (w 3).toNat → I32 (D 166 (199 + 6 * t)) := fun t _ ht => by
    have := (hB t (by omega) (by omega)).2.2.2.2.2
    unfold oB at this
    rw [show (194 + 6 * (t : Int) + 5).toNat = 199 + 6 * t by omega] at this
    rw [d199]; omega
  obtain ⟨E, e1, e2, e3, e4⟩ := comes_brothers (K := fun M_51 => some (rV, M_51)) hs (w 3).toNat 0 FU D (w 3).toNat (by rw [dB 3 (fun t _ => by omega), bA 3 (fun t _ => by omega), aj 3 (by decide) (by decide) (by decide)]; omega) (by omega) dI rfl (FU_gt (by omega))
  have eD : ∀ j, (∀ t, t < (w 3).toNat → j ≠ 199 + 6 * t) → E 166 j = D 166 j := fun j h => e4 j (fun t _ h2 => h t h2)
  have d6 : D 166 6 = w 6 + (fd s 0 5 : Nat) := by rw [dB 6 (fun t _ => by omega), bA 6 (fun t _ => by omega), a6]
  refine ⟨E, ?_, fun p hp => by rw [e2 p hp, d2 p hp, b2' p hp, ap p hp], ⟨?_, ?_, ?_⟩, fun t ht => ?_, fun p hp => ?_, fun b hb => ?_, fun j h1 h2 h3 h4 h5 h6 => ?_⟩
  · unfold mo_comes
    rw [bq_in (by decide) (by decide), mo_hoursOf_b hs, bq_in (by decide) (by decide), sM_eq, mo_placeOf_b hs, bq_in (by decide) (by decide), sM_eq, mo_roadOf_b hs, bq_in (by decide) (by decide), sM_eq, hw, show ((fd s 5 4 : Nat) : Int) = sPl s from rfl, hA]
    exact b1.trans (d1.trans e1)
  · rw [eD 6 (fun t _ => by omega), d6]
  · rw [eD 7 (fun t _ => by omega), dB 7 (fun t _ => by omega), bA 7 (fun t _ => by omega), a7]
  · rw [eD 8 (fun t _ => by omega), dB 8 (fun t _ => by omega), bA 8 (fun t _ => by omega), a8]
  · rw [eD _ (fun t' _ => by omega), dB _ (fun t' _ => by omega)]; exact b3 t (by omega) (by omega)
  · rw [eD _ (fun t' _ => by omega)]; exact d3 p (by omega) (by omega)
  · rw [e3 b (by omega) (by omega), d199, d6]
  · rw [eD j (fun t ht => h6 t (by omega)), dB j (fun t ht => h5 t (by omega)), bA j (fun t ht => h4 t (by omega)), aj j h1 h2 h3]
-- bits set and cleared
theorem set_bs {f : Nat → Bool} {m t : Nat} (hm : m ≤ 31) (ht : t < m) : iOr ((bset m f : Nat) : Int) (iShl 1 (t : Int)) = ((bset m (fun i => f i || decide (i = t)) : Nat) : Int) := by
  have h1 : 2 ^ t < 2147483648 := Nat.lt_of_lt_of_le (Nat.pow_lt_pow_right (by decide) (show t < 31 by omega)) (by decide)
  rw [nu_one (by omega), nu_or (bset_31 hm) h1]
  congr 1
  apply bset_eq
  intro i
  rw [Nat.testBit_or, bset_bit, Nat.testBit_two_pow]
  by_cases hi : i < m
  · rw [decide_eq_true hi, Bool.true_and, Bool.true_and]
    congr 1
    exact decide_eq_decide.mpr ⟨fun h => h.symm, fun h => h.symm⟩
  · rw [decide_eq_false hi, decide_eq_false (by omega)]; rfl
theorem clr_bs {f : Nat → Bool} {m t : Nat} (hm : m ≤ 31) (ht : t < m) : iAnd ((bset m f : Nat) : Int) (iXor (iShl 1 (t : Int)) (-1)) = ((bset m (fun i => f i && !decide (i = t)) : Nat) : Int) := by
  have h1 : 2 ^ t < 2147483648 := Nat.lt_of_lt_of_le (Nat.pow_lt_pow_right (by decide) (show t < 31 by omega)) (by decide)
  rw [nu_one (by omega), andn_s h1 hm]
  congr 1
  apply bset_cg
  intro i hi
  rw [Nat.testBit_two_pow]
  congr 2
  exact decide_eq_decide.mpr ⟨fun h => h.symm, fun h => h.symm⟩
