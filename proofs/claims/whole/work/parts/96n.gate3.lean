/-! ===== GATE, the reference: the next order ===== -/
theorem lsG_g {l : List Nat} {j : Nat} (h : j < l.length) : lsG l j = ((l[j] : Nat) : Int) := by
  unfold lsG
  rw [List.getD_eq_getElem?_getD, List.getElem?_eq_getElem h]; rfl
theorem lsG_l {l r : List Nat} {j : Nat} (h : j < l.length) : lsG (l ++ r) j = lsG l j := by
  unfold lsG
  rw [List.getD_eq_getElem?_getD, List.getD_eq_getElem?_getD, List.getElem?_append_left h]
theorem lsG_r {l r : List Nat} {j : Nat} (h : l.length ≤ j) : lsG (l ++ r) j = lsG r (j - l.length) := by
  unfold lsG
  rw [List.getD_eq_getElem?_getD, List.getD_eq_getElem?_getD, List.getElem?_append_right h]
theorem lsG_0 {l : List Nat} {b : Nat} : lsG (b :: l) 0 = (b : Int) := rfl
theorem lsG_s {l : List Nat} {b j : Nat} : lsG (b :: l) (j + 1) = lsG l j := rfl
theorem lsG_rev {l : List Nat} {j : Nat} (h : j < l.length) : lsG l.reverse j = lsG l (l.length - 1 - j) := by
  rw [lsG_g (by rw [List.length_reverse]; exact h), lsG_g (by omega), List.getElem_reverse]
theorem lsG_mem {l : List Nat} {j : Nat} (h : j < l.length) : ∃ a, a ∈ l ∧ lsG l j = (a : Int) := ⟨l[j], List.getElem_mem h, lsG_g h⟩
theorem nx_L4 {K : Int → MM → OR} {M : MM} {v1 : Int} {i n : Nat} (hn : n ≤ 7) (hI : ∀ j, j < n → I32 (M 178 j)) (hi : i + 1 < n) (hd : ∀ j, i < j → j + 1 < n → M 178 (j + 1) < M 178 j) (hu : M 178 i < M 178 (i + 1)) : ∀ d F m, m = i + d → m + 1 < n → d < F → mo_nextOrder_L4 v1 K F ((m : Nat) : Int) M = K (i : Int) M
  | 0, F, m, hm, hmn, hF => by
    obtain ⟨f, rfl⟩ : ∃ n, F = n + 1 := ⟨F - 1, by omega⟩
    obtain rfl : m = i := hm
    rw [mo_nextOrder_L4, bq_lt (by omega) (by decide), if_neg (by omega), bq_in (by omega) (by omega), bq_in (by omega) (by omega), show (m : Int) + 1 = ((m + 1 : Nat) : Int) by omega, Int.toNat_natCast, Int.toNat_natCast, bq_le (hI m (by omega)) (hI (m + 1) (by omega)), if_pos (Int.le_of_lt hu)]
  | d + 1, F, m, hm, hmn, hF => by
    obtain ⟨f, rfl⟩ : ∃ n, F = n + 1 := ⟨F - 1, by omega⟩
    have g := hd m (by omega) hmn
    rw [mo_nextOrder_L4, bq_lt (by omega) (by decide), if_neg (by omega), bq_in (by omega) (by omega), bq_in (by omega) (by omega), show (m : Int) + 1 = ((m + 1 : Nat) : Int) by omega, Int.toNat_natCast, Int.toNat_natCast, bq_le (hI m (by omega)) (hI (m + 1) (by omega)), if_neg (by omega), show (m : Int) + -1 = ((m - 1 : Nat) : Int) by omega]
    exact nx_L4 hn hI hi hd hu d f (m - 1) (by omega) (by omega) (by omega)
theorem nx_L4n {K : Int → MM → OR} {M : MM} {v1 : Int} {n : Nat} (hn : n ≤ 7) (hI : ∀ j, j < n → I32 (M 178 j)) (hd : ∀ j, j + 1 < n → M 178 (j + 1) < M 178 j) : ∀ (m F : Nat) (v : Int), v = (m : Int) - 1 → m < n ∨ m = 0 → m < F → mo_nextOrder_L4 v1 K F v M = K (-1) M
  | 0, F, v, hv, hm, hF => by
    obtain ⟨f, rfl⟩ : ∃ n, F = n + 1 := ⟨F - 1, by omega⟩
    obtain rfl : v = -1 := by omega
    rw [mo_nextOrder_L4, bq_lt (by decide) (by decide), if_pos (by decide)]
  | m + 1, F, v, hv, hm, hF => by
    obtain ⟨f, rfl⟩ : ∃ n, F = n + 1 := ⟨F - 1, by omega⟩
    obtain rfl : v = (m : Int) := by omega
    have g := hd m (by omega)
    rw [mo_nextOrder_L4, bq_lt (by omega) (by decide), if_neg (by omega), bq_in (by omega) (by omega), bq_in (by omega) (by omega), show (m : Int) + 1 = ((m + 1 : Nat) : Int) by omega, Int.toNat_natCast, Int.toNat_natCast, bq_le (hI m (by omega)) (hI (m + 1) (by omega)), if_neg (by omega)]
    exact nx_L4n hn hI hd m f _ (by omega) (by omega) (by omega)
theorem nx_L41 {K : Int → MM → OR} {M : MM} {v1 : Int} {i n k : Nat} (hn : n ≤ 7) (hI : ∀ j, j < n → I32 (M 178 j)) (hi : i < k ∧ k < n) (hk : M 178 i < M 178 k) (hd : ∀ j, k < j → j < n → M 178 j < M 178 i) : ∀ d F m, m = k + d → m < n → d < F → mo_nextOrder_L41 v1 ((i : Nat) : Int) K F ((m : Nat) : Int) M = K (k : Int) M
  | 0, F, m, hm, hmn, hF => by
    obtain ⟨f, rfl⟩ : ∃ n, F = n + 1 := ⟨F - 1, by omega⟩
    obtain rfl : m = k := hm
    rw [mo_nextOrder_L41, bq_in (by omega) (by omega), bq_in (by omega) (by omega), Int.toNat_natCast, Int.toNat_natCast, bq_ge (hI m (by omega)) (hI i (by omega)), if_pos (Int.le_of_lt hk)]
  | d + 1, F, m, hm, hmn, hF => by
    obtain ⟨f, rfl⟩ : ∃ n, F = n + 1 := ⟨F - 1, by omega⟩
    have g := hd m (by omega) hmn
    rw [mo_nextOrder_L41, bq_in (by omega) (by omega), bq_in (by omega) (by omega), Int.toNat_natCast, Int.toNat_natCast, bq_ge (hI m (by omega)) (hI i (by omega)), if_neg (by omega), show (m : Int) + -1 = ((m - 1 : Nat) : Int) by omega]
    exact nx_L41 hn hI hi hk hd d f (m - 1) (by omega) (by omega) (by omega)
def swG (M : MM) (a b : Nat) : MM := mU (mU M 178 a (M 178 b)) 178 b (M 178 a)
theorem swG_ne {M : MM} {a b p : Nat} (h : p ≠ 178) : swG M a b p = M p := by
  unfold swG
  rw [mU_ne h, mU_ne h]
theorem swG_at {M : MM} {a b j : Nat} : swG M a b 178 j = if j = b then M 178 a else if j = a then M 178 b else M 178 j := by
  unfold swG
  rw [mU_ap, if_pos rfl, mU_ap, if_pos rfl]
theorem swaps_b {M : MM} {a b : Nat} {k : MM → OR} (ha : a < 7) (hb : b < 7) : bV (mo_swaps (a : Int) (b : Int) M) k = k (swG M a b) := by
  unfold mo_swaps
  rw [bq_in (by omega) (by omega), bq_in (by omega) (by omega), bq_in (by omega) (by omega), sM_eq, bq_in (by omega) (by omega), sM_eq, Int.toNat_natCast, Int.toNat_natCast, bV_V]; rfl
theorem nx_rev {K : MM → OR} : ∀ (d F lo : Nat) (v : Int) (M : MM), v = (lo : Int) + d - 1 → lo + d ≤ 7 → d < F → ∃ M', mo_nextOrder_L78 K F (lo : Int) v M = K M' ∧ (∀ p, p ≠ 178 → M' p = M p) ∧ ∀ j, M' 178 j = if lo ≤ j ∧ j < lo + d then M 178 (lo + lo + d - 1 - j) else M 178 j
  | 0, F, lo, v, M, hv, h7, hF => by
    obtain ⟨f, rfl⟩ : ∃ n, F = n + 1 := ⟨F - 1, by omega⟩
    refine ⟨M, ?_, fun _ _ => rfl, fun j => ?_⟩
    · rw [mo_nextOrder_L78, bq_ge (by omega) (by omega), if_pos (by omega)]
    · rw [if_neg (by omega)]
  | 1, F, lo, v, M, hv, h7, hF => by
    obtain ⟨f, rfl⟩ : ∃ n, F = n + 1 := ⟨F - 1, by omega⟩
    refine ⟨M, ?_, fun _ _ => rfl, fun j => ?_⟩
    · rw [mo_nextOrder_L78, bq_ge (by omega) (by omega), if_pos (by omega)]
    · by_cases hj : lo ≤ j ∧ j < lo + 1
      · rw [if_pos hj, show lo + lo + 1 - 1 - j = j by omega]
      · rw [if_neg hj]
  | d + 2, F, lo, v, M, hv, h7, hF => by
    obtain ⟨f, rfl⟩ : ∃ n, F = n + 1 := ⟨F - 1, by omega⟩
    obtain ⟨M', q1, q2, q3⟩ := nx_rev (K := K) d f (lo + 1) (v + -1) (swG M lo (lo + d + 1)) (by omega) (by omega) (by omega)
    refine ⟨M', ?_, fun p hp => by rw [q2 p hp, swG_ne hp], fun j => ?_⟩
    · rw [mo_nextOrder_L78, bq_ge (by omega) (by omega), if_neg (by omega), show v = ((lo + d + 1 : Nat) : Int) by omega, swaps_b (by omega) (by omega), ← show v = ((lo + d + 1 : Nat) : Int) by omega, show (lo : Int) + 1 = ((lo + 1 : Nat) : Int) by omega]
      exact q1
    · rw [q3]
      by_cases h1 : lo + 1 ≤ j ∧ j < lo + 1 + d
      · rw [if_pos h1, if_pos (by omega), swG_at, if_neg (by omega), if_neg (by omega)]
        congr 1
        omega
      · rw [if_neg h1, swG_at]
        by_cases h2 : j = lo + d + 1
        · rw [if_pos h2, if_pos (by omega)]
          congr 1
          omega
        · rw [if_neg h2]
          by_cases h3 : j = lo
          · rw [if_pos h3, if_pos (by omega)]
            congr 1
            omega
          · rw [if_neg h3, if_neg (by omega)]
theorem next_some {M : MM} {i n k : Nat} (hn : n ≤ 7) (hI : ∀ j, j < n → I32 (M 178 j)) (hd : ∀ j, i < j → j + 1 < n → M 178 (j + 1) < M 178 j) (hu : M 178 i < M 178 (i + 1)) (hi : i < k ∧ k < n) (hk : M 178 i < M 178 k) (he : ∀ j, k < j → j < n → M 178 j < M 178 i) : ∃ M', mo_nextOrder (n : Int) M = some (rI 1, M') ∧ (∀ p, p ≠ 178 → M' p = M p) ∧ ∀ j, j < n → M' 178 j = if j < i then M 178 j else if j = i then M 178 k else if i + n - j = k then M 178 i else M 178 (i + n - j) := by
  obtain ⟨M', q1, q2, q3⟩ := nx_rev (K := fun M_17 => some (rI 1, M_17)) (n - (i + 1)) FU (i + 1) ((n : Int) - 1) (swG M i k) (by omega) (by omega) (FU_gt (by omega))
  refine ⟨M', ?_, fun p hp => by rw [q2 p hp, swG_ne hp], fun j hj => ?_⟩
  · unfold mo_nextOrder
    have l4 := nx_L4 (K := fun v2_1 M_2 => mo_nextOrder_J31 (n : Int) v2_1 M_2) (v1 := (n : Int)) hn hI (show i + 1 < n by omega) hd hu (n - 2 - i) FU (n - 2) (by omega) (by omega) (FU_gt (by omega))
    rw [show (n : Int) - 2 = ((n - 2 : Nat) : Int) by omega, l4]
    unfold mo_nextOrder_J31
    have l41 := nx_L41 (K := fun v3_6 M_7 => (bV (mo_swaps (i : Int) v3_6 M_7) fun M_11 => (mo_nextOrder_L78  (fun M_17 => some (rI 1, M_17)) FU ((i : Int) + 1) ((n : Int) - 1) M_11))) (v1 := (n : Int)) hn hI hi hk he (n - 1 - k) FU (n - 1) (by omega) (by omega) (FU_gt (by omega))
    rw [bq_ge (by omega) (by decide), if_pos (by omega)]
    rw [show ((n - 1 : Nat) : Int) = (n : Int) - 1 by omega] at l41
    rw [l41, swaps_b (by omega) (by omega), show (i : Int) + 1 = ((i + 1 : Nat) : Int) by omega]
    exact q1
  · rw [q3]
    by_cases h1 : i + 1 ≤ j ∧ j < i + 1 + (n - (i + 1))
    · rw [if_pos h1, if_neg (by omega), if_neg (by omega), swG_at, show i + 1 + (i + 1) + (n - (i + 1)) - 1 - j = i + n - j by omega]
      by_cases h2 : i + n - j = k
      · rw [if_pos h2, if_pos h2]
      · rw [if_neg h2, if_neg (by omega), if_neg h2]
    · rw [if_neg h1, swG_at, if_neg (by omega)]
      by_cases h2 : j = i
      · rw [if_pos h2, if_neg (by omega), if_pos h2]
      · rw [if_neg h2, if_pos (by omega)]
theorem next_none {M : MM} {n : Nat} (hn : n ≤ 7) (hI : ∀ j, j < n → I32 (M 178 j)) (hd : ∀ j, j + 1 < n → M 178 (j + 1) < M 178 j) : mo_nextOrder (n : Int) M = some (rI 0, M) := by
  unfold mo_nextOrder
  by_cases h2 : n ≤ 1
  · obtain ⟨f, hf⟩ : ∃ f, FU = f + 1 := ⟨FU - 1, by have := FU_gt (n := 1) (by decide); omega⟩
    rw [hf, mo_nextOrder_L4, bq_lt (by omega) (by decide), if_pos (by omega)]
    unfold mo_nextOrder_J31
    rw [bq_ge (by omega) (by decide), if_neg (by omega)]
  · rw [nx_L4n hn hI hd (n - 1) FU ((n : Int) - 2) (by omega) (by omega) (FU_gt (by omega))]
    unfold mo_nextOrder_J31
    rw [bq_ge (by decide) (by decide), if_neg (by decide)]
