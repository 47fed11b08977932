/-! ===== SHIRTS ===== -/
def bt (x : Int) (h : Nat) : Bool := (Int64.ofInt x).toBitVec.getLsbD h
theorem and1_b (y : Int64) : (y &&& Int64.ofInt 1).toInt = b2 (y.toBitVec.getLsbD 0) := by
  have h : (y &&& Int64.ofInt 1).toBitVec.toNat = if y.toBitVec.toNat.testBit 0 then 1 else 0 := by
    rw [Int64.toBitVec_and, BitVec.toNat_and]
    show y.toBitVec.toNat &&& 1 = _
    have := bit_1 (s := y.toBitVec.toNat) (k := 0)
    rw [Nat.shiftRight_zero] at this
    exact this
  have h2 := nj_i (x := (y &&& Int64.ofInt 1).toBitVec) h (by split <;> decide)
  rw [show (y &&& Int64.ofInt 1).toInt = (y &&& Int64.ofInt 1).toBitVec.toInt from rfl, h2]
  show _ = b2 (y.toBitVec.toNat.testBit 0)
  cases y.toBitVec.toNat.testBit 0 <;> rfl
theorem bit_u {x : Int} {h : Nat} (hh : h < 64) : lAnd (lUshr x (h : Int)) 1 = b2 (bt x h) := by
  unfold lAnd lUshr
  have h1 : ∀ k : Nat, k < 64 → (((Int32.ofInt (k : Int)).toInt64).toUInt64 &&& Int64.toUInt64 63) = UInt64.ofNat k := by decide +kernel
  have h2 : ∀ k : Nat, k < 64 → (UInt64.ofNat k).toBitVec % 64 = BitVec.ofNat 64 k := by decide +kernel
  rw [h1 h hh, Int64.ofInt_toInt, and1_b]
  congr 1
  show ((Int64.ofInt x).toUInt64 >>> UInt64.ofNat h).toBitVec.getLsbD 0 = _
  rw [UInt64.toBitVec_shiftRight, h2 h hh, BitVec.ushiftRight_eq', BitVec.toNat_ofNat, Nat.mod_eq_of_lt (by omega), BitVec.getLsbD_ushiftRight, Nat.add_zero]
  rfl
theorem bit_s {x : Int} {h : Nat} (hh : h < 64) : lAnd (lShr x (h : Int)) 1 = b2 (bt x h) := by
  unfold lAnd lShr
  rw [Int64.ofInt_toInt, and1_b]
  congr 1
  rw [Int64.toBitVec_shiftRight, nj_63 hh, BitVec.sshiftRight_eq', BitVec.toNat_ofNat, Nat.mod_eq_of_lt (by omega), BitVec.getLsbD_sshiftRight]
  rw [decide_eq_false (by omega), if_pos (by omega), Nat.add_zero]
  rfl
theorem bt_clr {x : Int} {h i : Nat} (hh : h < 64) (hi : i < 64) : bt (lAnd x (lXor (lShl 1 (h : Int)) (-1))) i = (bt x i && !decide (i = h)) := by
  unfold bt lAnd lXor lShl
  rw [Int64.ofInt_toInt, Int64.ofInt_toInt, Int64.ofInt_toInt, Int64.toBitVec_and, BitVec.getLsbD_and, Int64.toBitVec_xor, BitVec.getLsbD_xor, Int64.toBitVec_shiftLeft, nj_63 hh, BitVec.shiftLeft_eq', BitVec.toNat_ofNat, Nat.mod_eq_of_lt (by omega), BitVec.getLsbD_shiftLeft]
  have h1 : ∀ k : Nat, k < 64 → (Int64.ofInt (-1)).toBitVec.getLsbD k = true := by decide +kernel
  have h2 : ∀ k : Nat, (Int64.ofInt 1).toBitVec.getLsbD k = decide (k = 0) := fun k => by
    show (1 : Nat).testBit k = _
    by_cases hk : k = 0
    · subst hk; rfl
    · rw [decide_eq_false hk]
      exact Nat.testBit_lt_two_pow (Nat.lt_of_lt_of_le (by decide : 1 < 2 ^ 1) (Nat.pow_le_pow_right (by decide) (by omega)))
  rw [h1 i hi, h2, decide_eq_true hi, Bool.true_and, Bool.xor_true]
  congr 2
  by_cases hle : i < h
  · rw [decide_eq_true hle, decide_eq_false (show ¬ i = h by omega)]; rfl
  · rw [decide_eq_false hle, Bool.not_false, Bool.true_and]
    exact decide_eq_decide.mpr (by omega)
theorem lc_1 {p : Bool} : lCmp (b2 p) 1 = bif p then 0 else -1 := by cases p <;> decide
theorem lc_0 {p : Bool} : lCmp (b2 p) 0 = bif p then 1 else 0 := by cases p <;> decide
-- what is sewn
def stS (k : Nat) (sp : Nat → Bool) (h : Nat) (a : Nat × Nat) : Nat × Nat := bif sp h then (a.1, 0) else if a.2 + 1 < k then (a.1, a.2 + 1) else (a.1 + 1, 0)
def shC (n k : Nat) (sp : Nat → Bool) : Nat := (fo (stS k sp) n 0 (0, 0)).1
theorem shC_cg {n k : Nat} {sp sp' : Nat → Bool} (h : ∀ i, i < n → sp i = sp' i) : shC n k sp = shC n k sp' := by
  unfold shC
  rw [fo_cg (g' := stS k sp') n 0 (0, 0) fun j a h1 h2 => by unfold stS; rw [h j (by omega)]]
theorem st_b {k : Nat} {sp : Nat → Bool} : ∀ m i a, (fo (stS k sp) m i a).1 ≤ a.1 + m
  | 0, i, a => Nat.le_refl _
  | m + 1, i, a => by
    have := st_b (k := k) (sp := sp) m (i + 1) (stS k sp i a)
    show (fo (stS k sp) m (i + 1) (stS k sp i a)).1 ≤ _
    have h2 : (stS k sp i a).1 ≤ a.1 + 1 := by
      unfold stS
      cases sp i with
      | true => simp only [cond_true]; omega
      | false =>
        simp only [cond_false]
        split <;> simp only [] <;> omega
    omega
theorem cls_sew {K : Int → MM → OR} {M : MM} {n k : Nat} {x : Int} (hn : n ≤ 64) (hk : 1 ≤ k ∧ k ≤ 9) : ∀ (m i F d s : Nat), m + i = n → m < F → d ≤ i → s < k → ridd_mostShirts_L9 (n : Int) (k : Int) x K F (d : Int) (s : Int) (i : Int) M = K ((fo (stS k (bt x)) m i (d, s)).1 : Nat) M
  | 0, i, F, d, s, h, hF, hd, hs => by
    obtain ⟨f, rfl⟩ : ∃ n, F = n + 1 := ⟨F - 1, by omega⟩
    obtain rfl : i = n := by omega
    rw [ridd_mostShirts_L9, bq_ge (by omega) (by omega), if_pos (by omega)]; rfl
  | m + 1, i, F, d, s, h, hF, hd, hs => by
    obtain ⟨f, rfl⟩ : ∃ n, F = n + 1 := ⟨F - 1, by omega⟩
    show _ = K ((fo (stS k (bt x)) m (i + 1) (stS k (bt x) i (d, s))).1 : Nat) M
    rw [ridd_mostShirts_L9, bq_ge (by omega) (by omega), if_neg (by omega), bit_u (by omega), lc_1, show (i : Int) + 1 = ((i + 1 : Nat) : Int) by omega]
    have e : stS k (bt x) i (d, s) = (bif bt x i then (d, 0) else if s + 1 < k then (d, s + 1) else (d + 1, 0)) := rfl
    rw [e]
    cases bt x i with
    | true =>
      rw [cn_t, cn_t, bq_ne (by decide) (by decide), if_pos rfl, bq_lt (by decide) (by omega), if_pos (by omega)]
      exact cls_sew hn hk m (i + 1) f d 0 (by omega) (by omega) (by omega) (by omega)
    | false =>
      rw [cn_f, cn_f, bq_ne (by decide) (by decide), if_neg (by decide), bq_lt (by omega) (by omega)]
      by_cases h1 : s + 1 < k
      · rw [if_pos (by omega), if_pos h1, show (s : Int) + 1 = ((s + 1 : Nat) : Int) by omega]
        exact cls_sew hn hk m (i + 1) f d (s + 1) (by omega) (by omega) (by omega) h1
      · rw [if_neg (by omega), if_neg h1, show (d : Int) + 1 = ((d + 1 : Nat) : Int) by omega]
        exact cls_sew hn hk m (i + 1) f (d + 1) 0 (by omega) (by omega) (by omega) (by omega)
theorem mostShirts_v {M : MM} {n k : Nat} {x : Int} (hn : n ≤ 64) (hk : 1 ≤ k ∧ k ≤ 9) : ridd_mostShirts (n : Int) (k : Int) x M = some (rI ((shC n k (bt x) : Nat) : Int), M) := by
  unfold ridd_mostShirts
  exact cls_sew (K := fun v4_1 M_2 => some (rI v4_1, M_2)) hn hk n 0 FU 0 0 rfl (FU_gt (by omega)) (Nat.le_refl _) (by omega)
theorem mod_next {r k : Nat} (hk : 1 ≤ k) : ((r + 1) % k = 0 ↔ ¬ (r % k + 1 < k)) ∧ (r % k + 1 < k → (r + 1) % k = r % k + 1) := by
  have h := Nat.mod_lt r (show 0 < k by omega)
  have e : (r + 1) % k = (r % k + 1) % k := by rw [Nat.mod_add_mod]
  by_cases h1 : r % k + 1 < k
  · rw [e, Nat.mod_eq_of_lt h1]
    exact ⟨⟨fun h => by omega, fun h => absurd h1 h⟩, fun _ => rfl⟩
  · have h2 : r % k + 1 = k := by omega
    rw [e, h2, Nat.mod_self]
    exact ⟨⟨fun _ => by omega, fun _ => rfl⟩, fun h => absurd h (by omega)⟩
theorem ref_sew {K : Int → MM → OR} {M : MM} {n k : Nat} {x but : Int} (hb : -1 ≤ but ∧ but ≤ 64) (hn : n ≤ 64) (hk : 1 ≤ k ∧ k ≤ 9) : ∀ (m i F d r : Nat), m + i = n → m < F → d ≤ i → r ≤ i → mo_sews_L9 (n : Int) (k : Int) x but K F (d : Int) (r : Int) (i : Int) M = K ((fo (stS k (fun h => bt x h && !decide ((h : Int) = but))) m i (d, r % k)).1 : Nat) M
  | 0, i, F, d, r, h, hF, hd, hr => by
    obtain ⟨f, rfl⟩ : ∃ n, F = n + 1 := ⟨F - 1, by omega⟩
    obtain rfl : i = n := by omega
    rw [mo_sews_L9, bq_ge (by omega) (by omega), if_pos (by omega)]; rfl
  | m + 1, i, F, d, r, h, hF, hd, hr => by
    obtain ⟨f, rfl⟩ : ∃ n, F = n + 1 := ⟨F - 1, by omega⟩
    obtain ⟨n1, n2⟩ := mod_next (r := r) (k := k) hk.1
    show _ = K ((fo (stS k (fun h => bt x h && !decide ((h : Int) = but))) m (i + 1) (stS k (fun h => bt x h && !decide ((h : Int) = but)) i (d, r % k))).1 : Nat) M
    have e : stS k (fun h => bt x h && !decide ((h : Int) = but)) i (d, r % k) = (bif (bt x i && !decide ((i : Int) = but)) then (d, 0) else if r % k + 1 < k then (d, r % k + 1) else (d + 1, 0)) := rfl
    -- she is dumb, or she speaks
    have J1 : mo_sews_J38 (n : Int) (k : Int) x but (mo_sews_L9 (n : Int) (k : Int) x but K f) K (d : Int) (r : Int) (i : Int) 1 M = K ((fo (stS k (fun h => bt x h && !decide ((h : Int) = but))) m (i + 1) (if r % k + 1 < k then (d, r % k + 1) else (d + 1, 0))).1 : Nat) M := by
      unfold mo_sews_J38
      rw [bq_eq (by decide) (by decide), if_neg (by decide), bq_eq (by decide) (by decide), if_neg (by decide), show (r : Int) + 1 = ((r + 1 : Nat) : Int) by omega, show (i : Int) + 1 = ((i + 1 : Nat) : Int) by omega]
      have hnz : nz (k : Int) = true := by
        unfold nz
        rw [nw (by omega)]
        exact decide_eq_true (by omega)
      have em : (w32 ((r + 1 : Nat) : Int)).tmod (w32 (k : Int)) = (((r + 1) % k : Nat) : Int) := by
        rw [nw (by omega), nw (by omega)]
        exact (Int.ofNat_tmod (r + 1) k).symm
      have hml := Nat.mod_lt (r + 1) (show 0 < k by omega)
      rw [hnz, cn_t, em, bq_ne (by omega) (by decide)]
      by_cases h1 : r % k + 1 < k
      · have := ref_sew (K := K) (M := M) (x := x) hb hn hk m (i + 1) f d (r + 1) (by omega) (by omega) (by omega) (by omega)
        rw [n2 h1] at this
        rw [if_neg (by have := n2 h1; omega), if_pos h1, Int.add_zero]
        exact this
      · have h0 := n1.mpr h1
        have := ref_sew (K := K) (M := M) (x := x) hb hn hk m (i + 1) f (d + 1) (r + 1) (by omega) (by omega) (by omega) (by omega)
        rw [h0] at this
        rw [if_pos (by omega), if_neg h1, show (d : Int) + 1 = ((d + 1 : Nat) : Int) by omega]
        exact this
    have J0 : mo_sews_J38 (n : Int) (k : Int) x but (mo_sews_L9 (n : Int) (k : Int) x but K f) K (d : Int) (r : Int) (i : Int) 0 M = K ((fo (stS k (fun h => bt x h && !decide ((h : Int) = but))) m (i + 1) (d, 0)).1 : Nat) M := by
      unfold mo_sews_J38
      rw [bq_eq (by decide) (by decide), if_pos rfl, bq_eq (by decide) (by decide), if_pos rfl, Int.add_zero, show (i : Int) + 1 = ((i + 1 : Nat) : Int) by omega]
      have := ref_sew (K := K) (M := M) (x := x) hb hn hk m (i + 1) f d 0 (by omega) (by omega) (by omega) (by omega)
      rw [Nat.zero_mod] at this
      exact this
    rw [e, mo_sews_L9, bq_ge (by omega) (by omega), if_neg (by omega), bq_eq (by omega) (by omega)]
    unfold mo_sews_J33
    by_cases hib : (i : Int) = but
    · rw [if_pos hib, decide_eq_true hib, Bool.not_true, Bool.and_false, cn_f]
      exact J1
    · rw [if_neg hib, decide_eq_false hib, Bool.not_false, Bool.and_true, bit_s (by omega), lc_0]
      cases bt x i with
      | true => rw [cn_t, cn_t, bq_ne (by decide) (by decide), if_neg (by decide)]; exact J0
      | false => rw [cn_f, cn_f, bq_ne (by decide) (by decide), if_pos rfl]; exact J1
theorem sews_v {M : MM} {n k : Nat} {x but : Int} (hb : -1 ≤ but ∧ but ≤ 64) (hn : n ≤ 64) (hk : 1 ≤ k ∧ k ≤ 9) : mo_sews (n : Int) (k : Int) x but M = some (rI ((shC n k (fun h => bt x h && !decide ((h : Int) = but)) : Nat) : Int), M) := by
  unfold mo_sews
  have := ref_sew (K := fun v5_1 M_2 => some (rI v5_1, M_2)) (M := M) (x := x) hb hn hk n 0 FU 0 0 rfl (FU_gt (by omega)) (Nat.le_refl _) (Nat.le_refl _)
  rw [Nat.zero_mod] at this
  exact this
def dbC (n k : Nat) (x : Int) (h : Nat) : Nat := shC n k (fun i => bt x i && !decide (i = h))
theorem shC_le {n k : Nat} {sp : Nat → Bool} : shC n k sp ≤ n := by
  have := st_b (k := k) (sp := sp) n 0 (0, 0)
  unfold shC
  simp only [Nat.zero_add] at this
  exact this
theorem imax_n {a b : Nat} (ha : a ≤ 64) (hb : b ≤ 64) : imax (a : Int) (b : Int) = ((if a < b then b else a : Nat) : Int) := by
  unfold imax
  rw [nw (by omega), nw (by omega)]
  split <;> split <;> omega
def mxG (n k : Nat) (x : Int) (h a : Nat) : Nat := if a < dbC n k x h then dbC n k x h else a
theorem mx_b {n k : Nat} {x : Int} {h a : Nat} (hn : n ≤ 64) (ha : a ≤ 64) : a ≤ mxG n k x h a ∧ mxG n k x h a ≤ 64 := by
  have : dbC n k x h ≤ n := shC_le
  unfold mxG
  split <;> omega
theorem dumb_cls {M : MM} {K : Int → MM → OR} {n k : Nat} {x : Int} (hn : n ≤ 64) (hk : 1 ≤ k ∧ k ≤ 9) : ∀ (m i F a : Nat), m + i = n → m < F → a ≤ 64 → shC n k (bt x) ≤ a → ridd_mostShirtsDumb_L11 (n : Int) (k : Int) x K F (a : Int) (i : Int) M = K ((fo (mxG n k x) m i a : Nat) : Int) M
  | 0, i, F, a, h, hF, ha, hb => by
    obtain ⟨f, rfl⟩ : ∃ n, F = n + 1 := ⟨F - 1, by omega⟩
    obtain rfl : i = n := by omega
    rw [ridd_mostShirtsDumb_L11, bq_ge (by omega) (by omega), if_pos (by omega)]; rfl
  | m + 1, i, F, a, h, hF, ha, hb => by
    obtain ⟨f, rfl⟩ : ∃ n, F = n + 1 := ⟨F - 1, by omega⟩
    obtain ⟨g1, g2⟩ := mx_b (n := n) (k := k) (x := x) (h := i) hn ha
    show _ = K ((fo (mxG n k x) m (i + 1) (mxG n k x i a) : Nat) : Int) M
    rw [ridd_mostShirtsDumb_L11, bq_ge (by omega) (by omega), if_neg (by omega), bit_u (by omega), lc_1, show (i : Int) + 1 = ((i + 1 : Nat) : Int) by omega]
    cases hbt : bt x i with
    | true =>
      have ed : shC n k (bt (lAnd x (lXor (lShl 1 (i : Int)) (-1)))) = dbC n k x i := shC_cg fun j hj => bt_clr (by omega) (by omega)
      have hd : dbC n k x i ≤ n := shC_le
      rw [cn_t, bq_ne (by decide) (by decide), if_pos rfl, mostShirts_v hn hk, bI_I, ed, imax_n ha (by omega)]
      exact dumb_cls hn hk m (i + 1) f (mxG n k x i a) (by omega) (by omega) g2 (by omega)
    | false =>
      have ed : dbC n k x i = shC n k (bt x) := shC_cg fun j hj => by
        by_cases hji : j = i
        · subst hji; rw [hbt]; rfl
        · rw [decide_eq_false hji]; simp
      have em : mxG n k x i a = a := by unfold mxG; rw [ed, if_neg (by omega)]
      rw [cn_f, bq_ne (by decide) (by decide), if_neg (by decide), em]
      exact dumb_cls hn hk m (i + 1) f a (by omega) (by omega) ha hb
theorem dumb_ref {M : MM} {K : Int → MM → OR} {n k : Nat} {x v5 : Int} (hv : v5 = 1) (hn : n ≤ 64) (hk : 1 ≤ k ∧ k ≤ 9) : ∀ (m i F a : Nat), m + i = n → m < F → a ≤ 64 → mo_shirts_L52 (n : Int) (k : Int) x v5 K F (a : Int) (i : Int) M = K ((fo (mxG n k x) m i a : Nat) : Int) M
  | 0, i, F, a, h, hF, ha => by
    obtain ⟨f, rfl⟩ : ∃ n, F = n + 1 := ⟨F - 1, by omega⟩
    obtain rfl : i = n := by omega
    rw [mo_shirts_L52, bq_ge (by omega) (by omega), if_pos (by omega)]; rfl
  | m + 1, i, F, a, h, hF, ha => by
    obtain ⟨f, rfl⟩ : ∃ n, F = n + 1 := ⟨F - 1, by omega⟩
    obtain ⟨g1, g2⟩ := mx_b (n := n) (k := k) (x := x) (h := i) hn ha
    show _ = K ((fo (mxG n k x) m (i + 1) (mxG n k x i a) : Nat) : Int) M
    have hd : dbC n k x i ≤ n := shC_le
    have ed : shC n k (fun h => bt x h && !decide ((h : Int) = (i : Int))) = dbC n k x i := shC_cg fun j hj => by
      congr 2
      exact decide_eq_decide.mpr (by omega)
    rw [mo_shirts_L52, bq_ge (by omega) (by omega), if_neg (by omega), bq_eq (by omega) (by decide), if_neg (by omega), sews_v (by omega) hn hk, bI_I, ed, imax_n ha (by omega), show (i : Int) + 1 = ((i + 1 : Nat) : Int) by omega]
    exact dumb_ref hv hn hk m (i + 1) f (mxG n k x i a) (by omega) (by omega) g2
theorem mx_fo {n k : Nat} {x : Int} (hn : n ≤ 64) : ∀ m i a, a ≤ 64 → fo (mxG n k x) m i a ≤ 64
  | 0, i, a, h => h
  | m + 1, i, a, h => mx_fo hn m (i + 1) _ (mx_b hn h).2
theorem ok_shirts {v1 v2 v3 v5 : Int} (h1 : I32 v1) (h2 : I32 v2) (h5 : v5 = 0 ∨ v5 = 1) : OpOK (drv_shirts v1 v2 v3 v5) (mo_shirts v1 v2 v3 v5) := by
  refine op_read fun k M hk hI => ?_
  have hb : shC v1.toNat v2.toNat (bt v3) ≤ v1.toNat := shC_le
  by_cases h : (1 ≤ v1 ∧ v1 ≤ 64) ∧ (1 ≤ v2 ∧ v2 ≤ 9)
  · obtain ⟨n, rfl⟩ : ∃ n : Nat, v1 = (n : Int) := ⟨v1.toNat, by omega⟩
    obtain ⟨q, rfl⟩ : ∃ n : Nat, v2 = (n : Int) := ⟨v2.toNat, by omega⟩
    rw [Int.toNat_natCast, Int.toNat_natCast] at hb
    have hn : n ≤ 64 := by omega
    have hq : 1 ≤ q ∧ q ≤ 9 := by omega
    have hf := mx_fo (n := n) (k := q) (x := v3) hn n 0 (shC n q (bt v3)) (by omega)
    have hzI : I32 ((if v5 = 0 then shC n q (bt v3) else fo (mxG n q v3) n 0 (shC n q (bt v3)) : Nat) : Int) := by split <;> omega
    refine ⟨0, ((if v5 = 0 then shC n q (bt v3) else fo (mxG n q v3) n 0 (shC n q (bt v3)) : Nat) : Int), by decide, fun _ => hzI, fun hx => ?_, fun N hN e _ => ?_⟩
    · refine ansC_ret (E := fun c_6 M_2 => (bif Nat.beq c_6 13 then some (rI 1, M_2) else none)) (M1 := M) hx ?_ hzI Core.rfl' rfl
      unfold gh_shirts
      rw [bq_lt h1 (by decide), if_neg (by omega), bq_gt h1 (by decide), if_neg (by omega), bq_lt h2 (by decide), if_neg (by omega), bq_le h2 (by decide), if_pos h.2.2]
      rcases h5 with rfl | rfl
      · rw [bq_eq (by decide) (by decide), if_pos rfl, if_pos rfl, mostShirts_v hn hq, bI_I]
      · rw [bq_eq (by decide) (by decide), if_neg (by decide), if_neg (by decide)]
        unfold ridd_mostShirtsDumb
        rw [mostShirts_v hn hq, bI_I]
        have := dumb_cls (M := M) (K := fun v4_7 M_8 => some (rI v4_7, M_8)) (x := v3) hn hq n 0 FU (shC n q (bt v3)) rfl (FU_gt (by omega)) (by omega) (Nat.le_refl _)
        rw [show ridd_mostShirtsDumb_L11 (n : Int) (q : Int) v3 _ FU _ 0 M = _ from this, bI_I]
    · refine ansR_r0 ?_
      have e0 : shC n q (fun h => bt v3 h && !decide ((h : Int) = -1)) = shC n q (bt v3) := shC_cg fun j hj => by rw [decide_eq_false (by omega)]; simp
      unfold mo_shirts mo_shirts_J31
      rw [sM_eq, mo_in_b h1 (by decide) (by decide), decide_eq_true h.1, bz_eq0, cn_t, mo_in_b h2 (by decide) (by decide), decide_eq_true h.2, bz_ne0, cn_t, mo_throwsIf_0, bq_eq (by decide) (by decide), if_pos rfl, sews_v (by decide) hn hq, bI_I, e0]
      rcases h5 with rfl | rfl
      · obtain ⟨n', rfl⟩ : ∃ n', n = n' + 1 := ⟨n - 1, by omega⟩
        rw [if_pos rfl, show FU = 999999 + 1 from rfl, mo_shirts_L52, bq_ge (by decide) (by omega), if_neg (by omega), bq_eq (by decide) (by decide), if_pos rfl]
      · rw [if_neg (by decide)]
        exact dumb_ref (K := fun v6_15 M_16 => some (rI v6_15, M_16)) rfl hn hq n 0 FU (shC n q (bt v3)) rfl (FU_gt (by omega)) (by omega)
  · refine ⟨1, 0, by decide, fun h => absurd h (by decide), fun hx => ?_, fun N hN e _ => ?_⟩
    · refine ansC_thr (E := fun c_6 M_2 => (bif Nat.beq c_6 13 then some (rI 1, M_2) else none)) (c := 13) (M1 := M) hx ?_ rfl (by decide) Core.rfl' rfl
      unfold gh_shirts
      rw [bq_lt h1 (by decide), bq_gt h1 (by decide), bq_lt h2 (by decide), bq_le h2 (by decide)]
      by_cases a : v1 < 1
      · rw [if_pos a]; exact thx_v hx
      rw [if_neg a]
      by_cases b : 64 < v1
      · rw [if_pos b]; exact thx_v hx
      rw [if_neg b]
      by_cases c : v2 < 1
      · rw [if_pos c]; exact thx_v hx
      rw [if_neg c, if_neg (by omega)]; exact thx_v hx
    · refine ansR_thr (z' := 0) ?_ (by decide)
      unfold mo_shirts mo_shirts_J26 mo_shirts_J31
      rw [sM_eq, mo_in_b h1 (by decide) (by decide), bz_eq0]
      by_cases a : 1 ≤ v1 ∧ v1 ≤ 64
      · rw [decide_eq_true a, cn_t, mo_in_b h2 (by decide) (by decide), decide_eq_false (fun b => h ⟨a, b⟩), bz_ne0, cn_f, mo_throwsIf_1, bq_eq (by decide) (by decide), if_neg (by decide)]
      · rw [decide_eq_false a, cn_f, mo_throwsIf_1, bq_eq (by decide) (by decide), if_neg (by decide)]
