/-! ===== THE CLASS'S CODE OF A STATE ===== -/
section Ck
variable {w : Nat → Int} {s u : Nat}
theorem cpk_lt : cpk w s < 2 ^ 61 := bset_lt _ 61
theorem cpk_63 : cpk w s < 9223372036854775808 := Nat.lt_trans cpk_lt (by decide)
theorem ck {i : Nat} (h : i < 61) : (cpk w s).testBit i = cpB w s i := by
  unfold cpk
  rw [bset_bit, decide_eq_true h, Bool.true_and]
theorem cpB_0 {j : Nat} (h : j < 10) : cpB w s j = decide (sG s j = 2) := by
  unfold cpB
  rw [if_pos h]
theorem cpB_1 {j : Nat} (h : j < 10) : cpB w s (10 + j) = decide (sG s j = 3) := by
  unfold cpB
  rw [if_neg (by omega), if_pos (by omega), show 10 + j - 10 = j by omega]
theorem cpB_2 {j : Nat} (h : j < 10) : cpB w s (20 + j) = (decide (sG s j = 0) && (decide ((j : Int) < w 1) && decide (oT w (j : Int) 2 = 1))) := by
  unfold cpB
  rw [if_neg (by omega), if_neg (by omega), if_pos (by omega), show 20 + j - 20 = j by omega]
theorem cpB_3 {j : Nat} (h : j < 10) : cpB w s (30 + j) = (fd s 34 10).testBit j := by
  unfold cpB
  rw [if_neg (by omega), if_neg (by omega), if_neg (by omega), if_pos (by omega), show 30 + j - 30 = j by omega]
theorem cpB_4 {j : Nat} (h : j < 7) : cpB w s (40 + j) = (fd s 44 7).testBit j := by
  unfold cpB
  rw [if_neg (by omega), if_neg (by omega), if_neg (by omega), if_neg (by omega), if_pos (by omega), show 40 + j - 40 = j by omega]
theorem cpB_5 {j : Nat} (h : j < 4) : cpB w s (47 + j) = (fd s 5 4).testBit j := by
  unfold cpB
  rw [if_neg (by omega), if_neg (by omega), if_neg (by omega), if_neg (by omega), if_neg (by omega), if_pos (by omega), show 47 + j - 47 = j by omega]
theorem cpB_6 {j : Nat} (h : j < 5) : cpB w s (51 + j) = (fd s 9 5).testBit j := by
  unfold cpB
  rw [if_neg (by omega), if_neg (by omega), if_neg (by omega), if_neg (by omega), if_neg (by omega), if_neg (by omega), if_pos (by omega), show 51 + j - 51 = j by omega]
theorem cpB_7 {j : Nat} : cpB w s (56 + j) = (fd s 0 5).testBit j := by
  unfold cpB
  rw [if_neg (by omega), if_neg (by omega), if_neg (by omega), if_neg (by omega), if_neg (by omega), if_neg (by omega), if_neg (by omega), show 56 + j - 56 = j by omega]
theorem ck_ext {c d : Nat} (hc : c < 2 ^ 61) (hd : d < 2 ^ 61) (h0 : ∀ j, j < 10 → c.testBit j = d.testBit j) (h1 : ∀ j, j < 10 → c.testBit (10 + j) = d.testBit (10 + j)) (h2 : ∀ j, j < 10 → c.testBit (20 + j) = d.testBit (20 + j)) (h3 : ∀ j, j < 10 → c.testBit (30 + j) = d.testBit (30 + j)) (h4 : ∀ j, j < 7 → c.testBit (40 + j) = d.testBit (40 + j)) (h5 : ∀ j, j < 4 → c.testBit (47 + j) = d.testBit (47 + j)) (h6 : ∀ j, j < 5 → c.testBit (51 + j) = d.testBit (51 + j)) (h7 : ∀ j, j < 5 → c.testBit (56 + j) = d.testBit (56 + j)) : c = d := by
  apply Nat.eq_of_testBit_eq
  intro i
  by_cases g0 : i < 10
  · exact h0 i g0
  by_cases g1 : i < 20
  · have := h1 (i - 10) (by omega)
    rwa [show 10 + (i - 10) = i by omega] at this
  by_cases g2 : i < 30
  · have := h2 (i - 20) (by omega)
    rwa [show 20 + (i - 20) = i by omega] at this
  by_cases g3 : i < 40
  · have := h3 (i - 30) (by omega)
    rwa [show 30 + (i - 30) = i by omega] at this
  by_cases g4 : i < 47
  · have := h4 (i - 40) (by omega)
    rwa [show 40 + (i - 40) = i by omega] at this
  by_cases g5 : i < 51
  · have := h5 (i - 47) (by omega)
    rwa [show 47 + (i - 47) = i by omega] at this
  by_cases g6 : i < 56
  · have := h6 (i - 51) (by omega)
    rwa [show 51 + (i - 51) = i by omega] at this
  by_cases g7 : i < 61
  · have := h7 (i - 56) (by omega)
    rwa [show 56 + (i - 56) = i by omega] at this
  · rw [Nat.testBit_lt_two_pow (Nat.lt_of_lt_of_le hc (Nat.pow_le_pow_right (by decide) (by omega))), Nat.testBit_lt_two_pow (Nat.lt_of_lt_of_le hd (Nat.pow_le_pow_right (by decide) (by omega)))]
/-- a field out of the code -/
theorem fd_eq {c f b d : Nat} (hd : d < 2 ^ b) (h : ∀ j, j < b → c.testBit (f + j) = d.testBit j) : fd c f b = d := by
  apply Nat.eq_of_testBit_eq
  intro j
  rw [fd_bit]
  by_cases hj : j < b
  · rw [decide_eq_true hj, Bool.true_and, h j hj]
  · rw [decide_eq_false hj, Bool.false_and, Nat.testBit_lt_two_pow (Nat.lt_of_lt_of_le hd (Nat.pow_le_pow_right (by decide) (by omega)))]
theorem ck_h : fd (cpk w s) 56 5 = fd s 0 5 := fd_eq (fd_lt s 0 5) fun j hj => by rw [ck (by omega), cpB_7]
theorem ck_r : fd (cpk w s) 51 5 = fd s 9 5 := fd_eq (fd_lt s 9 5) fun j hj => by rw [ck (by omega), cpB_6 hj]
theorem ck_p : fd (cpk w s) 47 4 = fd s 5 4 := fd_eq (fd_lt s 5 4) fun j hj => by rw [ck (by omega), cpB_5 hj]
theorem ck_f : fd (cpk w s) 40 7 = fd s 44 7 := fd_eq (fd_lt s 44 7) fun j hj => by rw [ck (by omega), cpB_4 hj]
theorem ck_k : fd (cpk w s) 30 10 = fd s 34 10 := fd_eq (fd_lt s 34 10) fun j hj => by rw [ck (by omega), cpB_3 hj]
theorem ck_c : fd (cpk w s) 0 10 = bset 10 (tsB s 2) := fd_eq (bset_lt _ 10) fun j hj => by
  rw [ck (by omega), Nat.zero_add, cpB_0 hj, bset_bit, decide_eq_true hj]; rfl
theorem ck_l : fd (cpk w s) 10 10 = bset 10 (tsB s 3) := fd_eq (bset_lt _ 10) fun j hj => by
  rw [ck (by omega), cpB_1 hj, bset_bit, decide_eq_true hj]; rfl
def ldB (w : Nat → Int) (s j : Nat) : Bool := decide (sG s j = 0) && (decide ((j : Int) < w 1) && decide (oT w (j : Int) 2 = 1))
theorem ck_d : fd (cpk w s) 20 10 = bset 10 (ldB w s) := fd_eq (bset_lt _ 10) fun j hj => by
  rw [ck (by omega), cpB_2 hj, bset_bit, decide_eq_true hj]; rfl
theorem GS_car {z : Nat} (h : GS w s) (hz : z ≠ 0) : bset 10 (tsB s z) = bset (w 1).toNat (tsB s z) ∨ 10 < w 1 := by
  by_cases h1 : 10 < w 1
  · exact Or.inr h1
  · refine Or.inl (bset_zx (by omega) fun i hi h10 => ?_).symm
    unfold tsB
    rw [h.2.2.1 i h10 (by omega)]
    exact decide_eq_false (fun g => hz g.symm)
theorem GS_sCar (h : GS w s) (c1 : w 1 ≤ 10) : bset 10 (tsB s 2) = sCar w s := by
  rcases GS_car (z := 2) h (by decide) with g | g
  · exact g
  · omega
theorem cpk_inj (hs : GS w s) (hu : GS w u) (h : cpk w s = cpk w u) : s = u := by
  have b : ∀ i, i < 61 → cpB w s i = cpB w u i := fun i hi => by rw [← ck hi, ← ck hi, h]
  refine pk_ext hs.1 hu.1 ?_ ?_ ?_ (fun t ht => ?_) ?_ ?_
  · rw [← ck_h (w := w), ← ck_h (w := w), h]
  · rw [← ck_p (w := w), ← ck_p (w := w), h]
  · rw [← ck_r (w := w), ← ck_r (w := w), h]
  · by_cases h1 : w 1 ≤ t
    · rw [hs.2.2.1 t ht h1, hu.2.2.1 t ht h1]
    · have a0 := b t (by omega)
      have a1 := b (10 + t) (by omega)
      have a2 := b (20 + t) (by omega)
      rw [cpB_0 ht, cpB_0 ht] at a0
      rw [cpB_1 ht, cpB_1 ht] at a1
      rw [cpB_2 ht, cpB_2 ht, decide_eq_true (show (t : Int) < w 1 by omega)] at a2
      have l1 := sG_lt s t
      have l2 := sG_lt u t
      have d0 := decide_eq_decide.mp a0
      have d1 := decide_eq_decide.mp a1
      have k1 := hs.2.2.2.1 t (by omega)
      have k2 := hu.2.2.2.1 t (by omega)
      by_cases ho : oT w (t : Int) 2 = 1
      · rw [decide_eq_true ho, Bool.true_and, Bool.and_true, Bool.and_true] at a2
        have d2 := decide_eq_decide.mp a2
        omega
      · have n1 : sG s t ≠ 1 := fun g => ho (k1 g)
        have n2 : sG u t ≠ 1 := fun g => ho (k2 g)
        omega
  · rw [← ck_k (w := w), ← ck_k (w := w), h]
  · rw [← ck_f (w := w), ← ck_f (w := w), h]
-- bits put in, taken out
theorem tb_or {c m i : Nat} : (c ||| 2 ^ m).testBit i = (c.testBit i || decide (m = i)) := by rw [Nat.testBit_or, Nat.testBit_two_pow]
theorem tb_cl {c m i : Nat} (h : i < 63) : (c &&& (9223372036854775807 ^^^ 2 ^ m)).testBit i = (c.testBit i && !decide (m = i)) := by
  rw [Nat.testBit_and, Nat.testBit_xor, m63_bit, decide_eq_true h, Nat.testBit_two_pow, Bool.true_xor]
theorem or61 {c m : Nat} (hc : c < 2 ^ 61) (hm : m < 61) : c ||| 2 ^ m < 2 ^ 61 := Nat.or_lt_two_pow hc (Nat.pow_lt_pow_right (by decide) hm)
theorem and61 {c m : Nat} (hc : c < 2 ^ 61) : c &&& m < 2 ^ 61 := Nat.lt_of_le_of_lt Nat.and_le_left hc
/-- a brother is freed -/
theorem ck_free {b : Nat} (hb : b < 7) : cpk w (wt s (44 + b) 1 1) = cpk w s ||| 2 ^ (40 + b) := by
  obtain ⟨q0, q1, q2, q3, q4, q5⟩ := wtB (s := s) hb
  refine ck_ext cpk_lt (or61 cpk_lt (by omega)) (fun j hj => ?_) (fun j hj => ?_) (fun j hj => ?_) (fun j hj => ?_) (fun j hj => ?_) (fun j hj => ?_) (fun j hj => ?_) (fun j hj => ?_)
  · rw [tb_or, ck (by omega), ck (by omega), cpB_0 hj, cpB_0 hj, q5 j hj, decide_eq_false (by omega : ¬ 40 + b = j), Bool.or_false]
  · rw [tb_or, ck (by omega), ck (by omega), cpB_1 hj, cpB_1 hj, q5 j hj, decide_eq_false (by omega : ¬ 40 + b = 10 + j), Bool.or_false]
  · rw [tb_or, ck (by omega), ck (by omega), cpB_2 hj, cpB_2 hj, q5 j hj, decide_eq_false (by omega : ¬ 40 + b = 20 + j), Bool.or_false]
  · rw [tb_or, ck (by omega), ck (by omega), cpB_3 hj, cpB_3 hj, q3, decide_eq_false (by omega : ¬ 40 + b = 30 + j), Bool.or_false]
  · rw [tb_or, ck (by omega), ck (by omega), cpB_4 hj, cpB_4 hj, q4]
    by_cases e : j = b
    · rw [if_pos e, decide_eq_true (by omega : 40 + b = 40 + j), Bool.or_true]
    · rw [if_neg e, decide_eq_false (by omega : ¬ 40 + b = 40 + j), Bool.or_false]
  · rw [tb_or, ck (by omega), ck (by omega), cpB_5 hj, cpB_5 hj, q1, decide_eq_false (by omega : ¬ 40 + b = 47 + j), Bool.or_false]
  · rw [tb_or, ck (by omega), ck (by omega), cpB_6 hj, cpB_6 hj, q2, decide_eq_false (by omega : ¬ 40 + b = 51 + j), Bool.or_false]
  · rw [tb_or, ck (by omega), ck (by omega), cpB_7, cpB_7, q0, decide_eq_false (by omega : ¬ 40 + b = 56 + j), Bool.or_false]
/-- a thing is taken -/
theorem ck_take {t : Nat} (ht : t < 10) (h0 : sG s t = 0) : cpk w (wt s (14 + 2 * t) 2 2) = (cpk w s &&& (9223372036854775807 ^^^ 2 ^ (20 + t))) ||| 2 ^ t := by
  obtain ⟨q0, q1, q2, q3, q4⟩ := wtT (s := s) ht (show 2 < 4 by decide)
  have q5 : ∀ i, i < 10 → sG (wt s (14 + 2 * t) 2 2) i = if i = t then 2 else sG s i := fun i hi => sG_wt ht hi (by decide)
  refine ck_ext cpk_lt (or61 (and61 cpk_lt) (by omega)) (fun j hj => ?_) (fun j hj => ?_) (fun j hj => ?_) (fun j hj => ?_) (fun j hj => ?_) (fun j hj => ?_) (fun j hj => ?_) (fun j hj => ?_)
  · rw [tb_or, tb_cl (by omega), ck (by omega), ck (by omega), cpB_0 hj, cpB_0 hj, q5 j hj, decide_eq_false (by omega : ¬ 20 + t = j), Bool.not_false, Bool.and_true]
    by_cases e : j = t
    · rw [if_pos e, decide_eq_true (by omega : t = j), Bool.or_true]; rfl
    · rw [if_neg e, decide_eq_false (by omega : ¬ t = j), Bool.or_false]
  · rw [tb_or, tb_cl (by omega), ck (by omega), ck (by omega), cpB_1 hj, cpB_1 hj, q5 j hj, decide_eq_false (by omega : ¬ 20 + t = 10 + j), Bool.not_false, Bool.and_true, decide_eq_false (by omega : ¬ t = 10 + j), Bool.or_false]
    by_cases e : j = t
    · rw [if_pos e, e, h0]; rfl
    · rw [if_neg e]
  · rw [tb_or, tb_cl (by omega), ck (by omega), ck (by omega), cpB_2 hj, cpB_2 hj, q5 j hj, decide_eq_false (by omega : ¬ t = 20 + j), Bool.or_false]
    by_cases e : j = t
    · rw [if_pos e, decide_eq_true (by omega : 20 + t = 20 + j), Bool.not_true, Bool.and_false]; rfl
    · rw [if_neg e, decide_eq_false (by omega : ¬ 20 + t = 20 + j), Bool.not_false, Bool.and_true]
  · rw [tb_or, tb_cl (by omega), ck (by omega), ck (by omega), cpB_3 hj, cpB_3 hj, q3, decide_eq_false (by omega : ¬ 20 + t = 30 + j), Bool.not_false, Bool.and_true, decide_eq_false (by omega : ¬ t = 30 + j), Bool.or_false]
  · rw [tb_or, tb_cl (by omega), ck (by omega), ck (by omega), cpB_4 hj, cpB_4 hj, q4, decide_eq_false (by omega : ¬ 20 + t = 40 + j), Bool.not_false, Bool.and_true, decide_eq_false (by omega : ¬ t = 40 + j), Bool.or_false]
  · rw [tb_or, tb_cl (by omega), ck (by omega), ck (by omega), cpB_5 hj, cpB_5 hj, q1, decide_eq_false (by omega : ¬ 20 + t = 47 + j), Bool.not_false, Bool.and_true, decide_eq_false (by omega : ¬ t = 47 + j), Bool.or_false]
  · rw [tb_or, tb_cl (by omega), ck (by omega), ck (by omega), cpB_6 hj, cpB_6 hj, q2, decide_eq_false (by omega : ¬ 20 + t = 51 + j), Bool.not_false, Bool.and_true, decide_eq_false (by omega : ¬ t = 51 + j), Bool.or_false]
  · rw [tb_or, tb_cl (by omega), ck (by omega), ck (by omega), cpB_7, cpB_7, q0, decide_eq_false (by omega : ¬ 20 + t = 56 + j), Bool.not_false, Bool.and_true, decide_eq_false (by omega : ¬ t = 56 + j), Bool.or_false]
/-- an hour more -/
theorem ck_wait (h : fd s 0 5 < 31) : cpk w (s + 1) = cpk w s + 72057594037927936 := by
  obtain ⟨q0, q1, q2, q3, q4, q5⟩ := wtW h
  have dv : ∀ s, cpk w s / 2 ^ 56 = fd s 0 5 := fun s => by
    have h1 := ck_h (w := w) (s := s)
    unfold fd at h1 ⊢
    rw [← h1, Nat.shiftRight_eq_div_pow, Nat.mod_eq_of_lt]
    apply Nat.div_lt_of_lt_mul
    rw [← Nat.pow_add]
    exact cpk_lt
  have md : cpk w (s + 1) % 2 ^ 56 = cpk w s % 2 ^ 56 := by
    apply Nat.eq_of_testBit_eq
    intro i
    rw [Nat.testBit_mod_two_pow, Nat.testBit_mod_two_pow]
    by_cases hi : i < 56
    · rw [decide_eq_true hi, Bool.true_and, Bool.true_and, ck (by omega), ck (by omega)]
      unfold cpB
      rw [q1, q2, q3, q4]
      split
      · rw [q5]
      · split
        · rw [q5]
        · split
          · rw [q5]
          · split
            · rfl
            · split
              · rfl
              · split
                · rfl
                · rfl
    · rw [decide_eq_false hi, Bool.false_and, Bool.false_and]
  have e1 := Nat.div_add_mod (cpk w (s + 1)) (2 ^ 56)
  have e2 := Nat.div_add_mod (cpk w s) (2 ^ 56)
  rw [dv, q0, md] at e1
  rw [dv] at e2
  have e56 : (2 : Nat) ^ 56 = 72057594037927936 := rfl
  rw [e56] at e1 e2
  omega
end Ck
