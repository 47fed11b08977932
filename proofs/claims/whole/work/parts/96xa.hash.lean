/-! ===== TABLES BY HASH ===== -/
def HTb (hs : Int → Nat) (g : Nat → Int) (n : Nat) (H : Nat → Int) : Prop := (∀ s, s < 16384 → 0 ≤ H s ∧ H s ≤ n) ∧ (∀ i, i < n → ∃ d, d < 16384 ∧ H ((hs (g i) + d) % 16384) = ((i + 1 : Nat) : Int) ∧ ∀ e, e < d → H ((hs (g i) + e) % 16384) ≠ 0) ∧ ∀ s1 s2, s1 < 16384 → s2 < 16384 → H s1 = H s2 → H s1 ≠ 0 → s1 = s2
def hStop (hs : Int → Nat) (g : Nat → Int) (H : Nat → Int) (x : Int) (d : Nat) : Prop := H ((hs x + d) % 16384) = 0 ∨ g ((H ((hs x + d) % 16384)).toNat - 1) = x
theorem least_N {P : Nat → Prop} : ∀ n, P n → ∃ m, m ≤ n ∧ P m ∧ ∀ j, j < m → ¬ P j := by
  intro n
  induction n using Nat.strongRecOn with
  | _ n ih =>
    intro h
    by_cases hex : ∃ j, j < n ∧ P j
    · obtain ⟨j, h1, h2⟩ := hex
      obtain ⟨m, m1, m2, m3⟩ := ih j h1 h2
      exact ⟨m, by omega, m2, m3⟩
    · exact ⟨n, Nat.le_refl n, h, fun j hj hp => hex ⟨j, hj, hp⟩⟩
theorem HT_free {hs : Int → Nat} {g : Nat → Int} {n : Nat} {H : Nat → Int} (h : HTb hs g n H) (hn : n ≤ 6000) : ∃ s, s < 16384 ∧ H s = 0 := by
  apply Classical.byContradiction
  intro hno
  have hz : ∀ s, s < 16384 → H s ≠ 0 := fun s hs' he => hno ⟨s, hs', he⟩
  have := pig n 16384 (fun s => (H s).toNat - 1) (fun s hs' => by
    have h1 := h.1 s hs'
    have h2 := hz s hs'
    show (H s).toNat - 1 < n
    omega) (fun i j hi hj he => by
    have h1 := h.1 i hi
    have h2 := hz i hi
    have h3 := h.1 j hj
    have h4 := hz j hj
    have he' : (H i).toNat - 1 = (H j).toNat - 1 := he
    exact h.2.2 i j hi hj (by omega) h2)
  omega
theorem HT_probe {hs : Int → Nat} {g : Nat → Int} {n : Nat} {H : Nat → Int} (h : HTb hs g n H) (hn : n ≤ 6000) (x : Int) (hx : hs x < 16384) : ∃ d, d < 16384 ∧ (∀ e, e < d → ¬ hStop hs g H x e) ∧ ((H ((hs x + d) % 16384) = 0 ∧ ∀ i, i < n → g i ≠ x) ∨ (H ((hs x + d) % 16384) ≠ 0 ∧ g ((H ((hs x + d) % 16384)).toNat - 1) = x)) := by
  obtain ⟨s, s1, s2⟩ := HT_free h hn
  have hd0 : hStop hs g H x ((s + 16384 - hs x) % 16384) := by
    refine Or.inl ?_
    rw [show (hs x + (s + 16384 - hs x) % 16384) % 16384 = s by omega]
    exact s2
  obtain ⟨d, d1, d2, d3⟩ := least_N _ hd0
  refine ⟨d, by omega, d3, ?_⟩
  by_cases hz : H ((hs x + d) % 16384) = 0
  · refine Or.inl ⟨hz, fun i hi he => ?_⟩
    obtain ⟨c, c1, c2, c3⟩ := h.2.1 i hi
    rw [he] at c2 c3
    by_cases h1 : c < d
    · exact d3 c h1 (Or.inr (by rw [c2, Int.toNat_natCast, Nat.add_sub_cancel]; exact he))
    · by_cases h2 : c = d
      · rw [h2, hz] at c2; omega
      · exact c3 d (by omega) hz
  · rcases d2 with g1 | g1
    · exact absurd g1 hz
    · exact Or.inr ⟨hz, g1⟩
theorem HT_add {hs : Int → Nat} {g : Nat → Int} {n : Nat} {H : Nat → Int} (h : HTb hs g n H) {x : Int} {d : Nat} (hd : d < 16384) (h0 : ∀ e, e < d → ¬ hStop hs g H x e) (hz : H ((hs x + d) % 16384) = 0) : HTb hs (up g n x) (n + 1) (up H ((hs x + d) % 16384) ((n + 1 : Nat) : Int)) := by
  obtain ⟨h1, h2, h3⟩ := h
  generalize hs0 : (hs x + d) % 16384 = s0 at hz
  have s0l : s0 < 16384 := by omega
  have upA : ∀ s, up H s0 ((n + 1 : Nat) : Int) s = if s = s0 then ((n + 1 : Nat) : Int) else H s := fun s => rfl
  refine ⟨fun s hs' => ?_, fun i hi => ?_, fun s1 s2 l1 l2 he hne => ?_⟩
  · have := h1 s hs'
    rw [upA]
    split <;> omega
  · by_cases hin : i = n
    · subst hin
      refine ⟨d, hd, ?_, fun e he => ?_⟩
      · rw [up_eq, hs0, upA, if_pos rfl]
      · rw [up_eq, upA]
        have := h0 e he
        split
        · omega
        · exact fun g => this (Or.inl g)
    · obtain ⟨c, c1, c2, c3⟩ := h2 i (by omega)
      rw [up_ne hin]
      refine ⟨c, c1, ?_, fun e he => ?_⟩
      · rw [upA, if_neg (fun g => by rw [g, hz] at c2; omega)]
        exact c2
      · rw [upA]
        split
        · omega
        · exact c3 e he
  · rw [upA, upA] at he
    rw [upA] at hne
    have b1 := h1 s1 l1
    have b2 := h1 s2 l2
    by_cases e1 : s1 = s0
    · by_cases e2 : s2 = s0
      · omega
      · rw [if_pos e1, if_neg e2] at he
        omega
    · by_cases e2 : s2 = s0
      · rw [if_neg e1, if_pos e2] at he
        omega
      · rw [if_neg e1, if_neg e2] at he
        rw [if_neg e1] at hne
        exact h3 s1 s2 l1 l2 he hne
theorem HT_0 {hs : Int → Nat} {g : Nat → Int} {H : Nat → Int} (h : ∀ s, s < 16384 → H s = 0) : HTb hs g 0 H :=
  ⟨fun s hs' => by rw [h s hs']; omega, fun i hi => absurd hi (Nat.not_lt_zero i), fun s1 s2 l1 _ _ hne => absurd (h s1 l1) hne⟩
-- numbers of 64 bits compared
theorem lc_eq {a b : Nat} (ha : a < 9223372036854775808) (hb : b < 9223372036854775808) : lCmp (a : Int) (b : Int) = if a = b then 0 else if b < a then 1 else -1 := by
  unfold lCmp lg_cmp
  have e1 : (Int64.ofInt (a : Int)).toInt = (a : Int) := Int64.toInt_ofInt_of_le (by omega) (by omega)
  have e2 : (Int64.ofInt (b : Int)).toInt = (b : Int) := Int64.toInt_ofInt_of_le (by omega) (by omega)
  by_cases h : a = b
  · subst h
    rw [if_neg (fun g => Int64.lt_irrefl g), if_pos rfl, if_pos rfl]; decide
  · have hne : Int64.ofInt (a : Int) ≠ Int64.ofInt (b : Int) := fun g => by
      have := congrArg Int64.toInt g
      rw [e1, e2] at this
      omega
    rw [if_neg h, if_neg hne]
    by_cases h2 : b < a
    · rw [if_pos h2, if_pos (show Int64.ofInt (a : Int) > Int64.ofInt (b : Int) from Int64.lt_iff_toInt_lt.mpr (by rw [e1, e2]; omega))]; decide
    · rw [if_neg h2, if_neg (fun g => by
        have := Int64.lt_iff_toInt_lt.mp g
        rw [e1, e2] at this
        omega)]; decide
theorem lc_q {α : Type} {a b : Nat} {x y : α} (ha : a < 9223372036854775808) (hb : b < 9223372036854775808) : (bif cmpB .ne (lCmp (a : Int) (b : Int)) 0 then x else y) = if a = b then y else x := by
  rw [lc_eq ha hb]
  by_cases h : a = b
  · rw [if_pos h, if_pos h]; rfl
  · rw [if_neg h, if_neg h]
    by_cases h2 : b < a
    · rw [if_pos h2]; rfl
    · rw [if_neg h2]; rfl
theorem lu_k (x : Int) {k : Nat} (hk : 1 ≤ k ∧ k < 64) : ∃ n : Nat, lUshr x (k : Int) = (n : Int) ∧ n < 2 ^ (64 - k) := by
  unfold lUshr
  have h1 : ∀ k : Nat, k < 64 → (((Int32.ofInt (k : Int)).toInt64).toUInt64 &&& Int64.toUInt64 63) = UInt64.ofNat k := by decide +kernel
  rw [h1 k hk.2]
  have h2 : ∀ k : Nat, k < 64 → (UInt64.ofNat k).toBitVec % 64 = BitVec.ofNat 64 k := by decide +kernel
  have hb : (Int64.ofInt x).toUInt64.toBitVec.toNat < 2 ^ 64 := BitVec.isLt _
  have hb2 : (Int64.ofInt x).toUInt64.toBitVec.toNat >>> k < 2 ^ (64 - k) := by
    rw [Nat.shiftRight_eq_div_pow]
    apply Nat.div_lt_of_lt_mul
    rw [← Nat.pow_add, show k + (64 - k) = 64 by omega]
    exact hb
  refine ⟨(Int64.ofInt x).toUInt64.toBitVec.toNat >>> k, ?_, hb2⟩
  refine nj_i (x := ((Int64.ofInt x).toUInt64 >>> UInt64.ofNat k).toBitVec) ?_ (Nat.lt_of_lt_of_le hb2 (Nat.pow_le_pow_right (by decide) (show 64 - k ≤ 63 by omega)))
  rw [UInt64.toBitVec_shiftRight, h2 k hk.2, BitVec.ushiftRight_eq', BitVec.toNat_ushiftRight, BitVec.toNat_ofNat, Nat.mod_eq_of_lt (show k < 2 ^ 64 by omega)]
def hsC (x : Int) : Nat := (lUshr (x * (-7046029254386353131)) 50).toNat
theorem hsC_v (x : Int) : lUshr (x * (-7046029254386353131)) 50 = (hsC x : Int) ∧ hsC x < 16384 := by
  obtain ⟨n, h1, h2⟩ := lu_k (x * (-7046029254386353131)) (k := 50) ⟨by decide, by decide⟩
  have h1' : lUshr (x * (-7046029254386353131)) 50 = (n : Int) := h1
  unfold hsC
  rw [h1', Int.toNat_natCast]
  exact ⟨rfl, h2⟩
def hsR (x : Int) : Nat := (iAnd (lUshr ((lXor x (lShr x 27)) * 2654435761) 18) 16383).toNat
theorem hsR_v (x : Int) : iAnd (lUshr ((lXor x (lShr x 27)) * 2654435761) 18) 16383 = (hsR x : Int) ∧ hsR x < 16384 := by
  obtain ⟨n, h1, h2⟩ := lu_k ((lXor x (lShr x 27)) * 2654435761) (k := 18) ⟨by decide, by decide⟩
  have h1' : lUshr ((lXor x (lShr x 27)) * 2654435761) 18 = (n : Int) := h1
  have h3 : iAnd (n : Int) 16383 = ((n &&& 16383 : Nat) : Int) := nu_andb (by decide)
  unfold hsR
  rw [h1', h3, Int.toNat_natCast]
  exact ⟨rfl, Nat.lt_of_le_of_lt Nat.and_le_right (by decide)⟩
