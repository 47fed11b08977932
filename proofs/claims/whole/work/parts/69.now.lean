/-! ===== THE REFERENCE'S PACKED STATE: what is, now, and its fields ===== -/
def PK (s : Nat) : Prop := s < 2251799813685248
def sG (s t : Nat) : Nat := fd s (14 + 2 * t) 2
def tsB (s z : Nat) (t : Nat) : Bool := decide (sG s t = z)
section NowRows
variable {M : MM} {w : Nat → Int} {s n : Nat} {k : Int → MM → OR} {z t v3 : Int}
theorem PK_0 : PK 0 := by show (0 : Nat) < 2251799813685248; decide
theorem PK.m (h : PK s) : s < 9223372036854775808 := Nat.lt_trans h (by decide)
theorem mo_hoursOf_b (h : PK s) : bI (mo_hoursOf (s : Int) M) k = k (fd s 0 5 : Nat) M := by
  unfold mo_hoursOf
  have := mo_field_v (s := s) (f := 0) (b := 5) (M := M) h.m (by decide) (by decide)
  rw [show mo_field (s : Int) 0 5 M = _ from this]; rfl
theorem mo_placeOf_b (h : PK s) : bI (mo_placeOf (s : Int) M) k = k (fd s 5 4 : Nat) M := by
  unfold mo_placeOf
  have := mo_field_v (s := s) (f := 5) (b := 4) (M := M) h.m (by decide) (by decide)
  rw [show mo_field (s : Int) 5 4 M = _ from this]; rfl
theorem mo_roadOf_b (h : PK s) : bI (mo_roadOf (s : Int) M) k = k ((fd s 9 5 : Nat) - 1) M := by
  unfold mo_roadOf
  have := mo_field_v (s := s) (f := 9) (b := 5) (M := M) h.m (by decide) (by decide)
  rw [show mo_field (s : Int) 9 5 M = _ from this]; rfl
theorem mo_stateOf_b {j : Nat} (h : PK s) (hj : j < 10) : bI (mo_stateOf (s : Int) (j : Int) M) k = k (sG s j : Nat) M := by
  unfold mo_stateOf
  have := mo_field_v (s := s) (f := 14 + 2 * j) (b := 2) (M := M) h.m (by omega) (by decide)
  rw [show (14 : Int) + 2 * (j : Int) = ((14 + 2 * j : Nat) : Int) by omega, show mo_field (s : Int) ((14 + 2 * j : Nat) : Int) 2 M = _ from this]; rfl
theorem mo_passedIn_b (h : PK s) : bI (mo_passedIn (s : Int) M) k = k (fd s 34 10 : Nat) M := by
  unfold mo_passedIn
  have := mo_field_v (s := s) (f := 34) (b := 10) (M := M) h.m (by decide) (by decide)
  rw [show mo_field (s : Int) 34 10 M = _ from this]; rfl
theorem mo_freedIn_b (h : PK s) : bI (mo_freedIn (s : Int) M) k = k (fd s 44 7 : Nat) M := by
  unfold mo_freedIn
  have := mo_field_v (s := s) (f := 44) (b := 7) (M := M) h.m (by decide) (by decide)
  rw [show mo_field (s : Int) 44 7 M = _ from this]; rfl
theorem mo_with_b {f b : Nat} {v : Nat} {k : Int → MM → OR} (h : PK s) (hf : f + b ≤ 61) (hb : b < 31) (hv : v < 2 ^ b) : bJ (mo_with (s : Int) (f : Int) (b : Int) (v : Int) M) k = k (wt s f b v : Nat) M := by rw [mo_with_v h.m hf hb hv]; rfl
theorem mo_withState_b {j v : Nat} {k : Int → MM → OR} (h : PK s) (hj : j < 10) (hv : v < 4) : bJ (mo_withState (s : Int) (j : Int) (v : Int) M) k = k (wt s (14 + 2 * j) 2 v : Nat) M := by
  unfold mo_withState
  have := mo_with_v (s := s) (f := 14 + 2 * j) (b := 2) (v := v) (M := M) h.m (by omega) (by decide) hv
  rw [show (14 : Int) + 2 * (j : Int) = ((14 + 2 * j : Nat) : Int) by omega, show mo_with (s : Int) ((14 + 2 * j : Nat) : Int) 2 (v : Int) M = _ from this]; rfl
theorem wt_PK {f b v : Nat} (h : PK s) (hv : v < 2 ^ b) (hf : f + b ≤ 51) : PK (wt s f b v) := wt_lt (n := 51) h hv hf
theorem mo_thingsIn_v {z : Nat} (hC : WC n (M 166)) (h : PK s) (hz : z < 4) : mo_thingsIn (s : Int) (z : Int) M = some (rI ((bset (M 166 1).toNat (tsB s z) : Nat) : Int), M) := by
  obtain ⟨c0, c1, -⟩ := hC
  have hT : M 166 1 = (((M 166 1).toNat : Nat) : Int) := by omega
  unfold mo_thingsIn
  rw [or_run0 (L := fun F a i => mo_thingsIn_L6 (s : Int) (z : Int) (fun v4_7 M_8 => some (rI v4_7, M_8)) F a i M) (K := fun a => some (rI a, M)) (f := tsB s z) (N := (M 166 1).toNat) (by omega) (FU_gt (by omega)) ?_ ?_]
  · intro n a i hi ha
    have := fd_lt s (14 + 2 * i) 2
    rw [mo_thingsIn_L6, mo_things_b, bq_ge (by omega) (by omega), if_neg (by omega), mo_stateOf_b h (by omega), bq_ne (by unfold sG; omega) (by omega), nu_or0 ha]
    unfold tsB
    by_cases h3 : sG s i = z
    · rw [if_pos (by omega), decide_eq_true h3]; rfl
    · rw [if_neg (by omega), decide_eq_false h3]; rfl
  · intro n a
    rw [mo_thingsIn_L6, mo_things_b, bq_ge (by omega) (by omega), if_pos (by omega)]
theorem mo_thingsIn_b {z : Nat} (hC : WC n (M 166)) (h : PK s) (hz : z < 4) : bI (mo_thingsIn (s : Int) (z : Int) M) k = k ((bset (M 166 1).toNat (tsB s z) : Nat) : Int) M := by rw [mo_thingsIn_v hC h hz]; rfl
theorem mo_passedNow_v (hC : WC n (M 166)) (hP : WP (M 166)) : mo_passedNow M = some (rI ((bset 10 (paB (M 166)) : Nat) : Int), M) := by
  obtain ⟨c0, -⟩ := hC
  have hT : M 166 0 = (((M 166 0).toNat : Nat) : Int) := by omega
  unfold mo_passedNow
  rw [or_run0 (L := fun F a i => mo_passedNow_L4 (fun v4_7 M_8 => some (rI v4_7, M_8)) F a i M) (K := fun a => some (rI a, M)) (f := fun i => decide (oP (M 166) (i : Int) 7 = 1)) (N := (M 166 0).toNat) (by omega) (FU_gt (by omega)) ?_ ?_]
  · rw [← bset_ext (f := fun i => decide (oP (M 166) (i : Int) 7 = 1)) (show (M 166 0).toNat ≤ 10 by omega)]
    congr 4
    apply bset_cg
    intro i hi
    unfold paB
    congr 1
    exact decide_eq_decide.mpr (by omega)
  · intro n a i hi ha
    have := (hP i (by omega) (by omega)).2.2.2.2.2.2.1
    rw [mo_passedNow_L4, mo_places_b, bq_ge (by omega) (by omega), if_neg (by omega), mo_of_b (by omega) (by omega) (by decide) (by decide), bq_ne (by omega) (by decide), nu_or0 ha]
    by_cases h3 : oP (M 166) (i : Int) 7 = 1
    · rw [if_pos h3, decide_eq_true h3]; rfl
    · rw [if_neg h3, decide_eq_false h3]; rfl
  · intro n a
    rw [mo_passedNow_L4, mo_places_b, bq_ge (by omega) (by omega), if_pos (by omega)]
theorem mo_freedNow_v (hC : WC n (M 166)) (hB : WB (M 166)) (hn : n ≤ 1000) : mo_freedNow M = some (rI ((bset 7 (frB (M 166)) : Nat) : Int), M) := by
  obtain ⟨c0, c1, c2, c3, c4, c5, c6, -⟩ := hC
  have hT : M 166 3 = (((M 166 3).toNat : Nat) : Int) := by omega
  unfold mo_freedNow
  rw [or_run0 (L := fun F a i => mo_freedNow_L4 (fun v4_7 M_8 => some (rI v4_7, M_8)) F a i M) (K := fun a => some (rI a, M)) (f := fun i => decide (0 ≤ oB (M 166) (i : Int) 5)) (N := (M 166 3).toNat) (by omega) (FU_gt (by omega)) ?_ ?_]
  · rw [← bset_ext (f := fun i => decide (0 ≤ oB (M 166) (i : Int) 5)) (show (M 166 3).toNat ≤ 7 by omega)]
    congr 4
    apply bset_cg
    intro i hi
    unfold frB
    congr 1
    exact decide_eq_decide.mpr (by omega)
  · intro n a i hi ha
    have := (hB i (by omega) (by omega)).2.2.2.2.2
    rw [mo_freedNow_L4, mo_brothers_b, bq_ge (by omega) (by omega), if_neg (by omega), mo_ofBrother_b (by omega) (by omega) (by decide) (by decide), bq_lt (by omega) (by decide), nu_or0 ha]
    by_cases h3 : oB (M 166) (i : Int) 5 < 0
    · rw [if_pos h3, decide_eq_false (show ¬ 0 ≤ oB (M 166) (i : Int) 5 by omega)]; rfl
    · rw [if_neg h3, decide_eq_true (show 0 ≤ oB (M 166) (i : Int) 5 by omega)]; rfl
  · intro n a
    rw [mo_freedNow_L4, mo_brothers_b, bq_ge (by omega) (by omega), if_pos (by omega)]
end NowRows
def stF (w : Nat → Int) (i a : Nat) : Nat := wt a (14 + 2 * i) 2 (oT w (i : Int) 2).toNat
def now0 (w : Nat → Int) : Nat := wt (wt 0 5 4 (w 7).toNat) 9 5 (w 8 + 1).toNat
def now1 (w : Nat → Int) : Nat := fo (stF w) (w 1).toNat 0 (now0 w)
def nowS (w : Nat → Int) : Nat := wt (wt (now1 w) 34 10 (bset 10 (paB w))) 44 7 (bset 7 (frB w))
theorem fd_0 (f b : Nat) : fd 0 f b = 0 := by unfold fd; rw [Nat.zero_shiftRight, Nat.zero_mod]
theorem now1_f {n : Nat} {w : Nat → Int} (hC : WC n w) (hT : WT w) (j : Nat) (hj : j ≤ (w 1).toNat) : (PK (fo (stF w) j 0 (now0 w)) ∧ fd (fo (stF w) j 0 (now0 w)) 0 5 = 0 ∧ (fd (fo (stF w) j 0 (now0 w)) 5 4 : Int) = w 7 ∧ (fd (fo (stF w) j 0 (now0 w)) 9 5 : Int) = w 8 + 1 ∧ fd (fo (stF w) j 0 (now0 w)) 34 10 = 0 ∧ fd (fo (stF w) j 0 (now0 w)) 44 7 = 0) ∧ (∀ t : Nat, t < j → (sG (fo (stF w) j 0 (now0 w)) t : Int) = oT w (t : Int) 2) ∧ ∀ t : Nat, j ≤ t → t < 10 → sG (fo (stF w) j 0 (now0 w)) t = 0 := by
  obtain ⟨c0, c1, c2, c3, c4, c5, c6, c7, c8, -⟩ := hC
  induction j with
  | zero =>
    have e7 : (w 7).toNat < 2 ^ 4 := by omega
    have e8 : (w 8 + 1).toNat < 2 ^ 5 := by omega
    have k0 : PK (wt 0 5 4 (w 7).toNat) := wt_PK PK_0 e7 (by decide)
    refine ⟨⟨wt_PK k0 e8 (by decide), ?_, ?_, ?_, ?_, ?_⟩, fun t h => absurd h (by omega), fun t _ ht => ?_⟩
    · show fd (wt (wt 0 5 4 (w 7).toNat) 9 5 (w 8 + 1).toNat) 0 5 = 0
      rw [fd_ne (by decide) e8 (by decide), fd_ne (by decide) e7 (by decide), fd_0]
    · show ((fd (wt (wt 0 5 4 (w 7).toNat) 9 5 (w 8 + 1).toNat) 5 4 : Nat) : Int) = w 7
      rw [fd_ne (by decide) e8 (by decide), fd_same (by decide) e7]; omega
    · show ((fd (wt (wt 0 5 4 (w 7).toNat) 9 5 (w 8 + 1).toNat) 9 5 : Nat) : Int) = w 8 + 1
      rw [fd_same (by decide) e8]; omega
    · show fd (wt (wt 0 5 4 (w 7).toNat) 9 5 (w 8 + 1).toNat) 34 10 = 0
      rw [fd_ne (by decide) e8 (by decide), fd_ne (by decide) e7 (by decide), fd_0]
    · show fd (wt (wt 0 5 4 (w 7).toNat) 9 5 (w 8 + 1).toNat) 44 7 = 0
      rw [fd_ne (by decide) e8 (by decide), fd_ne (by decide) e7 (by decide), fd_0]
    · show fd (wt (wt 0 5 4 (w 7).toNat) 9 5 (w 8 + 1).toNat) (14 + 2 * t) 2 = 0
      rw [fd_ne (by omega) e8 (by omega), fd_ne (by omega) e7 (by omega), fd_0]
  | succ j ih =>
    obtain ⟨⟨i0, i1, i2, i3, i4, i5⟩, i6, i7⟩ := ih (by omega)
    have hs := (hT j (by omega) (by omega)).2.2.1
    have e2 : (oT w (j : Int) 2).toNat < 2 ^ 2 := by omega
    rw [fo_s, Nat.zero_add]
    generalize fo (stF w) j 0 (now0 w) = a at *
    unfold stF
    refine ⟨⟨wt_PK i0 e2 (by omega), ?_, ?_, ?_, ?_, ?_⟩, fun t h => ?_, fun t h ht => ?_⟩
    · rw [fd_ne (by omega) e2 (by omega)]; exact i1
    · rw [fd_ne (by omega) e2 (by omega)]; exact i2
    · rw [fd_ne (by omega) e2 (by omega)]; exact i3
    · rw [fd_ne (by omega) e2 (by omega)]; exact i4
    · rw [fd_ne (by omega) e2 (by omega)]; exact i5
    · unfold sG
      by_cases h1 : t = j
      · subst h1
        rw [fd_same (by omega) e2]; omega
      · rw [fd_ne (by omega) e2 (by omega)]; exact i6 t (by omega)
    · unfold sG
      rw [fd_ne (by omega) e2 (by omega)]; exact i7 t (by omega) ht
/-- the fields of what is now -/
theorem nowS_f {n : Nat} {w : Nat → Int} (hC : WC n w) (hT : WT w) : (PK (nowS w) ∧ fd (nowS w) 0 5 = 0 ∧ (fd (nowS w) 5 4 : Int) = w 7 ∧ (fd (nowS w) 9 5 : Int) = w 8 + 1 ∧ fd (nowS w) 34 10 = bset 10 (paB w) ∧ fd (nowS w) 44 7 = bset 7 (frB w)) ∧ (∀ t : Nat, (t : Int) < w 1 → (sG (nowS w) t : Int) = oT w (t : Int) 2) ∧ ∀ t : Nat, w 1 ≤ t → t < 10 → sG (nowS w) t = 0 := by
  have c1 := hC.2.1
  obtain ⟨⟨i0, i1, i2, i3, i4, i5⟩, i6, i7⟩ := now1_f hC hT (w 1).toNat (Nat.le_refl _)
  have p1 := bset_lt (paB w) 10
  have p2 := bset_lt (frB w) 7
  unfold nowS now1
  generalize fo (stF w) (w 1).toNat 0 (now0 w) = a at *
  refine ⟨⟨wt_PK (wt_PK i0 p1 (by decide)) p2 (by decide), ?_, ?_, ?_, ?_, ?_⟩, fun t h => ?_, fun t h ht => ?_⟩
  · rw [fd_ne (by decide) p2 (by decide), fd_ne (by decide) p1 (by decide)]; exact i1
  · rw [fd_ne (by decide) p2 (by decide), fd_ne (by decide) p1 (by decide)]; exact i2
  · rw [fd_ne (by decide) p2 (by decide), fd_ne (by decide) p1 (by decide)]; exact i3
  · rw [fd_ne (by decide) p2 (by decide), fd_same (by decide) p1]
  · rw [fd_same (by decide) p2]
  · unfold sG
    rw [fd_ne (by omega) p2 (by omega), fd_ne (by omega) p1 (by omega)]; exact i6 t (by omega)
  · unfold sG
    rw [fd_ne (by omega) p2 (by omega), fd_ne (by omega) p1 (by omega)]; exact i7 t (by omega) ht
theorem mo_now_v {M : MM} {n : Nat} (hC : WC n (M 166)) (hP : WP (M 166)) (hT : WT (M 166)) (hB : WB (M 166)) (hn : n ≤ 1000) : mo_now M = some (rJ (nowS (M 166) : Nat), M) := by
  have hC' := hC
  obtain ⟨c0, c1, c2, c3, c4, c5, c6, c7, c8, -⟩ := hC'
  have e7 : (M 166 7).toNat < 2 ^ 4 := by omega
  have e8 : (M 166 8 + 1).toNat < 2 ^ 5 := by omega
  have p1 := bset_lt (paB (M 166)) 10
  have p2 := bset_lt (frB (M 166)) 7
  have hTT : M 166 1 = (((M 166 1).toNat : Nat) : Int) := by omega
  have k0 : PK 0 := PK_0
  have k1 : PK (wt 0 5 4 (M 166 7).toNat) := wt_PK k0 e7 (by decide)
  have w1 : mo_with 0 5 4 (M 166 7) M = some (rJ ((wt 0 5 4 (M 166 7).toNat : Nat) : Int), M) := by
    have := mo_with_v (s := 0) (f := 5) (b := 4) (v := (M 166 7).toNat) (M := M) (by decide) (by decide) (by decide) e7
    rw [Int.toNat_of_nonneg c7.1] at this
    exact this
  have w2 : mo_with ((wt 0 5 4 (M 166 7).toNat : Nat) : Int) 9 5 (M 166 8 + 1) M = some (rJ ((now0 (M 166) : Nat) : Int), M) := by
    have := mo_with_v (s := wt 0 5 4 (M 166 7).toNat) (f := 9) (b := 5) (v := (M 166 8 + 1).toNat) (M := M) k1.m (by decide) (by decide) e8
    rw [Int.toNat_of_nonneg (by omega)] at this
    exact this
  have q1 := (now1_f hC hT (M 166 1).toNat (Nat.le_refl _)).1.1
  have w3 := mo_with_v (s := now1 (M 166)) (f := 34) (b := 10) (v := bset 10 (paB (M 166))) (M := M) q1.m (by decide) (by decide) p1
  have w4 := mo_with_v (s := wt (now1 (M 166)) 34 10 (bset 10 (paB (M 166)))) (f := 44) (b := 7) (v := bset 7 (frB (M 166))) (M := M) (wt_PK q1 p1 (by decide)).m (by decide) (by decide) p2
  unfold mo_now
  rw [bq_in (by decide) (by decide), w1, bJ_J, bq_in (by decide) (by decide), w2, bJ_J]
  have hrun : ∀ (K : Int → MM → OR) k i F, k + i = (M 166 1).toNat → k < F → mo_now_L33 K F ((fo (stF (M 166)) i 0 (now0 (M 166)) : Nat) : Int) (i : Int) M = K ((now1 (M 166) : Nat) : Int) M := by
    intro K k
    induction k with
    | zero =>
      intro i F hk hF
      obtain ⟨n, rfl⟩ : ∃ n, F = n + 1 := ⟨F - 1, by omega⟩
      obtain rfl : i = (M 166 1).toNat := by omega
      rw [mo_now_L33, mo_things_b, bq_ge (by omega) (by omega), if_pos (by omega)]; rfl
    | succ k ih =>
      intro i F hk hF
      obtain ⟨n, rfl⟩ : ∃ n, F = n + 1 := ⟨F - 1, by omega⟩
      have q := (now1_f hC hT i (by omega)).1.1
      have hs := (hT i (by omega) (by omega)).2.2.1
      have e2 : (oT (M 166) (i : Int) 2).toNat < 2 ^ 2 := by omega
      rw [mo_now_L33, mo_things_b, bq_ge (by omega) (by omega), if_neg (by omega), mo_ofThing_b (by omega) (by omega) (by decide) (by decide)]
      have ws := mo_withState_b (s := fo (stF (M 166)) i 0 (now0 (M 166))) (j := i) (v := (oT (M 166) (i : Int) 2).toNat) (M := M) (k := fun z_15 M_14 => mo_now_L33 K n z_15 ((i : Int) + 1) M_14) q (by omega) e2
      rw [Int.toNat_of_nonneg hs.1] at ws
      rw [ws, show (i : Int) + 1 = ((i + 1 : Nat) : Int) by omega]
      have := ih (i + 1) n (by omega) (by omega)
      rw [fo_s, Nat.zero_add] at this
      exact this
  rw [show ((0 : Int)) = ((0 : Nat) : Int) from rfl]
  rw [show ((now0 (M 166) : Nat) : Int) = ((fo (stF (M 166)) 0 0 (now0 (M 166)) : Nat) : Int) from rfl, hrun _ (M 166 1).toNat 0 FU (by omega) (FU_gt (by omega)), mo_passedNow_v hC hP, bI_I, show mo_with ((now1 (M 166) : Nat) : Int) 34 10 ((bset 10 (paB (M 166)) : Nat) : Int) M = _ from w3, bJ_J, mo_freedNow_v hC hB hn, bI_I, show mo_with ((wt (now1 (M 166)) 34 10 (bset 10 (paB (M 166))) : Nat) : Int) 44 7 ((bset 7 (frB (M 166)) : Nat) : Int) M = _ from w4, bJ_J]
  rfl
theorem mo_now_b {M : MM} {n : Nat} {k : Int → MM → OR} (hC : WC n (M 166)) (hP : WP (M 166)) (hT : WT (M 166)) (hB : WB (M 166)) (hn : n ≤ 1000) : bJ (mo_now M) k = k (nowS (M 166) : Nat) M := by rw [mo_now_v hC hP hT hB hn]; rfl
/-- the things of what is now that are so -/
theorem nowS_ts {n : Nat} {w : Nat → Int} (hC : WC n w) (hT : WT w) (z : Nat) : bset (w 1).toNat (tsB (nowS w) z) = bset 10 (stB' w z) := by
  have c1 := hC.2.1
  rw [← bset_ext (f := tsB (nowS w) z) (show (w 1).toNat ≤ 10 by omega)]
  apply bset_cg
  intro i hi
  unfold stB' tsB
  by_cases h : (i : Int) < w 1
  · have := (nowS_f hC hT).2.1 i h
    rw [decide_eq_true h, decide_eq_true (show i < (w 1).toNat by omega)]
    congr 1
    exact decide_eq_decide.mpr (by omega)
  · rw [decide_eq_false h, decide_eq_false (show ¬ i < (w 1).toNat by omega), Bool.false_and, Bool.false_and]
