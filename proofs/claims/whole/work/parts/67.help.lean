/-! ===== HELPERS OF BOTH SIDES that only read ===== -/
theorem I32_of (x : Int32) : I32 x.toInt := ⟨Int32.le_toInt x, Int32.toInt_lt x⟩
theorem I32_and (a b : Int) : I32 (iAnd a b) := I32_of _
theorem I32_or (a b : Int) : I32 (iOr a b) := I32_of _
theorem nu_or0 {a : Nat} (ha : a < 2147483648) : iOr (a : Int) 0 = (a : Int) := by
  have := nu_or (b := 0) ha (by decide)
  rw [Nat.or_zero] at this
  exact this
theorem or_run {L : Nat → Int → Int → OR} {K : Int → OR} {f : Nat → Bool} {N : Nat} (hN : N ≤ 31) (hs : ∀ n (a : Nat) (i : Nat), i < N → a < 2147483648 → L (n + 1) (a : Int) (i : Int) = L n (bif f i then iOr (a : Int) (iShl 1 (i : Int)) else (a : Int)) ((i : Int) + 1)) (he : ∀ n a, L (n + 1) a (N : Int) = K a) :
    ∀ k F i, k + i = N → k < F → L F ((bset i f : Nat) : Int) (i : Int) = K ((bset N f : Nat) : Int)
  | 0, F, i, h, hF => by
    obtain ⟨n, rfl⟩ : ∃ n, F = n + 1 := ⟨F - 1, by omega⟩
    obtain rfl : i = N := by omega
    exact he n _
  | k + 1, F, i, h, hF => by
    obtain ⟨n, rfl⟩ : ∃ n, F = n + 1 := ⟨F - 1, by omega⟩
    rw [hs n _ i (by omega) (bset_31 (by omega))]
    have := orB_bs (f := f) (i := i) (by omega)
    unfold orB at this
    rw [this, show (i : Int) + 1 = ((i + 1 : Nat) : Int) by omega]
    exact or_run hN hs he k n (i + 1) (by omega) (by omega)
theorem or_run0 {L : Nat → Int → Int → OR} {K : Int → OR} {f : Nat → Bool} {N F : Nat} (hN : N ≤ 31) (hF : N < F) (hs : ∀ n (a : Nat) (i : Nat), i < N → a < 2147483648 → L (n + 1) (a : Int) (i : Int) = L n (bif f i then iOr (a : Int) (iShl 1 (i : Int)) else (a : Int)) ((i : Int) + 1)) (he : ∀ n a, L (n + 1) a (N : Int) = K a) : L F 0 0 = K ((bset N f : Nat) : Int) :=
  or_run hN hs he N F 0 rfl hF
theorem tmod24 {t : Int} (h : I32 t) (h0 : 0 ≤ t) : (w32 t).tmod (w32 24) = t % 24 := by
  rw [nw h, nw (by decide)]
  exact Int.tmod_eq_emod_of_nonneg h0
theorem tdiv24 {t : Int} (h : I32 t) (h0 : 0 ≤ t) : (w32 t).tdiv (w32 24) = t / 24 := by
  rw [nw h, nw (by decide)]
  exact Int.tdiv_eq_ediv_of_nonneg h0
-- what fits, what is eaten, what it is worth
def fitB (s m v : Int) : Bool := decide (iAnd s m = v)
def fitK (w : Nat → Int) (t p : Int) : Bool := fitB (oT w t 0) (oP w p 1) (oP w p 2)
def fitR (w : Nat → Int) (t b : Int) : Bool := fitB (oT w t 0) (oB w b 1) (oB w b 2)
def eatB (w : Nat → Int) (p t : Int) : Bool := decide (0 ≤ oP w p 3) && decide (oP w p 3 ≤ t % 24 ∧ t % 24 ≤ oP w p 4)
def wO (w : Nat → Int) (s : Nat) : Int := fo (fun i a => bif s.testBit i then a + oT w (i : Int) 1 else a) (w 1).toNat 0 0
def oE (w : Nat → Int) (r p : Int) : Int := if oR w r 0 = p then oR w r 1 else if oR w r 1 = p then oR w r 0 else -1
section HelpMo
variable {M : MM} {k : Int → MM → OR} {v1 v2 z : Int} {n : Nat}
theorem mo_noPlace_b (hC : WC n (M 166)) (h : I32 v1) : bI (mo_noPlace v1 M) k = k (b2 (!decide (0 ≤ v1 ∧ v1 < M 166 0))) M := by
  obtain ⟨h0, h1, h2, h3, h4, h5, h6, h7, h8, h9, h10⟩ := hC
  unfold mo_noPlace
  rw [mo_places_b, mo_in_b h (by decide) (by omega), bz_ne0, b_10, bI_I]
  congr 3
  exact decide_eq_decide.mpr (by omega)
theorem mo_noThing_b (hC : WC n (M 166)) (h : I32 v1) : bI (mo_noThing v1 M) k = k (b2 (!decide (0 ≤ v1 ∧ v1 < M 166 1))) M := by
  obtain ⟨h0, h1, h2, h3, h4, h5, h6, h7, h8, h9, h10⟩ := hC
  unfold mo_noThing
  rw [mo_things_b, mo_in_b h (by decide) (by omega), bz_ne0, b_10, bI_I]
  congr 3
  exact decide_eq_decide.mpr (by omega)
theorem mo_noRoad_b (hC : WC n (M 166)) (h : I32 v1) : bI (mo_noRoad v1 M) k = k (b2 (!decide (0 ≤ v1 ∧ v1 < M 166 2))) M := by
  obtain ⟨h0, h1, h2, h3, h4, h5, h6, h7, h8, h9, h10⟩ := hC
  unfold mo_noRoad
  rw [mo_roads_b, mo_in_b h (by decide) (by omega), bz_ne0, b_10, bI_I]
  congr 3
  exact decide_eq_decide.mpr (by omega)
theorem mo_noBrother_b (hC : WC n (M 166)) (h : I32 v1) : bI (mo_noBrother v1 M) k = k (b2 (!decide (0 ≤ v1 ∧ v1 < M 166 3))) M := by
  obtain ⟨h0, h1, h2, h3, h4, h5, h6, h7, h8, h9, h10⟩ := hC
  unfold mo_noBrother
  rw [mo_brothers_b, mo_in_b h (by decide) (by omega), bz_ne0, b_10, bI_I]
  congr 3
  exact decide_eq_decide.mpr (by omega)
theorem mo_isKeeper_b (hC : WC n (M 166)) (hP : WP (M 166)) (h0 : 0 ≤ v1) (h1 : v1 < M 166 0) : bI (mo_isKeeper v1 M) k = k (b2 (decide (oP (M 166) v1 0 = 1))) M := by
  have hp := (hP v1 h0 h1).1
  have hc := hC.1
  unfold mo_isKeeper
  rw [mo_of_b h0 (by omega) (by decide) (by decide), bq_ne (by omega) (by decide), i_01, bI_I]
theorem mo_isFit_b {s m v : Int} (hv : I32 v) : bI (mo_isFit s m v M) k = k (b2 (fitB s m v)) M := by
  unfold mo_isFit
  rw [bq_ne (I32_and _ _) hv, i_01, bI_I]; rfl
theorem mo_fitsKeeper_b (hC : WC n (M 166)) (hP : WP (M 166)) (h0 : 0 ≤ v1) (h1 : v1 < M 166 1) (h2 : 0 ≤ v2) (h3 : v2 < M 166 0) : bI (mo_fitsKeeper v1 v2 M) k = k (b2 (fitK (M 166) v1 v2)) M := by
  obtain ⟨c0, c1, -⟩ := hC
  have hp := (hP v2 h2 h3).2.2.1
  unfold mo_fitsKeeper
  rw [mo_ofThing_b h0 (by omega) (by decide) (by decide), mo_of_b h2 (by omega) (by decide) (by decide), mo_of_b h2 (by omega) (by decide) (by decide), mo_isFit_b (by omega), bz_zo, bI_I]; rfl
theorem mo_fitsBrother_b (hC : WC n (M 166)) (hB : WB (M 166)) (h0 : 0 ≤ v1) (h1 : v1 < M 166 1) (h2 : 0 ≤ v2) (h3 : v2 < M 166 3) : bI (mo_fitsBrother v1 v2 M) k = k (b2 (fitR (M 166) v1 v2)) M := by
  obtain ⟨c0, c1, c2, c3, -⟩ := hC
  have hp := (hB v2 h2 h3).2.2.1
  unfold mo_fitsBrother
  rw [mo_ofThing_b h0 (by omega) (by decide) (by decide), mo_ofBrother_b h2 (by omega) (by decide) (by decide), mo_ofBrother_b h2 (by omega) (by decide) (by decide), mo_isFit_b (by omega), bz_zo, bI_I]; rfl
theorem mo_isEating_b (hC : WC n (M 166)) (hP : WP (M 166)) (h0 : 0 ≤ v1) (h1 : v1 < M 166 0) (h2 : 0 ≤ v2) (h3 : I32 v2) : bI (mo_isEating v1 v2 M) k = k (b2 (eatB (M 166) v1 v2)) M := by
  obtain ⟨c0, -⟩ := hC
  obtain ⟨-, -, -, p3, -⟩ := hP v1 h0 h1
  unfold mo_isEating eatB
  rw [mo_of_b h0 (by omega) (by decide) (by decide), bq_lt (by omega) (by decide)]
  by_cases h : oP (M 166) v1 3 < 0
  · rw [if_pos h, bI_I, decide_eq_false (show ¬ 0 ≤ oP (M 166) v1 3 by omega)]; rfl
  · rw [if_neg h, mo_of_b h0 (by omega) (by decide) (by decide), mo_of_b h0 (by omega) (by decide) (by decide), tmod24 h3 h2, mo_in_b (by omega) (by omega) (by omega), bz_eq0, b_01, bI_I, decide_eq_true (show 0 ≤ oP (M 166) v1 3 by omega)]
    simp
theorem mo_worthOf_b {s : Nat} (hC : WC n (M 166)) (hs : s < 2147483648) : bI (mo_worthOf (s : Int) M) k = k (wO (M 166) s) M := by
  obtain ⟨c0, c1, -⟩ := hC
  have hT : M 166 1 = (((M 166 1).toNat : Nat) : Int) := by omega
  unfold mo_worthOf
  rw [fo_run0 (L := fun F a i => mo_worthOf_L4 (s : Int) (fun v2_10 M_11 => some (rI v2_10, M_11)) F a i M) (K := fun a => some (rI a, M)) (g := fun i a => bif s.testBit i then a + oT (M 166) (i : Int) 1 else a) (N := (M 166 1).toNat) (FU_gt (by omega)) ?_ ?_]
  · rfl
  · intro n a i hi
    rw [mo_worthOf_L4, mo_things_b, bq_ge (by omega) (by omega), if_neg (by omega), mo_has_v hs (by omega), bI_I, bz_eq0]
    cases s.testBit i with
    | true => simp only [cond_true]; rw [mo_ofThing_b (by omega) (by omega) (by decide) (by decide)]
    | false => simp only [cond_false]; rw [Int.add_zero]
  · intro n a
    rw [mo_worthOf_L4, mo_things_b, bq_ge (by omega) (by omega), if_pos (by omega)]
theorem mo_otherEnd_b (hC : WC n (M 166)) (hR : WR (M 166)) (h0 : 0 ≤ v1) (h1 : v1 < M 166 2) (h2 : I32 v2) : bI (mo_otherEnd v1 v2 M) k = k (oE (M 166) v1 v2) M := by
  obtain ⟨c0, c1, c2, -⟩ := hC
  obtain ⟨r0, r1, -⟩ := hR v1 h0 h1
  unfold mo_otherEnd oE
  rw [mo_ofRoad_b h0 (by omega) (by decide) (by decide), bq_ne (by omega) h2]
  by_cases h : oR (M 166) v1 0 = v2
  · rw [if_pos h, if_pos h, mo_ofRoad_b h0 (by omega) (by decide) (by decide)]; rfl
  · rw [if_neg h, if_neg h, mo_ofRoad_b h0 (by omega) (by decide) (by decide), bq_ne (by omega) h2]
    by_cases h9 : oR (M 166) v1 1 = v2
    · rw [if_pos h9, if_pos h9, mo_ofRoad_b h0 (by omega) (by decide) (by decide)]; rfl
    · rw [if_neg h9, if_neg h9]; rfl
theorem mo_homeOf_b (hC : WC n (M 166)) (hB : WB (M 166)) (hn : n ≤ 1000) (h0 : 0 ≤ v1) (h1 : v1 < M 166 3) : bI (mo_homeOf v1 M) k = k (if 0 ≤ oB (M 166) v1 5 then oB (M 166) v1 5 + oB (M 166) v1 3 else -1) M := by
  obtain ⟨c0, c1, c2, c3, c4, c5, c6, -⟩ := hC
  obtain ⟨-, -, -, -, -, b5⟩ := hB v1 h0 h1
  unfold mo_homeOf
  rw [mo_ofBrother_b h0 (by omega) (by decide) (by decide), bq_ge (by omega) (by decide)]
  by_cases h : 0 ≤ oB (M 166) v1 5
  · rw [if_pos h, if_pos h, mo_ofBrother_b h0 (by omega) (by decide) (by decide), mo_ofBrother_b h0 (by omega) (by decide) (by decide)]; rfl
  · rw [if_neg h, if_neg h]; rfl
end HelpMo
