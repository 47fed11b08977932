/-! ===== SOONEST, REACHED, SPARED, LOCKED: both sides read their lists ===== -/
theorem b2_ne {c : Prop} [Decidable c] {x y : OR} : (bif cmpB .ne (b2 (decide c)) 0 then x else y) = if c then x else y := by by_cases h : c <;> simp [h, b2, cmpB, w32]
def fewB (X : Int) (s : Nat) : Bool := decide (iAnd X (iXor ((fd s 44 7 : Nat) : Int) (-1)) = 0)
def hrsN (s : Nat) : Int := ((fd s 0 5 : Nat) : Int)
def lossS (w : Nat → Int) (s : Nat) : Nat := bset 10 (fun i => tsB s 3 i && !(bset 10 (stB' w 3)).testBit i)
def lossN (w : Nat → Int) (s : Nat) : Int := wO w (lossS w s)
theorem hrsN_J (s : Nat) : 0 ≤ hrsN s ∧ hrsN s ≤ 2000 := by
  have h := fd_lt s 0 5
  have c32 : (2 : Nat) ^ 5 = 32 := rfl
  unfold hrsN
  omega
theorem mnG_J {P : Nat → Bool} {h : Nat → Int} {f : Nat → Nat} {i : Nat} {v : Int} (hh : 0 ≤ h (f i) ∧ h (f i) ≤ 2000) (hv : -1 ≤ v ∧ v ≤ 2000) : -1 ≤ mnG P h f i v ∧ mnG P h f i v ≤ 2000 := by
  unfold mnG
  cases P (f i) with
  | false => rw [cn_f]; exact hv
  | true =>
    rw [cn_t]
    split <;> omega
theorem mn_J {P : Nat → Bool} {h : Nat → Int} {f : Nat → Nat} {n : Nat} (hh : ∀ s, 0 ≤ h s ∧ h s ≤ 2000) : -1 ≤ fo (mnG P h f) n 0 (-1) ∧ fo (mnG P h f) n 0 (-1) ≤ 2000 := by
  have := fo_inv (g := mnG P h f) (P := fun _ v => -1 ≤ v ∧ v ≤ 2000) n 0 (-1) ⟨by decide, by decide⟩ (fun j a h1 h2 h3 => mnG_J (hh _) h3)
  exact this
theorem lesser_b {k : Int → MM → OR} {v z : Int} {M : MM} (hv : -1 ≤ v ∧ v ≤ 2000) (hz : 0 ≤ z ∧ z ≤ 2000) : bI (srch_lesser v z M) k = k (if v < 0 ∨ z < v then z else v) M := by
  unfold srch_lesser
  rw [bq_ne (by omega) (by decide)]
  by_cases h : v = -1
  · rw [if_pos h, bI_I, if_pos (Or.inl (by omega))]
  · rw [if_neg h, bI_I, imin_v (by omega) (by omega)]
    by_cases h2 : z < v
    · rw [if_pos h2, if_pos (Or.inr h2)]
    · rw [if_neg h2, if_neg (by omega)]
section Read
variable {w : Nat → Int} {m n : Nat} {f : Nat → Nat} {M : MM}
theorem c_h {s : Nat} : iAnd (lUshr ((cpk w s : Nat) : Int) 56) 31 = ((fd s 0 5 : Nat) : Int) := by
  have := cpk_ush (w := w) (s := s) (k := 56) (m := 5) (by decide) (by decide)
  rw [ck_h] at this
  exact this
theorem c_p {s : Nat} : iAnd (lUshr ((cpk w s : Nat) : Int) 47) 15 = ((fd s 5 4 : Nat) : Int) := by
  have := cpk_ush (w := w) (s := s) (k := 47) (m := 4) (by decide) (by decide)
  rw [ck_p] at this
  exact this
theorem c_k {s : Nat} : iAnd (lUshr ((cpk w s : Nat) : Int) 30) 1023 = ((fd s 34 10 : Nat) : Int) := by
  have := cpk_ush (w := w) (s := s) (k := 30) (m := 10) (by decide) (by decide)
  rw [ck_k] at this
  exact this
theorem c_f {s : Nat} : iAnd (lUshr ((cpk w s : Nat) : Int) 40) 127 = ((fd s 44 7 : Nat) : Int) := by
  have := cpk_ush (w := w) (s := s) (k := 40) (m := 7) (by decide) (by decide)
  rw [ck_f] at this
  exact this
theorem c_l {s : Nat} : iAnd (lUshr ((cpk w s : Nat) : Int) 10) 1023 = ((bset 10 (tsB s 3) : Nat) : Int) := by
  have := cpk_ush (w := w) (s := s) (k := 10) (m := 10) (by decide) (by decide)
  rw [ck_l] at this
  exact this
theorem few_c {k : Int → MM → OR} {q : Nat} {X : Int} (h3 : M 1000 3 = (n : Int)) (hn : n ≤ 6000) (h1 : ∀ i, i < n → M 1001 i = ((cpk w (f i) : Nat) : Int)) : bI (srch_fewestHoursToFree q X M) k = k (fo (mnG (fewB X) hrsN f) n 0 (-1)) M := by
  unfold srch_fewestHoursToFree
  have run := fo_runP0 (F := FU) (a := (-1 : Int)) (L := fun F v i => srch_fewestHoursToFree_L4 q X (fun v2_13 M_14 => some (rI v2_13, M_14)) F v i M) (K := fun v => some (rI v, M)) (g := mnG (fewB X) hrsN f) (N := n) (P := fun _ v => -1 ≤ v ∧ v ≤ 2000) (fun F v i hi hv => ?_) (fun F v hv => ?_) (fun i v hi hv => mnG_J (hrsN_J _) hv) (FU_gt (by omega)) ⟨by decide, by decide⟩
  · rw [show srch_fewestHoursToFree_L4 q X _ FU (-1) 0 M = _ from run, bI_I]
  · have hz := hrsN_J (f i)
    rw [srch_fewestHoursToFree_L4, h3, bq_ge (by omega) (by omega), if_neg (by omega), bq_ge (by omega) (by decide), if_neg (by omega), bq_in (by omega) (by omega), Int.toNat_natCast, h1 i hi]
    unfold srch_freedOf srch_hoursOf
    rw [c_f, bI_I, bq_ne (I32_and _ _) (by decide), bq_in (by omega) (by omega), h1 i hi, c_h, bI_I, show ((fd (f i) 0 5 : Nat) : Int) = hrsN (f i) from rfl, lesser_b hv hz]
    unfold mnG fewB
    by_cases hp : iAnd X (iXor ((fd (f i) 44 7 : Nat) : Int) (-1)) = 0
    · rw [if_pos hp, decide_eq_true hp, cn_t]
    · rw [if_neg hp, decide_eq_false hp, cn_f]
  · rw [srch_fewestHoursToFree_L4, h3, bq_ge (by omega) (by omega), if_pos (by omega)]
theorem to_c {k : Int → MM → OR} {q : Nat} {X : Int} (hX : I32 X) (h3 : M 1000 3 = (n : Int)) (hn : n ≤ 6000) (h1 : ∀ i, i < n → M 1001 i = ((cpk w (f i) : Nat) : Int)) : bI (srch_fewestHoursTo q X M) k = k (fo (mnG (fun s => decide (sPl s = X)) hrsN f) n 0 (-1)) M := by
  unfold srch_fewestHoursTo
  have run := fo_runP0 (F := FU) (a := (-1 : Int)) (L := fun F v i => srch_fewestHoursTo_L4 q X (fun v2_13 M_14 => some (rI v2_13, M_14)) F v i M) (K := fun v => some (rI v, M)) (g := mnG (fun s => decide (sPl s = X)) hrsN f) (N := n) (P := fun _ v => -1 ≤ v ∧ v ≤ 2000) (fun F v i hi hv => ?_) (fun F v hv => ?_) (fun i v hi hv => mnG_J (hrsN_J _) hv) (FU_gt (by omega)) ⟨by decide, by decide⟩
  · rw [show srch_fewestHoursTo_L4 q X _ FU (-1) 0 M = _ from run, bI_I]
  · have hz := hrsN_J (f i)
    have hp4 := fd_lt (f i) 5 4
    have c16 : (2 : Nat) ^ 4 = 16 := rfl
    rw [srch_fewestHoursTo_L4, h3, bq_ge (by omega) (by omega), if_neg (by omega), bq_ge (by omega) (by decide), if_neg (by omega), bq_in (by omega) (by omega), Int.toNat_natCast, h1 i hi]
    unfold srch_placeOf srch_hoursOf
    rw [c_p, bI_I, bq_ne (by omega) hX, bq_in (by omega) (by omega), h1 i hi, c_h, bI_I, show ((fd (f i) 0 5 : Nat) : Int) = hrsN (f i) from rfl, lesser_b hv hz]
    have es : mnG (fun s => decide (sPl s = X)) hrsN f i v = (bif decide (((fd (f i) 5 4 : Nat) : Int) = X) then (if v < 0 ∨ hrsN (f i) < v then hrsN (f i) else v) else v) := rfl
    rw [es]
    by_cases hp : ((fd (f i) 5 4 : Nat) : Int) = X
    · rw [if_pos hp, decide_eq_true hp, cn_t]
    · rw [if_neg hp, decide_eq_false hp, cn_f]
  · rw [srch_fewestHoursTo_L4, h3, bq_ge (by omega) (by omega), if_pos (by omega)]
theorem lossN_J (hC : WC m w) (hT : WT w) (s : Nat) : 0 ≤ lossN w s ∧ lossN w s ≤ 2000 := by
  have := wO_b hC hT (lossS w s)
  unfold lossN
  omega
theorem loss_c {k : Int → MM → OR} {q : Nat} {X : Int} (hC : WC m w) (hT : WT w) (hL : LandR 3 w M) (hJ : JnyR 23 w M) (h3 : M 1000 3 = (n : Int)) (hn : n ≤ 6000) (h1 : ∀ i, i < n → M 1001 i = ((cpk w (f i) : Nat) : Int)) : bI (srch_leastLossToFree q X M) k = k (fo (mnG (fewB X) (lossN w) f) n 0 (-1)) M := by
  unfold srch_leastLossToFree
  have run := fo_runP0 (F := FU) (a := (-1 : Int)) (L := fun F v i => srch_leastLossToFree_L4 q X (fun v2_13 M_14 => some (rI v2_13, M_14)) F v i M) (K := fun v => some (rI v, M)) (g := mnG (fewB X) (lossN w) f) (N := n) (P := fun _ v => -1 ≤ v ∧ v ≤ 2000) (fun F v i hi hv => ?_) (fun F v hv => ?_) (fun i v hi hv => mnG_J (lossN_J hC hT _) hv) (FU_gt (by omega)) ⟨by decide, by decide⟩
  · rw [show srch_leastLossToFree_L4 q X _ FU (-1) 0 M = _ from run, bI_I]
  · have hz := lossN_J hC hT (f i)
    have eS : iAnd ((bset 10 (tsB (f i) 3) : Nat) : Int) (iXor (M 23 4) (-1)) = ((lossS w (f i) : Nat) : Int) := by
      rw [hJ.2.2.1, andn_s (bset_31 (by decide)) (by decide)]; rfl
    rw [srch_leastLossToFree_L4, h3, bq_ge (by omega) (by omega), if_neg (by omega), bq_ge (by omega) (by decide), if_neg (by omega), bq_in (by omega) (by omega), Int.toNat_natCast, h1 i hi]
    unfold srch_freedOf
    rw [c_f, bI_I, bq_ne (I32_and _ _) (by decide), bq_in (by omega) (by omega), h1 i hi, c_l, eS, land_worthOf_b hL hC (show lossS w (f i) < 2147483648 from bset_31 (by decide)), show wO w (lossS w (f i)) = lossN w (f i) from rfl, lesser_b hv hz]
    unfold mnG fewB
    by_cases hp : iAnd X (iXor ((fd (f i) 44 7 : Nat) : Int) (-1)) = 0
    · rw [if_pos hp, decide_eq_true hp, cn_t]
    · rw [if_neg hp, decide_eq_false hp, cn_f]
  · rw [srch_leastLossToFree_L4, h3, bq_ge (by omega) (by omega), if_pos (by omega)]
def evP (f : Nat → Nat) : Nat → Nat → Bool
  | 0, _ => false
  | i + 1, p => evP f i p || (fd (f i) 34 10).testBit p
theorem evP_iff {f : Nat → Nat} {p : Nat} : ∀ n, evP f n p = true ↔ ∃ i, i < n ∧ (fd (f i) 34 10).testBit p = true
  | 0 => ⟨fun h => absurd (show false = true from h) (by decide), fun ⟨i, hi, _⟩ => absurd hi (Nat.not_lt_zero i)⟩
  | n + 1 => by
    show (evP f n p || (fd (f n) 34 10).testBit p) = true ↔ _
    rw [Bool.or_eq_true, evP_iff n]
    constructor
    · rintro (⟨i, hi, h⟩ | h)
      · exact ⟨i, by omega, h⟩
      · exact ⟨n, by omega, h⟩
    · rintro ⟨i, hi, h⟩
      by_cases e : i = n
      · subst e; exact Or.inr h
      · exact Or.inl ⟨i, by omega, h⟩
theorem fd_bs {s : Nat} : fd s 34 10 = bset 10 (fun p => (fd s 34 10).testBit p) := by
  apply Nat.eq_of_testBit_eq
  intro i
  rw [bset_bit]
  by_cases h : i < 10
  · rw [decide_eq_true h, Bool.true_and]
  · rw [decide_eq_false h, Bool.false_and, Nat.testBit_lt_two_pow (Nat.lt_of_lt_of_le (fd_lt s 34 10) (Nat.pow_le_pow_right (by decide) (by omega)))]
theorem ever_c {k : Int → MM → OR} {q : Nat} (h3 : M 1000 3 = (n : Int)) (hn : n ≤ 6000) (h1 : ∀ i, i < n → M 1001 i = ((cpk w (f i) : Nat) : Int)) : bI (srch_everPassed q M) k = k ((bset 10 (evP f n) : Nat) : Int) M := by
  unfold srch_everPassed
  have run : ∀ d F i, i + d = n → d < F → srch_everPassed_L4 q (fun v1_5 M_6 => some (rI v1_5, M_6)) F ((bset 10 (evP f i) : Nat) : Int) (i : Int) M = some (rI ((bset 10 (evP f n) : Nat) : Int), M) := by
    intro d
    induction d with
    | zero =>
      intro F i hi hF
      obtain ⟨F, rfl⟩ : ∃ n, F = n + 1 := ⟨F - 1, by omega⟩
      obtain rfl : i = n := hi
      rw [srch_everPassed_L4, h3, bq_ge (by omega) (by omega), if_pos (by omega)]
    | succ d ih =>
      intro F i hi hF
      obtain ⟨F, rfl⟩ : ∃ n, F = n + 1 := ⟨F - 1, by omega⟩
      rw [srch_everPassed_L4, h3, bq_ge (by omega) (by omega), if_neg (by omega), bq_ge (by omega) (by decide), if_neg (by omega), bq_in (by omega) (by omega), Int.toNat_natCast, h1 i (by omega)]
      unfold srch_passedOf
      rw [c_k, bI_I, fd_bs, or_bs (by decide), show (i : Int) + 1 = ((i + 1 : Nat) : Int) by omega]
      exact ih F (i + 1) (by omega) (by omega)
  have := run n FU 0 (by omega) (FU_gt (by omega))
  rw [show ((bset 10 (evP f 0) : Nat) : Int) = 0 by rw [show bset 10 (evP f 0) = 0 from bset_no.mpr (fun _ _ => rfl)]; rfl] at this
  rw [show srch_everPassed_L4 q _ FU 0 0 M = _ from this, bI_I]
end Read
