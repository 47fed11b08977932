/-! ===== SOONEST, REACHED, SPARED, LOCKED: the reference reads; as calls ===== -/
section ReadR
variable {w : Nat → Int} {m n : Nat} {f : Nat → Nat} {N : MM}
theorem mn_ite {P : Nat → Bool} {h : Nat → Int} {i : Nat} {v : Int} : mnG P h f i v = if P (f i) = true then (if v < 0 then h (f i) else if v ≤ h (f i) then v else h (f i)) else v := by
  unfold mnG
  cases hp : P (f i) with
  | false => rw [cn_f, if_neg (by decide)]
  | true =>
    rw [cn_t, if_pos rfl]
    by_cases h0 : v < 0
    · rw [if_pos (Or.inl h0), if_pos h0]
    · rw [if_neg h0]
      by_cases h1 : v ≤ h (f i)
      · rw [if_pos h1, if_neg (by omega)]
      · rw [if_neg h1, if_pos (Or.inr (by omega))]
theorem few_r {K : Int → MM → OR} {X : Int} (h25 : N 165 25 = (n : Int)) (hn : n ≤ 6000) (hk : ∀ i, i < n → PK (f i)) (h1 : ∀ i, i < n → N 173 i = ((f i : Nat) : Int)) : mo_soonest_L48 X K FU (-1) 0 N = K (fo (mnG (fewB X) hrsN f) n 0 (-1)) N := by
  have run := fo_runP0 (F := FU) (a := (-1 : Int)) (L := fun F v i => mo_soonest_L48 X K F v i N) (K := fun v => K v N) (g := mnG (fewB X) hrsN f) (N := n) (P := fun _ v => -1 ≤ v ∧ v ≤ 2000) (fun F v i hi hv => ?_) (fun F v hv => ?_) (fun i v hi hv => mnG_J (hrsN_J _) hv) (FU_gt (by omega)) ⟨by decide, by decide⟩
  · exact run
  · have hz := hrsN_J (f i)
    rw [mo_soonest_L48, h25, bq_ge (by omega) (by omega), if_neg (by omega), bq_in (by omega) (by omega), Int.toNat_natCast, h1 i hi, mo_hoursOf_b (hk i hi), show ((fd (f i) 0 5 : Nat) : Int) = hrsN (f i) from rfl, bq_in (by omega) (by omega), h1 i hi, mo_freedIn_b (hk i hi), bq_ne (I32_and _ _) (by decide), bq_lt (by omega) (by decide), bq_ge (by omega) (by omega), mn_ite]
    unfold fewB
    by_cases hp : iAnd X (iXor ((fd (f i) 44 7 : Nat) : Int) (-1)) = 0
    · rw [if_pos hp, if_pos (decide_eq_true hp)]
      by_cases h0 : v < 0
      · rw [if_pos h0, if_pos h0]
      · rw [if_neg h0, if_neg h0]
        by_cases h2 : v ≤ hrsN (f i)
        · rw [if_pos h2, if_pos h2]
        · rw [if_neg h2, if_neg h2]
    · rw [if_neg hp, if_neg (fun g => hp (of_decide_eq_true g))]
  · rw [mo_soonest_L48, h25, bq_ge (by omega) (by omega), if_pos (by omega)]
theorem to_r {K : Int → MM → OR} {X : Int} (hX : I32 X) (h25 : N 165 25 = (n : Int)) (hn : n ≤ 6000) (hk : ∀ i, i < n → PK (f i)) (h1 : ∀ i, i < n → N 173 i = ((f i : Nat) : Int)) : mo_reached_L34 X K FU (-1) 0 N = K (fo (mnG (fun s => decide (sPl s = X)) hrsN f) n 0 (-1)) N := by
  have run := fo_runP0 (F := FU) (a := (-1 : Int)) (L := fun F v i => mo_reached_L34 X K F v i N) (K := fun v => K v N) (g := mnG (fun s => decide (sPl s = X)) hrsN f) (N := n) (P := fun _ v => -1 ≤ v ∧ v ≤ 2000) (fun F v i hi hv => ?_) (fun F v hv => ?_) (fun i v hi hv => mnG_J (hrsN_J _) hv) (FU_gt (by omega)) ⟨by decide, by decide⟩
  · exact run
  · have hz := hrsN_J (f i)
    have hp4 := fd_lt (f i) 5 4
    have c16 : (2 : Nat) ^ 4 = 16 := rfl
    have es : mnG (fun s => decide (sPl s = X)) hrsN f i v = if decide (((fd (f i) 5 4 : Nat) : Int) = X) = true then (if v < 0 then hrsN (f i) else if v ≤ hrsN (f i) then v else hrsN (f i)) else v := mn_ite
    rw [mo_reached_L34, h25, bq_ge (by omega) (by omega), if_neg (by omega), bq_in (by omega) (by omega), Int.toNat_natCast, h1 i hi, mo_placeOf_b (hk i hi), bq_ne (by omega) hX, bq_lt (by omega) (by decide), bq_in (by omega) (by omega), bq_in (by omega) (by omega), h1 i hi, mo_hoursOf_b (hk i hi), mo_hoursOf_b (hk i hi), show ((fd (f i) 0 5 : Nat) : Int) = hrsN (f i) from rfl, bq_ge (by omega) (by omega), bq_in (by omega) (by omega), h1 i hi, mo_hoursOf_b (hk i hi), show ((fd (f i) 0 5 : Nat) : Int) = hrsN (f i) from rfl, es]
    by_cases hp : ((fd (f i) 5 4 : Nat) : Int) = X
    · rw [if_pos hp, if_pos (decide_eq_true hp)]
      by_cases h0 : v < 0
      · rw [if_pos h0, if_pos h0]
      · rw [if_neg h0, if_neg h0]
        by_cases h2 : v ≤ hrsN (f i)
        · rw [if_pos h2, if_pos h2]
        · rw [if_neg h2, if_neg h2]
    · rw [if_neg hp, if_neg (fun g => hp (of_decide_eq_true g))]
  · rw [mo_reached_L34, h25, bq_ge (by omega) (by omega), if_pos (by omega)]
theorem loss_r {K : Int → MM → OR} {X : Int} (hw : N 166 = w) (hW : WF m w) (h25 : N 165 25 = (n : Int)) (hn : n ≤ 6000) (hk : ∀ i, i < n → GS w (f i)) (h1 : ∀ i, i < n → N 173 i = ((f i : Nat) : Int)) : mo_spared_L61 X ((bset 10 (stB' w 3) : Nat) : Int) K FU (-1) 0 N = K (fo (mnG (fewB X) (lossN w) f) n 0 (-1)) N := by
  have hC := hW.1
  have hT := hW.2.2.1
  have c1 := hC.2.1
  have run := fo_runP0 (F := FU) (a := (-1 : Int)) (L := fun F v i => mo_spared_L61 X ((bset 10 (stB' w 3) : Nat) : Int) K F v i N) (K := fun v => K v N) (g := mnG (fewB X) (lossN w) f) (N := n) (P := fun _ v => -1 ≤ v ∧ v ≤ 2000) (fun F v i hi hv => ?_) (fun F v hv => ?_) (fun i v hi hv => mnG_J (lossN_J hC hT _) hv) (FU_gt (by omega)) ⟨by decide, by decide⟩
  · exact run
  · have hz := lossN_J hC hT (f i)
    have hpk := (hk i hi).1
    have eT : ∀ k : Int → MM → OR, bI (mo_thingsIn ((f i : Nat) : Int) 3 N) k = k ((bset 10 (tsB (f i) 3) : Nat) : Int) N := fun k => by
      have := mo_thingsIn_b (M := N) (n := m) (k := k) (z := 3) (by rw [hw]; exact hC) hpk (by decide)
      rw [hw] at this
      rcases GS_car (z := 3) (hk i hi) (by decide) with g | g
      · rw [g]; exact this
      · omega
    have eS : iAnd ((bset 10 (tsB (f i) 3) : Nat) : Int) (iXor ((bset 10 (stB' w 3) : Nat) : Int) (-1)) = ((lossS w (f i) : Nat) : Int) := by
      rw [andn_s (bset_31 (by decide)) (by decide)]; rfl
    have eW : ∀ k : Int → MM → OR, bI (mo_worthOf ((lossS w (f i) : Nat) : Int) N) k = k (lossN w (f i)) N := fun k => by
      have := mo_worthOf_b (M := N) (n := m) (k := k) (s := lossS w (f i)) (by rw [hw]; exact hC) (bset_31 (by decide))
      rw [hw] at this
      exact this
    rw [mo_spared_L61, h25, bq_ge (by omega) (by omega), if_neg (by omega), bq_in (by omega) (by omega), Int.toNat_natCast, h1 i hi, eT, eS, eW, bq_in (by omega) (by omega), h1 i hi, mo_freedIn_b hpk, bq_ne (I32_and _ _) (by decide), bq_lt (by omega) (by decide), bq_ge (by omega) (by omega), mn_ite]
    unfold fewB
    by_cases hp : iAnd X (iXor ((fd (f i) 44 7 : Nat) : Int) (-1)) = 0
    · rw [if_pos hp, if_pos (decide_eq_true hp)]
      by_cases h0 : v < 0
      · rw [if_pos h0, if_pos h0]
      · rw [if_neg h0, if_neg h0]
        by_cases h2 : v ≤ lossN w (f i)
        · rw [if_pos h2, if_pos h2]
        · rw [if_neg h2, if_neg h2]
    · rw [if_neg hp, if_neg (fun g => hp (of_decide_eq_true g))]
  · rw [mo_spared_L61, h25, bq_ge (by omega) (by omega), if_pos (by omega)]
theorem lock_r {K : Int → MM → OR} (h25 : N 165 25 = (n : Int)) (hn : n ≤ 6000) (hk : ∀ i, i < n → PK (f i)) (h1 : ∀ i, i < n → N 173 i = ((f i : Nat) : Int)) (g : Nat → Bool) : ∀ d F i, i + d = n → d < F → mo_locked_L84 K F ((bset 10 (fun p => g p && !evP f i p) : Nat) : Int) (i : Int) N = K ((bset 10 (fun p => g p && !evP f n p) : Nat) : Int) N
  | 0, F, i, hi, hF => by
    obtain ⟨F, rfl⟩ : ∃ n, F = n + 1 := ⟨F - 1, by omega⟩
    obtain rfl : i = n := hi
    rw [mo_locked_L84, h25, bq_ge (by omega) (by omega), if_pos (by omega)]
  | d + 1, F, i, hi, hF => by
    obtain ⟨F, rfl⟩ : ∃ n, F = n + 1 := ⟨F - 1, by omega⟩
    have h34 : fd (f i) 34 10 < 2147483648 := Nat.lt_trans (fd_lt (f i) 34 10) (by decide)
    rw [mo_locked_L84, h25, bq_ge (by omega) (by omega), if_neg (by omega), bq_in (by omega) (by omega), Int.toNat_natCast, h1 i (by omega), mo_passedIn_b (hk i (by omega)), andn_s h34 (by decide), show (i : Int) + 1 = ((i + 1 : Nat) : Int) by omega]
    have e : bset 10 (fun p => (g p && !evP f i p) && !(fd (f i) 34 10).testBit p) = bset 10 (fun p => g p && !evP f (i + 1) p) := bset_cg 10 fun p hp => by
      show _ = (g p && !(evP f i p || (fd (f i) 34 10).testBit p))
      rw [Bool.not_or, Bool.and_assoc]
    rw [e]
    exact lock_r h25 hn hk h1 g d F (i + 1) (by omega) (by omega)
theorem keep_r {K : Int → MM → OR} (hw : N 166 = w) (hW : WF m w) : mo_locked_L50 K FU 0 0 N = K ((bset 10 (kpB w) : Nat) : Int) N := by
  have hC := hW.1
  have hP := hW.2.1
  have c0 := hC.1
  have run := or_run0 (L := fun F a i => mo_locked_L50 K F a i N) (K := fun a => K a N) (f := kpB w) (N := (w 0).toNat) (F := FU) (by omega) (FU_gt (by omega)) (fun F a i hi ha => ?_) (fun F a => ?_)
  · have e : bset (w 0).toNat (kpB w) = bset 10 (kpB w) := bset_zx (by omega) fun i hi _ => by
      unfold kpB
      rw [decide_eq_false (by omega), Bool.false_and]
    rw [← e]
    exact run
  · have ek := kpB_eq (w := w) (p := (i : Int)) (by omega) (by omega)
    rw [Int.toNat_natCast] at ek
    rw [mo_locked_L50, mo_places_b, hw, bq_ge (by omega) (by omega), if_neg (by omega), mo_isKeeper_b (M := N) (n := m) (by rw [hw]; exact hC) (by rw [hw]; exact hP) (by omega) (by rw [hw]; omega), hw, bz_eq0, ek]
    cases decide (oP w (i : Int) 0 = 1) with
    | false => rw [cn_f, cn_f, nu_or0 ha]
    | true => rw [cn_t, cn_t]
  · rw [mo_locked_L50, mo_places_b, hw, bq_ge (by omega) (by omega), if_pos (by omega)]
end ReadR
/-- the common part of the four calls -/
theorem srch_call {D : MM → OR} {G : MM → OR} {c : Nat} {k : Nat} {M : MM} (hD : ∀ X, D X = hN (fun c_6 M_2 => (bif Nat.beq c_6 c then some (rI 1, M_2) else none)) (G X)) (hk : k ≤ 512) (hI : Inv k M) (hz : M 166 0 ≠ 0) {z : Int} (hzI : I32 z) {Ms : MM} (h1 : G M = some (rI z, Ms)) (h2 : 0 < Ms 0 17 ∧ Ms 1000 5 = Ms 0 18) (h3 : ∀ j, j ≠ 17 → Ms 0 j = M 0 j) (h4 : ∀ p, p ≠ 0 → p ≠ 1000 → p ≠ 1001 → p ≠ 1002 → p ≠ 1003 → p ≠ 1004 → p ≠ 157 → p ≠ 21 → p ≠ 22 → Ms p = M p) (h5 : Done (M 166) Ms) : ∃ M1, D M = some (rI 0, M1) ∧ ((0 : Int) = 0 → M1 181 0 = z) ∧ Inv (k + 1) M1 ∧ M1 166 = M 166 := by
  have hx := hI.2.2.2.2.2.2.2.2.1
  have h18 := hI.2.2.2.2.2.2.2.2.2
  have e166 : (mU Ms 181 0 z) 166 = M 166 := by rw [mU_ne (by decide), h4 166 (by decide) (by decide) (by decide) (by decide) (by decide) (by decide) (by decide) (by decide) (by decide)]
  have e999 : (mU Ms 181 0 z) 999 = M 999 := by rw [mU_ne (by decide), h4 999 (by decide) (by decide) (by decide) (by decide) (by decide) (by decide) (by decide) (by decide) (by decide)]
  have e0 : (mU Ms 181 0 z) 0 = Ms 0 := mU_ne (by decide)
  have e1000 : (mU Ms 181 0 z) 1000 = Ms 1000 := mU_ne (by decide)
  have e1001 : (mU Ms 181 0 z) 1001 = Ms 1001 := mU_ne (by decide)
  refine ⟨mU Ms 181 0 z, by rw [hD, hN_ret h1 hzI], fun _ => rfl, Inv_srch hI (fun p a0 a1 a2 a3 a4 a5 a6 => by rw [mU_ne a4, h4 p a0 (by omega) (by omega) (by omega) (by omega) (by omega) a3 a1 a2]) (fun j hj => by rw [e0, h3 j hj]) ⟨Or.inr (by rw [e0]; exact h2.1), fun _ => ⟨?_, fun _ => ?_⟩⟩ (by omega) (by rw [e999]; exact hx.1) (by rw [e999]; omega), e166⟩
  · have := h3 18 (by decide)
    rw [e0, e1000, h2.2]; omega
  · rw [e166]
    exact Done_fr e1000 e1001 h5
