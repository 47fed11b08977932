/-! ===== SIGN: the reference, and both ===== -/
def sgN (N0 : MM) (P : Nat) (S : Nat → Bool) (W : Nat → Int) : MM := rwG (flM N0 177 0 P (fun j => b2 (S j))) 175 W
def sgR (w : Nat → Int) (b i : Nat) (s : (Nat → Bool) × (Nat → Int)) : (Nat → Bool) × (Nat → Int) := (sgC (fun i => dF w (oBp w i)) b i s.1, if i = b then s.2 else dF w (oBp w i))
theorem sgN_ne {N0 : MM} {P a : Nat} {S : Nat → Bool} {W : Nat → Int} (h1 : a ≠ 175) (h2 : a ≠ 177) : sgN N0 P S W a = N0 a := by
  unfold sgN; rw [rwG_ne h1, flM_ne h2]
theorem sgN_77 {N0 : MM} {P j : Nat} {S : Nat → Bool} {W : Nat → Int} (h : j < P) : sgN N0 P S W 177 j = b2 (S j) := by
  unfold sgN; rw [rwG_ne (by decide), flM_ap, if_pos ⟨Nat.zero_le _, h⟩, Nat.sub_zero]
theorem sgN_fl {N0 : MM} {P : Nat} {S S' : Nat → Bool} {W : Nat → Int} : flM (sgN N0 P S W) 177 0 P (fun j => b2 (S' j)) = sgN N0 P S' W := by
  funext a j
  by_cases h : a = 177
  · subst h
    rw [flM_ap]
    by_cases hj : j < P
    · rw [if_pos ⟨Nat.zero_le _, hj⟩, sgN_77 hj, Nat.sub_zero]
    · rw [if_neg (fun g => hj g.2)]
      unfold sgN
      rw [rwG_ne (by decide), rwG_ne (by decide), flM_ap, flM_ap, if_neg (fun g => hj g.2), if_neg (fun g => hj g.2)]
  · rw [flM_ne h]
    unfold sgN
    by_cases h2 : a = 175
    · subst h2
      by_cases hj : j < 10
      · rw [rwG_at hj, rwG_at hj]
      · unfold rwG; rw [mV_eq, mV_eq, if_neg hj, if_neg hj, flM_ne (by decide), flM_ne (by decide)]
    · rw [rwG_ne h2, rwG_ne h2, flM_ne h, flM_ne h]
theorem sg_z0 : nZ 0 = 0 := by rw [nZ_z]; decide
theorem sg_z1 : nZ 1 = 1 := by rw [nZ_z]; decide
theorem sign_row {b i : Nat} {N0 : MM} {K : MM → OR} {D W : Nat → Int} {P : Nat} (hP : P ≤ 10) (eP : N0 166 0 = (P : Int)) (hD : ∀ j, j < 10 → N0 176 j = D j ∧ I32 (D j)) (hW : ∀ j, j < 10 → I32 (W j)) (S : Nat → Bool) : mo_sign_L109 (b : Int) (i : Int) K FU 0 (sgN N0 P S W) = K (sgN N0 P (fun p => S p && decide (D p < W p)) W) := by
  have := fl_run0 (L := fun F p M => mo_sign_L109 (b : Int) (i : Int) K F p M) (K := K) (M := sgN N0 P S W) (a := 177) (o := 0) (N := P) (F := FU) (f := fun p => b2 (S p && decide (D p < W p))) (FU_gt (by omega)) (fun m p hp => ?_) (fun m => ?_)
  · rw [Nat.zero_add, sgN_fl] at this
    exact this
  · have g7 : flM (sgN N0 P S W) 177 0 (0 + p) (fun p => b2 (S p && decide (D p < W p))) 177 p = b2 (S p) := by
      rw [flM_ap, if_neg (by omega), sgN_77 hp]
    have g6 : flM (sgN N0 P S W) 177 0 (0 + p) (fun p => b2 (S p && decide (D p < W p))) 176 p = D p := by
      rw [flM_ne (by decide), sgN_ne (by decide) (by decide)]; exact (hD p (by omega)).1
    have g5 : flM (sgN N0 P S W) 177 0 (0 + p) (fun p => b2 (S p && decide (D p < W p))) 175 p = W p := by
      rw [flM_ne (by decide)]; unfold sgN; rw [rwG_at (by omega)]
    have g0 : flM (sgN N0 P S W) 177 0 (0 + p) (fun p => b2 (S p && decide (D p < W p))) 166 0 = (P : Int) := by
      rw [flM_ne (by decide), sgN_ne (by decide) (by decide)]; exact eP
    generalize flM (sgN N0 P S W) 177 0 (0 + p) (fun p => b2 (S p && decide (D p < W p))) = X at *
    have hd := (hD p (by omega)).2
    have hw := hW p (by omega)
    rw [mo_sign_L109, mo_places_b, g0, bq_ge (by omega) (by omega), if_neg (by omega), bq_in (by omega) (by omega), Int.toNat_natCast, g7, bz_eq0, Nat.zero_add]
    cases hS : S p with
    | false => rw [cn_f, bq_in (by omega) (by omega), sM_eq, sg_z0]; rfl
    | true =>
      rw [cn_t, bq_in (by omega) (by omega), bq_in (by omega) (by omega), g6, g5, bq_ge hd hw, bq_in (by omega) (by omega), bq_in (by omega) (by omega), sM_eq, sM_eq, sg_z0, sg_z1, Bool.true_and]
      by_cases h : D p < W p
      · rw [if_neg (by omega), decide_eq_true h]; rfl
      · rw [if_pos (by omega), decide_eq_false h]; rfl
  · have g0 : flM (sgN N0 P S W) 177 0 (0 + P) (fun p => b2 (S p && decide (D p < W p))) 166 0 = (P : Int) := by
      rw [flM_ne (by decide), sgN_ne (by decide) (by decide)]; exact eP
    rw [mo_sign_L109, mo_places_b, g0, bq_ge (by omega) (by omega), if_pos (by omega)]
theorem sign_all {w : Nat → Int} {n b P : Nat} {K : MM → OR} {N0 : MM} (hC : WC n w) (hR : WR w) (hB : WB w) (hw : N0 166 = w) (hP : w 0 = (P : Int)) (hD : ∀ j, j < 10 → N0 176 j = dF w (oBp w b) j) (hb : (b : Int) < w 3) (S : Nat → Bool) (W : Nat → Int) : mo_sign_L81 (b : Int) K FU 0 (sgN N0 P S W) = K (sgN N0 P (fo (sgR w b) (w 3).toNat 0 (S, W)).1 (fo (sgR w b) (w 3).toNat 0 (S, W)).2) := by
  have c0 := hC.1
  have c3 := hC.2.2.2.1
  have := fo_run0 (F := FU) (a := (S, W)) (L := fun F (s : (Nat → Bool) × (Nat → Int)) i => mo_sign_L81 (b : Int) K F i (sgN N0 P s.1 s.2)) (K := fun s => K (sgN N0 P s.1 s.2)) (g := sgR w b) (N := (w 3).toNat) (FU_gt (by omega)) (fun m s i hi => ?_) (fun m s => ?_)
  · exact this
  · obtain ⟨S, W⟩ := s
    have hr : (i : Int) < w 3 := by omega
    have hb0 := (hB i (by omega) hr).1
    have ep : oB w (i : Int) 0 = ((oBp w i : Nat) : Int) := by unfold oBp; omega
    have e6 : (sgN N0 P S W) 166 = w := by rw [sgN_ne (by decide) (by decide)]; exact hw
    show mo_sign_L81 (b : Int) K (m + 1) (i : Int) (sgN N0 P S W) = mo_sign_L81 (b : Int) K m ((i : Int) + 1) (sgN N0 P (sgR w b i (S, W)).1 (sgR w b i (S, W)).2)
    unfold sgR sgC
    rw [mo_sign_L81, mo_brothers_b, e6, bq_ge (by omega) (by omega), if_neg (by omega), bq_ne (by omega) (by omega)]
    by_cases h : i = b
    · rw [if_pos (by omega), if_pos h, if_pos h]
    · rw [if_neg (by omega), if_neg h, if_neg h, mo_ofBrother_b (by omega) (by omega) (by decide) (by decide), e6, ep, lays_b e6 hC hR (by omega), show rwG (sgN N0 P S W) 175 (dF w (oBp w i)) = sgN N0 P S (dF w (oBp w i)) from rwG_rwG, sign_row (D := dF w (oBp w b)) (by omega) (by rw [hw]; exact hP) (fun j hj => ⟨hD j hj, by have := @dF_J w (oBp w b) j; omega⟩) (fun j hj => by have := @dF_J w (oBp w i) j; omega)]
  · have e6 : (sgN N0 P s.1 s.2) 166 = w := by rw [sgN_ne (by decide) (by decide)]; exact hw
    show mo_sign_L81 (b : Int) K (m + 1) (((w 3).toNat : Nat) : Int) (sgN N0 P s.1 s.2) = _
    rw [mo_sign_L81, mo_brothers_b, e6, bq_ge (by omega) (by omega), if_pos (by omega)]
theorem signR_min {M : MM} {P : Nat} {S : Nat → Bool} {D : Nat → Int} {K : Int → MM → OR} (hP : P ≤ 10) (e0 : M 166 0 = (P : Int)) (h177 : ∀ j, j < P → M 177 j = b2 (S j)) (h176 : ∀ j, j < 10 → M 176 j = D j ∧ I32 (D j)) : mo_sign_L168 K FU (-1) 0 M = K (fo (sgM S D) P 0 (-1)) M := by
  have := fo_runP0 (F := FU) (a := (-1 : Int)) (L := fun F c i => mo_sign_L168 K F c i M) (K := fun c => K c M) (g := sgM S D) (N := P) (P := fun _ c => c = -1 ∨ (0 ≤ c ∧ c < 10)) (fun m c i hi hc => ?_) (fun m c hc => ?_) (fun i c hi hc => ?_) (FU_gt (by omega)) (Or.inl rfl)
  · exact this
  · rw [mo_sign_L168, mo_places_b, e0, bq_ge (by omega) (by omega), if_neg (by omega), bq_in (by omega) (by omega), Int.toNat_natCast, h177 i hi, bz_eq0]
    unfold sgM
    cases hS : S i with
    | false => rw [cn_f, if_neg (fun g => Bool.noConfusion g.1)]
    | true =>
      rw [cn_t, bq_lt (by omega) (by decide)]
      by_cases h1 : c = -1
      · rw [if_pos (by omega), if_pos ⟨rfl, Or.inl h1⟩]
      · rw [if_neg (by omega), bq_in (by omega) (by omega), bq_in (by omega) (by omega), (h176 i (by omega)).1, (h176 c.toNat (by omega)).1, bq_ge (h176 i (by omega)).2 (h176 c.toNat (by omega)).2]
        by_cases h2 : D i < D c.toNat
        · rw [if_neg (by omega), if_pos ⟨rfl, Or.inr h2⟩]
        · rw [if_pos (by omega), if_neg (fun g => by rcases g.2 with g | g <;> omega)]
  · rw [mo_sign_L168, mo_places_b, e0, bq_ge (by omega) (by omega), if_pos (by omega)]
  · unfold sgM
    split <;> omega
theorem sgR_1 {w : Nat → Int} {b : Nat} : ∀ N S W, (fo (sgR w b) N 0 (S, W)).1 = sgS (fun i => dF w (oBp w i)) b N S
  | 0, S, W => rfl
  | N + 1, S, W => by
    have ih := sgR_1 (w := w) (b := b) N S W
    unfold sgS at ih ⊢
    rw [fo_s, fo_s, ← ih]; rfl
