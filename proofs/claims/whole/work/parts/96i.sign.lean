/-! ===== SIGN ===== -/
def oBp (w : Nat → Int) (i : Nat) : Nat := (oB w (i : Int) 0).toNat
def sgC (D : Nat → Nat → Int) (b i : Nat) (S : Nat → Bool) : Nat → Bool := if i = b then S else fun p => S p && decide (D b p < D i p)
def sgG (w : Nat → Int) (b i : Nat) (s : (Nat → Bool) × (Nat → Int)) : (Nat → Bool) × (Nat → Int) := (sgC (fun i => farF w (oBp w i)) b i s.1, if i = b then s.2 else farF w (oBp w i))
def sgM (S : Nat → Bool) (D : Nat → Int) (p : Nat) (c : Int) : Int := if S p = true ∧ (c = -1 ∨ D p < D c.toNat) then (p : Int) else c
theorem neg_J {nv : Int} {V : Nat → Int} (h : VB nv V) (p : Nat) : 0 ≤ -(V p) ∧ -(V p) ≤ nv := by
  have := h p
  omega
theorem cF_J {w : Nat → Int} {a p : Nat} : 0 ≤ farF w a p ∧ farF w a p ≤ 1000000 := by
  unfold farF
  exact neg_J (VB_rnds 10 _ (v0_VB (by decide))) p
theorem dF_J {w : Nat → Int} {a p : Nat} : 0 ≤ dF w a p ∧ dF w a p ≤ 100000 := by
  unfold dF
  exact neg_J (VB_rnds _ _ (v0_VB (by decide))) p
theorem near_b {M : MM} {f g : Nat → Int} {k : Int → MM → OR} (hf : ∀ j, j < 10 → M 159 j = f j ∧ I32 (f j)) (hg : ∀ j, j < 10 → M 160 j = g j ∧ I32 (g j)) : bI (ways_placesNearerToOne M) k = k ((bset 10 (fun j => decide (f j < g j)) : Nat) : Int) M := by
  have := or_run0 (L := fun F a i => ways_placesNearerToOne_L4 (fun v1_1 M_2 => some (rI v1_1, M_2)) F a i M) (K := fun a => some (rI a, M)) (f := fun j => decide (f j < g j)) (N := 10) (F := FU) (by decide) (FU_gt (by decide)) (fun n a i hi ha => ?_) (fun n a => ?_)
  · unfold ways_placesNearerToOne
    rw [show ways_placesNearerToOne_L4 _ FU 0 0 M = some (rI _, M) from this, bI_I]
  · show ways_placesNearerToOne_L4 _ (n + 1) (a : Int) (i : Int) M = ways_placesNearerToOne_L4 _ n _ _ M
    rw [ways_placesNearerToOne_L4, bq_ge (by omega) (by decide), if_neg (by omega), bq_in (by omega) (by omega), bq_in (by omega) (by omega), Int.toNat_natCast, (hf i hi).1, (hg i hi).1, bq_ge (hf i hi).2 (hg i hi).2]
    by_cases h : f i < g i
    · rw [if_neg (by omega), decide_eq_true h, cn_t]
    · rw [if_pos (by omega), decide_eq_false h, cn_f]
  · show ways_placesNearerToOne_L4 _ (n + 1) (a : Int) ((10 : Nat) : Int) M = _
    rw [ways_placesNearerToOne_L4, bq_ge (by decide) (by decide), if_pos (by decide)]
theorem rwG_rwG {M : MM} {b : Nat} {V W : Nat → Int} : rwG (rwG M b V) b W = rwG M b W := by
  funext p j
  by_cases hp : p = b
  · subst hp
    by_cases hj : j < 10
    · rw [rwG_at hj, rwG_at hj]
    · unfold rwG; rw [mV_eq, mV_eq, if_neg hj, if_neg hj, mV_eq, if_neg hj]
  · rw [rwG_ne hp, rwG_ne hp, rwG_ne hp]
theorem rwG_self {M : MM} {b : Nat} : rwG M b (M b) = M := by
  funext p j
  by_cases hp : p = b
  · subst hp
    by_cases hj : j < 10
    · rw [rwG_at hj]
    · unfold rwG; rw [mV_eq, if_neg hj]
  · rw [rwG_ne hp]
theorem sign_near {w : Nat → Int} {n b : Nat} {K : Int → MM → OR} {M : MM} (hC : WC n w) (hR : WR w) (hB : WB w) (hL : LandR 3 w M) (h159 : ∀ j, j < 10 → M 159 j = farF w (oBp w b) j) (hb : (b : Int) < w 3) (S : Nat → Bool) (W : Nat → Int) : ways_placeFoundFirst_L31 (b : Int) K FU ((bset 10 S : Nat) : Int) 0 (rwG M 160 W) = K ((bset 10 (fo (sgG w b) (w 3).toNat 0 (S, W)).1 : Nat) : Int) (rwG M 160 (fo (sgG w b) (w 3).toNat 0 (S, W)).2) := by
  have c3 := hC.2.2.2.1
  have e3 := hL.1.2.2.2.1
  have := fo_run0 (F := FU) (a := (S, W)) (L := fun F (s : (Nat → Bool) × (Nat → Int)) i => ways_placeFoundFirst_L31 (b : Int) K F ((bset 10 s.1 : Nat) : Int) i (rwG M 160 s.2)) (K := fun s => K ((bset 10 s.1 : Nat) : Int) (rwG M 160 s.2)) (g := sgG w b) (N := (w 3).toNat) (FU_gt (by omega)) (fun m s i hi => ?_) (fun m s => ?_)
  · exact this
  · obtain ⟨S, W⟩ := s
    have hr : (i : Int) < w 3 := by omega
    have hb0 := (hB i (by omega) hr).1
    have hl := (hL.2.2.2.2.2.2 i (by omega) hr).1
    have ep : M 14 i = ((oBp w i : Nat) : Int) := by
      rw [show M 14 i = oB w (i : Int) 0 from hl]; unfold oBp; omega
    show ways_placeFoundFirst_L31 (b : Int) K (m + 1) ((bset 10 S : Nat) : Int) (i : Int) (rwG M 160 W) = ways_placeFoundFirst_L31 (b : Int) K m ((bset 10 (sgG w b i (S, W)).1 : Nat) : Int) ((i : Int) + 1) (rwG M 160 (sgG w b i (S, W)).2)
    unfold sgG sgC
    rw [ways_placeFoundFirst_L31, show (rwG M 160 W) 3 = M 3 from rwG_ne (by decide), e3, bq_ge (by omega) (by omega), if_neg (by omega), bq_ge (by omega) (by decide), if_neg (by omega), bq_eq (by omega) (by omega)]
    by_cases h : i = b
    · rw [if_pos (by omega), if_pos h, if_pos h]
    · rw [if_neg (by omega), if_neg h, if_neg h, bq_in (by omega) (by omega), show (rwG M 160 W) 14 = M 14 from rwG_ne (by decide), Int.toNat_natCast, ep, measure_b (Or.inr rfl) hC hR (LandR_fr (fun j hj => rwG_ne (by omega)) hL) (by unfold oBp; omega), rwG_rwG, near_b (f := farF w (oBp w b)) (g := farF w (oBp w i)) (fun j hj => ⟨by rw [rwG_ne (by decide)]; exact h159 j hj, by have := @cF_J w (oBp w b) j; omega⟩) (fun j hj => ⟨by rw [rwG_at hj], by have := @cF_J w (oBp w i) j; omega⟩), andB_bs]
  · show ways_placeFoundFirst_L31 (b : Int) K (m + 1) ((bset 10 s.1 : Nat) : Int) (((w 3).toNat : Nat) : Int) (rwG M 160 s.2) = _
    rw [ways_placeFoundFirst_L31, show (rwG M 160 s.2) 3 = M 3 from rwG_ne (by decide), e3, bq_ge (by omega) (by omega), if_pos (by omega)]
theorem sign_min {w : Nat → Int} {n : Nat} {D : Nat → Int} {M : MM} {K : Int → MM → OR} (hC : WC n w) (e0 : M 3 0 = w 0) (h159 : ∀ j, j < 10 → M 159 j = D j ∧ I32 (D j)) (S : Nat → Bool) : ways_placeFoundFirst_L88 ((bset 10 S : Nat) : Int) K FU (-1) 0 M = K (fo (sgM S D) (w 0).toNat 0 (-1)) M := by
  have c0 := hC.1
  have := fo_runP0 (F := FU) (a := (-1 : Int)) (L := fun F c i => ways_placeFoundFirst_L88 ((bset 10 S : Nat) : Int) K F c i M) (K := fun c => K c M) (g := sgM S D) (N := (w 0).toNat) (P := fun _ c => c = -1 ∨ (0 ≤ c ∧ c < 10)) (fun m c i hi hc => ?_) (fun m c hc => ?_) (fun i c hi hc => ?_) (FU_gt (by omega)) (Or.inl rfl)
  · exact this
  · rw [ways_placeFoundFirst_L88, e0, bq_ge (by omega) (by omega), if_neg (by omega), bq_ge (by omega) (by decide), if_neg (by omega), gh_bit_v (bset_31 (by decide)) (by omega), bset_bit, decide_eq_true (show i < 10 by omega), Bool.true_and, bI_I]
    unfold sgM
    cases hS : S i with
    | false => rw [show b2 false = 0 from rfl, bq_ne (by decide) (by decide), if_neg (by decide), if_neg (fun g => Bool.noConfusion g.1)]
    | true =>
      rw [show b2 true = 1 from rfl, bq_ne (by decide) (by decide), if_pos (by decide), bq_eq (by omega) (by decide)]
      by_cases h1 : c = -1
      · rw [if_pos h1, if_pos ⟨rfl, Or.inl h1⟩]
      · rw [if_neg h1, bq_in (by omega) (by omega), bq_in (by omega) (by omega), Int.toNat_natCast, (h159 i (by omega)).1, (h159 c.toNat (by omega)).1, bq_ge (h159 i (by omega)).2 (h159 c.toNat (by omega)).2]
        by_cases h2 : D i < D c.toNat
        · rw [if_neg (by omega), if_pos ⟨rfl, Or.inr h2⟩]
        · rw [if_pos (by omega), if_neg (fun g => by rcases g.2 with g | g <;> omega)]
  · rw [ways_placeFoundFirst_L88, e0, bq_ge (by omega) (by omega), if_pos (by omega)]
  · unfold sgM
    split <;> omega
theorem sg_mask {k : Nat} (h : k ≤ 10) : iShl 1 (k : Int) - 1 = ((bset 10 (fun i => decide (i < k)) : Nat) : Int) := by
  have : ∀ k : Fin 11, iShl 1 ((k : Nat) : Int) - 1 = ((bset 10 (fun i => decide (i < (k : Nat))) : Nat) : Int) := by decide
  exact this ⟨k, by omega⟩
-- both compare alike
def sgS (D : Nat → Nat → Int) (b N : Nat) (S : Nat → Bool) : Nat → Bool := fo (sgC D b) N 0 S
theorem sgG_1 {w : Nat → Int} {b : Nat} : ∀ N S W, (fo (sgG w b) N 0 (S, W)).1 = sgS (fun i => farF w (oBp w i)) b N S
  | 0, S, W => rfl
  | N + 1, S, W => by
    have ih := sgG_1 (w := w) (b := b) N S W
    unfold sgS at ih ⊢
    rw [fo_s, fo_s, ← ih]; rfl
theorem sgS_cg {D D' : Nat → Nat → Int} {b p : Nat} {S S' : Nat → Bool} : ∀ N, (∀ i, i < N → (D b p < D i p ↔ D' b p < D' i p)) → S p = S' p → sgS D b N S p = sgS D' b N S' p
  | 0, h, hS => hS
  | N + 1, h, hS => by
    have ih := sgS_cg (D := D) (D' := D') (b := b) (p := p) (S := S) (S' := S') N (fun i hi => h i (by omega)) hS
    unfold sgS at ih ⊢
    rw [fo_s, fo_s, Nat.zero_add]
    by_cases e : N = b
    · rw [show sgC D b N (fo (sgC D b) N 0 S) = fo (sgC D b) N 0 S from if_pos e, show sgC D' b N (fo (sgC D' b) N 0 S') = fo (sgC D' b) N 0 S' from if_pos e, ih]
    · rw [show sgC D b N (fo (sgC D b) N 0 S) = fun p => fo (sgC D b) N 0 S p && decide (D b p < D N p) from if_neg e, show sgC D' b N (fo (sgC D' b) N 0 S') = fun p => fo (sgC D' b) N 0 S' p && decide (D' b p < D' N p) from if_neg e]
      show (fo (sgC D b) N 0 S p && decide (D b p < D N p)) = (fo (sgC D' b) N 0 S' p && decide (D' b p < D' N p))
      rw [ih, decide_eq_decide.mpr (h N (by omega))]
theorem sgM_cg {S S' : Nat → Bool} {D D' : Nat → Int} {P : Nat} (hS : ∀ p, p < P → S p = S' p) (hD : ∀ p q, p < P → q < P → (D p < D q ↔ D' p < D' q)) : ∀ N, N ≤ P → fo (sgM S D) N 0 (-1) = fo (sgM S' D') N 0 (-1) ∧ (fo (sgM S' D') N 0 (-1) = -1 ∨ (0 ≤ fo (sgM S' D') N 0 (-1) ∧ fo (sgM S' D') N 0 (-1) < (N : Int)))
  | 0, _ => ⟨rfl, Or.inl rfl⟩
  | N + 1, h => by
    obtain ⟨i1, i2⟩ := sgM_cg hS hD N (by omega)
    rw [fo_s, fo_s, i1, Nat.zero_add]
    generalize fo (sgM S' D') N 0 (-1) = c at *
    unfold sgM
    rw [hS N (by omega)]
    by_cases hc : c = -1
    · by_cases hs : S' N = true
      · rw [if_pos ⟨hs, Or.inl hc⟩, if_pos ⟨hs, Or.inl hc⟩]; exact ⟨rfl, Or.inr (by omega)⟩
      · rw [if_neg (fun g => hs g.1), if_neg (fun g => hs g.1)]; exact ⟨rfl, Or.inl hc⟩
    · have := hD N c.toNat (by omega) (by omega)
      by_cases hs : S' N = true ∧ (c = -1 ∨ D' N < D' c.toNat)
      · rw [if_pos hs, if_pos ⟨hs.1, hs.2.imp id this.mpr⟩]; exact ⟨rfl, Or.inr (by omega)⟩
      · rw [if_neg hs, if_neg (fun g => hs ⟨g.1, g.2.imp id this.mp⟩)]; exact ⟨rfl, by omega⟩
def sgV (w : Nat → Int) (b : Nat) : Int := fo (sgM (sgS (fun i => dF w (oBp w i)) b (w 3).toNat (fun _ => true)) (dF w (oBp w b))) (w 0).toNat 0 (-1)
theorem sg_cls {w : Nat → Int} {n b : Nat} {W : Nat → Int} (hC : WC n w) (hR : WR w) (hB : WB w) (hb : (b : Int) < w 3) : fo (sgM (fo (sgG w b) (w 3).toNat 0 ((fun i => decide (i < (w 0).toNat)), W)).1 (farF w (oBp w b))) (w 0).toNat 0 (-1) = sgV w b ∧ (sgV w b = -1 ∨ (0 ≤ sgV w b ∧ sgV w b < w 0)) := by
  have c0 := hC.1
  have c3 := hC.2.2.2.1
  have hl : ∀ i : Nat, (i : Int) < w 3 → (oBp w i : Int) < w 0 := fun i hi => by
    have := (hB i (by omega) hi).1; unfold oBp; omega
  have hcd : ∀ i p : Nat, (i : Int) < w 3 → (p : Int) < w 0 → _ := fun i p hi hp => cF_dF hC hR (hl i hi) hp
  rw [sgG_1]
  unfold sgV
  have := sgM_cg (P := (w 0).toNat) (S := sgS (fun i => farF w (oBp w i)) b (w 3).toNat (fun i => decide (i < (w 0).toNat))) (S' := sgS (fun i => dF w (oBp w i)) b (w 3).toNat (fun _ => true)) (D := farF w (oBp w b)) (D' := dF w (oBp w b)) (fun p hp => sgS_cg _ (fun i hi => by
      have h1 := hcd b p hb (by omega)
      have h2 := hcd i p (by omega) (by omega)
      show farF w (oBp w b) p < farF w (oBp w i) p ↔ dF w (oBp w b) p < dF w (oBp w i) p
      omega) (decide_eq_true hp)) (fun p q hp hq => by
      have h1 := hcd b p hb (by omega)
      have h2 := hcd b q hb (by omega)
      omega) (w 0).toNat (Nat.le_refl _)
  exact ⟨this.1, by omega⟩
