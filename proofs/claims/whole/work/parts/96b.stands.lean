/-! ===== STANDS ===== -/
def sdB (w : Nat → Int) (t j : Nat) : Bool := fo (fun l (a : Bool) => a && (!(shB w l && ftB w l t) || ftB w l j)) 17 0 true
/-- the things that stand in for t -/
def siB (w : Nat → Int) (t j : Nat) : Bool := !decide (j = t) && (!decide (oT w (j : Int) 2 = 3) && sdB w t j)
/-- the cheapest so far -/
def chG (w : Nat → Int) (f : Nat → Bool) (i : Nat) (a : Int) : Int := bif f i then (if a = -1 ∨ oT w (i : Int) 1 < oT w a 1 then (i : Int) else a) else a
theorem chG_b {w : Nat → Int} {f : Nat → Bool} : ∀ n, -1 ≤ fo (chG w f) n 0 (-1) ∧ fo (chG w f) n 0 (-1) < n
  | 0 => by
    show -1 ≤ (-1 : Int) ∧ (-1 : Int) < ((0 : Nat) : Int)
    decide
  | n + 1 => by
    have := chG_b (w := w) (f := f) n
    rw [fo_s, Nat.zero_add]
    unfold chG at this ⊢
    cases f n with
    | false => simp only [cond_false]; omega
    | true =>
      simp only [cond_true]
      split <;> omega
theorem andB_bs {f g : Nat → Bool} : iAnd ((bset 10 f : Nat) : Int) ((bset 10 g : Nat) : Int) = ((bset 10 (fun i => f i && g i) : Nat) : Int) := and_bs (by decide)
theorem sdB_iff {w : Nat → Int} {t j : Nat} : sdB w t j = true ↔ ∀ l, l < 17 → shB w l = true → ftB w l t = true → ftB w l j = true := by
  unfold sdB
  rw [fo_allP]
  constructor
  · rintro ⟨-, h⟩ l hl h1 h2
    have := h l (by omega) (by omega)
    rw [h1, h2] at this
    simpa using this
  · intro h
    refine ⟨rfl, fun i a b => ?_⟩
    cases h1 : shB w i with
    | false => rfl
    | true =>
      cases h2 : ftB w i t with
      | false => rfl
      | true => simp [h i (by omega) h1 h2]
section StandRows
variable {M : MM} {w : Nat → Int} {n t : Nat}
theorem land_cheapest_b {k : Int → MM → OR} {f : Nat → Bool} (hC : WC n w) (hT : WT w) (hL : LandR 3 w M) (hf : ∀ i : Nat, w 1 ≤ i → f i = false) : bI (land_cheapest 3 ((bset 10 f : Nat) : Int) M) k = k (fo (chG w f) (w 1).toNat 0 (-1)) M := by
  have c1 := hC.2.1
  have e1 := hL.1.2.1
  have hTT : w 1 = (((w 1).toNat : Nat) : Int) := by omega
  have key : ∀ k' F i, k' + i = (w 1).toNat → k' < F → land_cheapest_L4 3 ((bset 10 f : Nat) : Int) (fun v2_4 M_5 => some (rI v2_4, M_5)) F (fo (chG w f) i 0 (-1)) (i : Int) M = some (rI (fo (chG w f) (w 1).toNat 0 (-1)), M) := by
    intro k'
    induction k' with
    | zero =>
      intro F i h hF
      obtain ⟨m, rfl⟩ : ∃ n, F = n + 1 := ⟨F - 1, by omega⟩
      obtain rfl : i = (w 1).toNat := by omega
      rw [land_cheapest_L4, e1, bq_ge (by omega) (by omega), if_pos (by omega)]
    | succ k' ih =>
      intro F i h hF
      obtain ⟨m, rfl⟩ : ∃ n, F = n + 1 := ⟨F - 1, by omega⟩
      have hb := chG_b (w := w) (f := f) i
      have hi : (i : Int) < w 1 := by omega
      have t1 := (hT i (by omega) hi).2.1
      have nx := ih m (i + 1) (by omega) (by omega)
      rw [fo_s, Nat.zero_add] at nx
      have ew : ∀ x : Int, 0 ≤ x → x < w 1 → M 10 x.toNat = oT w x 1 := fun x a b => (hL.2.2.2.2.1 x a b).2
      rw [land_cheapest_L4, e1, bq_ge (by omega) (by omega), if_neg (by omega), bq_ge (by omega) (by decide), if_neg (by omega), gh_bit_s (by decide) (by omega) (by omega), Int.toNat_natCast, bz_ne1, show (i : Int) + 1 = ((i + 1 : Nat) : Int) by omega]
      generalize fo (chG w f) i 0 (-1) = a at *
      rw [show chG w f i a = (bif f i then (if a = -1 ∨ oT w (i : Int) 1 < oT w a 1 then (i : Int) else a) else a) from rfl] at nx
      cases hfi : f i with
      | false =>
        rw [hfi, cn_f] at nx
        rw [cn_f]; exact nx
      | true =>
        rw [hfi, cn_t] at nx
        rw [cn_t, bq_eq (by omega) (by decide)]
        by_cases ha : a = -1
        · rw [if_pos ha]
          rw [if_pos (Or.inl ha)] at nx
          exact nx
        · have ta := (hT a (by omega) (by omega)).2.1
          rw [if_neg ha, bq_in (by omega) (by omega), bq_in (by omega) (by omega), show M (3 + 7) i = oT w (i : Int) 1 from by have := ew i (by omega) hi; rw [Int.toNat_natCast] at this; exact this, show M (3 + 7) a.toNat = oT w a 1 from ew a (by omega) (by omega), bq_ge (by omega) (by omega)]
          by_cases hlt : oT w (i : Int) 1 < oT w a 1
          · rw [if_neg (by omega)]
            rw [if_pos (Or.inr hlt)] at nx
            exact nx
          · rw [if_pos (by omega)]
            rw [if_neg (fun h => by rcases h with h | h <;> omega)] at nx
            exact nx
  unfold land_cheapest
  have := key (w 1).toNat FU 0 rfl (FU_gt (by omega))
  rw [show land_cheapest_L4 3 ((bset 10 f : Nat) : Int) (fun v2_4 M_5 => some (rI v2_4, M_5)) FU (-1) 0 M = _ from this]
  rfl
def siS (w : Nat → Int) (t j : Nat) : Bool := decide ((j : Int) < w 1) && siB w t j
theorem gh_stands_run {K : Int → MM → OR} (hW : WF n w) (hL : LandR 3 w M) (hJ : JnyR 23 w M) (ht : (t : Int) < w 1) {v2 : Int} : ∀ (k F l : Nat) (f : Nat → Bool), k + l = 17 → k < F → ∃ g : Nat → Bool, gh_stands_L32 (t : Int) v2 K F ((bset 10 f : Nat) : Int) (l : Int) M = K ((bset 10 g : Nat) : Int) M ∧ ∀ j, j < 10 → (g j = true ↔ f j = true ∧ ∀ l', l ≤ l' → l' < 17 → shB w l' = true → ftB w l' t = true → ((j : Int) < w 1 ∧ ftB w l' j = true))
  | 0, F, l, f, h, hF => by
    obtain ⟨m, rfl⟩ : ∃ n, F = n + 1 := ⟨F - 1, by omega⟩
    obtain rfl : l = 17 := by omega
    refine ⟨f, ?_, fun j hj => ⟨fun h => ⟨h, fun l' a b => absurd b (by omega)⟩, fun h => h.1⟩⟩
    rw [gh_stands_L32, bq_ge (by decide) (by decide), if_pos (by decide)]
  | k + 1, F, l, f, h, hF => by
    obtain ⟨m, rfl⟩ : ∃ n, F = n + 1 := ⟨F - 1, by omega⟩
    have c1 := hW.1.2.1
    have split : ∀ (P : Nat → Prop), (∀ l', l ≤ l' → l' < 17 → P l') ↔ (P l ∧ ∀ l', l + 1 ≤ l' → l' < 17 → P l') := fun P => ⟨fun hp => ⟨hp l (Nat.le_refl _) (by omega), fun l' a b => hp l' (by omega) b⟩, fun hp l' a b => by
      by_cases e : l' = l
      · subst e; exact hp.1
      · exact hp.2 l' (by omega) b⟩
    rw [gh_stands_L32, bq_ge (by omega) (by decide), if_neg (by omega), isShut_b hW hL hJ (by omega), bz_eq0, show (l : Int) + 1 = ((l + 1 : Nat) : Int) by omega]
    cases hs : shB w l with
    | false =>
      obtain ⟨g, q1, q2⟩ := gh_stands_run (K := K) hW hL hJ ht (v2 := v2) k m (l + 1) f (by omega) (by omega)
      refine ⟨g, by rw [cn_f]; exact q1, fun j hj => ?_⟩
      rw [q2 j hj, split (fun l' => shB w l' = true → ftB w l' t = true → ((j : Int) < w 1 ∧ ftB w l' j = true))]
      constructor
      · rintro ⟨a, b⟩
        exact ⟨a, (fun x => by rw [hs] at x; cases x), b⟩
      · rintro ⟨a, -, b⟩
        exact ⟨a, b⟩
    | true =>
      rw [cn_t, bq_in (by omega) (by omega), Int.toNat_natCast, opens_sh hW hL (by omega) hs ht, bz_eq0]
      cases hf : ftB w l t with
      | false =>
        obtain ⟨g, q1, q2⟩ := gh_stands_run (K := K) hW hL hJ ht (v2 := v2) k m (l + 1) f (by omega) (by omega)
        refine ⟨g, by rw [cn_f]; exact q1, fun j hj => ?_⟩
        rw [q2 j hj, split (fun l' => shB w l' = true → ftB w l' t = true → ((j : Int) < w 1 ∧ ftB w l' j = true))]
        constructor
        · rintro ⟨a, b⟩
          exact ⟨a, (fun _ x => by rw [hf] at x; cases x), b⟩
        · rintro ⟨a, -, b⟩
          exact ⟨a, b⟩
      | true =>
        obtain ⟨g, q1, q2⟩ := gh_stands_run (K := K) hW hL hJ ht (v2 := v2) k m (l + 1) (fun j => f j && (decide ((j : Int) < w 1) && ftB w l j)) (by omega) (by omega)
        refine ⟨g, by rw [cn_t, openers_sh hW hL (by omega) hs, andB_bs]; exact q1, fun j hj => ?_⟩
        rw [q2 j hj, split (fun l' => shB w l' = true → ftB w l' t = true → ((j : Int) < w 1 ∧ ftB w l' j = true))]
        simp only [Bool.and_eq_true, decide_eq_true_eq]
        constructor
        · rintro ⟨⟨a, b⟩, c⟩
          exact ⟨a, (fun _ _ => b), c⟩
        · rintro ⟨a, b, c⟩
          exact ⟨⟨a, b hs hf⟩, c⟩
theorem gh_stands_v {v2 : Int} (hW : WF n w) (hL : LandR 3 w M) (hJ : JnyR 23 w M) (ht : (t : Int) < w 1) (hv : v2 = 0 ∨ v2 = 1) : gh_stands (t : Int) v2 M = some (rI (if v2 = 0 then ((bset 10 (siS w t) : Nat) : Int) else fo (chG w (siS w t)) (w 1).toNat 0 (-1)), M) := by
  have c1 := hW.1.2.1
  have all : iShl 1 (w 1) - 1 = ((bset 10 (fun j => decide ((j : Int) < w 1)) : Nat) : Int) := by
    have h2 : 2 ^ (w 1).toNat ≤ 2 ^ 10 := Nat.pow_le_pow_right (by decide) (by omega)
    have h0 := Nat.two_pow_pos (w 1).toNat
    have e1 : iShl 1 (w 1) = ((2 ^ (w 1).toNat : Nat) : Int) := by
      have := nu_one (k := (w 1).toNat) (by omega)
      rw [Int.toNat_of_nonneg c1.1] at this
      exact this
    rw [e1, show ((2 ^ (w 1).toNat : Nat) : Int) - 1 = ((2 ^ (w 1).toNat - 1 : Nat) : Int) by omega]
    congr 1
    apply bset_eq
    intro i
    rw [Nat.testBit_two_pow_sub_one]
    by_cases hi : i < 10
    · rw [decide_eq_true hi, Bool.true_and]
      exact decide_eq_decide.mpr (by omega)
    · rw [decide_eq_false hi, Bool.false_and]
      exact decide_eq_false (by omega)
  have start : iAnd (iAnd (iShl 1 (w 1) - 1) (iXor (M 23 4) (-1))) (iXor (iShl 1 (t : Int)) (-1)) = ((bset 10 (fun j => (decide ((j : Int) < w 1) && !(bset 10 (stB' w 3)).testBit j) && !decide (j = t)) : Nat) : Int) := by
    rw [all, hJ.2.2.1, andn_s (bset_31 (by decide)) (by decide), clr_bs (by decide) (by omega)]
  obtain ⟨g, q1, q2⟩ := gh_stands_run (K := fun v3_16 M_17 => (bif cmpB .eq v2 0 then some (rI v3_16, M_17) else (bI (land_cheapest 3 v3_16 M_17) fun z_22 M_21 => some (rI z_22, M_21)))) hW hL hJ ht (v2 := v2) 17 FU 0 (fun j => (decide ((j : Int) < w 1) && !(bset 10 (stB' w 3)).testBit j) && !decide (j = t)) rfl (FU_gt (by decide))
  have hg : bset 10 g = bset 10 (siS w t) := bset_cg 10 fun j hj => by
    rw [Bool.eq_iff_iff, q2 j hj]
    unfold siS siB
    have sd := sdB_iff (w := w) (t := t) (j := j)
    rw [bset_bit, decide_eq_true hj, Bool.true_and]
    simp only [Bool.and_eq_true, decide_eq_true_eq, Bool.not_eq_true', decide_eq_false_iff_not]
    unfold stB'
    constructor
    · rintro ⟨⟨⟨a, b⟩, c⟩, d⟩
      rw [decide_eq_true a, Bool.true_and] at b
      exact ⟨a, c, of_decide_eq_false b, sd.mpr fun l hl h1 h2 => (d l (by omega) hl h1 h2).2⟩
    · rintro ⟨a, b, c, d⟩
      refine ⟨⟨⟨a, ?_⟩, b⟩, fun l _ hl h1 h2 => ⟨a, sd.mp d l hl h1 h2⟩⟩
      rw [decide_eq_false c, Bool.and_false]
  unfold gh_stands land_allThings
  rw [checkThing_t hW.1 hL.1.2.1 (by omega) ht, bI_I, show M 3 1 = w 1 from hL.1.2.1, start]
  rw [show gh_stands_L32 (t : Int) v2 _ FU _ 0 M = _ from q1, hg]
  rcases hv with rfl | rfl
  · rw [bq_eq (by decide) (by decide), if_pos rfl, if_pos rfl]
  · rw [bq_eq (by decide) (by decide), if_neg (by decide), if_neg (by decide), land_cheapest_b hW.1 hW.2.2.1 hL (fun i hi => by unfold siS; rw [decide_eq_false (by omega), Bool.false_and])]
theorem fo_skip {f : Nat → Bool} : ∀ n i0 b, (∀ i, i0 ≤ i → i < i0 + n → f i = true) → fo (fun i (a : Bool) => a && f i) n i0 b = b
  | 0, i0, b, _ => rfl
  | n + 1, i0, b, h => by
    show fo (fun i (a : Bool) => a && f i) n (i0 + 1) (b && f i0) = b
    rw [h i0 (by omega) (by omega), Bool.and_true]
    exact fo_skip n (i0 + 1) b (fun i a c => h i (by omega) (by omega))
theorem mo_standsIn_b {N : MM} {j : Nat} {k : Int → MM → OR} (hw : N 166 = w) (hW : WF n w) (hn : n ≤ 1000) (ht : (t : Int) < w 1) (hj : (j : Int) < w 1) : bI (mo_standsIn (j : Int) (t : Int) N) k = k (b2 (sdB w t j)) N := by
  obtain ⟨hC, hP, hT, hR, hB, hG, -⟩ := hW
  have c0 := hC.1
  have c1 := hC.2.1
  have c3 := hC.2.2.2.1
  have c6 := hC.2.2.2.2.2.2.1
  have hCN : WC n (N 166) := by rw [hw]; exact hC
  have hPN : WP (N 166) := by rw [hw]; exact hP
  have hBN : WB (N 166) := by rw [hw]; exact hB
  have r1 : ∀ (K : Int → MM → OR), mo_standsIn_L5 (j : Int) (t : Int) K FU 1 0 N = K (b2 (fo (fun l (a : Bool) => a && (!(shB w l && ftB w l t) || ftB w l j)) (w 0).toNat 0 true)) N := by
    intro K
    refine fo_run0 (L := fun F (a : Bool) i => mo_standsIn_L5 (j : Int) (t : Int) K F (b2 a) i N) (K := fun a => K (b2 a) N) (g := fun l (a : Bool) => a && (!(shB w l && ftB w l t) || ftB w l j)) (N := (w 0).toNat) (a := true) (FU_gt (by omega)) (fun m a i hi => ?_) (fun m a => ?_)
    · have hi0 : (i : Int) < w 0 := by omega
      have p6 := (hP i (by omega) hi0).2.2.2.2.2.2.1
      have e1 : ∀ x : Nat, ftB w i x = fitK w (x : Int) (i : Int) := fun x => if_pos (by omega)
      have hsh : shB w i = (decide (oP w (i : Int) 0 = 1) && !decide (oP w (i : Int) 7 = 1)) := by
        unfold shB kpB paB
        rw [if_pos (by omega), decide_eq_true hi0, Bool.true_and, Bool.true_and]
      rw [mo_standsIn_L5, mo_places_b, hw, bq_ge (by omega) (by omega), if_neg (by omega), bz_eq0, hsh, e1, e1]
      cases a with
      | false => rw [cn_f, Bool.false_and]; rfl
      | true =>
        rw [cn_t, mo_isKeeper_b hCN hPN (by omega) (by rw [hw]; exact hi0), hw, bz_eq0, Bool.true_and]
        by_cases hk : oP w (i : Int) 0 = 1
        · rw [decide_eq_true hk, cn_t, mo_of_b (by omega) (by omega) (by decide) (by decide), hw, bq_eq (by omega) (by decide)]
          by_cases h7 : oP w (i : Int) 7 = 1
          · rw [if_pos h7, decide_eq_true h7]; rfl
          · rw [if_neg h7, decide_eq_false h7, mo_fitsKeeper_b hCN hPN (by omega) (by rw [hw]; exact ht) (by omega) (by rw [hw]; exact hi0), hw, bz_eq0]
            cases fitK w (t : Int) (i : Int) with
            | false => rfl
            | true =>
              rw [cn_t, mo_fitsKeeper_b hCN hPN (by omega) (by rw [hw]; exact hj) (by omega) (by rw [hw]; exact hi0), hw, bz_eq0]
              cases fitK w (j : Int) (i : Int) <;> rfl
        · rw [decide_eq_false hk, cn_f]; rfl
    · rw [mo_standsIn_L5, mo_places_b, hw, bq_ge (by omega) (by omega), if_pos (by omega)]
  have r2 : ∀ (K : Int → MM → OR) (b : Bool), mo_standsIn_L74 (j : Int) (t : Int) K FU (b2 b) 0 N = K (b2 (fo (fun l (a : Bool) => a && (!(shB w (10 + l) && ftB w (10 + l) t) || ftB w (10 + l) j)) (w 3).toNat 0 b)) N := by
    intro K b
    refine fo_run0 (L := fun F (a : Bool) i => mo_standsIn_L74 (j : Int) (t : Int) K F (b2 a) i N) (K := fun a => K (b2 a) N) (g := fun l (a : Bool) => a && (!(shB w (10 + l) && ftB w (10 + l) t) || ftB w (10 + l) j)) (N := (w 3).toNat) (a := b) (FU_gt (by omega)) (fun m a i hi => ?_) (fun m a => ?_)
    · have hi0 : (i : Int) < w 3 := by omega
      have b5 := (hB i (by omega) hi0).2.2.2.2.2
      have e1 : ∀ x : Nat, ftB w (10 + i) x = fitR w (x : Int) (i : Int) := fun x => by unfold ftB; rw [if_neg (by omega), show 10 + i - 10 = i by omega]
      have hsh : shB w (10 + i) = !decide (0 ≤ oB w (i : Int) 5) := by
        unfold shB frB
        rw [if_neg (by omega), show 10 + i - 10 = i by omega, decide_eq_true hi0, Bool.true_and, Bool.true_and]
      rw [mo_standsIn_L74, mo_brothers_b, hw, bq_ge (by omega) (by omega), if_neg (by omega), bz_eq0, hsh, e1, e1]
      cases a with
      | false => rw [cn_f, Bool.false_and]; rfl
      | true =>
        rw [cn_t, mo_ofBrother_b (by omega) (by omega) (by decide) (by decide), hw, bq_ge (by omega) (by decide), Bool.true_and]
        by_cases h5 : 0 ≤ oB w (i : Int) 5
        · rw [if_pos h5, decide_eq_true h5]; rfl
        · rw [if_neg h5, decide_eq_false h5, mo_fitsBrother_b hCN hBN (by omega) (by rw [hw]; exact ht) (by omega) (by rw [hw]; exact hi0), hw, bz_eq0]
          cases fitR w (t : Int) (i : Int) with
          | false => rfl
          | true =>
            rw [cn_t, mo_fitsBrother_b hCN hBN (by omega) (by rw [hw]; exact hj) (by omega) (by rw [hw]; exact hi0), hw, bz_eq0]
            cases fitR w (j : Int) (i : Int) <;> rfl
    · rw [mo_standsIn_L74, mo_brothers_b, hw, bq_ge (by omega) (by omega), if_pos (by omega)]
  have eq : fo (fun l (a : Bool) => a && (!(shB w (10 + l) && ftB w (10 + l) t) || ftB w (10 + l) j)) (w 3).toNat 0 (fo (fun l (a : Bool) => a && (!(shB w l && ftB w l t) || ftB w l j)) (w 0).toNat 0 true) = sdB w t j := by
    rw [Bool.eq_iff_iff, fo_allP, fo_allP]
    unfold sdB
    rw [fo_allP]
    constructor
    · rintro ⟨⟨-, h1⟩, h2⟩
      refine ⟨rfl, fun l a b => ?_⟩
      by_cases hl : l < 10
      · by_cases hl0 : (l : Int) < w 0
        · exact h1 l (by omega) (by omega)
        · have : shB w l = false := by unfold shB kpB; rw [if_pos hl, decide_eq_false hl0]; simp
          rw [this]; simp
      · by_cases hl0 : ((l - 10 : Nat) : Int) < w 3
        · have := h2 (l - 10) (by omega) (by omega)
          rw [show 10 + (l - 10) = l by omega] at this
          exact this
        · have : shB w l = false := by unfold shB; rw [if_neg hl, decide_eq_false hl0]; simp
          rw [this]; simp
    · rintro ⟨-, h⟩
      exact ⟨⟨rfl, fun i a b => h i (by omega) (by omega)⟩, fun i a b => h (10 + i) (by omega) (by omega)⟩
  unfold mo_standsIn
  rw [r1, r2, eq, bz_zo, bI_I]
end StandRows
theorem mo_stands_run {N : MM} {w : Nat → Int} {n t : Nat} {v2 : Int} {K : Int → Int → MM → OR} (hw : N 166 = w) (hW : WF n w) (hn : n ≤ 1000) (ht : (t : Int) < w 1) : ∀ k F i, k + i = (w 1).toNat → k < F → mo_stands_L28 (t : Int) v2 K F ((bset i (siB w t) : Nat) : Int) (fo (chG w (siB w t)) i 0 (-1)) (i : Int) N = K ((bset (w 1).toNat (siB w t) : Nat) : Int) (fo (chG w (siB w t)) (w 1).toNat 0 (-1)) N
  | 0, F, i, h, hF => by
    have c1 := hW.1.2.1
    obtain ⟨m, rfl⟩ : ∃ n, F = n + 1 := ⟨F - 1, by omega⟩
    obtain rfl : i = (w 1).toNat := by omega
    rw [mo_stands_L28, mo_things_b, hw, bq_ge (by omega) (by omega), if_pos (by omega)]
  | k + 1, F, i, h, hF => by
    have c1 := hW.1.2.1
    obtain ⟨m, rfl⟩ : ∃ n, F = n + 1 := ⟨F - 1, by omega⟩
    have hi : (i : Int) < w 1 := by omega
    have hb := chG_b (w := w) (f := siB w t) i
    obtain ⟨t0, t1, t2, -⟩ := hW.2.2.1 i (by omega) hi
    have nx := mo_stands_run (v2 := v2) (K := K) hw hW hn ht k m (i + 1) (by omega) (by omega)
    rw [fo_s, Nat.zero_add] at nx
    have ob := orB_bs (f := siB w t) (i := i) (by omega)
    unfold orB at ob
    rw [← ob] at nx
    rw [mo_stands_L28, mo_things_b, hw, bq_ge (by omega) (by omega), if_neg (by omega), bq_eq (by omega) (by omega), show (i : Int) + 1 = ((i + 1 : Nat) : Int) by omega]
    generalize fo (chG w (siB w t)) i 0 (-1) = a at *
    rw [show chG w (siB w t) i a = (bif siB w t i then (if a = -1 ∨ oT w (i : Int) 1 < oT w a 1 then (i : Int) else a) else a) from rfl] at nx
    have nf : siB w t i = false → mo_stands_L28 (t : Int) v2 K m ((bset i (siB w t) : Nat) : Int) a ((i + 1 : Nat) : Int) N = K ((bset (w 1).toNat (siB w t) : Nat) : Int) (fo (chG w (siB w t)) (w 1).toNat 0 (-1)) N := fun hf => by
      rw [hf, cn_f, cn_f] at nx
      exact nx
    by_cases hit : i = t
    · rw [if_pos (by omega)]
      exact nf (by unfold siB; rw [decide_eq_true hit]; rfl)
    · rw [if_neg (by omega), mo_ofThing_b (by omega) (by omega) (by decide) (by decide), hw, bq_eq (by omega) (by decide)]
      by_cases h3 : oT w (i : Int) 2 = 3
      · rw [if_pos h3]
        exact nf (by unfold siB; rw [decide_eq_true h3]; simp)
      · rw [if_neg h3, mo_standsIn_b hw hW hn ht hi, bz_ne0]
        have hsi : siB w t i = sdB w t i := by unfold siB; rw [decide_eq_false hit, decide_eq_false h3]; simp
        cases hs : sdB w t i with
        | false =>
          rw [cn_f]
          exact nf (hsi.trans hs)
        | true =>
          rw [hsi, hs, cn_t, cn_t] at nx
          rw [cn_t, bq_lt (by omega) (by decide)]
          by_cases ha : a = -1
          · rw [if_pos (by omega)]
            rw [if_pos (Or.inl ha)] at nx
            exact nx
          · have ta := (hW.2.2.1 a (by omega) (by omega)).2.1
            rw [if_neg (by omega), mo_ofThing_b (by omega) (by omega) (by decide) (by decide), mo_ofThing_b (by omega) (by omega) (by decide) (by decide), hw, bq_ge (by omega) (by omega)]
            by_cases hlt : oT w (i : Int) 1 < oT w a 1
            · rw [if_neg (by omega)]
              rw [if_pos (Or.inr hlt)] at nx
              exact nx
            · rw [if_pos (by omega)]
              rw [if_neg (fun h => by rcases h with h | h <;> omega)] at nx
              exact nx
theorem ok_stands {v v2 : Int} (hp : I32 v) (hv : v2 = 0 ∨ v2 = 1) : OpOK (drv_stands v v2) (mo_stands v v2) := by
  refine op_read fun k M hk hI => ?_
  obtain ⟨-, hW, hL, hJ, -⟩ := hI
  have b1 := bset_31 (f := siS (M 166) v.toNat) (show 10 ≤ 31 by decide)
  have b2' := chG_b (w := M 166) (f := siS (M 166) v.toNat) (M 166 1).toNat
  have c1 := hW.1.2.1
  have hzI : I32 (if v2 = 0 then ((bset 10 (siS (M 166) v.toNat) : Nat) : Int) else fo (chG (M 166) (siS (M 166) v.toNat)) (M 166 1).toNat 0 (-1)) := by split <;> omega
  refine ⟨if 0 ≤ v ∧ v < M 166 1 then 0 else 1, if v2 = 0 then ((bset 10 (siS (M 166) v.toNat) : Nat) : Int) else fo (chG (M 166) (siS (M 166) v.toNat)) (M 166 1).toNat 0 (-1), by split <;> decide, fun _ => hzI, fun hx => ?_, fun N hN e _ => ?_⟩
  · show AnsC (hN (fun c_6 M_2 => (bif Nat.beq c_6 15 then some (rI 1, M_2) else none)) (gh_stands v v2 M)) M _ _
    by_cases h1 : 0 ≤ v ∧ v < M 166 1
    · rw [if_pos h1]
      refine ansC_ret (M1 := M) hx ?_ hzI Core.rfl' rfl
      obtain ⟨t, rfl⟩ : ∃ n : Nat, v = (n : Int) := ⟨v.toNat, by omega⟩
      exact gh_stands_v hW hL hJ h1.2 hv
    · rw [if_neg h1]
      exact ansC_thr (c := 15) hx (checkThing_f hW.1 hL.1.2.1 hx hp h1) rfl (by decide) Core.rfl' rfl
  · have hWN := hN.2.1
    have c1N := hWN.1.2.1
    rw [← e] at *
    by_cases h1 : 0 ≤ v ∧ v < N 166 1
    · rw [if_pos h1]
      refine ansR_r0 ?_
      obtain ⟨t, rfl⟩ : ∃ n : Nat, v = (n : Int) := ⟨v.toNat, by omega⟩
      have run := mo_stands_run (N := mU N 165 0 0) (w := N 166) (n := k + 1) (t := t) (v2 := v2) (K := fun v3_24 v4_25 M_26 => (bif cmpB .eq v2 0 then some (rI v3_24, M_26) else some (rI v4_25, M_26))) rfl hWN (by omega) h1.2 (N 166 1).toNat FU 0 rfl (FU_gt (by omega))
      have e1 : bset (N 166 1).toNat (siB (N 166) t) = bset 10 (siS (N 166) t) := by
        rw [← bset_ext (f := siB (N 166) t) (show (N 166 1).toNat ≤ 10 by omega)]
        apply bset_cg
        intro i hi
        unfold siS
        congr 1
        exact decide_eq_decide.mpr (by omega)
      have e2 : fo (chG (N 166) (siB (N 166) t)) (N 166 1).toNat 0 (-1) = fo (chG (N 166) (siS (N 166) t)) (N 166 1).toNat 0 (-1) := fo_cg _ 0 _ fun i a h2 h3 => by
        unfold chG siS
        rw [decide_eq_true (show (i : Int) < N 166 1 by omega), Bool.true_and]
      unfold mo_stands
      rw [sM_eq, mo_noThing_b (M := mU N 165 0 0) (n := k + 1) hWN.1 hp, decide_eq_true (show 0 ≤ (t : Int) ∧ (t : Int) < (mU N 165 0 0) 166 1 from h1), Bool.not_true, mo_throwsIf_f, bz_eq0, cn_f, Int.toNat_natCast, ← e1, ← e2]
      rcases hv with rfl | rfl
      · rw [if_pos rfl]
        exact run
      · rw [if_neg (by decide)]
        exact run
    · rw [if_neg h1]
      refine ansR_thr (z' := 0) ?_ (by decide)
      unfold mo_stands
      rw [sM_eq, mo_noThing_b (M := mU N 165 0 0) (n := k + 1) hWN.1 hp, decide_eq_false (show ¬ (0 ≤ v ∧ v < (mU N 165 0 0) 166 1) from h1), Bool.not_false, mo_throwsIf_t, bz_eq0, cn_t]
