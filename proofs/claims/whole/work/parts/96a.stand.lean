/-! ===== NEEDED, STANDS ===== -/
theorem fo_allP {f : Nat → Bool} : ∀ n i0 b, (fo (fun i (a : Bool) => a && f i) n i0 b = true) ↔ (b = true ∧ ∀ i, i0 ≤ i → i < i0 + n → f i = true)
  | 0, i0, b => ⟨fun h => ⟨h, fun i a c => absurd c (by omega)⟩, fun h => h.1⟩
  | n + 1, i0, b => by
    show (fo (fun i (a : Bool) => a && f i) n (i0 + 1) (b && f i0) = true) ↔ _
    rw [fo_allP n (i0 + 1) (b && f i0), Bool.and_eq_true]
    constructor
    · rintro ⟨⟨h1, h2⟩, h3⟩
      refine ⟨h1, fun i a c => ?_⟩
      by_cases hi : i = i0
      · subst hi; exact h2
      · exact h3 i (by omega) (by omega)
    · rintro ⟨h1, h2⟩
      exact ⟨⟨h1, h2 i0 (by omega) (by omega)⟩, fun i a c => h2 i (by omega) (by omega)⟩
theorem or_runO {L : Nat → Int → Int → OR} {K : Int → OR} {f : Nat → Bool} {N o : Nat} (hN : o + N ≤ 31) (hs : ∀ n (a : Nat) (i : Nat), i < N → a < 2147483648 → L (n + 1) (a : Int) (i : Int) = L n (bif f (o + i) then iOr (a : Int) (iShl 1 ((o + i : Nat) : Int)) else (a : Int)) ((i : Int) + 1)) (he : ∀ n a, L (n + 1) a (N : Int) = K a) :
    ∀ k F i, k + i = N → k < F → L F ((bset (o + i) f : Nat) : Int) (i : Int) = K ((bset (o + N) f : Nat) : Int)
  | 0, F, i, h, hF => by
    obtain ⟨n, rfl⟩ : ∃ n, F = n + 1 := ⟨F - 1, by omega⟩
    obtain rfl : i = N := by omega
    exact he n _
  | k + 1, F, i, h, hF => by
    obtain ⟨n, rfl⟩ : ∃ n, F = n + 1 := ⟨F - 1, by omega⟩
    rw [hs n _ i (by omega) (bset_31 (by omega))]
    have := orB_bs (f := f) (i := o + i) (by omega)
    unfold orB at this
    rw [this, show (i : Int) + 1 = ((i + 1 : Nat) : Int) by omega]
    exact or_runO hN hs he k n (i + 1) (by omega) (by omega)
theorem bset_zx {f : Nat → Bool} {n m : Nat} (h : n ≤ m) (hz : ∀ i, n ≤ i → i < m → f i = false) : bset n f = bset m f := by
  rw [← bset_ext (f := f) h]
  apply bset_cg
  intro i hi
  by_cases hin : i < n
  · rw [decide_eq_true hin, Bool.true_and]
  · rw [decide_eq_false hin, Bool.false_and, hz i (by omega) hi]
-- locks, keepers' and brothers'
def shB (w : Nat → Int) (l : Nat) : Bool := if l < 10 then kpB w l && !paB w l else decide (((l - 10 : Nat) : Int) < w 3) && !frB w (l - 10)
def ftB (w : Nat → Int) (l t : Nat) : Bool := if l < 10 then fitK w (t : Int) (l : Int) else fitR w (t : Int) ((l - 10 : Nat) : Int)
section LockRows
variable {M : MM} {w : Nat → Int} {n l : Nat} {k : Int → MM → OR}
theorem isShut_b (hW : WF n w) (hL : LandR 3 w M) (hJ : JnyR 23 w M) (hl : l < 17) : bI (gh_isShut (l : Int) M) k = k (b2 (shB w l)) M := by
  have c3 := hW.1.2.2.2.1
  unfold gh_isShut shB
  rw [bq_ge (by omega) (by decide)]
  by_cases h : l < 10
  · rw [if_neg (by omega), if_pos h, hJ.2.2.2.2.1, land_isHeldBy_b hL (by omega) (by omega) (bset_31 (by decide)), Int.toNat_natCast, bset_bit, decide_eq_true h, Bool.true_and, bz_zo]; rfl
  · rw [if_pos (by omega), if_neg h, hL.1.2.2.2.1, bq_ge (by omega) (by omega)]
    by_cases h2 : ((l - 10 : Nat) : Int) < w 3
    · rw [if_neg (by omega), decide_eq_true h2, Bool.true_and, hJ.2.2.2.2.2.1, show (l : Int) - 10 = ((l - 10 : Nat) : Int) by omega, gh_bit_s (by decide) (by omega) (by omega), Int.toNat_natCast, bz_ne0, b_10]; rfl
    · rw [if_pos (by omega), decide_eq_false h2, Bool.false_and]; rfl
theorem shut_p (hs : shB w l = true) (h : l < 10) : (l : Int) < w 0 ∧ oP w (l : Int) 0 = 1 := by
  unfold shB at hs
  rw [if_pos h] at hs
  unfold kpB at hs
  simp only [Bool.and_eq_true, decide_eq_true_eq] at hs
  exact ⟨hs.1.1, hs.1.2⟩
theorem shut_r (hs : shB w l = true) (h : ¬ l < 10) : ((l - 10 : Nat) : Int) < w 3 := by
  unfold shB at hs
  rw [if_neg h] at hs
  simp only [Bool.and_eq_true, decide_eq_true_eq] at hs
  exact hs.1
theorem opens_sh (hW : WF n w) (hL : LandR 3 w M) (hl : l < 17) (hs : shB w l = true) {t : Nat} (ht : (t : Int) < w 1) : bI (land_opens 3 (M 9 t) (l : Int) M) k = k (b2 (ftB w l t)) M := by
  have e9 : M 9 t = oT w (t : Int) 0 := by
    have := (hL.2.2.2.2.1 t (by omega) ht).1
    rw [Int.toNat_natCast] at this
    exact this
  unfold ftB
  by_cases h : l < 10
  · obtain ⟨a, b⟩ := shut_p hs h
    rw [if_pos h, e9, land_opens_p hL hW.1 hW.2.1 (by omega) a b]; rfl
  · have a := shut_r hs h
    rw [if_neg h, e9, show (l : Int) = 10 + ((l - 10 : Nat) : Int) by omega, land_opens_r hL hW.1 hW.2.2.2.2.1 (by omega) a]
    rfl
theorem openers_sh (hW : WF n w) (hL : LandR 3 w M) (hl : l < 17) (hs : shB w l = true) : bI (land_openers 3 (l : Int) M) k = k ((bset 10 (fun j => decide ((j : Int) < w 1) && ftB w l j) : Nat) : Int) M := by
  have c1 := hW.1.2.1
  rw [land_openers_b (by rw [hL.1.2.1]; exact c1) (by omega) (by omega)]
  congr 2
  apply bset_cg
  intro j hj
  unfold ftB
  by_cases h : l < 10
  · obtain ⟨a, b⟩ := shut_p hs h
    rw [if_pos h, opB_p hL hW.2.1 (by omega) a b j]
  · have a := shut_r hs h
    rw [if_neg h, show (l : Int) = 10 + ((l - 10 : Nat) : Int) by omega, opB_r hL hW.2.2.2.2.1 (by omega) a j]
end LockRows
-- needed
def ndB (w : Nat → Int) (l : Nat) : Bool := shB w l && decide (bset 10 (fun j => (decide ((j : Int) < w 1) && ftB w l j) && !stB' w 3 j) = 0)
theorem bset_z {f : Nat → Bool} {n : Nat} : bset n f = 0 ↔ ∀ i, i < n → f i = false := by
  constructor
  · intro h i hi
    have := bset_bit f i n
    rw [h, Nat.zero_testBit, decide_eq_true hi, Bool.true_and] at this
    exact this.symm
  · intro h
    rw [bset_cg (f' := fun _ => false) n h]
    apply Nat.eq_of_testBit_eq
    intro i
    rw [bset_bit, Bool.and_false, Nat.zero_testBit]
theorem ndB_eq {n : Nat} {w : Nat → Int} (hC : WC n w) (l : Nat) : ndB w l = fo (fun t (a : Bool) => a && (decide (oT w (t : Int) 2 = 3) || !ftB w l t)) (w 1).toNat 0 (shB w l) := by
  have c1 := hC.2.1
  rw [Bool.eq_iff_iff, fo_allP]
  unfold ndB
  rw [Bool.and_eq_true, decide_eq_true_eq, bset_z]
  constructor
  · rintro ⟨h1, h2⟩
    refine ⟨h1, fun i a b => ?_⟩
    have hi : (i : Int) < w 1 := by omega
    have := h2 i (by omega)
    unfold stB' at this
    rw [decide_eq_true hi, Bool.true_and, Bool.true_and] at this
    cases hf : ftB w l i with
    | false => simp
    | true => rw [hf] at this; simpa using this
  · rintro ⟨h1, h2⟩
    refine ⟨h1, fun i hi => ?_⟩
    by_cases hT : (i : Int) < w 1
    · have := h2 i (by omega) (by omega)
      unfold stB'
      rw [decide_eq_true hT, Bool.true_and, Bool.true_and]
      cases hf : ftB w l i with
      | false => simp
      | true => rw [hf] at this; simpa using this
    · rw [decide_eq_false hT, Bool.false_and, Bool.false_and]
theorem gh_needed_v {M : MM} {w : Nat → Int} {n : Nat} (hW : WF n w) (hL : LandR 3 w M) (hJ : JnyR 23 w M) : gh_needed M = some (rI ((bset 17 (ndB w) : Nat) : Int), M) := by
  unfold gh_needed
  rw [or_run0 (L := fun F a i => gh_needed_L4 (fun v1_7 M_8 => some (rI v1_7, M_8)) F a i M) (K := fun a => some (rI a, M)) (f := ndB w) (N := 17) (by decide) (FU_gt (by decide)) ?_ ?_]
  · intro n a i hi ha
    rw [gh_needed_L4, bq_ge (by omega) (by decide), if_neg (by omega), isShut_b hW hL hJ hi, bz_eq0]
    unfold ndB
    cases hs : shB w i with
    | false => rw [cn_f, Bool.false_and, cn_f]
    | true =>
      have hlt := bset_31 (f := fun j => (decide ((j : Int) < w 1) && ftB w i j) && !(bset 10 (stB' w 3)).testBit j) (show 10 ≤ 31 by decide)
      have e : bset 10 (fun j => (decide ((j : Int) < w 1) && ftB w i j) && !(bset 10 (stB' w 3)).testBit j) = bset 10 (fun j => (decide ((j : Int) < w 1) && ftB w i j) && !stB' w 3 j) := bset_cg 10 fun j hj => by rw [bset_bit, decide_eq_true hj, Bool.true_and]
      rw [cn_t, openers_sh hW hL hi hs, hJ.2.2.1, andn_s (bset_31 (by decide)) (by decide), bq_ne (by omega) (by decide), e, Bool.true_and]
      by_cases hz : bset 10 (fun j => (decide ((j : Int) < w 1) && ftB w i j) && !stB' w 3 j) = 0
      · rw [if_pos (by omega), decide_eq_true hz, cn_t]
      · rw [if_neg (by omega), decide_eq_false hz, cn_f]
  · intro n a
    rw [gh_needed_L4, bq_ge (by decide) (by decide), if_pos (by decide)]
theorem mo_needed_v {N : MM} {n : Nat} (hW : WF n (N 166)) (hn : n ≤ 1000) : mo_needed N = some (rI ((bset 17 (ndB (N 166)) : Nat) : Int), mU N 165 0 0) := by
  obtain ⟨hC, hP, hT, hR, hB, hG, -⟩ := hW
  have c0 := hC.1
  have c1 := hC.2.1
  have c3 := hC.2.2.2.1
  have c6 := hC.2.2.2.2.2.2.1
  generalize hA : mU N 165 0 0 = A
  have wA : A 166 = N 166 := by rw [← hA]; rfl
  generalize N 166 = w at *
  have hCA : WC n (A 166) := by rw [wA]; exact hC
  have hPA : WP (A 166) := by rw [wA]; exact hP
  have hBA : WB (A 166) := by rw [wA]; exact hB
  have in1 : ∀ (K : Int → MM → OR) (v1 : Int) (p : Nat) (b : Bool), (p : Int) < w 0 → p < 10 → mo_needed_L44 v1 (p : Int) K FU (b2 b) 0 A = K (b2 (fo (fun t (a : Bool) => a && (decide (oT w (t : Int) 2 = 3) || !ftB w p t)) (w 1).toNat 0 b)) A := by
    intro K v1 p b hp hp10
    refine fo_run0 (L := fun F (a : Bool) i => mo_needed_L44 v1 (p : Int) K F (b2 a) i A) (K := fun a => K (b2 a) A) (g := fun t (a : Bool) => a && (decide (oT w (t : Int) 2 = 3) || !ftB w p t)) (N := (w 1).toNat) (a := b) (FU_gt (by omega)) (fun m a i hi => ?_) (fun m a => ?_)
    · have t2 := (hT i (by omega) (by omega)).2.2.1
      rw [mo_needed_L44, mo_things_b, wA, bq_ge (by omega) (by omega), if_neg (by omega), bz_eq0]
      cases a with
      | false => rw [cn_f, Bool.false_and]; rfl
      | true =>
        rw [cn_t, mo_ofThing_b (by omega) (by omega) (by decide) (by decide), wA, bq_eq (by omega) (by decide), Bool.true_and]
        by_cases h3 : oT w (i : Int) 2 = 3
        · rw [if_pos h3, decide_eq_true h3, Bool.true_or]; rfl
        · rw [if_neg h3, decide_eq_false h3, Bool.false_or, mo_fitsKeeper_b hCA hPA (by omega) (by rw [wA]; omega) (by omega) (by rw [wA]; exact hp), wA, bz_ne0, show ftB w p i = fitK w (i : Int) (p : Int) from if_pos hp10]
          cases fitK w (i : Int) (p : Int) <;> rfl
    · rw [mo_needed_L44, mo_things_b, wA, bq_ge (by omega) (by omega), if_pos (by omega)]
  have in2 : ∀ (K : Int → MM → OR) (v1 : Int) (p : Nat) (b : Bool), (p : Int) < w 3 → mo_needed_L138 v1 (p : Int) K FU (b2 b) 0 A = K (b2 (fo (fun t (a : Bool) => a && (decide (oT w (t : Int) 2 = 3) || !ftB w (10 + p) t)) (w 1).toNat 0 b)) A := by
    intro K v1 p b hp
    refine fo_run0 (L := fun F (a : Bool) i => mo_needed_L138 v1 (p : Int) K F (b2 a) i A) (K := fun a => K (b2 a) A) (g := fun t (a : Bool) => a && (decide (oT w (t : Int) 2 = 3) || !ftB w (10 + p) t)) (N := (w 1).toNat) (a := b) (FU_gt (by omega)) (fun m a i hi => ?_) (fun m a => ?_)
    · have t2 := (hT i (by omega) (by omega)).2.2.1
      rw [mo_needed_L138, mo_things_b, wA, bq_ge (by omega) (by omega), if_neg (by omega), bz_eq0]
      cases a with
      | false => rw [cn_f, Bool.false_and]; rfl
      | true =>
        rw [cn_t, mo_ofThing_b (by omega) (by omega) (by decide) (by decide), wA, bq_eq (by omega) (by decide), Bool.true_and]
        by_cases h3 : oT w (i : Int) 2 = 3
        · rw [if_pos h3, decide_eq_true h3, Bool.true_or]; rfl
        · rw [if_neg h3, decide_eq_false h3, Bool.false_or, mo_fitsBrother_b hCA hBA (by omega) (by rw [wA]; omega) (by omega) (by rw [wA]; exact hp), wA, bz_ne0, show ftB w (10 + p) i = fitR w (i : Int) (p : Int) from by unfold ftB; rw [if_neg (by omega), show 10 + p - 10 = p by omega]]
          cases fitR w (i : Int) (p : Int) <;> rfl
    · rw [mo_needed_L138, mo_things_b, wA, bq_ge (by omega) (by omega), if_pos (by omega)]
  have shp : ∀ p : Nat, (p : Int) < w 0 → shB w p = (decide (oP w (p : Int) 0 = 1) && decide (oP w (p : Int) 7 = 0)) := fun p hp => by
    have p6 := (hP p (by omega) hp).2.2.2.2.2.2.1
    unfold shB kpB paB
    rw [if_pos (by omega), decide_eq_true hp, Bool.true_and, Bool.true_and]
    rcases p6 with h | h <;> rw [h] <;> rfl
  have run1 : mo_needed_L9 (fun v1_24 M_25 => (mo_needed_L112 (fun v1_47 M_48 => some (rI v1_47, M_48)) FU v1_24 0 M_25)) FU 0 0 A = mo_needed_L112 (fun v1_47 M_48 => some (rI v1_47, M_48)) FU ((bset (w 0).toNat (ndB w) : Nat) : Int) 0 A := by
    refine or_run0 (L := fun F a i => mo_needed_L9 (fun v1_24 M_25 => (mo_needed_L112 (fun v1_47 M_48 => some (rI v1_47, M_48)) FU v1_24 0 M_25)) F a i A) (K := fun a => mo_needed_L112 (fun v1_47 M_48 => some (rI v1_47, M_48)) FU a 0 A) (f := ndB w) (N := (w 0).toNat) (by omega) (FU_gt (by omega)) (fun m a i hi ha => ?_) (fun m a => ?_)
    · have hi0 : (i : Int) < w 0 := by omega
      have p6 := (hP i (by omega) hi0).2.2.2.2.2.2.1
      have fin : ∀ b, shB w i = b → mo_needed_J40 (mo_needed_L9 (fun v1_24 M_25 => (mo_needed_L112 (fun v1_47 M_48 => some (rI v1_47, M_48)) FU v1_24 0 M_25)) m) (fun v1_24 M_25 => (mo_needed_L112 (fun v1_47 M_48 => some (rI v1_47, M_48)) FU v1_24 0 M_25)) (a : Int) (i : Int) (b2 b) A = mo_needed_L9 (fun v1_24 M_25 => (mo_needed_L112 (fun v1_47 M_48 => some (rI v1_47, M_48)) FU v1_24 0 M_25)) m (bif ndB w i then iOr (a : Int) (iShl 1 (i : Int)) else (a : Int)) ((i : Int) + 1) A := by
        intro b hb
        unfold mo_needed_J40
        rw [in1 _ _ i b hi0 (by omega), ← hb, ← ndB_eq hC, bz_eq0, nu_or0 ha]
        cases ndB w i with
        | true => rw [cn_t, cn_t]
        | false => rw [cn_f, cn_f]
      rw [mo_needed_L9, mo_places_b, wA, bq_ge (by omega) (by omega), if_neg (by omega), mo_isKeeper_b hCA hPA (by omega) (by rw [wA]; exact hi0), wA, bz_eq0]
      unfold mo_needed_J39
      have hsh := shp i hi0
      by_cases hk : oP w (i : Int) 0 = 1
      · rw [decide_eq_true hk, Bool.true_and] at hsh
        rw [decide_eq_true hk, cn_t, mo_of_b (by omega) (by omega) (by decide) (by decide), wA, bq_ne (by omega) (by decide)]
        by_cases h7 : oP w (i : Int) 7 = 0
        · rw [if_pos h7]
          exact fin true (by rw [hsh, decide_eq_true h7])
        · rw [if_neg h7]
          exact fin false (by rw [hsh, decide_eq_false h7])
      · rw [decide_eq_false hk, cn_f]
        exact fin false (by rw [hsh, decide_eq_false hk, Bool.false_and])
    · rw [mo_needed_L9, mo_places_b, wA, bq_ge (by omega) (by omega), if_pos (by omega)]
  have z1 : bset (w 0).toNat (ndB w) = bset 10 (ndB w) := bset_zx (by omega) fun i a b => by
    unfold ndB shB kpB
    rw [if_pos b, decide_eq_false (show ¬ (i : Int) < w 0 by omega)]; simp
  have z2 : bset (10 + (w 3).toNat) (ndB w) = bset 17 (ndB w) := bset_zx (by omega) fun i a b => by
    unfold ndB shB
    rw [if_neg (by omega), decide_eq_false (show ¬ ((i - 10 : Nat) : Int) < w 3 by omega)]; simp
  have run2 : mo_needed_L112 (fun v1_47 M_48 => some (rI v1_47, M_48)) FU ((bset (10 + 0) (ndB w) : Nat) : Int) ((0 : Nat) : Int) A = some (rI ((bset (10 + (w 3).toNat) (ndB w) : Nat) : Int), A) := by
    refine or_runO (L := fun F a i => mo_needed_L112 (fun v1_47 M_48 => some (rI v1_47, M_48)) F a i A) (K := fun a => some (rI a, A)) (f := ndB w) (N := (w 3).toNat) (o := 10) (by omega) (fun m a i hi ha => ?_) (fun m a => ?_) (w 3).toNat FU 0 rfl (FU_gt (by omega))
    · have hi0 : (i : Int) < w 3 := by omega
      have b5 := (hB i (by omega) hi0).2.2.2.2.2
      have fin : ∀ b, shB w (10 + i) = b → mo_needed_J134 (mo_needed_L112 (fun v1_47 M_48 => some (rI v1_47, M_48)) m) (fun v1_47 M_48 => some (rI v1_47, M_48)) (a : Int) (i : Int) (b2 b) A = mo_needed_L112 (fun v1_47 M_48 => some (rI v1_47, M_48)) m (bif ndB w (10 + i) then iOr (a : Int) (iShl 1 ((10 + i : Nat) : Int)) else (a : Int)) ((i : Int) + 1) A := by
        intro b hb
        unfold mo_needed_J134
        rw [in2 _ _ i b hi0, ← hb, ← ndB_eq hC, bz_eq0, nu_or0 ha, show (10 : Int) + (i : Int) = ((10 + i : Nat) : Int) by omega]
        cases ndB w (10 + i) with
        | true => rw [cn_t, cn_t]
        | false => rw [cn_f, cn_f]
      have hsh : shB w (10 + i) = !decide (0 ≤ oB w (i : Int) 5) := by
        unfold shB frB
        rw [if_neg (by omega), show 10 + i - 10 = i by omega, decide_eq_true hi0, Bool.true_and, Bool.true_and]
      rw [mo_needed_L112, mo_brothers_b, wA, bq_ge (by omega) (by omega), if_neg (by omega), mo_ofBrother_b (by omega) (by omega) (by decide) (by decide), wA, bq_ge (by omega) (by decide)]
      by_cases h5 : 0 ≤ oB w (i : Int) 5
      · rw [if_pos h5]
        exact fin false (by rw [hsh, decide_eq_true h5]; rfl)
      · rw [if_neg h5]
        exact fin true (by rw [hsh, decide_eq_false h5]; rfl)
    · rw [mo_needed_L112, mo_brothers_b, wA, bq_ge (by omega) (by omega), if_pos (by omega)]
  unfold mo_needed
  rw [sM_eq, hA, run1, z1]
  rw [z2] at run2
  exact run2
theorem ok_needed : OpOK0 gh_needed mo_needed := by
  refine op_read0 fun k M hk hI => ⟨((bset 17 (ndB (M 166)) : Nat) : Int), ?_, ⟨M, gh_needed_v hI.2.1 hI.2.2.1 hI.2.2.2.1, Core.rfl', rfl⟩, fun N hN e C => ⟨mU N 165 0 0, by rw [← e]; exact mo_needed_v hN.2.1 (by omega), Core_t0, rfl⟩⟩
  have := bset_31 (f := ndB (M 166)) (show 17 ≤ 31 by decide)
  omega
