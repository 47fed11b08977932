/-! ===== THE STEPS on packed states, as the reference takes them ===== -/
def oJ (o : Option Nat) : Int := match o with
  | some x => (x : Int)
  | none => -1
theorem fo_any {f : Nat → Bool} : ∀ n, (fo (fun i (a : Bool) => a || f i) n 0 false = true) ↔ bset n f ≠ 0
  | 0 => by
    show (false = true) ↔ (0 : Nat) ≠ 0
    simp
  | n + 1 => by
    have ih := fo_any (f := f) n
    rw [fo_s, Nat.zero_add]
    show ((fo (fun i (a : Bool) => a || f i) n 0 false || f n) = true) ↔ (bset n f ||| (bif f n then 2 ^ n else 0)) ≠ 0
    cases hf : f n with
    | true =>
      simp only [Bool.or_true, true_iff, cond_true]
      intro h
      have := Nat.two_pow_pos n
      have h2 : (bset n f ||| 2 ^ n).testBit n = true := by rw [Nat.testBit_or, Nat.testBit_two_pow_self, Bool.or_true]
      rw [h, Nat.zero_testBit] at h2
      cases h2
    | false =>
      simp only [Bool.or_false, cond_false, Nat.or_zero]
      exact ih
theorem sG_lt (s t : Nat) : sG s t < 4 := fd_lt s (14 + 2 * t) 2
section StepRows
variable {N : MM} {n s : Nat}
theorem mo_takes_b {t : Nat} {k : Int → MM → OR} (hC : WC n (N 166)) (hT : WT (N 166)) (hs : PK s) (ht : (t : Int) < N 166 1) : bJ (mo_takes (s : Int) (t : Int) N) k = k (oJ (sTk (N 166) s t)) N := by
  have c0 := hC.1
  have c1 := hC.2.1
  have h4 := sG_lt s t
  have h5 := fd_lt s 5 4
  have hb := cnt_le (sCar (N 166) s).testBit 10
  obtain ⟨t0, t1, t2, t3⟩ := hT t (by omega) ht
  unfold mo_takes sTk
  rw [mo_stateOf_b hs (by omega), bq_ne (by omega) (by decide)]
  by_cases h0 : sG s t = 0
  · rw [if_pos (by omega), mo_ofThing_b (by omega) (by omega) (by decide) (by decide), mo_placeOf_b hs, show ((fd s 5 4 : Nat) : Int) = sPl s from rfl, bq_ne (by omega) (by unfold sPl; omega)]
    by_cases h1 : oT (N 166) (t : Int) 3 = sPl s
    · rw [if_pos h1, show bI (mo_thingsIn (s : Int) 2 N) _ = _ from mo_thingsIn_b (z := 2) hC hs (by decide), bc_v, bI_I, show bset (N 166 1).toNat (tsB s 2) = sCar (N 166) s from rfl, bcv_s (sCar_lt hC s), bq_ge (by omega) (by decide)]
      by_cases h2 : cnt (sCar (N 166) s).testBit 10 < 4
      · rw [if_neg (by omega), if_pos ⟨h0, h1, h2⟩, show bJ (mo_withState (s : Int) (t : Int) 2 N) _ = _ from mo_withState_b (v := 2) hs (by omega) (by decide)]; rfl
      · rw [if_pos (by omega), if_neg (fun g => h2 g.2.2)]; rfl
    · rw [if_neg h1, if_neg (fun g => h1 g.2.1)]; rfl
  · rw [if_neg (by omega), if_neg (fun g => h0 g.1)]; rfl
theorem mo_frees_b {b : Nat} {k : Int → MM → OR} (hC : WC n (N 166)) (hB : WB (N 166)) (hs : PK s) (hb : (b : Int) < N 166 3) : bJ (mo_frees (s : Int) (b : Int) N) k = k (oJ (sFr (N 166) s b)) N := by
  have c0 := hC.1
  have c1 := hC.2.1
  have c3 := hC.2.2.2.1
  have h5 := fd_lt s 5 4
  have hf := fd_lt s 44 7
  have b0 := (hB b (by omega) hb).1
  have hTT : N 166 1 = (((N 166 1).toNat : Nat) : Int) := by omega
  have key : ∀ (K : Int → MM → OR), mo_frees_L6 (s : Int) (b : Int) K FU 0 0 N = K (b2 (fo (fun i (a : Bool) => a || sCf (N 166) s b i) (N 166 1).toNat 0 false)) N := by
    intro K
    refine fo_run0 (L := fun F (a : Bool) i => mo_frees_L6 (s : Int) (b : Int) K F (b2 a) i N) (K := fun a => K (b2 a) N) (g := fun i (a : Bool) => a || sCf (N 166) s b i) (N := (N 166 1).toNat) (a := false) (FU_gt (by omega)) (fun m a i hi => ?_) (fun m a => ?_)
    · have h4 := sG_lt s i
      rw [mo_frees_L6, mo_things_b, bq_ge (by omega) (by omega), if_neg (by omega), bz_ne0]
      cases a with
      | true => rw [cn_t, Bool.true_or]; rfl
      | false =>
        rw [cn_f, Bool.false_or, mo_stateOf_b hs (by omega), bq_ne (by omega) (by decide)]
        unfold sCf
        by_cases h2 : sG s i = 2
        · rw [if_pos (by omega), decide_eq_true h2, Bool.true_and, mo_fitsBrother_b hC hB (by omega) (by omega) (by omega) hb, bz_eq0]
          cases fitR (N 166) (i : Int) (b : Int) <;> rfl
        · rw [if_neg (by omega), decide_eq_false h2, Bool.false_and]; rfl
    · rw [mo_frees_L6, mo_things_b, bq_ge (by omega) (by omega), if_pos (by omega)]
  unfold mo_frees sFr
  rw [key, bz_eq0]
  have hany := fo_any (f := sCf (N 166) s b) (N 166 1).toNat
  cases ha : fo (fun i (a : Bool) => a || sCf (N 166) s b i) (N 166 1).toNat 0 false with
  | false =>
    rw [cn_f, if_neg (fun g => by have := hany.mpr g.1; rw [ha] at this; cases this)]; rfl
  | true =>
    have hne := hany.mp ha
    rw [cn_t, mo_ofBrother_b (by omega) (by omega) (by decide) (by decide), mo_placeOf_b hs, show ((fd s 5 4 : Nat) : Int) = sPl s from rfl, bq_ne (by omega) (by unfold sPl; omega)]
    by_cases h1 : oB (N 166) (b : Int) 0 = sPl s
    · rw [if_pos h1, mo_freedIn_b hs, mo_has_b (by omega) (by omega), bz_ne0]
      cases hbit : (fd s 44 7).testBit b with
      | true =>
        rw [cn_t, if_neg (fun g => by cases g.2.2)]; rfl
      | false =>
        have := mo_with_b (f := 44 + b) (b := 1) (v := 1) (M := N) (k := fun z_27 M_26 => some (rJ z_27, M_26)) hs (by omega) (by decide) (by decide)
        rw [cn_f, if_pos ⟨hne, h1, rfl⟩, show (44 : Int) + (b : Int) = ((44 + b : Nat) : Int) by omega, show bJ (mo_with (s : Int) ((44 + b : Nat) : Int) 1 1 N) _ = _ from this]; rfl
    · rw [if_neg h1, if_neg (fun g => h1 g.2.1)]; rfl
theorem sPd0_PK {w : Nat → Int} {t : Nat} (hs : PK s) (hp : fd s 5 4 < 10) (ht : t < 10) : PK (sPd0 w s t) := by
  have h1 : PK (wt s (34 + fd s 5 4) 1 1) := wt_PK hs (by decide) (by omega)
  unfold sPd0
  cases decide (oP w (sPl s) 5 = 1) with
  | true => exact wt_PK h1 (by decide) (by omega)
  | false => exact h1
theorem sPd_PK {w : Nat → Int} {t : Nat} (hs : PK s) (hp : fd s 5 4 < 10) (ht : t < 10) (hg : oP w (sPl s) 6 < 10) : PK (sPd w s t) := by
  unfold sPd
  split
  · refine wt_PK (sPd0_PK hs hp ht) ?_ (by omega)
    split <;> decide
  · exact sPd0_PK hs hp ht
theorem mo_pays_b {t : Nat} {k : Int → MM → OR} (hC : WC n (N 166)) (hP : WP (N 166)) (hs : PK s) (hp : sPl s < N 166 0) (ht : (t : Int) < N 166 1) : bJ (mo_pays (s : Int) (t : Int) N) k = k (oJ (sPy (N 166) s t)) N := by
  have c0 := hC.1
  have c1 := hC.2.1
  have h4 := sG_lt s t
  have hf := fd_lt s 34 10
  have hpl : sPl s = ((fd s 5 4 : Nat) : Int) := rfl
  have hp0 : 0 ≤ sPl s := by omega
  obtain ⟨p0, p1, p2, p3, p4, p5, p6, p7⟩ := hP (sPl s) hp0 hp
  have J : ∀ u : Nat, PK u → u = sPd0 (N 166) s t → bJ (mo_pays_J83 (sPl s) (u : Int) N) k = k ((sPd (N 166) s t : Nat) : Int) N := by
    intro u hu e
    unfold mo_pays_J83 sPd
    rw [mo_of_b hp0 (by omega) (by decide) (by decide), bq_ge (by omega) (by decide), ← e]
    by_cases hg : 0 ≤ oP (N 166) (sPl s) 6
    · have hb := cnt_le (sCar (N 166) u).testBit 10
      rw [if_pos hg, if_pos hg, show bI (mo_thingsIn (u : Int) 2 N) _ = _ from mo_thingsIn_b (z := 2) hC hu (by decide), bc_v, bI_I, show bset (N 166 1).toNat (tsB u 2) = sCar (N 166) u from rfl, bcv_s (sCar_lt hC u), bq_ge (by omega) (by decide)]
      have hgn : oP (N 166) (sPl s) 6 = (((oP (N 166) (sPl s) 6).toNat : Nat) : Int) := by omega
      by_cases h3 : cnt (sCar (N 166) u).testBit 10 < 4
      · have := mo_withState_b (j := (oP (N 166) (sPl s) 6).toNat) (v := 2) (M := N) (k := fun z_39 M_38 => some (rJ z_39, M_38)) hu (by omega) (by decide)
        rw [← hgn] at this
        rw [if_neg (by omega), if_pos h3, show bJ (mo_withState (u : Int) (oP (N 166) (sPl s) 6) 2 N) _ = _ from this]; rfl
      · have := mo_withState_b (j := (oP (N 166) (sPl s) 6).toNat) (v := 0) (M := N) (k := fun z_36 M_35 => some (rJ z_36, M_35)) hu (by omega) (by decide)
        rw [← hgn] at this
        rw [if_pos (by omega), if_neg h3, show bJ (mo_withState (u : Int) (oP (N 166) (sPl s) 6) 0 N) _ = _ from this]; rfl
    · rw [if_neg hg, if_neg hg]; rfl
  unfold mo_pays sPy
  rw [mo_placeOf_b hs, ← hpl, mo_isKeeper_b hC hP hp0 hp, bz_eq0]
  by_cases hk : oP (N 166) (sPl s) 0 = 1
  · rw [decide_eq_true hk, cn_t, mo_passedIn_b hs, show mo_has ((fd s 34 10 : Nat) : Int) (sPl s) N = mo_has ((fd s 34 10 : Nat) : Int) ((fd s 5 4 : Nat) : Int) N from rfl, mo_has_b (by omega) (by omega), bz_ne0]
    cases hb : (fd s 34 10).testBit (fd s 5 4) with
    | true => rw [cn_t, if_neg (fun g => by cases g.2.1)]; rfl
    | false =>
      rw [cn_f, mo_stateOf_b hs (by omega), bq_ne (by omega) (by decide)]
      by_cases h2 : sG s t = 2
      · rw [if_pos (by omega), mo_fitsKeeper_b hC hP (by omega) ht hp0 hp, bz_ne0]
        cases hfit : fitK (N 166) (t : Int) (sPl s) with
        | false => rw [cn_f, if_neg (fun g => by cases g.2.2.2)]; rfl
        | true =>
          have e34 := mo_with_b (f := 34 + fd s 5 4) (b := 1) (v := 1) (M := N) (k := fun z_21 M_20 => (bI (mo_of (sPl s) 5 M_20) fun z_24 M_23 => (bif cmpB .ne z_24 1 then (mo_pays_J83 (sPl s) z_21 M_23) else (bJ (mo_withState z_21 (t : Int) 3 M_23) fun z_42 M_41 => (mo_pays_J83 (sPl s) z_42 M_41))))) hs (by omega) (by decide) (by decide)
          have u1 : PK (wt s (34 + fd s 5 4) 1 1) := wt_PK hs (by decide) (by omega)
          have ews := mo_withState_b (s := wt s (34 + fd s 5 4) 1 1) (j := t) (v := 3) (M := N) (k := fun z_42 M_41 => (mo_pays_J83 (sPl s) z_42 M_41)) u1 (by omega) (by decide)
          rw [cn_t, if_pos ⟨hk, rfl, h2, rfl⟩, show (34 : Int) + sPl s = ((34 + fd s 5 4 : Nat) : Int) by omega, show bJ (mo_with (s : Int) ((34 + fd s 5 4 : Nat) : Int) 1 1 N) _ = _ from e34, mo_of_b hp0 (by omega) (by decide) (by decide), bq_ne (by omega) (by decide)]
          by_cases h5 : oP (N 166) (sPl s) 5 = 1
          · rw [if_pos h5, show bJ (mo_withState ((wt s (34 + fd s 5 4) 1 1 : Nat) : Int) (t : Int) 3 N) _ = _ from ews]
            exact J _ (wt_PK u1 (by decide) (by omega)) (by unfold sPd0; rw [decide_eq_true h5, cn_t])
          · rw [if_neg h5]
            exact J _ u1 (by unfold sPd0; rw [decide_eq_false h5, cn_f])
      · rw [if_neg (by omega), if_neg (fun g => h2 g.2.2.1)]; rfl
  · rw [decide_eq_false hk, cn_f, if_neg (fun g => hk g.1)]; rfl
end StepRows
