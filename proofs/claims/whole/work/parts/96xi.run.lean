/-! ===== THE CLASS RUNS THE SEARCH ===== -/
def StC (w : Nat → Int) (M : MM) : Prop := LandR 3 w M ∧ JnyR 23 w M ∧ LawR 17 w M ∧ (∀ l : Nat, l < 17 → M 1003 l = ((bset 10 (opB 3 M (l : Int)) : Nat) : Int)) ∧ ∀ p : Nat, p < 10 → M 1004 p = ((bset 10 (lyB w (p : Int)) : Nat) : Int)
def FrD (M0 M : MM) : Prop := (∀ p, p ≠ 1000 → p ≠ 1001 → p ≠ 1002 → p ≠ 157 → p ≠ 21 → p ≠ 22 → M p = M0 p) ∧ ∀ j, j ≠ 3 → j ≠ 4 → (j < 10 ∨ 13 < j) → M 1000 j = M0 1000 j
theorem StC_fr {w : Nat → Int} {M M' : MM} (h : ∀ p, p ≠ 1000 → p ≠ 1001 → p ≠ 1002 → p ≠ 157 → p ≠ 21 → p ≠ 22 → M' p = M p) (H : StC w M) : StC w M' := by
  obtain ⟨a1, a2, a3, a5, a6⟩ := H
  have hl : ∀ j, j < 14 → M' (3 + j) = M (3 + j) := fun j hj => h _ (by omega) (by omega) (by omega) (by omega) (by omega) (by omega)
  refine ⟨LandR_fr hl a1, JnyR_fr (fun j hj => h _ (by omega) (by omega) (by omega) (by omega) (by omega) (by omega)) a2, LawR_fr (fun j hj => h _ (by omega) (by omega) (by omega) (by omega) (by omega) (by omega)) a3, fun l hl' => ?_, fun p hp => ?_⟩
  · rw [h 1003 (by decide) (by decide) (by decide) (by decide) (by decide) (by decide), opB_fr hl]
    exact a5 l hl'
  · rw [h 1004 (by decide) (by decide) (by decide) (by decide) (by decide) (by decide)]
    exact a6 p hp
section RunC
variable {w : Nat → Int} {m q : Nat}
theorem run_loop {K : MM → OR} {Mb : MM} (hW : WF m w) (hm : m ≤ 1000) (hz : w 0 ≠ 0) : ∀ (d i F : Nat) (M : MM) (n : Nat) (f : Nat → Nat) (o : Bool), i + d = 6000 → d < F → CSt w M n f o → StC w M → FrD Mb M → i ≤ n → (∀ j, j < i → ∀ u, Suc w (f j) u → Cov n f o u) →
    ∃ M' n' f' o', srch_run_L28 q K F (i : Int) M = K M' ∧ CSt w M' n' f' o' ∧ StC w M' ∧ FrD Mb M' ∧ Ext n f o n' f' o' ∧ (o' = true ∨ ∀ j, j < n' → ∀ u, Suc w (f' j) u → Cov n' f' o' u)
  | 0, i, F, M, n, f, o, hd, hF, H, hS, hb, hi, hc => by
    obtain ⟨F, rfl⟩ : ∃ n, F = n + 1 := ⟨F - 1, by omega⟩
    have hn := H.1.2.1
    refine ⟨M, n, f, o, ?_, H, hS, hb, Ext.rf, Or.inr fun j hj => hc j (by omega)⟩
    rw [srch_run_L28, bq_ge (by omega) (by decide), if_pos (by omega)]
  | d + 1, i, F, M, n, f, o, hd, hF, H, hS, hb, hi, hc => by
    obtain ⟨F, rfl⟩ : ∃ n, F = n + 1 := ⟨F - 1, by omega⟩
    have H' := H
    obtain ⟨⟨h3, hn, h4⟩, h1, hT, hR, hinj, hB⟩ := H'
    rw [srch_run_L28, bq_ge (by omega) (by decide), if_neg (by omega), h3, bq_ge (by omega) (by omega)]
    by_cases g1 : (n : Int) ≤ i
    · rw [if_pos g1]
      exact ⟨M, n, f, o, rfl, H, hS, hb, Ext.rf, Or.inr fun j hj => hc j (by omega)⟩
    · rw [if_neg g1, h4, bz_ne0]
      cases o with
      | true =>
        rw [cn_t]
        exact ⟨M, n, f, true, rfl, H, hS, hb, Ext.rf, Or.inl rfl⟩
      | false =>
        have hin : i < n := by omega
        have hs := hR i hin
        have hG := GS_rch hW hz hs
        have c1 := hW.1.2.1
        generalize hsi : f i = s at hs hG
        have e1 : M 1001 i = ((cpk w s : Nat) : Int) := by rw [h1 i hin, hsi]
        have r10 : iAnd (lUshr ((cpk w s : Nat) : Int) 56) 31 = ((fd s 0 5 : Nat) : Int) := by
          have := cpk_ush (w := w) (s := s) (k := 56) (m := 5) (by decide) (by decide)
          rw [ck_h] at this
          exact this
        have r11 : iAnd (lUshr ((cpk w s : Nat) : Int) 47) 15 = ((fd s 5 4 : Nat) : Int) := by
          have := cpk_ush (w := w) (s := s) (k := 47) (m := 4) (by decide) (by decide)
          rw [ck_p] at this
          exact this
        have r13 : iAnd (lUshr ((cpk w s : Nat) : Int) 30) 1023 = ((fd s 34 10 : Nat) : Int) := by
          have := cpk_ush (w := w) (s := s) (k := 30) (m := 10) (by decide) (by decide)
          rw [ck_k] at this
          exact this
        have r12 : iAnd ((cpk w s : Nat) : Int) 1023 = ((sCar w s : Nat) : Int) := by
          have a1 : iAnd ((cpk w s : Nat) : Int) 1023 = ((cpk w s &&& 1023 : Nat) : Int) := nu_andb (m := 1023) (by decide)
          have a2 : cpk w s >>> 0 &&& 1023 = fd (cpk w s) 0 10 := and_fd (b := 10)
          rw [Nat.shiftRight_zero] at a2
          rw [a1, a2, ck_c, GS_sCar hG c1.2]
        obtain ⟨M2, hM2⟩ : ∃ M2, M2 = mU (mU (mU (mU M 1000 10 ((fd s 0 5 : Nat) : Int)) 1000 11 ((fd s 5 4 : Nat) : Int)) 1000 12 ((sCar w s : Nat) : Int)) 1000 13 ((fd s 34 10 : Nat) : Int) := ⟨_, rfl⟩
        have mF : ∀ p, p ≠ 1000 → M2 p = M p := fun p hp => by rw [hM2, mU_ne hp, mU_ne hp, mU_ne hp, mU_ne hp]
        have m0 : ∀ j, M2 1000 j = if j = 13 then ((fd s 34 10 : Nat) : Int) else if j = 12 then ((sCar w s : Nat) : Int) else if j = 11 then ((fd s 5 4 : Nat) : Int) else if j = 10 then ((fd s 0 5 : Nat) : Int) else M 1000 j := fun j => by
          rw [hM2, mU_ap, if_pos rfl, mU_ap, if_pos rfl, mU_ap, if_pos rfl, mU_ap, if_pos rfl]
        have S2 : StC w M2 := StC_fr (fun p hp _ _ _ _ _ => mF p hp) hS
        have H2 : CSt w M2 n f false := by
          refine ⟨⟨?_, hn, ?_⟩, ?_, ?_, hR, hinj, hB⟩
          · rw [m0, if_neg (by decide), if_neg (by decide), if_neg (by decide), if_neg (by decide)]; exact h3
          · rw [m0, if_neg (by decide), if_neg (by decide), if_neg (by decide), if_neg (by decide)]; exact h4
          · rw [mF 1001 (by decide)]; exact h1
          · rw [mF 1001 (by decide), mF 1002 (by decide)]; exact hT
        have SC2 : SC w s M2 M2 n f false := ⟨H2, ⟨S2.1, S2.2.1, S2.2.2.1, ⟨by rw [m0, if_neg (by decide), if_neg (by decide), if_neg (by decide), if_pos rfl], by rw [m0, if_neg (by decide), if_neg (by decide), if_pos rfl], by rw [m0, if_neg (by decide), if_pos rfl], by rw [m0, if_pos rfl]⟩, S2.2.2.2.1, S2.2.2.2.2⟩, FrC.rf⟩
        have rs : Rch w s := by rw [← hsi]; exact hR i hin
        obtain ⟨Ma, na, fa, oa, a1, a2, a3, a4⟩ := roads_c (q := q) hW hm hz rs SC2
        obtain ⟨Mc, nc, fc, oc, b1, b2, b3, b4⟩ := wait_c (q := q) hW hm hz rs a2
        obtain ⟨Me, ne, fe, oe, c1', c2, c3, c4⟩ := pays_c (q := q) hW hz rs b2
        obtain ⟨Mg, ng, fg, og, d1, d2, d3, d4⟩ := takes_c (q := q) hW hz rs c2
        obtain ⟨Mh, nh, fh, oh, e1', e2, e3, e4⟩ := frees_c (q := q) hW hz rs d2
        have X3 : Ext nc fc oc nh fh oh := c3.tr (d3.tr e3)
        have XA : Ext n f false nh fh oh := a3.tr (b3.tr X3)
        have FD : FrD Mb Mh := by
          have fr := e2.2.2
          refine ⟨fun p h1 h2 h3 h4 h5 h6 => by rw [fr.1 p h1 h2 h3 h4 h5 h6, mF p h1, hb.1 p h1 h2 h3 h4 h5 h6], fun j h1 h2 h3 => ?_⟩
          rw [fr.2 j h1 h2, m0, if_neg (by omega), if_neg (by omega), if_neg (by omega), if_neg (by omega), hb.2 j h1 h2 h3]
        have SH : StC w Mh := StC_fr e2.2.2.1 S2
        have cov : ∀ j, j < i + 1 → ∀ u, Suc w (fh j) u → Cov nh fh oh u := fun j hj u hu => by
          rw [XA.2.1 j (by omega)] at hu
          by_cases ej : j = i
          · rw [ej, hsi] at hu
            rcases hu with ⟨h30, hw⟩ | ⟨r, hr, hgo⟩ | ⟨t, ht, hpy | htk⟩ | ⟨b, hb', hfr⟩
            · exact (b4 u h30 hw).up X3
            · exact (a4 r u hr hgo).up (b3.tr X3)
            · exact (c4 t u ht hpy).up (d3.tr e3)
            · exact (d4 t u ht htk).up e3
            · exact e4 b u hb' hfr
          · exact (hc j (by omega) u hu).up XA
        obtain ⟨M', n', f', o', z1, z2, z3, z4, z5, z6⟩ := run_loop (K := K) hW hm hz d (i + 1) F Mh nh fh oh (by omega) (by omega) e2.1 SH FD (Nat.le_trans (by omega : i + 1 ≤ n) XA.1) cov
        refine ⟨M', n', f', o', ?_, z2, z3, z4, XA.tr z5, z6⟩
        have M9 : mU (mU (mU (mU M 1000 10 ((fd s 0 5 : Nat) : Int)) 1000 11 ((fd s 5 4 : Nat) : Int)) 1000 12 ((sCar w s : Nat) : Int)) 1000 13 ((fd s 34 10 : Nat) : Int) = M2 := hM2.symm
        unfold srch_hoursOf srch_placeOf srch_passedOf
        rw [cn_f, bq_in (by omega) (by omega), Int.toNat_natCast, e1, r10, bI_I, sM_eq, r11, bI_I, sM_eq, r12, sM_eq, r13, bI_I, sM_eq, M9, a1, b1, c1', d1, e1', show (i : Int) + 1 = ((i + 1 : Nat) : Int) by omega]
        exact z1
theorem first_b {M : MM} {k : Int → MM → OR} (hW : WF m w) (hJ : JnyR 23 w M) : bJ (srch_firstState q M) k = k ((cpk w (nowS w) : Nat) : Int) M := by
  have hW' := hW
  obtain ⟨hC, hP, hT, hR, hB, hWG, -⟩ := hW'
  obtain ⟨⟨f0, f1, f2, f3, f4, f5⟩, f6, f7⟩ := nowS_f hC hT
  obtain ⟨c0, c1, c2, c3, c4, c5, c6, c7, c8, c9, c10⟩ := hC
  obtain ⟨⟨j0, j1, j2, j8⟩, j3, j4, j5, j6, j7, -⟩ := hJ
  obtain ⟨p, hp⟩ : ∃ p : Nat, w 7 = (p : Int) := ⟨(w 7).toNat, by omega⟩
  obtain ⟨r, hr⟩ : ∃ r : Nat, w 8 + 1 = (r : Int) := ⟨(w 8 + 1).toNat, by omega⟩
  have hp4 : p < 2 ^ 4 := by have : (2 : Nat) ^ 4 = 16 := rfl; omega
  have hr5 : r < 2 ^ 5 := by have : (2 : Nat) ^ 5 = 32 := rfl; omega
  have lA : bset 10 (stB' w 2) < 2 ^ 10 := bset_lt _ 10
  have lB : bset 10 (stB' w 3) < 2 ^ 10 := bset_lt _ 10
  have lC : bset 10 (paB w) < 2 ^ 10 := bset_lt _ 10
  have lD : bset 7 (frB w) < 2 ^ 7 := bset_lt _ 7
  have sB : bset 10 (stB' w 3) <<< 10 < 2 ^ 61 := sh61 lB (by decide)
  have sC : bset 10 (paB w) <<< 30 < 2 ^ 61 := sh61 lC (by decide)
  have sD : bset 7 (frB w) <<< 40 < 2 ^ 61 := sh61 lD (by decide)
  have sP : p <<< 47 < 2 ^ 61 := sh61 hp4 (by decide)
  have sR : r <<< 51 < 2 ^ 61 := sh61 hr5 (by decide)
  have A61 : bset 10 (stB' w 2) < 2 ^ 61 := Nat.lt_trans lA (by decide)
  have o1 := Nat.or_lt_two_pow A61 sB
  have o2 := Nat.or_lt_two_pow o1 sC
  have o3 := Nat.or_lt_two_pow o2 sD
  have o4 := Nat.or_lt_two_pow o3 sP
  have o5 := Nat.or_lt_two_pow o4 sR
  have b : ∀ x : Nat, x < 2 ^ 61 → x < 9223372036854775808 := fun x hx => Nat.lt_trans hx (by decide)
  have i31 : ∀ x : Nat, x < 2 ^ 10 → I32 (x : Int) := fun x hx => by have : (2 : Nat) ^ 10 = 1024 := rfl; omega
  have i31' : ∀ x : Nat, x < 2 ^ 7 → I32 (x : Int) := fun x hx => by have : (2 : Nat) ^ 7 = 128 := rfl; omega
  have e1 : lShl (w32 ((bset 10 (stB' w 3) : Nat) : Int)) 10 = ((bset 10 (stB' w 3) <<< 10 : Nat) : Int) := by
    rw [nw (i31 _ lB)]
    exact nj_shl (k := 10) (by decide) (b _ sB)
  have e2 : lShl (w32 ((bset 10 (paB w) : Nat) : Int)) 30 = ((bset 10 (paB w) <<< 30 : Nat) : Int) := by
    rw [nw (i31 _ lC)]
    exact nj_shl (k := 30) (by decide) (b _ sC)
  have e3 : lShl (w32 ((bset 7 (frB w) : Nat) : Int)) 40 = ((bset 7 (frB w) <<< 40 : Nat) : Int) := by
    rw [nw (i31' _ lD)]
    exact nj_shl (k := 40) (by decide) (b _ sD)
  have e4 : lShl (w32 ((p : Nat) : Int)) 47 = ((p <<< 47 : Nat) : Int) := by
    rw [nw (by omega)]
    exact nj_shl (k := 47) (by decide) (b _ sP)
  have e5 : lShl (w32 ((r : Nat) : Int)) 51 = ((r <<< 51 : Nat) : Int) := by
    rw [nw (by omega)]
    exact nj_shl (k := 51) (by decide) (b _ sR)
  have key : (((((bset 10 (stB' w 2) ||| bset 10 (stB' w 3) <<< 10) ||| bset 10 (paB w) <<< 30) ||| bset 7 (frB w) <<< 40) ||| p <<< 47) ||| r <<< 51) = cpk w (nowS w) := by
    have bits : ∀ i, (((((bset 10 (stB' w 2) ||| bset 10 (stB' w 3) <<< 10) ||| bset 10 (paB w) <<< 30) ||| bset 7 (frB w) <<< 40) ||| p <<< 47) ||| r <<< 51).testBit i = ((((((decide (i < 10) && stB' w 2 i) || (decide (10 ≤ i) && (decide (i < 10 + 10) && (decide (i - 10 < 10) && stB' w 3 (i - 10))))) || (decide (30 ≤ i) && (decide (i < 30 + 10) && (decide (i - 30 < 10) && paB w (i - 30))))) || (decide (40 ≤ i) && (decide (i < 40 + 7) && (decide (i - 40 < 7) && frB w (i - 40))))) || (decide (47 ≤ i) && (decide (i < 47 + 4) && p.testBit (i - 47)))) || (decide (51 ≤ i) && (decide (i < 51 + 5) && r.testBit (i - 51)))) := fun i => by
      rw [Nat.testBit_or, Nat.testBit_or, Nat.testBit_or, Nat.testBit_or, Nat.testBit_or, tb_sh lB, tb_sh lC, tb_sh lD, tb_sh hp4, tb_sh hr5, bset_bit, bset_bit, bset_bit, bset_bit]
    have sg : ∀ (z j : Nat), j < 10 → z ≠ 0 → decide (sG (nowS w) j = z) = stB' w z j := fun z j hj hz => by
      unfold stB'
      by_cases h1 : (j : Int) < w 1
      · rw [decide_eq_true h1, Bool.true_and]
        have := f6 j h1
        exact decide_eq_decide.mpr (by omega)
      · rw [decide_eq_false h1, Bool.false_and, f7 j (by omega) hj]
        exact decide_eq_false (fun g => hz g.symm)
    refine ck_ext o5 cpk_lt (fun j hj => ?_) (fun j hj => ?_) (fun j hj => ?_) (fun j hj => ?_) (fun j hj => ?_) (fun j hj => ?_) (fun j hj => ?_) (fun j hj => ?_)
    · rw [bits, ck (by omega), cpB_0 hj, sg 2 j hj (by decide), decide_eq_true hj, decide_eq_false (by omega : ¬ 10 ≤ j), decide_eq_false (by omega : ¬ 30 ≤ j), decide_eq_false (by omega : ¬ 40 ≤ j), decide_eq_false (by omega : ¬ 47 ≤ j), decide_eq_false (by omega : ¬ 51 ≤ j)]; simp
    · rw [bits, ck (by omega), cpB_1 hj, sg 3 j hj (by decide), decide_eq_false (by omega : ¬ 10 + j < 10), decide_eq_true (by omega : 10 ≤ 10 + j), decide_eq_true (by omega : 10 + j < 10 + 10), decide_eq_false (by omega : ¬ 30 ≤ 10 + j), decide_eq_false (by omega : ¬ 40 ≤ 10 + j), decide_eq_false (by omega : ¬ 47 ≤ 10 + j), decide_eq_false (by omega : ¬ 51 ≤ 10 + j), show 10 + j - 10 = j by omega, decide_eq_true hj]; simp
    · have z : cpB w (nowS w) (20 + j) = false := by
        rw [cpB_2 hj]
        by_cases h1 : (j : Int) < w 1
        · have := f6 j h1
          by_cases h0 : sG (nowS w) j = 0
          · rw [decide_eq_false (show ¬ oT w (j : Int) 2 = 1 by omega)]; simp
          · rw [decide_eq_false h0]; simp
        · rw [decide_eq_false h1]; simp
      rw [bits, ck (by omega), z, decide_eq_false (by omega : ¬ 20 + j < 10), decide_eq_false (by omega : ¬ 20 + j < 10 + 10), decide_eq_false (by omega : ¬ 30 ≤ 20 + j), decide_eq_false (by omega : ¬ 40 ≤ 20 + j), decide_eq_false (by omega : ¬ 47 ≤ 20 + j), decide_eq_false (by omega : ¬ 51 ≤ 20 + j)]; simp
    · rw [bits, ck (by omega), cpB_3 hj, f4, bset_bit, decide_eq_false (by omega : ¬ 30 + j < 10), decide_eq_false (by omega : ¬ 30 + j < 10 + 10), decide_eq_true (by omega : 30 ≤ 30 + j), decide_eq_true (by omega : 30 + j < 30 + 10), decide_eq_false (by omega : ¬ 40 ≤ 30 + j), decide_eq_false (by omega : ¬ 47 ≤ 30 + j), decide_eq_false (by omega : ¬ 51 ≤ 30 + j), show 30 + j - 30 = j by omega]; simp
    · rw [bits, ck (by omega), cpB_4 hj, f5, bset_bit, decide_eq_false (by omega : ¬ 40 + j < 10), decide_eq_false (by omega : ¬ 40 + j < 10 + 10), decide_eq_false (by omega : ¬ 40 + j < 30 + 10), decide_eq_true (by omega : 40 ≤ 40 + j), decide_eq_true (by omega : 40 + j < 40 + 7), decide_eq_false (by omega : ¬ 47 ≤ 40 + j), decide_eq_false (by omega : ¬ 51 ≤ 40 + j), show 40 + j - 40 = j by omega]; simp
    · have e : fd (nowS w) 5 4 = p := by omega
      rw [bits, ck (by omega), cpB_5 hj, e, decide_eq_false (by omega : ¬ 47 + j < 10), decide_eq_false (by omega : ¬ 47 + j < 10 + 10), decide_eq_false (by omega : ¬ 47 + j < 30 + 10), decide_eq_false (by omega : ¬ 47 + j < 40 + 7), decide_eq_true (by omega : 47 ≤ 47 + j), decide_eq_true (by omega : 47 + j < 47 + 4), decide_eq_false (by omega : ¬ 51 ≤ 47 + j), show 47 + j - 47 = j by omega]; simp
    · have e : fd (nowS w) 9 5 = r := by omega
      rw [bits, ck (by omega), cpB_6 hj, e, decide_eq_false (by omega : ¬ 51 + j < 10), decide_eq_false (by omega : ¬ 51 + j < 10 + 10), decide_eq_false (by omega : ¬ 51 + j < 30 + 10), decide_eq_false (by omega : ¬ 51 + j < 40 + 7), decide_eq_false (by omega : ¬ 51 + j < 47 + 4), decide_eq_true (by omega : 51 ≤ 51 + j), decide_eq_true (by omega : 51 + j < 51 + 5), show 51 + j - 51 = j by omega]; simp
    · have e : (fd (nowS w) 0 5).testBit j = false := by rw [f1, Nat.zero_testBit]
      rw [bits, ck (by omega), cpB_7, e, decide_eq_false (by omega : ¬ 56 + j < 10), decide_eq_false (by omega : ¬ 56 + j < 10 + 10), decide_eq_false (by omega : ¬ 56 + j < 30 + 10), decide_eq_false (by omega : ¬ 56 + j < 40 + 7), decide_eq_false (by omega : ¬ 56 + j < 47 + 4), decide_eq_false (by omega : ¬ 56 + j < 51 + 5)]; simp
  unfold srch_firstState
  rw [j3, j4, j6, j7, j0, j2, hp, hr, e1, e2, e3, e4, e5, nw (i31 _ lA), nj_or (b _ A61) (b _ sB), nj_or (b _ o1) (b _ sC), nj_or (b _ o2) (b _ sD), nj_or (b _ o3) (b _ sP), nj_or (b _ o4) (b _ sR), key, bJ_J]
end RunC
