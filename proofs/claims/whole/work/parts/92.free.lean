/-! ===== FREE ===== -/
theorem and_bs {f g : Nat → Bool} {m : Nat} (hm : m ≤ 31) : iAnd ((bset m f : Nat) : Int) ((bset m g : Nat) : Int) = ((bset m (fun i => f i && g i) : Nat) : Int) := by
  rw [nu_and (bset_31 hm) (bset_31 hm)]
  congr 1
  apply bset_eq
  intro i
  rw [Nat.testBit_and, bset_bit, bset_bit]
  cases decide (i < m) <;> simp
theorem fd_in {s f b m i : Nat} (hf : f + m ≤ 63) (hb : b < m) : (fd (wt s (f + b) 1 1) f m).testBit i = if i = b then true else (fd s f m).testBit i := by
  rw [fd_bit, fd_bit, wt_bit]
  by_cases hi : i = b
  · subst hi
    rw [if_pos rfl, decide_eq_true hb]
    simp
  · rw [if_neg hi]
    by_cases him : i < m
    · rw [decide_eq_true him, Bool.true_and, Bool.true_and, decide_eq_true (show f + i < 63 by omega)]
      by_cases hle : f + b ≤ f + i
      · rw [decide_eq_true hle, decide_eq_false (show ¬ f + i - (f + b) < 1 by omega), Bool.and_false, Bool.true_and]
        have h1 : (1 : Nat).testBit (f + i - (f + b)) = false := Nat.testBit_lt_two_pow (Nat.lt_of_lt_of_le (by decide : 1 < 2 ^ 1) (Nat.pow_le_pow_right (by decide) (by omega)))
        rw [h1]; simp
      · rw [decide_eq_false hle]; simp
    · rw [decide_eq_false him, Bool.false_and, Bool.false_and]
theorem ok_free {v : Int} (hp : I32 v) : OpOK (drv_free v) (mo_free v) := by
  intro k M hk hI
  show OpAt k M _ _
  have hI' := hI
  obtain ⟨hTp, hW, hL, hJ, hlw, hMm, hIm, hSr, hx, hch⟩ := hI'
  have hX : EXC M := ⟨hx.1, by omega⟩
  by_cases h1 : 0 ≤ v ∧ v < M 166 3
  · have c0 := hW.1.1
    have c1 := hW.1.2.1
    have c2 := hW.1.2.2.1
    have c3 := hW.1.2.2.2.1
    have c6 := hW.1.2.2.2.2.2.2.1
    have c7 := hW.1.2.2.2.2.2.2.2.1
    obtain ⟨s0, s1, s2, s3, s4, s5, s6, s7⟩ := now_st hW.1 hW.2.2.1
    have sgn := (nowS_f hW.1 hW.2.2.1).2.1
    obtain ⟨b, rfl⟩ : ∃ n : Nat, v = (n : Int) := ⟨v.toNat, by omega⟩
    obtain ⟨b0, b1, b2', b3, b4, b5⟩ := hW.2.2.2.2.1 b h1.1 h1.2
    have l14 : M 14 b = oB (M 166) (b : Int) 0 := by
      have := (hL.2.2.2.2.2.2 b h1.1 h1.2).1
      rw [Int.toNat_natCast] at this
      exact this
    have fr : frB (M 166) b = decide (0 ≤ oB (M 166) (b : Int) 5) := by unfold frB; rw [decide_eq_true h1.2, Bool.true_and]
    have eq1 : bset 10 (fun i => opB 3 M (10 + (b : Int)) i && stB' (M 166) 2 i) = bset (M 166 1).toNat (sCf (M 166) (nowS (M 166)) b) := by
      rw [← bset_ext (f := sCf (M 166) (nowS (M 166)) b) (show (M 166 1).toNat ≤ 10 by omega)]
      apply bset_cg
      intro i hi
      rw [opB_r hL hW.2.2.2.2.1 h1.1 h1.2 i]
      unfold stB' sCf
      by_cases hT : (i : Int) < M 166 1
      · have := sgn i hT
        rw [decide_eq_true hT, decide_eq_true (show i < (M 166 1).toNat by omega), Bool.true_and, Bool.true_and, Bool.true_and, Bool.and_comm]
        congr 1
        exact decide_eq_decide.mpr (by omega)
      · rw [decide_eq_false hT, decide_eq_false (show ¬ i < (M 166 1).toNat by omega)]; simp
    have hlt := Nat.lt_of_lt_of_le (bset_lt (sCf (M 166) (nowS (M 166)) b) (M 166 1).toNat) (Nat.pow_le_pow_right (by decide) (show (M 166 1).toNat ≤ 10 by omega))
    have preC : ∀ X, (if oB (M 166) (b : Int) 0 = M 166 7 then (bif frB (M 166) b then thx 14 M else (if ((bset (M 166 1).toNat (sCf (M 166) (nowS (M 166)) b) : Nat) : Int) = 0 then thx 14 M else (bV (gh_rememberAct M) fun M_11 => (sM (mU M_11 23 7 (iOr (M_11 23 7) (iShl 1 (b : Int)))) fun M_13 => (bif inB (b : Int) 7 then (sM (mU M_13 25 ((b : Int)).toNat (M_13 23 1)) fun M_15 => (bI (jdk_bitCount (M_15 23 7) M_15) fun z_19 M_18 => some (rI z_19, M_18))) else none))))) else thx 14 M) = X → gh_free (b : Int) M = X := by
      intro X hX
      unfold gh_free
      rw [← hX, checkBrother_t hW.1 hL.1.2.2.2.1 h1.1 h1.2, bq_in h1.1 (by omega), Int.toNat_natCast, l14, hJ.1.1, bq_ne (by omega) (by omega), hJ.2.2.2.2.2.1, gh_bit_s (by decide) h1.1 (by omega), Int.toNat_natCast, bz_eq1, land_openers_b (by rw [hL.1.2.1]; exact c1) (by omega) (by omega), hJ.2.1, and_bs (by decide), eq1, bq_ne (by omega) (by decide)]
    have preR : ∀ N : MM, N 166 = M 166 → ∀ X, (bif cmpB .ge (lCmp (oJ (sFr (M 166) (nowS (M 166)) b)) 0) 0 then (bI (mo_throwsIf 0 2 (mU N 165 0 0)) fun z_17 M_16 => (bif cmpB .eq z_17 0 then (bV (mo_remembers M_16) fun M_19 => (bV (mo_comes (oJ (sFr (M 166) (nowS (M 166)) b)) M_19) fun M_22 => (bI (mo_freedNow M_22) fun z_26 M_25 => (bI (jdk_bitCount z_26 M_25) fun z_29 M_28 => some (rI z_29, M_28))))) else some (rI 0, M_16))) else (bI (mo_throwsIf 1 2 (mU N 165 0 0)) fun z_32 M_31 => (bif cmpB .eq z_32 0 then (bV (mo_remembers M_31) fun M_34 => (bV (mo_comes (oJ (sFr (M 166) (nowS (M 166)) b)) M_34) fun M_37 => (bI (mo_freedNow M_37) fun z_41 M_40 => (bI (jdk_bitCount z_41 M_40) fun z_44 M_43 => some (rI z_44, M_43))))) else some (rI 0, M_31)))) = X → mo_free (b : Int) N = X := by
      intro N e X hX
      have w1 : (mU N 165 0 0) 166 = M 166 := e
      unfold mo_free
      rw [← hX, sM_eq, mo_noBrother_b (M := mU N 165 0 0) (n := k) (by rw [w1]; exact hW.1) hp, decide_eq_true (show 0 ≤ (b : Int) ∧ (b : Int) < (mU N 165 0 0) 166 3 by rw [w1]; exact h1), Bool.not_true, mo_throwsIf_f, bz_eq0, cn_f, mo_now_b (M := mU N 165 0 0) (n := k) (by rw [w1]; exact hW.1) (by rw [w1]; exact hW.2.1) (by rw [w1]; exact hW.2.2.1) (by rw [w1]; exact hW.2.2.2.2.1) (by omega), w1, mo_frees_b (N := mU N 165 0 0) (n := k) (by rw [w1]; exact hW.1) (by rw [w1]; exact hW.2.2.2.2.1) s0 (by rw [w1]; exact h1.2), w1]
    have hst : sFr (M 166) (nowS (M 166)) b = if oB (M 166) (b : Int) 0 = M 166 7 ∧ frB (M 166) b = false ∧ ((bset (M 166 1).toNat (sCf (M 166) (nowS (M 166)) b) : Nat) : Int) ≠ 0 then some (wt (nowS (M 166)) (44 + b) 1 1) else none := by
      unfold sFr
      rw [s1, s6, bset_bit, decide_eq_true (show b < 7 by omega), Bool.true_and]
      by_cases g1 : oB (M 166) (b : Int) 0 = M 166 7
      · by_cases g2 : frB (M 166) b = false
        · by_cases g3 : bset (M 166 1).toNat (sCf (M 166) (nowS (M 166)) b) = 0
          · rw [if_neg (fun g => g.1 g3), if_neg (fun g => g.2.2 (by rw [g3]; rfl))]
          · rw [if_pos ⟨g3, g1, g2⟩, if_pos ⟨g1, g2, by omega⟩]
        · rw [if_neg (fun g => g2 g.2.2), if_neg (fun g => g2 g.2.1)]
      · rw [if_neg (fun g => g1 g.2.1), if_neg (fun g => g1 g.1)]
    by_cases h2 : oB (M 166) (b : Int) 0 = M 166 7 ∧ frB (M 166) b = false ∧ ((bset (M 166 1).toNat (sCf (M 166) (nowS (M 166)) b) : Nat) : Int) ≠ 0
    · rw [if_pos h2] at hst
      rw [hst] at preR
      generalize hu : wt (nowS (M 166)) (44 + b) 1 1 = u at *
      have uPK : PK u := by rw [← hu]; exact wt_PK s0 (by decide) (by omega)
      have u0 : fd u 0 5 = 0 := by rw [← hu, fd_ne (by decide) (by decide) (by omega)]; exact s7
      have u5 : sPl u = M 166 7 := by rw [← s1, ← hu]; unfold sPl; rw [fd_ne (by decide) (by decide) (by omega)]
      have u9 : ((fd u 9 5 : Nat) : Int) - 1 = M 166 8 := by rw [← s5, ← hu, fd_ne (by decide) (by decide) (by omega)]
      have u34 : fd u 34 10 = bset 10 (paB (M 166)) := by rw [← s4, ← hu, fd_ne (by decide) (by decide) (by omega)]
      have u44 : ∀ i, (fd u 44 7).testBit i = if i = b then true else (bset 7 (frB (M 166))).testBit i := fun i => by rw [← hu, fd_in (by decide) (by omega), s6]
      have usg : ∀ i, i < 10 → sG u i = sG (nowS (M 166)) i := fun i hi => by rw [← hu]; unfold sG; rw [fd_ne (by omega) (by decide) (by omega)]
      obtain ⟨rem, nx, M1, m1, m2, m3, m4, m5, e2, A⟩ := RA_ex hMm
      have A9 := A.2.2.2.2.2.2.2.2
      have f23 : ∀ p, 3 ≤ p → p ≤ 28 → M1 p = M p := fun p h1 h2 => A9 p (by omega) (by omega) (by omega)
      have o5 : M 166 (199 + 6 * b) < 0 := by
        rw [fr] at h2
        have := of_decide_eq_false h2.2.1
        rw [oB_c5] at this
        omega
      generalize hw' : up (M 166) (199 + 6 * b) (M 166 6) = w'
      have v2 : w' (199 + 6 * b) = M 166 6 := by rw [← hw', up_eq]
      have vj : ∀ j, j ≠ 199 + 6 * b → w' j = M 166 j := fun j h1 => by rw [← hw', up_ne h1]
      have hlo : ∀ j, j < 199 → w' j = M 166 j := fun j hj => vj j (by omega)
      have hpost : Post (M 166) u w' := by
        refine ⟨⟨by rw [vj 6 (by omega), u0]; omega, by rw [vj 7 (by omega), u5], by rw [vj 8 (by omega), u9]⟩, fun i hi => ?_, fun p hp => ?_, fun c hc => ?_, fun j h1 h2 h3 h4 h5 h6 => vj j (h6 b ?_)⟩
        · rw [vj _ (by omega), usg i (by omega)]
          exact (oT_c2 (w := M 166) (t := i)).symm.trans (sgn i hi).symm
        · rw [vj _ (by omega), u34, now_pl hW.1 hW.2.1 hp]
        · rw [u44 c]
          by_cases hcb : c = b
          · subst hcb
            rw [if_pos rfl, if_pos ⟨rfl, o5⟩, v2, u0]; omega
          · rw [if_neg hcb, vj _ (by omega), now_br hW.1 hc]
        · omega
      have eb : ∀ c : Int, 0 ≤ c → c < M 166 3 → c ≠ (b : Int) → oB w' c 5 = oB (M 166) c 5 := fun c a d e => vj _ (by omega)
      have hS : StEq (M 166) w' := ⟨fun k hk => hlo k (by omega), fun p j a b c d => hlo _ (by omega), fun p j a b c d => hlo _ (by omega), fun p j a b c d => hlo _ (by omega), fun p j a b c d => vj _ (by omega)⟩
      have hW' : WF (k + 1) w' := by
        refine WF_act hW hS (by rw [hlo 6 (by decide)]; omega) (by rw [hlo 7 (by decide)]; exact c7) (by rw [hlo 8 (by decide)]; exact hW.1.2.2.2.2.2.2.2.2.1) (by rw [hlo 9 (by decide)]; exact hW.1.2.2.2.2.2.2.2.2.2.1) (fun p g0 g1 => ?_) (fun u g0 g1 => ?_) (fun c g0 g1 => ?_) (fun p g0 g1 g2 => ?_) ?_
        · rw [show oP w' p 7 = oP (M 166) p 7 from hlo _ (by omega)]
          obtain ⟨p0, p1, p2, p3, p4, p5, p6, p7⟩ := hW.2.1 p g0 g1
          exact ⟨p6, fun g => (p7 g).2.2.2.2.2.2⟩
        · rw [show oT w' u 2 = oT (M 166) u 2 from hlo _ (by omega), show oT w' u 3 = oT (M 166) u 3 from hlo _ (by omega)]
          obtain ⟨t0, t1, t2, t3⟩ := hW.2.2.1 u g0 g1
          exact ⟨t2, t3⟩
        · rw [hlo 6 (by decide)]
          by_cases hc : c = (b : Int)
          · subst hc
            rw [oB_c5, v2]; omega
          · rw [eb c g0 g1 hc]
            exact (hW.2.2.2.2.1 c g0 g1).2.2.2.2.2
        · have p5 := (hW.2.1 p g0 g1).2.2.2.2.2.1
          rw [show oP w' p 7 = oP (M 166) p 7 from hlo _ (by omega), show oT w' (oP (M 166) p 6) 2 = oT (M 166) (oP (M 166) p 6) 2 from hlo _ (by omega), show oT w' (oP (M 166) p 6) 3 = oT (M 166) (oP (M 166) p 6) 3 from hlo _ (by omega)]
          exact hW.2.2.2.2.2.1.1 p g0 g1 g2
        · obtain ⟨l1, l2⟩ := hW.2.2.2.2.2.2
          refine ⟨?_, fun q g0 g1 => ?_⟩
          · rw [hlo 9 (by decide), l1]
            congr 1
            apply cnt_cg
            intro i hi
            unfold paB
            rw [hlo 0 (by decide), oP_c7, oP_c7, hlo _ (by omega)]
          · rw [hlo 9 (by decide)] at g1
            have c9 := hW.1.2.2.2.2.2.2.2.2.2.1
            rw [vj _ (by omega), vj _ (by omega), vj _ (by omega), hlo 6 (by decide)]
            exact l2 q g0 g1
      have fb : bset 7 (fun i => frB (M 166) i || decide (i = b)) = bset 7 (frB w') := bset_cg 7 fun i _ => by
        unfold frB
        rw [hlo 3 (by decide), oB_c5, oB_c5]
        by_cases hi : i = b
        · subst hi
          rw [decide_eq_true h1.2, v2, decide_eq_true (show 0 ≤ M 166 6 by omega)]; simp
        · rw [vj _ (by omega), decide_eq_false hi, Bool.or_false]
      have f128 := bset_lt (frB w') 7
      have hbI : I32 (bcv ((bset 7 (frB w') : Nat) : Int)) := by
        have := cnt_le (bset 7 (frB w')).testBit 10
        rw [bcv_s (by omega)]; omega
      generalize hMc : mU (mU M1 23 7 ((bset 7 (frB w') : Nat) : Int)) 25 b (M 166 6) = Mc
      have c7' : Mc 23 7 = ((bset 7 (frB w') : Nat) : Int) := by rw [← hMc, mU_ne (by decide), mU_eq, up_eq]
      have cj : ∀ j, j ≠ 7 → Mc 23 j = M 23 j := fun j hj => by rw [← hMc, mU_ne (by decide), mU_eq, up_ne hj, f23 23 (by decide) (by decide)]
      have eC : gh_free (b : Int) M = some (rI (bcv ((bset 7 (frB w') : Nat) : Int)), Mc) := by
        refine preC _ ?_
        rw [if_pos h2.1, h2.2.1, cn_f, if_neg h2.2.2, e2, bV_V, f23 23 (by decide) (by decide), hJ.2.2.2.2.2.1, set_bs (by decide) (by omega), fb, sM_eq, bq_in h1.1 (by omega), sM_eq, Int.toNat_natCast, show (mU M1 23 7 ((bset 7 (frB w') : Nat) : Int)) 23 1 = M 166 6 from by rw [mU_eq, up_ne (by decide), f23 23 (by decide) (by decide)]; exact hJ.1.2.1, hMc, c7', bc_v, bI_I]
      refine act_pure (gh := gh_free (b : Int)) (E := fun c_6 M_2 => (bif Nat.beq c_6 15 then some (rI 1, M_2) else (bif Nat.beq c_6 14 then some (rI 2, M_2) else none))) (w' := w') hI hk m1 m2 m3 m4 m5 A eC hbI rfl (fun p hp => by rw [← hMc, mU_ne (by omega), mU_ne (by omega)]) (fun N1 r1 f1 w1 => ?_) hW' hS (fun j hj => vj j (by omega)) ?_
      · have wN : (mU Mc 181 0 (bcv ((bset 7 (frB w') : Nat) : Int))) 166 = M 166 := by rw [← f1 166 (by decide) (by decide)]; exact w1
        obtain ⟨M2, q1, q2, q3⟩ := mo_comes_v (N := N1) w1 hW.1 hW.2.2.2.2.1 (by omega) uPK
        have e166 : M2 166 = w' := post_eq q3 hpost
        refine ⟨M2, preR _ wN _ ?_, q2, e166⟩
        have hb := lc_nat (s := u) uPK.m
        have fn := mo_freedNow_v (M := M2) (n := k + 1) (by rw [e166]; exact hW'.1) (by rw [e166]; exact hW'.2.2.2.2.1) (by omega)
        rw [e166] at fn
        rw [show oJ (some u) = (u : Int) from rfl, bq_ge (by omega) (by decide), if_pos hb.1, mo_throwsIf_0, bq_eq (by decide) (by decide), if_pos rfl, r1, bV_V, q1, bV_V, fn, bI_I, bc_v, bI_I]
      · obtain ⟨⟨j0, j1, j2, j8⟩, j3, j4, j5, j6, j7, q1, q2, q3, q4⟩ := hJ
        have es : ∀ z, stB' w' z = stB' (M 166) z := fun z => by
          funext i
          unfold stB'
          rw [hlo 1 (by decide), oT_c2, oT_c2]
          by_cases hT : (i : Int) < M 166 1
          · rw [hlo _ (by omega)]
          · rw [decide_eq_false hT, Bool.false_and, Bool.false_and]
        have ep : ∀ i, i < 10 → paB w' i = paB (M 166) i := fun i hi => by
          unfold paB
          rw [hlo 0 (by decide), oP_c7, oP_c7, hlo _ (by omega)]
        refine ⟨⟨by rw [cj 0 (by decide), hlo 7 (by decide)]; exact j0, by rw [cj 1 (by decide), hlo 6 (by decide)]; exact j1, by rw [cj 2 (by decide), hlo 8 (by decide)]; exact j2, by rw [cj 8 (by decide), hlo 9 (by decide)]; exact j8⟩, by rw [cj 3 (by decide), es]; exact j3, by rw [cj 4 (by decide), es]; exact j4, by rw [cj 5 (by decide), es]; exact j5, by rw [cj 6 (by decide), bset_cg 10 ep]; exact j6, c7', fun u a b => ?_, fun u a b => ?_, fun c d e f => ?_, fun q a b => ?_⟩
        · rw [hlo 1 (by decide)] at b
          show Mc 24 u.toNat = _
          rw [← hMc, mU_ne (by decide), mU_ne (by decide), f23 24 (by decide) (by decide), show oT w' u 3 = oT (M 166) u 3 from hlo _ (by omega)]
          exact q1 u a b
        · rw [hlo 1 (by decide)] at a
          show Mc 24 u.toNat = _
          rw [← hMc, mU_ne (by decide), mU_ne (by decide), f23 24 (by decide) (by decide)]
          exact q2 u a b
        · rw [hlo 3 (by decide)] at e
          show Mc 25 c.toNat = _
          by_cases hc : c = (b : Int)
          · subst hc
            rw [Int.toNat_natCast, oB_c5, v2, ← hMc, mU_eq, up_eq]
          · rw [eb c d e hc] at f ⊢
            rw [← hMc, mU_eq, up_ne (by omega), mU_ne (by decide), f23 25 (by decide) (by decide)]
            exact q3 c d e f
        · rw [hlo 9 (by decide)] at b
          have c9 := hW.1.2.2.2.2.2.2.2.2.2.1
          rw [vj _ (by omega), vj _ (by omega), vj _ (by omega)]
          show Mc 26 q.toNat = _ ∧ Mc 27 q.toNat = _ ∧ Mc 28 q.toNat = _
          rw [← hMc, mU_ne (by decide), mU_ne (by decide), f23 26 (by decide) (by decide), mU_ne (by decide), mU_ne (by decide), f23 27 (by decide) (by decide), mU_ne (by decide), mU_ne (by decide), f23 28 (by decide) (by decide)]
          exact q4 q a b
    · rw [if_neg h2] at hst
      rw [hst] at preR
      refine at_read (c := 2) (z := 0) hk hI (by decide) (fun h => absurd h (by decide)) ?_ (fun N hN e => ?_)
      · refine ansC_thr (E := fun c_6 M_2 => (bif Nat.beq c_6 15 then some (rI 1, M_2) else (bif Nat.beq c_6 14 then some (rI 2, M_2) else none))) (c := 14) (M1 := M) hX (preC _ ?_) rfl (by decide) Core.rfl' rfl
        by_cases g1 : oB (M 166) (b : Int) 0 = M 166 7
        · rw [if_pos g1]
          cases g2 : frB (M 166) b with
          | true => rw [cn_t]; exact thx_v hX
          | false =>
            rw [cn_f]
            by_cases g3 : ((bset (M 166 1).toNat (sCf (M 166) (nowS (M 166)) b) : Nat) : Int) = 0
            · rw [if_pos g3]; exact thx_v hX
            · exact absurd ⟨g1, g2, g3⟩ h2
        · rw [if_neg g1]; exact thx_v hX
      · refine ansR_thr (z' := 0) (preR N e _ ?_) (by decide)
        rw [show oJ none = -1 from rfl, lc_neg, bq_ge (by decide) (by decide), if_neg (by decide), mo_throwsIf_1, bq_eq (by decide) (by decide), if_neg (by decide)]
  · refine at_read (c := 1) (z := 0) hk hI (by decide) (fun h => absurd h (by decide)) ?_ (fun N hN e => ?_)
    · exact ansC_thr (E := fun c_6 M_2 => (bif Nat.beq c_6 15 then some (rI 1, M_2) else (bif Nat.beq c_6 14 then some (rI 2, M_2) else none))) (c := 15) hX (checkBrother_f hW.1 hL.1.2.2.2.1 hX hp h1) rfl (by decide) Core.rfl' rfl
    · refine ansR_thr (z' := 0) ?_ (by decide)
      unfold mo_free
      rw [sM_eq, mo_noBrother_b (M := mU N 165 0 0) (n := k) (by rw [t0_166, e]; exact hW.1) hp, decide_eq_false (show ¬ (0 ≤ v ∧ v < (mU N 165 0 0) 166 3) by rw [t0_166, e]; exact h1), Bool.not_false, mo_throwsIf_t, bz_eq0, cn_t]
