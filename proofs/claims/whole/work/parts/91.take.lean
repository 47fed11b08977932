/-! ===== TAKE, FREE ===== -/
theorem post_eq {w w' w2 : Nat → Int} {s : Nat} (h : Post w s w') (g : Post w s w2) : w' = w2 := by
  obtain ⟨⟨h1, h2, h3⟩, h4, h5, h6, h7⟩ := h
  obtain ⟨⟨g1, g2, g3⟩, g4, g5, g6, g7⟩ := g
  funext j
  by_cases j6 : j = 6
  · rw [j6, h1, g1]
  by_cases j7 : j = 7
  · rw [j7, h2, g2]
  by_cases j8 : j = 8
  · rw [j8, h3, g3]
  by_cases a : ∃ t : Nat, (t : Int) < w 1 ∧ j = 92 + 4 * t
  · obtain ⟨t, a1, a2⟩ := a
    rw [a2, h4 t a1, g4 t a1]
  by_cases b : ∃ t : Nat, (t : Int) < w 0 ∧ j = 17 + 8 * t
  · obtain ⟨t, a1, a2⟩ := b
    rw [a2, h5 t a1, g5 t a1]
  by_cases c : ∃ t : Nat, (t : Int) < w 3 ∧ j = 199 + 6 * t
  · obtain ⟨t, a1, a2⟩ := c
    rw [a2, h6 t a1, g6 t a1]
  have ha : ∀ t : Nat, (t : Int) < w 1 → j ≠ 92 + 4 * t := fun t h1 h2 => a ⟨t, h1, h2⟩
  have hb : ∀ t : Nat, (t : Int) < w 0 → j ≠ 17 + 8 * t := fun t h1 h2 => b ⟨t, h1, h2⟩
  have hc : ∀ t : Nat, (t : Int) < w 3 → j ≠ 199 + 6 * t := fun t h1 h2 => c ⟨t, h1, h2⟩
  rw [h7 j j6 j7 j8 ha hb hc, g7 j j6 j7 j8 ha hb hc]
theorem now_pl {n : Nat} {w : Nat → Int} (hC : WC n w) (hP : WP w) {p : Nat} (hp : (p : Int) < w 0) : b2 ((bset 10 (paB w)).testBit p) = w (17 + 8 * p) := by
  have c0 := hC.1
  have := (hP p (by omega) hp).2.2.2.2.2.2.1
  rw [bset_bit, decide_eq_true (show p < 10 by omega), Bool.true_and]
  unfold paB
  rw [decide_eq_true hp, Bool.true_and]
  rw [oP_c7] at this ⊢
  rcases this with h | h <;> rw [h] <;> rfl
theorem now_br {n : Nat} {w : Nat → Int} (hC : WC n w) {b : Nat} (hb : (b : Int) < w 3) {X : Int} : (if (bset 7 (frB w)).testBit b = true ∧ w (199 + 6 * b) < 0 then X else w (199 + 6 * b)) = w (199 + 6 * b) := by
  have c3 := hC.2.2.2.1
  refine if_neg fun h => ?_
  obtain ⟨h1, h2⟩ := h
  rw [bset_bit, decide_eq_true (show b < 7 by omega), Bool.true_and] at h1
  unfold frB at h1
  rw [decide_eq_true hb, Bool.true_and, oB_c5] at h1
  have := of_decide_eq_true h1
  omega
theorem post_ts {n : Nat} {w w' : Nat → Int} {s z : Nat} (hC : WC n w) (h1 : w' 1 = w 1) (h : ∀ t : Nat, (t : Int) < w 1 → w' (92 + 4 * t) = (sG s t : Nat)) : bset (w' 1).toNat (tsB s z) = bset 10 (stB' w' z) := by
  have c1 := hC.2.1
  rw [h1, ← bset_ext (f := tsB s z) (show (w 1).toNat ≤ 10 by omega)]
  apply bset_cg
  intro i hi
  unfold stB' tsB
  rw [h1, oT_c2]
  by_cases hT : (i : Int) < w 1
  · rw [decide_eq_true hT, decide_eq_true (show i < (w 1).toNat by omega), h i hT]
    congr 1
    exact decide_eq_decide.mpr (by omega)
  · rw [decide_eq_false hT, decide_eq_false (show ¬ i < (w 1).toNat by omega), Bool.false_and, Bool.false_and]
theorem sG_wt {s t i v : Nat} (ht : t < 10) (hi : i < 10) (hv : v < 4) : sG (wt s (14 + 2 * t) 2 v) i = if i = t then v else sG s i := by
  unfold sG
  by_cases h : i = t
  · subst h
    rw [if_pos rfl, fd_same (by omega) hv]
  · rw [if_neg h, fd_ne (by omega) hv (by omega)]
theorem ok_take {v : Int} (hp : I32 v) : OpOK (drv_take v) (mo_take v) := by
  intro k M hk hI
  show OpAt k M _ _
  have hI' := hI
  obtain ⟨hTp, hW, hL, hJ, hlw, hMm, hIm, hSr, hx, hch⟩ := hI'
  have hX : EXC M := ⟨hx.1, by omega⟩
  by_cases h1 : 0 ≤ v ∧ v < M 166 1
  · have c0 := hW.1.1
    have c1 := hW.1.2.1
    have c7 := hW.1.2.2.2.2.2.2.2.1
    have c10 := hW.1.2.2.2.2.2.2.2.2.2.2
    obtain ⟨s0, s1, s2, s3, s4, s5, s6, s7⟩ := now_st hW.1 hW.2.2.1
    have sgn := (nowS_f hW.1 hW.2.2.1).2.1
    obtain ⟨t, rfl⟩ : ∃ n : Nat, v = (n : Int) := ⟨v.toNat, by omega⟩
    obtain ⟨t0, t1, t2, t3⟩ := hW.2.2.1 t h1.1 h1.2
    have ly : lyB (M 166) (M 166 7) t = (decide (oT (M 166) (t : Int) 2 = 0) && decide (oT (M 166) (t : Int) 3 = M 166 7)) := by
      unfold lyB
      rw [decide_eq_true h1.2, Bool.true_and]
    have preC : ∀ X, (bif lyB (M 166) (M 166 7) t then (bif decide (cnt (bset 10 (stB' (M 166) 2)).testBit 10 < 4) then (bV (gh_rememberAct M) fun M_14 => (sM (mU M_14 23 3 (iOr (M_14 23 3) (iShl 1 (t : Int)))) fun M_16 => (bI (jdk_bitCount (M_16 23 3) M_16) fun z_20 M_19 => some (rI z_20, M_19)))) else thx 14 M) else thx 14 M) = X → gh_take (t : Int) M = X := by
      intro X hX
      unfold gh_take
      rw [← hX, checkThing_t hW.1 hL.1.2.1 h1.1 h1.2, hJ.1.1, jny_lying_b hJ hW.2.2.1 hW.1 c7.1 (by omega), gh_bit_s (by decide) h1.1 (by omega), Int.toNat_natCast, bz_eq0, hJ.2.1, gh_hasRoom_b (bset_1024 _), bz_ne0]
    have hst : sTk (M 166) (nowS (M 166)) t = if oT (M 166) (t : Int) 2 = 0 ∧ oT (M 166) (t : Int) 3 = M 166 7 ∧ cnt (bset 10 (stB' (M 166) 2)).testBit 10 < 4 then some (wt (nowS (M 166)) (14 + 2 * t) 2 2) else none := by
      unfold sTk
      have := sgn t h1.2
      rw [s1, s3]
      by_cases h0 : oT (M 166) (t : Int) 2 = 0
      · simp only [h0, show sG (nowS (M 166)) t = 0 by omega]
      · rw [if_neg (fun g => h0 (by omega)), if_neg (fun g => h0 g.1)]
    have preR : ∀ N : MM, N 166 = M 166 → ∀ X, (bif cmpB .ge (lCmp (oJ (sTk (M 166) (nowS (M 166)) t)) 0) 0 then (bI (mo_throwsIf 0 2 (mU N 165 0 0)) fun z_17 M_16 => (bif cmpB .eq z_17 0 then (bV (mo_remembers M_16) fun M_19 => (bV (mo_comes (oJ (sTk (M 166) (nowS (M 166)) t)) M_19) fun M_22 => (bI (mo_thingsIn (oJ (sTk (M 166) (nowS (M 166)) t)) 2 M_22) fun z_26 M_25 => (bI (jdk_bitCount z_26 M_25) fun z_29 M_28 => some (rI z_29, M_28))))) else some (rI 0, M_16))) else (bI (mo_throwsIf 1 2 (mU N 165 0 0)) fun z_32 M_31 => (bif cmpB .eq z_32 0 then (bV (mo_remembers M_31) fun M_34 => (bV (mo_comes (oJ (sTk (M 166) (nowS (M 166)) t)) M_34) fun M_37 => (bI (mo_thingsIn (oJ (sTk (M 166) (nowS (M 166)) t)) 2 M_37) fun z_41 M_40 => (bI (jdk_bitCount z_41 M_40) fun z_44 M_43 => some (rI z_44, M_43))))) else some (rI 0, M_31)))) = X → mo_take (t : Int) N = X := by
      intro N e X hX
      have w1 : (mU N 165 0 0) 166 = M 166 := e
      unfold mo_take
      rw [← hX, sM_eq, mo_noThing_b (M := mU N 165 0 0) (n := k) (by rw [w1]; exact hW.1) hp, decide_eq_true (show 0 ≤ (t : Int) ∧ (t : Int) < (mU N 165 0 0) 166 1 by rw [w1]; exact h1), Bool.not_true, mo_throwsIf_f, bz_eq0, cn_f, mo_now_b (M := mU N 165 0 0) (n := k) (by rw [w1]; exact hW.1) (by rw [w1]; exact hW.2.1) (by rw [w1]; exact hW.2.2.1) (by rw [w1]; exact hW.2.2.2.2.1) (by omega), w1, mo_takes_b (N := mU N 165 0 0) (n := k) (by rw [w1]; exact hW.1) (by rw [w1]; exact hW.2.2.1) s0 (by rw [w1]; exact h1.2), w1]
    by_cases h2 : oT (M 166) (t : Int) 2 = 0 ∧ oT (M 166) (t : Int) 3 = M 166 7 ∧ cnt (bset 10 (stB' (M 166) 2)).testBit 10 < 4
    · rw [if_pos h2] at hst
      rw [hst] at preR
      generalize hu : wt (nowS (M 166)) (14 + 2 * t) 2 2 = u at *
      have uPK : PK u := by rw [← hu]; exact wt_PK s0 (by decide) (by omega)
      have u0 : fd u 0 5 = 0 := by rw [← hu, fd_ne (by decide) (by decide) (by omega)]; exact s7
      have u5 : sPl u = M 166 7 := by rw [← s1, ← hu]; unfold sPl; rw [fd_ne (by decide) (by decide) (by omega)]
      have u9 : ((fd u 9 5 : Nat) : Int) - 1 = M 166 8 := by rw [← s5, ← hu, fd_ne (by decide) (by decide) (by omega)]
      have u34 : fd u 34 10 = bset 10 (paB (M 166)) := by rw [← s4, ← hu, fd_ne (by decide) (by decide) (by omega)]
      have u44 : fd u 44 7 = bset 7 (frB (M 166)) := by rw [← s6, ← hu, fd_ne (by decide) (by decide) (by omega)]
      obtain ⟨rem, nx, M1, m1, m2, m3, m4, m5, e2, A⟩ := RA_ex hMm
      have A9 := A.2.2.2.2.2.2.2.2
      have f23 : ∀ p, 3 ≤ p → p ≤ 28 → M1 p = M p := fun p h1 h2 => A9 p (by omega) (by omega) (by omega)
      generalize hw' : up (M 166) (92 + 4 * t) 2 = w'
      have v2 : w' (92 + 4 * t) = 2 := by rw [← hw', up_eq]
      have vj : ∀ j, j ≠ 92 + 4 * t → w' j = M 166 j := fun j h1 => by rw [← hw', up_ne h1]
      have o2 : M 166 (92 + 4 * t) = 0 := (oT_c2 (w := M 166) (t := t)).symm.trans h2.1
      have hth : ∀ i : Nat, (i : Int) < M 166 1 → w' (92 + 4 * i) = (sG u i : Nat) := fun i hi => by
        rw [← hu, sG_wt (by omega) (by omega) (by decide)]
        by_cases hit : i = t
        · subst hit; rw [if_pos rfl, v2]; rfl
        · rw [if_neg hit, vj _ (by omega)]
          exact (oT_c2 (w := M 166) (t := i)).symm.trans (sgn i hi).symm
      have hpost : Post (M 166) u w' := by
        refine ⟨⟨by rw [vj 6 (by omega), u0]; omega, by rw [vj 7 (by omega), u5], by rw [vj 8 (by omega), u9]⟩, hth, fun p hp => ?_, fun b hb => ?_, fun j h1 h2 h3 h4 h5 h6 => vj j (h4 t ?_)⟩
        · rw [vj _ (by omega), u34, now_pl hW.1 hW.2.1 hp]
        · rw [vj _ (by omega), u44, now_br hW.1 hb]
        · omega
      obtain ⟨hW', hS⟩ := thg_row (w' := w') hW h1.2 (fun j h1 _ => vj j h1) (by omega) (by rw [v2]; omega) (by rw [vj _ (by omega), show M 166 (93 + 4 * t) = oT (M 166) (t : Int) 3 from (oT_c3 (w := M 166) (t := t)).symm]; exact t3)
      have sb := stB_up (w' := w') h1.2 (vj 1 (by omega)) (fun i hi => vj _ (by omega))
      have b2' : bset 10 (fun i => stB' (M 166) 2 i || decide (i = t)) = bset 10 (stB' w' 2) := bset_cg 10 fun i _ => by
        rw [sb 2 i]
        by_cases hi : i = t
        · rw [if_pos hi, decide_eq_true hi, v2]; simp
        · rw [if_neg hi, decide_eq_false hi]; simp
      have bz : ∀ z, z ≠ 0 → z ≠ 2 → bset 10 (stB' w' z) = bset 10 (stB' (M 166) z) := fun z z0 z2 => bset_cg 10 fun i _ => by
        rw [sb z i]
        by_cases hi : i = t
        · subst hi
          rw [if_pos rfl, v2, decide_eq_false (show ¬ (2 : Int) = z from fun g => z2 g.symm)]
          unfold stB'
          rw [oT_c2, o2, decide_eq_false (show ¬ (0 : Int) = z from fun g => z0 g.symm), Bool.and_false]
        · rw [if_neg hi]
      generalize hMc : mU M1 23 3 ((bset 10 (stB' w' 2) : Nat) : Int) = Mc
      have c3 : Mc 23 3 = ((bset 10 (stB' w' 2) : Nat) : Int) := by rw [← hMc, mU_eq, up_eq]
      have cj : ∀ j, j ≠ 3 → Mc 23 j = M 23 j := fun j hj => by rw [← hMc, mU_eq, up_ne hj, f23 23 (by decide) (by decide)]
      have eC : gh_take (t : Int) M = some (rI (bcv ((bset 10 (stB' w' 2) : Nat) : Int)), Mc) := by
        refine preC _ ?_
        rw [ly, decide_eq_true h2.1, decide_eq_true h2.2.1, Bool.true_and, cn_t, decide_eq_true h2.2.2, cn_t, e2, bV_V, f23 23 (by decide) (by decide), hJ.2.1, set_bs (by decide) (by omega), b2', sM_eq, hMc, c3, bc_v, bI_I]
      refine act_pure (gh := gh_take (t : Int)) (E := fun c_6 M_2 => (bif Nat.beq c_6 15 then some (rI 1, M_2) else (bif Nat.beq c_6 14 then some (rI 2, M_2) else none))) (w' := w') hI hk m1 m2 m3 m4 m5 A eC bcv_I rfl (fun p hp => by rw [← hMc, mU_ne (by omega)]) (fun N1 r1 f1 w1 => ?_) hW' hS (fun j hj => vj j (by omega)) ?_
      · have wN : (mU Mc 181 0 (bcv ((bset 10 (stB' w' 2) : Nat) : Int))) 166 = M 166 := by rw [← f1 166 (by decide) (by decide)]; exact w1
        obtain ⟨M2, q1, q2, q3⟩ := mo_comes_v (N := N1) w1 hW.1 hW.2.2.2.2.1 (by omega) uPK
        have e166 : M2 166 = w' := post_eq q3 hpost
        refine ⟨M2, preR _ wN _ ?_, q2, e166⟩
        have hb := lc_nat (s := u) uPK.m
        have ts := mo_thingsIn_b (M := M2) (n := k + 1) (s := u) (z := 2) (k := fun z_26 M_25 => (bI (jdk_bitCount z_26 M_25) fun z_29 M_28 => some (rI z_29, M_28))) (by rw [e166]; exact hW'.1) uPK (by decide)
        rw [e166, post_ts hW.1 (vj 1 (by omega)) hth] at ts
        rw [show oJ (some u) = (u : Int) from rfl, bq_ge (by omega) (by decide), if_pos hb.1, mo_throwsIf_0, bq_eq (by decide) (by decide), if_pos rfl, r1, bV_V, q1, bV_V, show bI (mo_thingsIn (u : Int) 2 M2) _ = _ from ts, bc_v, bI_I]
        rfl
      · refine thg_jny hW.1 hJ h1.2 (fun j h1 _ => vj j h1) c3 ?_ ?_ (fun j j3 j4 j5 => cj j j3) ?_ (fun j hj => ?_) (fun p p1 p2 => ?_)
        · rw [cj 4 (by decide), bz 3 (by decide) (by decide)]; exact hJ.2.2.1
        · rw [cj 5 (by decide), bz 1 (by decide) (by decide)]; exact hJ.2.2.2.1
        · have := hJ.2.2.2.2.2.2.1 t h1.1 h1.2
          rw [Int.toNat_natCast, oT_c3] at this
          rw [vj _ (by omega), ← hMc, mU_ne (by decide), f23 24 (by decide) (by decide)]; exact this
        · rw [← hMc, mU_ne (by decide), f23 24 (by decide) (by decide)]
        · rw [← hMc, mU_ne (by omega), f23 p (by omega) (by omega)]
    · rw [if_neg h2] at hst
      rw [hst] at preR
      refine at_read (c := 2) (z := 0) hk hI (by decide) (fun h => absurd h (by decide)) ?_ (fun N hN e => ?_)
      · refine ansC_thr (E := fun c_6 M_2 => (bif Nat.beq c_6 15 then some (rI 1, M_2) else (bif Nat.beq c_6 14 then some (rI 2, M_2) else none))) (c := 14) (M1 := M) hX (preC _ ?_) rfl (by decide) Core.rfl' rfl
        rw [ly]
        by_cases g1 : oT (M 166) (t : Int) 2 = 0
        · by_cases g2 : oT (M 166) (t : Int) 3 = M 166 7
          · rw [decide_eq_true g1, decide_eq_true g2, Bool.true_and, cn_t, decide_eq_false (fun g3 => h2 ⟨g1, g2, g3⟩), cn_f]; exact thx_v hX
          · rw [decide_eq_false g2, Bool.and_false, cn_f]; exact thx_v hX
        · rw [decide_eq_false g1, Bool.false_and, cn_f]; exact thx_v hX
      · refine ansR_thr (z' := 0) (preR N e _ ?_) (by decide)
        rw [show oJ none = -1 from rfl, lc_neg, bq_ge (by decide) (by decide), if_neg (by decide), mo_throwsIf_1, bq_eq (by decide) (by decide), if_neg (by decide)]
  · refine at_read (c := 1) (z := 0) hk hI (by decide) (fun h => absurd h (by decide)) ?_ (fun N hN e => ?_)
    · exact ansC_thr (E := fun c_6 M_2 => (bif Nat.beq c_6 15 then some (rI 1, M_2) else (bif Nat.beq c_6 14 then some (rI 2, M_2) else none))) (c := 15) hX (checkThing_f hW.1 hL.1.2.1 hX hp h1) rfl (by decide) Core.rfl' rfl
    · refine ansR_thr (z' := 0) ?_ (by decide)
      unfold mo_take
      rw [sM_eq, mo_noThing_b (M := mU N 165 0 0) (n := k) (by rw [t0_166, e]; exact hW.1) hp, decide_eq_false (show ¬ (0 ≤ v ∧ v < (mU N 165 0 0) 166 1) by rw [t0_166, e]; exact h1), Bool.not_false, mo_throwsIf_t, bz_eq0, cn_t]
