/-! ===== PAY as a call ===== -/
theorem ok_pay {v : Int} (hp : I32 v) : OpOK (drv_pay v) (mo_pay v) := by
  intro k M hk hI
  show OpAt k M _ _
  have hI' := hI
  obtain ⟨hTp, hW, hL, hJ, hlw, hMm, hIm, hSr, hx, hch⟩ := hI'
  have hX : EXC M := ⟨hx.1, by omega⟩
  by_cases h1 : 0 ≤ v ∧ v < M 166 1
  · obtain ⟨c0, c1, c2, c3, c4, c5, c6, c7, c8, c9, c10⟩ := id hW.1
    obtain ⟨s0, s1, s2, s3, s4, s5, s6, s7⟩ := now_st hW.1 hW.2.2.1
    have sgn := (nowS_f hW.1 hW.2.2.1).2.1
    obtain ⟨t, rfl⟩ : ∃ n : Nat, v = (n : Int) := ⟨v.toNat, by omega⟩
    obtain ⟨p, hpp⟩ : ∃ n : Nat, M 166 7 = (n : Int) := ⟨(M 166 7).toNat, by omega⟩
    have hp7 : (p : Int) < M 166 0 := by omega
    have hpn : fd (nowS (M 166)) 5 4 = p := by unfold sPl at s1; omega
    obtain ⟨p0, p1, p2, p3, p4, p5, p6, p7⟩ := hW.2.1 p (by omega) hp7
    have kp : kpB (M 166) p = decide (oP (M 166) (p : Int) 0 = 1) := by
      have := kpB_eq (w := M 166) (p := (p : Int)) (by omega) hp7
      rw [Int.toNat_natCast] at this; exact this
    have pa : paB (M 166) p = decide (oP (M 166) (p : Int) 7 = 1) := by
      have := paB_eq (w := M 166) (p := (p : Int)) (by omega) hp7
      rw [Int.toNat_natCast] at this; exact this
    have stt : stB' (M 166) 2 t = decide (oT (M 166) (t : Int) 2 = 2) := by
      have := stB_eq (w := M 166) (z := 2) h1.1 h1.2
      rw [Int.toNat_natCast] at this; exact this
    have sh : M 9 t = oT (M 166) (t : Int) 0 := by
      have := (hL.2.2.2.2.1 t h1.1 h1.2).1
      rw [Int.toNat_natCast] at this; exact this
    have ts2 := (hW.2.2.1 t h1.1 h1.2).2.2.1
    have preC : ∀ X, (bif (kpB (M 166) p && !paB (M 166) p) then (bif stB' (M 166) 2 t then (bI (land_opens 3 (oT (M 166) (t : Int) 0) (p : Int) M) fun z_12 M_11 => (bif cmpB .ne z_12 0 then (bV (gh_rememberAct M_11) fun M_14 => (bV (jny_letPass 23 (p : Int) (t : Int) M_14) fun M_17 => (bI (gh_bit (M_17 3 6) (p : Int) M_17) fun z_21 M_20 => (bif cmpB .ne z_21 1 then (bif inB (p : Int) 10 then (bif cmpB .eq (M_20 8 ((p : Int)).toNat) (-1) then some (rI (M_20 8 ((p : Int)).toNat), M_20) else (bV (jny_receive 23 (M_20 8 ((p : Int)).toNat) M_20) fun M_23 => some (rI (M_20 8 ((p : Int)).toNat), M_23))) else none) else (bV (jny_lose 23 (t : Int) M_20) fun M_26 => (bif inB (p : Int) 10 then (bif cmpB .eq (M_26 8 ((p : Int)).toNat) (-1) then some (rI (M_26 8 ((p : Int)).toNat), M_26) else (bV (jny_receive 23 (M_26 8 ((p : Int)).toNat) M_26) fun M_29 => some (rI (M_26 8 ((p : Int)).toNat), M_29))) else none)))))) else thx 14 M_11)) else thx 14 M) else thx 14 M) = X → gh_pay (t : Int) M = X := by
      intro X hX
      unfold gh_pay
      rw [← hX, checkThing_t hW.1 hL.1.2.1 h1.1 h1.2, hJ.1.1, hpp, hJ.2.2.2.2.1, land_isHeldBy_b hL (by omega) (by omega) (bset_31 (by decide)), Int.toNat_natCast, bset_bit, decide_eq_true (show p < 10 by omega), Bool.true_and, bz_eq0, hJ.2.1, gh_bit_s (by decide) h1.1 (by omega), Int.toNat_natCast, bz_eq0, bq_in h1.1 (by omega), sh]
    have hst : sPy (M 166) (nowS (M 166)) t = if oP (M 166) (p : Int) 0 = 1 ∧ oP (M 166) (p : Int) 7 = 0 ∧ oT (M 166) (t : Int) 2 = 2 ∧ fitK (M 166) t p = true then some (sPd (M 166) (nowS (M 166)) t) else none := by
      have sg := sgn t h1.2
      have e7 : (bset 10 (paB (M 166))).testBit p = decide (oP (M 166) (p : Int) 7 = 1) := by
        rw [bset_bit, decide_eq_true (show p < 10 by omega), Bool.true_and, pa]
      unfold sPy
      rw [s1, hpp, s4, hpn, e7]
      by_cases g1 : oP (M 166) (p : Int) 0 = 1 ∧ oP (M 166) (p : Int) 7 = 0 ∧ oT (M 166) (t : Int) 2 = 2 ∧ fitK (M 166) t p = true
      · rw [if_pos g1, if_pos ⟨g1.1, decide_eq_false (by omega), by omega, g1.2.2.2⟩]
      · rw [if_neg g1, if_neg (fun g => g1 ⟨g.1, by have := of_decide_eq_false g.2.1; omega, by omega, g.2.2.2⟩)]
    have preR : ∀ N : MM, N 166 = M 166 → ∀ X, (bif cmpB .ge (lCmp (oJ (sPy (M 166) (nowS (M 166)) t)) 0) 0 then (mo_pay_J42 (t : Int) (oJ (sPy (M 166) (nowS (M 166)) t)) 0 (mU N 165 0 0)) else (mo_pay_J42 (t : Int) (oJ (sPy (M 166) (nowS (M 166)) t)) 1 (mU N 165 0 0))) = X → mo_pay (t : Int) N = X := by
      intro N e X hX
      have w1 : (mU N 165 0 0) 166 = M 166 := e
      unfold mo_pay
      rw [← hX, sM_eq, mo_noThing_b (M := mU N 165 0 0) (n := k) (by rw [w1]; exact hW.1) hp, decide_eq_true (show 0 ≤ (t : Int) ∧ (t : Int) < (mU N 165 0 0) 166 1 by rw [w1]; exact h1), Bool.not_true, mo_throwsIf_f, bz_eq0, cn_f, mo_now_b (M := mU N 165 0 0) (n := k) (by rw [w1]; exact hW.1) (by rw [w1]; exact hW.2.1) (by rw [w1]; exact hW.2.2.1) (by rw [w1]; exact hW.2.2.2.2.1) (by omega), w1, mo_pays_b (N := mU N 165 0 0) (n := k) (by rw [w1]; exact hW.1) (by rw [w1]; exact hW.2.1) s0 (by rw [w1, s1]; omega) (by rw [w1]; exact h1.2), w1]
    by_cases h2 : oP (M 166) (p : Int) 0 = 1 ∧ oP (M 166) (p : Int) 7 = 0 ∧ oT (M 166) (t : Int) 2 = 2 ∧ fitK (M 166) t p = true
    · rw [if_pos h2] at hst
      rw [hst] at preR
      have o2 : M 166 (92 + 4 * t) = 2 := (oT_c2 (w := M 166) (t := t)).symm.trans h2.2.2.1
      obtain ⟨⟨h9, hg1⟩, hth, hW', hS, hoth⟩ := pay_row hk hW hpp (by omega) h1.2 h2.1 h2.2.1 o2
      have pw1 : pyW (M 166) p t 1 = M 166 1 := hoth 1 (by omega) (by omega) (by omega) (by omega) (by omega) (fun i hi => by omega)
      obtain ⟨y1, y2, y3⟩ := py_sets hW.1 hp7 h1.2 o2 hg1 p5.2 hth pw1
      -- the packed state
      have hpd : PK (sPd0 (M 166) (nowS (M 166)) t) := sPd0_PK s0 (by omega) (by omega)
      have d0 : ∀ f b, (f + b ≤ 14 ∨ 44 ≤ f) → f + b ≤ 63 → fd (sPd0 (M 166) (nowS (M 166)) t) f b = fd (nowS (M 166)) f b := fun f b h h' => by
        unfold sPd0
        rw [hpn]
        cases decide (oP (M 166) (sPl (nowS (M 166))) 5 = 1) with
        | true => rw [cn_t, fd_ne h' (by decide) (by omega), fd_ne h' (by decide) (by omega)]
        | false => rw [cn_f, fd_ne h' (by decide) (by omega)]
      have dS : ∀ i, i < 10 → sG (sPd0 (M 166) (nowS (M 166)) t) i = if i = t ∧ oP (M 166) (p : Int) 5 = 1 then 3 else sG (nowS (M 166)) i := fun i hi => by
        have e1 : sG (wt (nowS (M 166)) (34 + p) 1 1) i = sG (nowS (M 166)) i := by unfold sG; rw [fd_ne (by omega) (by decide) (by omega)]
        unfold sPd0
        rw [s1, hpp, hpn]
        by_cases h5 : oP (M 166) (p : Int) 5 = 1
        · rw [decide_eq_true h5, cn_t, sG_wt (by omega) hi (by decide), e1]
          by_cases hit : i = t
          · rw [if_pos hit, if_pos ⟨hit, h5⟩]
          · rw [if_neg hit, if_neg (fun h => hit h.1)]
        · rw [decide_eq_false h5, cn_f, e1, if_neg (fun h => h5 h.2)]
      have d34 : ∀ i, (fd (sPd0 (M 166) (nowS (M 166)) t) 34 10).testBit i = if i = p then true else (bset 10 (paB (M 166))).testBit i := fun i => by
        unfold sPd0
        rw [hpn]
        cases decide (oP (M 166) (sPl (nowS (M 166))) 5 = 1) with
        | true => rw [cn_t, fd_ne (by decide) (by decide) (by omega), fd_in (by decide) (by omega), s4]
        | false => rw [cn_f, fd_in (by decide) (by omega), s4]
      have dC : sCar (M 166) (sPd0 (M 166) (nowS (M 166)) t) = bset 10 (pyC (M 166) p t) := by
        unfold sCar
        rw [← bset_ext (f := tsB (sPd0 (M 166) (nowS (M 166)) t) 2) (show (M 166 1).toNat ≤ 10 by omega)]
        apply bset_cg
        intro i hi
        unfold pyC stB' tsB
        by_cases hT : (i : Int) < M 166 1
        · have sg := sgn i hT
          rw [dS i hi, decide_eq_true hT, decide_eq_true (show i < (M 166 1).toNat by omega), Bool.true_and, Bool.true_and]
          by_cases hit : i = t
          · subst hit
            by_cases h5 : oP (M 166) (p : Int) 5 = 1
            · rw [if_pos ⟨rfl, h5⟩, decide_eq_true h5]; simp
            · rw [if_neg (fun h => h5 h.2), decide_eq_false h5]
              simp
              omega
          · rw [if_neg (fun h => hit h.1), decide_eq_false hit]
            simp
            omega
        · rw [decide_eq_false hT, decide_eq_false (show ¬ i < (M 166 1).toNat by omega)]; simp
      have uPK : PK (sPd (M 166) (nowS (M 166)) t) := sPd_PK s0 (by omega) (by omega) (by rw [s1, hpp]; omega)
      have uf : ∀ f b, (f + b ≤ 14 ∨ 34 ≤ f) → f + b ≤ 63 → fd (sPd (M 166) (nowS (M 166)) t) f b = fd (sPd0 (M 166) (nowS (M 166)) t) f b := fun f b h h' => by
        unfold sPd
        rw [s1, hpp]
        split
        · rw [fd_ne h' (by split <;> decide) (by omega)]
        · rfl
      have uS : ∀ i : Nat, (i : Int) < M 166 1 → ((sG (sPd (M 166) (nowS (M 166)) t) i : Nat) : Int) = pyS (M 166) p t i := fun i hi => by
        have sg := sgn i hi
        rw [oT_c2] at sg
        unfold sPd pyS pyR
        rw [s1, hpp, dC]
        by_cases hg : 0 ≤ oP (M 166) (p : Int) 6
        · rw [if_pos hg, sG_wt (by omega) (by omega) (by split <;> decide)]
          by_cases hig : (i : Int) = oP (M 166) (p : Int) 6
          · rw [if_pos (show i = (oP (M 166) (p : Int) 6).toNat by omega), if_pos hig]
            by_cases hc : cnt (bset 10 (pyC (M 166) p t)).testBit 10 < 4
            · rw [if_pos hc, decide_eq_true hc]; rfl
            · rw [if_neg hc, decide_eq_false hc]; rfl
          · rw [if_neg (show ¬ i = (oP (M 166) (p : Int) 6).toNat by omega), if_neg hig, dS i (by omega)]
            by_cases hit : i = t ∧ oP (M 166) (p : Int) 5 = 1
            · rw [if_pos hit, if_pos hit]; rfl
            · rw [if_neg hit, if_neg hit]; exact sg
        · rw [if_neg hg, if_neg (show ¬ (i : Int) = oP (M 166) (p : Int) 6 by omega), dS i (by omega)]
          by_cases hit : i = t ∧ oP (M 166) (p : Int) 5 = 1
          · rw [if_pos hit, if_pos hit]; rfl
          · rw [if_neg hit, if_neg hit]; exact sg
      have u0 : fd (sPd (M 166) (nowS (M 166)) t) 0 5 = 0 := by rw [uf 0 5 (by decide) (by decide), d0 0 5 (by decide) (by decide)]; exact s7
      have u5 : sPl (sPd (M 166) (nowS (M 166)) t) = M 166 7 := by rw [← s1]; unfold sPl; rw [uf 5 4 (by decide) (by decide), d0 5 4 (by decide) (by decide)]
      have u9 : ((fd (sPd (M 166) (nowS (M 166)) t) 9 5 : Nat) : Int) - 1 = M 166 8 := by rw [uf 9 5 (by decide) (by decide), d0 9 5 (by decide) (by decide)]; exact s5
      have u34 : ∀ i, (fd (sPd (M 166) (nowS (M 166)) t) 34 10).testBit i = if i = p then true else (bset 10 (paB (M 166))).testBit i := fun i => by rw [uf 34 10 (by decide) (by decide)]; exact d34 i
      have u44 : fd (sPd (M 166) (nowS (M 166)) t) 44 7 = bset 7 (frB (M 166)) := by rw [uf 44 7 (by decide) (by decide), d0 44 7 (by decide) (by decide)]; exact s6
      generalize hu : sPd (M 166) (nowS (M 166)) t = u at *
      obtain ⟨rem, nx, M1, m1, m2, m3, m4, m5, e2, A⟩ := RA_ex hMm
      have A9 := A.2.2.2.2.2.2.2.2
      have f23 : ∀ q, 3 ≤ q → q ≤ 28 → M1 q = M q := fun q h1 h2 => A9 q (by omega) (by omega) (by omega)
      have hL1 : LandR 3 (M 166) M1 := LandR_fr (fun j hj => f23 _ (by omega) (by omega)) hL
      have hJ1 : JnyR 23 (M 166) M1 := JnyR_fr (fun j hj => f23 _ (by omega) (by omega)) hJ
      obtain ⟨Mc, x1, x2, x3, x4, x5, x6, x7, x8, x9, x10, x11, x12, x13, x14⟩ := pay_cls hW hp7 h1.2 h9 hL1 hJ1 h2.1
      have hzI : I32 (oP (M 166) (p : Int) 6) := by omega
      have eC : gh_pay (t : Int) M = some (rI (oP (M 166) (p : Int) 6), Mc) := by
        refine preC _ ?_
        rw [kp, pa, stt, decide_eq_true h2.1, decide_eq_false (show ¬ oP (M 166) (p : Int) 7 = 1 by omega), decide_eq_true h2.2.2.1]
        show (bif true then _ else _) = _
        rw [cn_t, cn_t, land_opens_p hL hW.1 hW.2.1 (by omega) hp7 h2.1, show fitB (oT (M 166) (t : Int) 0) (oP (M 166) (p : Int) 1) (oP (M 166) (p : Int) 2) = true from h2.2.2.2, bz_ne0, cn_t, e2, bV_V]
        exact x1
      refine act_pure (gh := gh_pay (t : Int)) (E := fun c_6 M_2 => (bif Nat.beq c_6 15 then some (rI 1, M_2) else (bif Nat.beq c_6 14 then some (rI 2, M_2) else none))) (w' := pyW (M 166) p t) hI hk m1 m2 m3 m4 m5 A eC hzI rfl x2 (fun N1 r1 f1 w1 => ?_) hW' hS (fun j hj => hoth j (by omega) (by omega) (by omega) (by omega) (by omega) (fun i hi => by omega)) ?_
      · have wN : (mU Mc 181 0 (oP (M 166) (p : Int) 6)) 166 = M 166 := by rw [← f1 166 (by decide) (by decide)]; exact w1
        generalize hNb : mU (mU (mU (mU N1 166 (236 + 3 * (M 166 9).toNat) (p : Int)) 166 (237 + 3 * (M 166 9).toNat) (t : Int)) 166 (238 + 3 * (M 166 9).toNat) (M 166 6)) 166 9 (M 166 9 + 1) = Nb
        have nbF : ∀ q, q ≠ 166 → Nb q = N1 q := fun q hq => by rw [← hNb, mU_ne hq, mU_ne hq, mU_ne hq, mU_ne hq]
        have nb : ∀ j, j ≠ 9 → j ≠ 236 + 3 * (M 166 9).toNat → j ≠ 237 + 3 * (M 166 9).toNat → j ≠ 238 + 3 * (M 166 9).toNat → Nb 166 j = M 166 j := fun j a b c d => by rw [← hNb, mU_eq, up_ne a, mU_eq, up_ne d, mU_eq, up_ne c, mU_eq, up_ne b, w1]
        have nb9 : Nb 166 9 = M 166 9 + 1 := by rw [← hNb]; rfl
        have nbl : ∀ j, j < 236 → j ≠ 9 → Nb 166 j = M 166 j := fun j a b => nb j b (by omega) (by omega) (by omega)
        have hCb : WC k (Nb 166) := by
          unfold WC
          rw [nbl 0 (by decide) (by decide), nbl 1 (by decide) (by decide), nbl 2 (by decide) (by decide), nbl 3 (by decide) (by decide), nbl 4 (by decide) (by decide), nbl 5 (by decide) (by decide), nbl 6 (by decide) (by decide), nbl 7 (by decide) (by decide), nbl 8 (by decide) (by decide), nb9]
          exact ⟨c0, c1, c2, c3, c4, c5, c6, c7, c8, by omega, c10⟩
        have hBb : WB (Nb 166) := by
          intro b g0 g1
          rw [nbl 3 (by decide) (by decide)] at g1
          have e : ∀ j, 0 ≤ j → j ≤ 5 → oB (Nb 166) b j = oB (M 166) b j := fun j a b' => nbl _ (by omega) (by omega)
          rw [e 0 (by decide) (by decide), e 1 (by decide) (by decide), e 2 (by decide) (by decide), e 3 (by decide) (by decide), e 4 (by decide) (by decide), e 5 (by decide) (by decide), nbl 0 (by decide) (by decide), nbl 6 (by decide) (by decide)]
          exact hW.2.2.2.2.1 b g0 g1
        obtain ⟨M2, q1, q2, q3⟩ := mo_comes_v (N := Nb) rfl hCb hBb (by omega) uPK
        have v17 : pyW (M 166) p t (17 + 8 * p) = 1 := by unfold pyW; rw [if_neg (by omega), if_neg (by omega), if_neg (by omega), if_neg (by omega), if_pos rfl]
        have hpost : Post (Nb 166) u (pyW (M 166) p t) := by
          refine ⟨⟨?_, ?_, ?_⟩, fun i hi => ?_, fun q hq => ?_, fun b hb => ?_, fun j g1 g2 g3 g4 g5 g6 => ?_⟩
          · rw [nbl 6 (by decide) (by decide), u0, hoth 6 (by omega) (by omega) (by omega) (by omega) (by omega) (fun i hi => by omega)]; omega
          · rw [u5, hoth 7 (by omega) (by omega) (by omega) (by omega) (by omega) (fun i hi => by omega)]
          · rw [u9, hoth 8 (by omega) (by omega) (by omega) (by omega) (by omega) (fun i hi => by omega)]
          · rw [nbl 1 (by decide) (by decide)] at hi
            rw [hth i hi]; exact (uS i hi).symm
          · rw [nbl 0 (by decide) (by decide)] at hq
            rw [u34 q]
            by_cases hqp : q = p
            · subst hqp
              rw [if_pos rfl, v17]; rfl
            · rw [if_neg hqp, hoth _ (by omega) (by omega) (by omega) (by omega) (by omega) (fun i hi => by omega), now_pl hW.1 hW.2.1 hq]
          · rw [nbl 3 (by decide) (by decide)] at hb
            rw [nbl _ (by omega) (by omega), u44, now_br hW.1 hb, hoth _ (by omega) (by omega) (by omega) (by omega) (by omega) (fun i hi => by omega)]
          · rw [nbl 1 (by decide) (by decide)] at g4
            rw [nbl 0 (by decide) (by decide)] at g5
            by_cases a : j = 9
            · rw [a, nb9]; unfold pyW; rw [if_pos rfl]
            by_cases b : j = 236 + 3 * (M 166 9).toNat
            · rw [b, ← hNb, mU_eq, up_ne (by omega), mU_eq, up_ne (by omega), mU_eq, up_ne (by omega), mU_eq, up_eq]; unfold pyW; rw [if_neg (by omega), if_pos rfl]
            by_cases c : j = 237 + 3 * (M 166 9).toNat
            · rw [c, ← hNb, mU_eq, up_ne (by omega), mU_eq, up_ne (by omega), mU_eq, up_eq]; unfold pyW; rw [if_neg (by omega), if_neg (by omega), if_pos rfl]
            by_cases d : j = 238 + 3 * (M 166 9).toNat
            · rw [d, ← hNb, mU_eq, up_ne (by omega), mU_eq, up_eq]; unfold pyW; rw [if_neg (by omega), if_neg (by omega), if_neg (by omega), if_pos rfl]
            rw [nb j a b c d, hoth j a b c d (g5 p hp7) g4]
        have e166 : M2 166 = pyW (M 166) p t := post_eq q3 hpost
        refine ⟨M2, preR _ wN _ ?_, fun q hq => (q2 q hq).trans (nbF q hq), e166⟩
        have hb := lc_nat (s := u) uPK.m
        rw [show oJ (some u) = (u : Int) from rfl, bq_ge (by omega) (by decide), if_pos hb.1]
        unfold mo_pay_J42
        rw [mo_throwsIf_0, bq_eq (by decide) (by decide), if_pos rfl, r1, bV_V, w1, bq_in (by decide) (by decide), bq_in (by decide) (by decide), bq_in (by omega) (by omega), sM_eq, bq_in (by omega) (by omega), sM_eq, bq_in (by decide) (by decide), bq_in (by omega) (by omega), sM_eq, bq_in (by decide) (by decide), bq_in (by decide) (by decide), sM_eq, show (236 + 3 * M 166 9).toNat = 236 + 3 * (M 166 9).toNat by omega, show (236 + 3 * M 166 9 + 1).toNat = 237 + 3 * (M 166 9).toNat by omega, show (236 + 3 * M 166 9 + 2).toNat = 238 + 3 * (M 166 9).toNat by omega, hpp]
        rw [show (mU (mU N1 166 (236 + 3 * (M 166 9).toNat) (p : Int)) 166 (237 + 3 * (M 166 9).toNat) (t : Int)) 166 6 = M 166 6 from by rw [mU_eq, up_ne (by omega), mU_eq, up_ne (by omega), w1], show (mU (mU (mU N1 166 (236 + 3 * (M 166 9).toNat) (p : Int)) 166 (237 + 3 * (M 166 9).toNat) (t : Int)) 166 (238 + 3 * (M 166 9).toNat) (M 166 6)) 166 9 = M 166 9 from by rw [mU_eq, up_ne (by omega), mU_eq, up_ne (by omega), mU_eq, up_ne (by omega), w1], hNb, q1, bV_V, mo_of_b (by omega) (by omega) (by decide) (by decide), e166]
        rw [show oP (pyW (M 166) p t) (p : Int) 6 = oP (M 166) (p : Int) 6 from hoth _ (by omega) (by omega) (by omega) (by omega) (by omega) (fun i hi => by omega)]
      · obtain ⟨⟨j0, j1, j2, j8⟩, j3, j4, j5, j6, j7, q1, q2, q3, q4⟩ := hJ1
        have v17 : pyW (M 166) p t (17 + 8 * p) = 1 := by unfold pyW; rw [if_neg (by omega), if_neg (by omega), if_neg (by omega), if_neg (by omega), if_pos rfl]
        have hlo : ∀ j, j < 92 → j ≠ 9 → j ≠ 17 + 8 * p → pyW (M 166) p t j = M 166 j := fun j a b c => hoth j b (by omega) (by omega) (by omega) c (fun i hi => by omega)
        have ep : ∀ i, i < 10 → (paB (M 166) i || decide (i = p)) = paB (pyW (M 166) p t) i := fun i hi => by
          unfold paB
          rw [hlo 0 (by decide) (by decide) (by omega), oP_c7, oP_c7]
          by_cases hip : i = p
          · subst hip
            rw [v17, decide_eq_true hp7]; simp
          · rw [decide_eq_false hip, Bool.or_false]
            by_cases hi0 : (i : Int) < M 166 0
            · rw [hoth _ (by omega) (by omega) (by omega) (by omega) (by omega) (fun i hi => by omega)]
            · rw [decide_eq_false hi0, Bool.false_and, Bool.false_and]
        have ef : ∀ i, i < 7 → frB (pyW (M 166) p t) i = frB (M 166) i := fun i hi => by
          unfold frB
          rw [hlo 3 (by decide) (by decide) (by omega), oB_c5, oB_c5, hoth _ (by omega) (by omega) (by omega) (by omega) (by omega) (fun i hi => by omega)]
        have v9 : pyW (M 166) p t 9 = M 166 9 + 1 := by unfold pyW; rw [if_pos rfl]
        have sets : Mc 23 3 = ((bset 10 (stB' (pyW (M 166) p t) 2) : Nat) : Int) ∧ Mc 23 5 = ((bset 10 (stB' (pyW (M 166) p t) 1) : Nat) : Int) := by
          by_cases hg : oP (M 166) (p : Int) 6 = -1
          · obtain ⟨z1, z2⟩ := x11 hg
            obtain ⟨z3, z4⟩ := y2 hg
            rw [z1, z2, z3, z4]; exact ⟨rfl, rfl⟩
          · obtain ⟨g, hgg⟩ : ∃ g : Nat, (g : Int) = oP (M 166) (p : Int) 6 := ⟨(oP (M 166) (p : Int) 6).toNat, by omega⟩
            obtain ⟨z1, z2⟩ := x10 g hgg
            obtain ⟨z3, z4⟩ := y1 g hgg
            rw [z1, z2, z3, z4]; exact ⟨rfl, rfl⟩
        refine ⟨⟨by rw [x5 0 (by decide), hlo 7 (by decide) (by decide) (by omega)]; exact j0, by rw [x5 1 (by decide), hlo 6 (by decide) (by decide) (by omega)]; exact j1, by rw [x5 2 (by decide), hlo 8 (by decide) (by decide) (by omega)]; exact j2, by rw [x7, v9]⟩, sets.1, by rw [x9, y3], sets.2, by rw [x8, bset_cg 10 ep], by rw [x6, bset_cg 7 ef]; exact j7, fun i a b => ?_, fun i a b => ?_, fun b a c d => ?_, fun q a b => ?_⟩
        · rw [hlo 1 (by decide) (by decide) (by omega)] at b
          rw [show oT (pyW (M 166) p t) i 3 = oT (M 166) i 3 from hoth _ (by omega) (by omega) (by omega) (by omega) (by omega) (fun i hi => by omega), show Mc (23 + 1) = M1 24 from x3]
          exact q1 i a b
        · rw [hlo 1 (by decide) (by decide) (by omega)] at a
          rw [show Mc (23 + 1) = M1 24 from x3]
          exact q2 i a b
        · rw [hlo 3 (by decide) (by decide) (by omega)] at c
          have e5 : oB (pyW (M 166) p t) b 5 = oB (M 166) b 5 := hoth _ (by omega) (by omega) (by omega) (by omega) (by omega) (fun i hi => by omega)
          rw [e5] at d ⊢
          rw [show Mc (23 + 2) = M1 25 from x4]
          exact q3 b a c d
        · rw [v9] at b
          rw [show Mc (23 + 3) = _ from x12, show Mc (23 + 4) = _ from x13, show Mc (23 + 5) = _ from x14]
          by_cases hq : q = M 166 9
          · have a0 : pyW (M 166) p t (236 + 3 * (M 166 9).toNat) = p := by unfold pyW; rw [if_neg (by omega), if_pos rfl]
            have a1 : pyW (M 166) p t (237 + 3 * (M 166 9).toNat) = t := by unfold pyW; rw [if_neg (by omega), if_neg (by omega), if_pos rfl]
            have a2 : pyW (M 166) p t (238 + 3 * (M 166 9).toNat) = M 166 6 := by unfold pyW; rw [if_neg (by omega), if_neg (by omega), if_neg (by omega), if_pos rfl]
            rw [show (236 + 3 * q).toNat = 236 + 3 * (M 166 9).toNat by omega, show (236 + 3 * q + 1).toNat = 237 + 3 * (M 166 9).toNat by omega, show (236 + 3 * q + 2).toNat = 238 + 3 * (M 166 9).toNat by omega, a0, a1, a2, show q.toNat = (M 166 9).toNat by omega, up_eq, up_eq, up_eq]
            exact ⟨rfl, rfl, rfl⟩
          · rw [up_ne (by omega), up_ne (by omega), up_ne (by omega), hoth _ (by omega) (by omega) (by omega) (by omega) (by omega) (fun i hi => by omega), hoth _ (by omega) (by omega) (by omega) (by omega) (by omega) (fun i hi => by omega), hoth _ (by omega) (by omega) (by omega) (by omega) (by omega) (fun i hi => by omega)]
            exact q4 q a (by omega)
    · rw [if_neg h2] at hst
      rw [hst] at preR
      refine at_read (c := 2) (z := 0) hk hI (by decide) (fun h => absurd h (by decide)) ?_ (fun N hN e => ?_)
      · refine ansC_thr (E := fun c_6 M_2 => (bif Nat.beq c_6 15 then some (rI 1, M_2) else (bif Nat.beq c_6 14 then some (rI 2, M_2) else none))) (c := 14) (M1 := M) hX (preC _ ?_) rfl (by decide) Core.rfl' rfl
        rw [kp, pa, stt]
        by_cases g1 : oP (M 166) (p : Int) 0 = 1
        · by_cases g2 : oP (M 166) (p : Int) 7 = 1
          · rw [decide_eq_true g2, Bool.not_true, Bool.and_false, cn_f]; exact thx_v hX
          · rw [decide_eq_true g1, decide_eq_false g2, Bool.not_false, Bool.and_true, cn_t]
            by_cases g3 : oT (M 166) (t : Int) 2 = 2
            · rw [decide_eq_true g3, cn_t, land_opens_p hL hW.1 hW.2.1 (by omega) hp7 g1, bz_ne0]
              cases g4 : fitB (oT (M 166) (t : Int) 0) (oP (M 166) (p : Int) 1) (oP (M 166) (p : Int) 2) with
              | true => exact absurd ⟨g1, by omega, g3, g4⟩ h2
              | false => rw [cn_f]; exact thx_v hX
            · rw [decide_eq_false g3, cn_f]; exact thx_v hX
        · rw [decide_eq_false g1, Bool.false_and, cn_f]; exact thx_v hX
      · refine ansR_thr (z' := 0) (preR N e _ ?_) (by decide)
        rw [show oJ none = -1 from rfl, lc_neg, bq_ge (by decide) (by decide), if_neg (by decide)]
        unfold mo_pay_J42
        rw [mo_throwsIf_1, bq_eq (by decide) (by decide), if_neg (by decide)]
  · refine at_read (c := 1) (z := 0) hk hI (by decide) (fun h => absurd h (by decide)) ?_ (fun N hN e => ?_)
    · exact ansC_thr (E := fun c_6 M_2 => (bif Nat.beq c_6 15 then some (rI 1, M_2) else (bif Nat.beq c_6 14 then some (rI 2, M_2) else none))) (c := 15) hX (checkThing_f hW.1 hL.1.2.1 hX hp h1) rfl (by decide) Core.rfl' rfl
    · refine ansR_thr (z' := 0) ?_ (by decide)
      unfold mo_pay
      rw [sM_eq, mo_noThing_b (M := mU N 165 0 0) (n := k) (by rw [t0_166, e]; exact hW.1) hp, decide_eq_false (show ¬ (0 ≤ v ∧ v < (mU N 165 0 0) 166 1) by rw [t0_166, e]; exact h1), Bool.not_false, mo_throwsIf_t, bz_eq0, cn_t]
