/-! ===== THE TALE: a keeper's line on both sides ===== -/
theorem La_ap' {w : Nat → Int} {t : Nat} {s v z p : Int} {C C' : MM} (hL : LandR 29 w C) (h1 : w 1 = (t : Int)) (ht : t < 10) (c0 : w 0 ≤ 10) (g29 : ∀ j, j ≠ 1 → C' 29 j = C 29 j) (g1 : C' 29 1 = (t : Int) + 1) (g : ∀ a, 30 ≤ a → a ≤ 42 → a ≠ 35 → a ≠ 36 → C' a = C a) (g35 : ∀ j, C' 35 j = if j = t then s else C 35 j) (g36 : ∀ j, C' 36 j = if j = t then v else C 36 j) : LandR 29 (apW w t s v z p) C' := by
  obtain ⟨⟨a0, a1, a2, a3, a4⟩, a5, a6, a7, a8, a9, a10⟩ := hL
  have e1 : apW w t s v z p 1 = (t : Int) + 1 := rfl
  refine ⟨⟨by rw [g29 0 (by decide), apW_sm (by decide) (by decide)]; exact a0, by rw [g1, e1], by rw [g29 2 (by decide), apW_sm (by decide) (by decide)]; exact a2, by rw [g29 3 (by decide), apW_sm (by decide) (by decide)]; exact a3, by rw [g29 4 (by decide), apW_sm (by decide) (by decide)]; exact a4⟩, by rw [g29 5 (by decide), a5, bset_cg 10 (fun i _ => apW_kp h1 c0 i)], by rw [g29 6 (by decide), a6, bset_cg 10 (fun i _ => apW_tk c0 i)], fun i hi hi2 hk => ?_, fun i hi hi2 => ?_, fun r hr hr2 => ?_, fun b hb hb2 => ?_⟩
  · rw [apW_sm (by decide) (by decide)] at hi2
    rw [apW_P hi (by omega) (by decide) (by decide)] at hk
    rw [g (29 + 1) (by decide) (by decide) (by decide) (by decide), g (29 + 2) (by decide) (by decide) (by decide) (by decide), g (29 + 3) (by decide) (by decide) (by decide) (by decide), g (29 + 4) (by decide) (by decide) (by decide) (by decide), g (29 + 5) (by decide) (by decide) (by decide) (by decide), apW_P hi (by omega) (by decide) (by decide), apW_P hi (by omega) (by decide) (by decide), apW_P hi (by omega) (by decide) (by decide), apW_P hi (by omega) (by decide) (by decide), apW_P hi (by omega) (by decide) (by decide)]
    exact a7 i hi hi2 hk
  · rw [e1] at hi2
    show C' 35 i.toNat = _ ∧ C' 36 i.toNat = _
    rw [g35, g36]
    by_cases e : i = t
    · subst e
      rw [Int.toNat_natCast, if_pos rfl, if_pos rfl, apW_n (by decide) (by decide), apW_n (by decide) (by decide)]
      exact ⟨rfl, rfl⟩
    · rw [if_neg (by omega), if_neg (by omega), apW_T hi (by omega) (by decide) (by decide), apW_T hi (by omega) (by decide) (by decide)]
      exact a8 i hi (by omega)
  · rw [apW_sm (by decide) (by decide)] at hr2
    rw [g (29 + 8) (by decide) (by decide) (by decide) (by decide), g (29 + 9) (by decide) (by decide) (by decide) (by decide), g (29 + 10) (by decide) (by decide) (by decide) (by decide), apW_R ht hr (by decide), apW_R ht hr (by decide), apW_R ht hr (by decide), apW_R ht hr (by decide)]
    exact a9 r hr hr2
  · rw [apW_sm (by decide) (by decide)] at hb2
    rw [g (29 + 11) (by decide) (by decide) (by decide) (by decide), g (29 + 1) (by decide) (by decide) (by decide) (by decide), g (29 + 2) (by decide) (by decide) (by decide) (by decide), g (29 + 12) (by decide) (by decide) (by decide) (by decide), g (29 + 13) (by decide) (by decide) (by decide) (by decide), apW_B ht hb (by decide), apW_B ht hb (by decide), apW_B ht hb (by decide), apW_B ht hb (by decide), apW_B ht hb (by decide)]
    exact a10 b hb hb2
/-- what stands of a keeper on both sides, but for what he has -/
def KpR (C N CC N2 : MM) (p : Nat) (f : Nat → Int) : Prop := (FrT C CC ∧ (∀ j, j ≠ 6 → CC 29 j = C 29 j) ∧ CC 29 6 = ((bset 10 (fun i => tkB (N 166) i || (decide (f 5 = 1) && decide (i = p))) : Nat) : Int) ∧ (∀ i, i < 4 → ∀ j, CC (30 + i) j = if j = p then f (i + 1) else C (30 + i) j) ∧ ∀ a, 34 ≤ a → a ≤ 54 → CC a = C a) ∧ (∀ a, a ≠ 166 → N2 a = N a) ∧ N2 166 = kpW (N 166) p f
theorem sets_b {N : MM} {w : Nat → Int} {p e q i : Nat} {f : Nat → Int} {x : Int} {k : MM → OR} (h : N 166 = kpW w p f) (hp : p < 10) (hi : i < 7) : ∃ N', bV (mo_sets (p : Int) (i : Int) x (nT N q e)) k = k (nT N' q e) ∧ N' 166 = kpW w p (up f i x) ∧ ∀ a, a ≠ 166 → N' a = N a := by
  refine ⟨mU N 166 (10 + 8 * p + i) x, ?_, ?_, fun a ha => mU_ne ha⟩
  · unfold mo_sets
    rw [bq_in (by omega) (by omega), sM_eq, bV_V, show ((10 + 8 * (p : Int)) + (i : Int)).toNat = 10 + 8 * p + i by omega, nT_u (by decide)]
  · funext j
    rw [mU_ap, if_pos rfl, h]
    unfold kpW blW up
    by_cases e0 : j = 0
    · rw [if_neg (by omega), if_pos e0, if_pos e0]
    · rw [if_neg e0, if_neg e0]
      by_cases e : j = 10 + 8 * p + i
      · rw [if_pos e, if_pos (by omega), if_pos (by omega)]
      · rw [if_neg e]
        by_cases h2 : 10 + 8 * p ≤ j ∧ j < 10 + 8 * p + 7
        · rw [if_pos h2, if_pos h2, if_neg (by omega)]
        · rw [if_neg h2, if_neg h2]
theorem kp_start {w : Nat → Int} {p : Nat} : kpW w p (fun j => w (10 + 8 * p + j)) = w := by
  funext j
  unfold kpW blW
  by_cases e0 : j = 0
  · rw [if_pos e0, e0]
  · rw [if_neg e0]
    by_cases h2 : 10 + 8 * p ≤ j ∧ j < 10 + 8 * p + 7
    · rw [if_pos h2]
      show w (10 + 8 * p + (j - (10 + 8 * p))) = w j
      rw [show 10 + 8 * p + (j - (10 + 8 * p)) = j by omega]
    · rw [if_neg h2]
theorem keep_has {T : Nat → Int} {n k p pp l e p0 : Nat} {C N CC N2 : MM} {f : Nat → Int} (hC : TC T n C) (hN : TN T n N) (hD : DrT k C N) (hpp : pp ≤ n) (h0 : (p : Int) < N 166 0) (k0 : oP (N 166) (p : Int) 0 = 0) (hf : kpF f) (f6 : f 6 = -1) (hK : KpR C N CC N2 p f) (hp0 : p0 ≤ pp) : LnR n k C N p0 (tale_readKeeper_J67 (p : Int) (tpT CC pp l (-1))) (bI (mo_passes 64 (nT N2 pp e)) fun z_33 M_32 => (bif cmpB .eq z_33 0 then some (rI 1, M_32) else (bI (mo_readHaving (p : Int) M_32) fun z_36 M_35 => (bif cmpB .eq z_36 0 then some (rI 0, M_35) else some (rI 1, M_35))))) := by
  obtain ⟨hL, hJ, hW⟩ := hD
  have c0 := hW.1.1
  have c1 := hW.1.2.1
  have c9 := hW.1.2.2.2.2.2.2.2.2.2.1
  have hp : p < 10 := by omega
  have n4 := hC.2.1
  obtain ⟨t, ht⟩ : ∃ t : Nat, N 166 1 = (t : Int) := ⟨(N 166 1).toNat, by omega⟩
  obtain ⟨⟨q1, q2, q3, q4, q5⟩, r1, r2⟩ := hK
  have z := (hW.2.1 (p : Int) (by omega) h0).2.2.2.2.2.2.2 k0
  have tCC := q1.t hC
  have tN2 : TN T n N2 := by
    unfold TN at *
    rw [r1 165 (by decide), r1 170 (by decide)]
    exact hN
  have fN2 : FrN N N2 := FrN_w r2 r1 (fun j hj => kpW_hi hp (by omega)) (fun j h1 h2 => kpW_sm h2)
  have e295 : CC 29 5 = ((bset 10 (kpB (N 166)) : Nat) : Int) := by rw [q2 5 (by decide)]; exact hL.2.1
  have a1 := skB_le (T := T) hpp
  unfold tale_readKeeper_J67
  rw [word_b tCC hpp (wk rfl), wd_cg (t := 12) (t' := 64) rfl rfl, passes_b tN2 hpp (wk rfl)]
  generalize skB T n pp = qa at a1
  have w64 : wLen 64 = 3 ∧ wLen 12 = 3 := by decide
  -- the class's end
  have e1p : iOr ((bset 10 (kpB (N 166)) : Nat) : Int) (iShl 1 (p : Int)) = ((bset 10 (fun i => kpB (N 166) i || decide (i = p)) : Nat) : Int) := set_bs (by decide) hp
  by_cases g1 : wdB T n 64 qa = true
  · have b1 := wd_le a1.2 g1
    rw [w64.1] at b1
    rw [if_pos g1, if_pos g1, w64.1, w64.2, bq_eq (by decide) (by decide), if_neg (show ¬ (1 : Int) = 0 by decide), bq_eq (by decide) (by decide), if_neg (show ¬ (1 : Int) = 0 by decide)]
    have h291 : CC 29 1 = (t : Int) := by rw [q2 1 (by decide), hL.1.2.1, ht]
    have n1 : N2 166 1 = (t : Int) := by rw [r2, kpW_sm (by decide), ht]
    have hl := nt_le (T := T) b1
    have R := nt_r (q := qa) (G := fun z_6 z_9 M_8 => mo_readHaving_J36 (p : Int) z_6 z_9 M_8) tN2 b1 n1 (by omega) (fun z M => by
      unfold mo_readHaving_J36
      rw [bq_ge (by decide) (by decide), if_neg (by decide)])
    have eR : mo_readHaving (p : Int) (nT N2 (qa + 3) qa) = (bI (mo_things (nT N2 (qa + 3) qa)) fun z_3 M_2 => (bif cmpB .ne z_3 10 then (bI (mo_number 0 15 M_2) fun z_6 M_5 => (bif cmpB .ge z_6 0 then (bI (mo_after 54 1 99 M_5) fun z_9 M_8 => ((fun z_6 z_9 M_8 => mo_readHaving_J36 (p : Int) z_6 z_9 M_8) z_6 z_9 M_8)) else ((fun z_6 z_9 M_8 => mo_readHaving_J36 (p : Int) z_6 z_9 M_8) z_6 (-1) M_5))) else some (rI 0, M_2))) := rfl
    rcases nt_c (k := fun z_33 M_32 => (tale_readKeeper_J87 (p : Int) z_33 M_32)) tCC b1 a1.2 h291 (by omega) with ⟨ok, run⟩ | ⟨qb, C', p', l', z', bad, f1, hp', hqb, hz, run⟩
    · obtain ⟨g, g1', g2, g3⟩ := ok
      obtain ⟨b1', b2', b3, b4, b5⟩ := hl.2.2.2.2 g2
      have i1 := nuO_i.mp g1'
      have i3 := nuO_i.mp g3
      rw [run, eR, R.1 ⟨g, g1', g2, g3⟩]
      generalize hs : nuV T n (ntq1 T n (qa + 3)) = s at *
      generalize hv : nuV T n (ntq3 T n (qa + 3)) = v at *
      have hs' : 0 ≤ s ∧ s ≤ 15 := by
        rw [← hs]; exact i1.2.2
      have hv' : 1 ≤ v ∧ v ≤ 99 := by
        rw [← hv]; exact i3.2.2
      -- the reference
      obtain ⟨N3, x1, x2, x3⟩ := sets_b (q := dgE T n (ntq3 T n (qa + 3))) (e := ntq3 T n (qa + 3)) (i := 6) (x := (t : Int)) (k := fun M_14 => (bV (mo_appends s v 1 (p : Int) M_14) fun M_17 => some (rI 1, M_17))) r2 hp (by decide)
      have n31 : N3 166 1 = (t : Int) := by rw [x2, kpW_sm (by decide), ht]
      obtain ⟨N4, y1, y2, y3⟩ := appends_b (N := N3) (s := s) (v := v) (z := 1) (x := (p : Int)) (p' := dgE T n (ntq3 T n (qa + 3))) (e' := ntq3 T n (qa + 3)) (k := fun M_17 => some (rI 1, M_17)) n31 g
      have ref : mo_readHaving_J36 (p : Int) s v (nT N2 (dgE T n (ntq3 T n (qa + 3))) (ntq3 T n (qa + 3))) = some (rI 1, nT N4 (dgE T n (ntq3 T n (qa + 3))) (ntq3 T n (qa + 3))) := by
        unfold mo_readHaving_J36
        rw [bq_ge (by omega) (by decide), if_pos (show (0 : Int) ≤ v by omega), mo_things_b, nT_ne (show 166 ≠ 165 by decide), n1, show bV (mo_sets (p : Int) 6 (t : Int) _) _ = _ from x1, y1]
      -- the class
      have eL5 : C 49 5 = ((bset 10 (stB' (N 166) 1) : Nat) : Int) := hJ.2.2.2.1
      have e49 : ntC CC t s v 49 5 = C 49 5 := by
        unfold ntC
        rw [mU_ne (by decide), mU_ne (by decide), mU_ne (by decide), q5 49 (by decide) (by decide)]
      have e29 : ∀ j, j ≠ 1 → ntC CC t s v 29 j = CC 29 j := fun j hj => by
        unfold ntC
        rw [mU_ne (by decide), mU_ne (by decide), mU_ap, if_pos rfl, if_neg hj]
      have run87 : tale_readKeeper_J87 (p : Int) (t : Int) (tpT (ntC CC t s v) (dgE T n (ntq3 T n (qa + 3))) (ntq3 T n (qa + 3)) (-1)) = some (rV, tpT (mU (mU (mU (mU (ntC CC t s v) 50 t (p : Int)) 49 5 (iOr (C 49 5) (iShl 1 (t : Int)))) 34 p (t : Int)) 29 5 (iOr (CC 29 5) (iShl 1 (p : Int)))) (dgE T n (ntq3 T n (qa + 3))) (ntq3 T n (qa + 3)) (-1)) := by
        unfold tale_readKeeper_J87
        rw [bq_eq (by omega) (by decide), if_neg (show ¬ ((t : Nat) : Int) = -1 by omega), bq_in (by omega) (by omega), sM_eq, Int.toNat_natCast, cT_u (by decide), sM_eq, cT_ne (show 49 ≠ 1 by decide), cT_u (by decide), bq_in (by omega) (by omega), sM_eq, Int.toNat_natCast, cT_u (by decide), sM_eq, cT_ne (show 29 ≠ 1 by decide), cT_u (by decide), mU_ne (show 49 ≠ 50 by decide), e49, mU_ne (show 29 ≠ 34 by decide), mU_ne (show 29 ≠ 49 by decide), mU_ne (show 29 ≠ 50 by decide), e29 5 (by decide)]
      show LnR n k C N p0 (tale_readKeeper_J87 (p : Int) (t : Int) _) (bI (mo_readHaving_J36 (p : Int) s v _) _)
      rw [run87, ref, bI_I, bq_eq (by decide) (by decide), if_neg (show ¬ (1 : Int) = 0 by decide)]
      have fC : FrT C (mU (mU (mU (mU (ntC CC t s v) 50 t (p : Int)) 49 5 (iOr (C 49 5) (iShl 1 (t : Int)))) 34 p (t : Int)) 29 5 (iOr (CC 29 5) (iShl 1 (p : Int)))) := q1.tr (ntC_fr.tr (FrT.tr (FrT.tr (FrT.tr (FrT.u (by omega)) (FrT.u (by omega))) (FrT.u (by omega))) (FrT.u (by omega))))
      have w4 : N4 166 = apW (kpW (N 166) p (up f 6 (t : Int))) t s v 1 (p : Int) := by rw [y2, x2]
      have hf' : kpF (up f 6 (t : Int)) := hf
      have LL : LandR 29 (kpW (N 166) p (up f 6 (t : Int))) (mU (mU CC 34 p (t : Int)) 29 5 (iOr (CC 29 5) (iShl 1 (p : Int)))) := by
        refine La_kp hL h0 hp z.2.2.2.2.1 hf'.1 hf'.2.2.2.2 (fun j h5 h6 => ?_) ?_ ?_ (fun a h1 h2 => ?_) (fun i hi j => ?_)
        · rw [mU_ap, if_pos rfl, if_neg h5, mU_ne (by decide)]
          exact q2 j h6
        · rw [mU_ap, if_pos rfl, if_pos rfl, e295, e1p]
        · rw [mU_ap, if_pos rfl, if_neg (by decide), mU_ne (by decide), q3]; rfl
        · rw [mU_ne (by omega), mU_ne (by omega), q5 a (by omega) (by omega)]
        · rw [mU_ne (by omega)]
          by_cases e4 : i = 4
          · subst e4
            rw [mU_ap, if_pos rfl, q5 34 (by decide) (by decide)]; rfl
          · rw [mU_ne (by omega), q4 i (by omega)]
            match i, hi, e4 with
            | 0, _, _ => rfl
            | 1, _, _ => rfl
            | 2, _, _ => rfl
            | 3, _, _ => rfl
            | i + 4, h, e4 => exact absurd h (by omega)
      have JJ : JnyR 49 (kpW (N 166) p (up f 6 (t : Int))) (mU (mU CC 34 p (t : Int)) 29 5 (iOr (CC 29 5) (iShl 1 (p : Int)))) := Jn_kp hJ hp (fun a h1 h2 => by rw [mU_ne (by omega), mU_ne (by omega), q5 a (by omega) h2])
      have k1 : kpW (N 166) p (up f 6 (t : Int)) 1 = (t : Int) := by rw [kpW_sm (by decide), ht]
      have k00 : kpW (N 166) p (up f 6 (t : Int)) 0 ≤ 10 := by rw [kpW_sm (by decide)]; exact c0.2
      refine Or.inl ⟨_, N4, _, _, _, rfl, rfl, fC, FrN_w w4 (fun a ha => by rw [y3 a ha, x3 a ha, r1 a ha]) (fun j hj => by rw [apW_hi g (by omega), kpW_hi hp (by omega)]) (fun j h1 h2 => by rw [apW_sm (by omega) h2, kpW_sm h2]), ⟨?_, ?_, ?_⟩, by omega, b5⟩
      · rw [w4]
        refine La_ap' LL k1 g k00 (fun j hj => ?_) ?_ (fun a h1 h2 h3 h4 => ?_) (fun j => ?_) (fun j => ?_)
        · have eX : (mU (mU (mU (ntC CC t s v) 50 t (p : Int)) 49 5 (iOr (C 49 5) (iShl 1 (t : Int)))) 34 p (t : Int)) 29 j = CC 29 j := by rw [mU_ne (show 29 ≠ 34 by decide), mU_ne (show 29 ≠ 49 by decide), mU_ne (show 29 ≠ 50 by decide), e29 j hj]
          have eY : (mU CC 34 p (t : Int)) 29 j = CC 29 j := by rw [mU_ne (show 29 ≠ 34 by decide)]
          rw [mU_eq, mU_eq]
          unfold up
          rw [eX, eY]
        · rw [mU_ap, if_pos rfl, if_neg (by decide), mU_ne (by decide), mU_ne (by decide), mU_ne (by decide)]
          unfold ntC
          rw [mU_ne (by decide), mU_ne (by decide), mU_ap, if_pos rfl, if_pos rfl]
        · rw [mU_ne (show a ≠ 29 by omega), mU_ne (show a ≠ 29 by omega)]
          have eZ : ∀ c, c ≠ 29 → c ≠ 35 → c ≠ 36 → c ≠ 49 → c ≠ 50 → (mU (mU (ntC CC t s v) 50 t (p : Int)) 49 5 (iOr (C 49 5) (iShl 1 (t : Int)))) c = CC c := fun c z1 z2 z3 z4 z5 => by
            rw [mU_ne z4, mU_ne z5]
            unfold ntC
            rw [mU_ne z3, mU_ne z2, mU_ne z1]
          by_cases e34 : a = 34
          · subst e34
            rw [mU_eq, mU_eq, eZ 34 (by decide) (by decide) (by decide) (by decide) (by decide)]
          · rw [mU_ne e34, mU_ne e34, eZ a (by omega) h3 h4 (by omega) (by omega)]
        · rw [mU_ne (by decide), mU_ne (by decide), mU_ne (by decide), mU_ne (by decide), mU_ne (show 35 ≠ 29 by decide), mU_ne (show 35 ≠ 34 by decide)]
          unfold ntC
          rw [mU_ne (by decide), mU_ap, if_pos rfl, mU_ne (by decide)]
        · rw [mU_ne (by decide), mU_ne (by decide), mU_ne (by decide), mU_ne (by decide), mU_ne (show 36 ≠ 29 by decide), mU_ne (show 36 ≠ 34 by decide)]
          unfold ntC
          rw [mU_ap, if_pos rfl, mU_ne (by decide), mU_ne (by decide)]
      · rw [w4]
        refine Jn_ap JJ k1 g k00 (by rw [kpW_sm (by decide)]; exact c9.2) (Or.inr rfl) (fun a h1 h2 => ?_) (fun j hj => ?_) (fun j => ?_) ?_
        · rw [mU_ne (by omega), mU_ne (by omega), mU_ne (by omega), mU_ne (by omega), mU_ne (show a ≠ 29 by omega), mU_ne (show a ≠ 34 by omega)]
          unfold ntC
          rw [mU_ne (by omega), mU_ne (by omega), mU_ne (by omega)]
        · rw [mU_ne (by decide), mU_ne (by decide), mU_ap, if_pos rfl, if_neg hj, mU_ne (by decide), mU_ne (show 49 ≠ 29 by decide), mU_ne (show 49 ≠ 34 by decide)]
          unfold ntC
          rw [mU_ne (by decide), mU_ne (by decide), mU_ne (by decide)]
        · rw [mU_ne (by decide), mU_ne (by decide), mU_ne (by decide), mU_ap, if_pos rfl, mU_ne (show 50 ≠ 29 by decide), mU_ne (show 50 ≠ 34 by decide)]
          unfold ntC
          rw [mU_ne (by decide), mU_ne (by decide), mU_ne (by decide)]
        · rw [mU_ne (by decide), mU_ne (by decide), mU_ap, if_pos rfl, if_pos rfl, eL5, set_bs (by decide) g]
          refine congrArg (fun x : Nat => (x : Int)) (bset_cg 10 fun i _ => ?_)
          rw [apW_st k1]
          by_cases e : i = t
          · rw [if_pos e, decide_eq_true e, Bool.or_true]; rfl
          · rw [if_neg e, decide_eq_false e, Bool.or_false]
            unfold stB'
            rw [kpW_sm (by decide), kpW_T hp (by omega) (by decide)]
      · rw [w4]
        exact WF_kg hW h0 hp k0 hf' rfl ht g hs' hv'
    · obtain ⟨p'', hr⟩ := R.2 qb bad
      rw [run, eR, hr, bI_I, bq_eq (by decide) (by decide), if_pos rfl]
      have t1 := f1.t tCC
      obtain ⟨C9, p9, l9, s1, s2, s3⟩ := WX_k87 (T := T) (n := n) (b := (qb : Int)) (C := C') (p := p') (l := l') (v := (p : Int)) (z := z') ⟨by omega, by omega⟩ hz hp' t1
      exact Or.inr ⟨qb, C9, p9, l9, N2, p'', s1, rfl, q1.tr (f1.tr s2), fN2, s3, hqb⟩
  · rw [if_neg g1, if_neg g1, bq_eq (by decide) (by decide), if_pos rfl, bq_eq (by decide) (by decide), if_pos rfl]
    have run87 : tale_readKeeper_J87 (p : Int) (-1) (tpT CC qa l (-1)) = some (rV, tpT (mU (mU CC 34 p (-1)) 29 5 (iOr (CC 29 5) (iShl 1 (p : Int)))) qa l (-1)) := by
      unfold tale_readKeeper_J87
      rw [bq_eq (by decide) (by decide), if_pos rfl, bq_in (by omega) (by omega), sM_eq, Int.toNat_natCast, cT_u (by decide), sM_eq, cT_ne (show 29 ≠ 1 by decide), cT_u (by decide), mU_ne (show 29 ≠ 34 by decide)]
    rw [run87]
    refine Or.inl ⟨_, N2, _, _, _, rfl, rfl, q1.tr (FrT.tr (FrT.u (by omega)) (FrT.u (by omega))), fN2, ⟨?_, ?_, ?_⟩, by omega, a1.2⟩
    · rw [r2]
      refine La_kp hL h0 hp z.2.2.2.2.1 hf.1 hf.2.2.2.2 (fun j h5 h6 => ?_) ?_ ?_ (fun a h1 h2 => ?_) (fun i hi j => ?_)
      · rw [mU_ap, if_pos rfl, if_neg h5, mU_ne (by decide)]
        exact q2 j h6
      · rw [mU_ap, if_pos rfl, if_pos rfl, e295, e1p]
      · rw [mU_ap, if_pos rfl, if_neg (by decide), mU_ne (by decide), q3]
      · rw [mU_ne (by omega), mU_ne (by omega), q5 a (by omega) (by omega)]
      · rw [mU_ne (by omega)]
        by_cases e4 : i = 4
        · subst e4
          rw [mU_ap, if_pos rfl, q5 34 (by decide) (by decide), f6]; rfl
        · rw [mU_ne (by omega), q4 i (by omega)]
          match i, hi, e4 with
          | 0, _, _ => rfl
          | 1, _, _ => rfl
          | 2, _, _ => rfl
          | 3, _, _ => rfl
          | i + 4, h, e4 => exact absurd h (by omega)
    · rw [r2]
      exact Jn_kp hJ hp (fun a h1 h2 => by rw [mU_ne (by omega), mU_ne (by omega), q5 a (by omega) h2])
    · rw [r2]
      exact WF_kp hW h0 hp k0 hf f6
