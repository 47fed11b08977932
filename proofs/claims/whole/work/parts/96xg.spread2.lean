/-! ===== THE CLASS SPREADS A STATE: taking, paying ===== -/
theorem or_bs {f g : Nat → Bool} {m : Nat} (hm : m ≤ 31) : iOr ((bset m f : Nat) : Int) ((bset m g : Nat) : Int) = ((bset m (fun i => f i || g i) : Nat) : Int) := by
  rw [nu_or (bset_31 hm) (bset_31 hm)]
  congr 1
  apply Nat.eq_of_testBit_eq
  intro i
  rw [Nat.testBit_or, bset_bit, bset_bit, bset_bit]
  cases decide (i < m) <;> simp
theorem one_bs {g m : Nat} (hg : g < m) (hm : m ≤ 31) : iShl 1 (g : Int) = ((bset m (fun i => decide (i = g)) : Nat) : Int) := by
  rw [nu_one (by omega)]
  congr 1
  apply Nat.eq_of_testBit_eq
  intro i
  rw [Nat.testBit_two_pow, bset_bit]
  by_cases h : i = g
  · rw [decide_eq_true h, decide_eq_true (show i < m by omega), decide_eq_true h.symm]; rfl
  · rw [decide_eq_false h, Bool.and_false, decide_eq_false (fun e => h e.symm)]
section Spr2
variable {w : Nat → Int} {s n m q : Nat} {f : Nat → Nat} {o : Bool} {M0 M : MM}
def tkV (w : Nat → Int) (s t : Nat) : Bool := decide ((t : Int) < w 1) && (decide (sG s t = 0) && decide (oT w (t : Int) 3 = sPl s))
theorem cpk_ush {k m : Nat} (hk : k < 64) (hm : 2 ^ m - 1 < 2147483648) : iAnd (lUshr ((cpk w s : Nat) : Int) (k : Int)) ((2 ^ m - 1 : Nat) : Int) = ((fd (cpk w s) k m : Nat) : Int) := by
  rw [nj_ushr cpk_63 hk, nu_andb hm, and_fd]
theorem takes_run (hW : WF m w) (hz : w 0 ≠ 0) (hs : Rch w s) (hroom : cnt (sCar w s).testBit 10 < 4) (H : SC w s M0 M n f o) : ∃ M' n' f' o', srch_addTakes_L105 q ((cpk w s : Nat) : Int) ((bset 10 (tkV w s) : Nat) : Int) (fun M_18 => some (rV, M_18)) FU 0 M = some (rV, M') ∧ SC w s M0 M' n' f' o' ∧ Ext n f o n' f' o' ∧ ∀ (t u : Nat), (t : Int) < w 1 → sTk w s t = some u → Cov n' f' o' u := by
  have hG := GS_rch hW hz hs
  have c1 := hW.1.2.1
  have loop := walk_loop (S := SC w s M0) (L := fun F _ i M => srch_addTakes_L105 q ((cpk w s : Nat) : Int) ((bset 10 (tkV w s) : Nat) : Int) (fun M_18 => some (rV, M_18)) F i M) (K := fun _ M => some (rV, M)) (N := 10) (G := fun t u => (t : Int) < w 1 ∧ sTk w s t = some u) (fun F t M n f o ht HS => ?_) (fun F M n f o HS => ?_) 10 FU 0 M n f o (by omega) (FU_gt (by omega)) H
  · obtain ⟨M', n', f', o', b1, b2, b3, b4⟩ := loop
    exact ⟨M', n', f', o', b1, b2, b3, fun t u ht hu => b4 t u (Nat.zero_le _) (by omega) ⟨ht, hu⟩⟩
  · show ∃ M' n' f' o', srch_addTakes_L105 q _ _ _ (F + 1) (t : Int) M = srch_addTakes_L105 q _ _ _ F ((t : Int) + 1) M' ∧ _
    rw [srch_addTakes_L105, bq_ge (by omega) (by decide), if_neg (by omega), gh_bit_s (by decide) (by omega) (by omega), Int.toNat_natCast, bz_ne1]
    cases hv : tkV w s t with
    | false =>
      rw [cn_f]
      refine ⟨M, n, f, o, rfl, HS, Ext.rf, fun u hu => ?_⟩
      have hu' : (t : Int) < w 1 ∧ sTk w s t = some u := hu
      obtain ⟨hu1, hu2⟩ := hu'
      unfold sTk at hu2
      unfold tkV at hv
      rw [decide_eq_true hu1, Bool.true_and] at hv
      rw [if_neg (fun g => by rw [decide_eq_true g.1, decide_eq_true g.2.1] at hv; exact absurd hv (by decide))] at hu2
      exact absurd hu2 (by simp)
    | true =>
      unfold tkV at hv
      rw [Bool.and_eq_true, Bool.and_eq_true] at hv
      have h1 := of_decide_eq_true hv.1
      have h2 := of_decide_eq_true hv.2.1
      have h3 := of_decide_eq_true hv.2.2
      have htk : sTk w s t = some (wt s (14 + 2 * t) 2 2) := by
        unfold sTk
        rw [if_pos ⟨h2, h3, hroom⟩]
      obtain ⟨M2, n2, f2, o2, b1, b2, b3, b4⟩ := SC_add (q := q) hW hz HS (Rch_suc hs (Or.inr (Or.inr (Or.inl ⟨t, h1, Or.inr htk⟩))))
      rw [ck_take ht h2] at b1
      have l1 : cpk w s &&& (9223372036854775807 ^^^ 2 ^ (20 + t)) < 9223372036854775808 := Nat.lt_of_le_of_lt Nat.and_le_left cpk_63
      have ec : lOr (lAnd ((cpk w s : Nat) : Int) (lXor (lShl 1 (20 + (t : Int))) (-1))) (lShl 1 (t : Int)) = (((cpk w s &&& (9223372036854775807 ^^^ 2 ^ (20 + t))) ||| 2 ^ t : Nat) : Int) := by
        rw [show 20 + (t : Int) = ((20 + t : Nat) : Int) by omega, nj_one (by omega), nj_one (by omega), nj_andn cpk_63, nj_or l1 (Nat.lt_trans (Nat.pow_lt_pow_right (by decide) (show t < 62 by omega)) (by decide))]
      rw [cn_t, ec, b1]
      refine ⟨M2, n2, f2, o2, rfl, b2, b3, fun u hu => ?_⟩
      have hu' : (t : Int) < w 1 ∧ sTk w s t = some u := hu
      rw [htk] at hu'
      obtain rfl := Option.some.inj hu'.2
      exact b4
  · show srch_addTakes_L105 q _ _ _ (F + 1) ((10 : Nat) : Int) M = _
    rw [srch_addTakes_L105, bq_ge (by decide) (by decide), if_pos (by decide)]
theorem takes_c (hW : WF m w) (hz : w 0 ≠ 0) (hs : Rch w s) (H : SC w s M0 M n f o) : ∃ M' n' f' o', (∀ k : MM → OR, bV (srch_addTakes q ((cpk w s : Nat) : Int) M) k = k M') ∧ SC w s M0 M' n' f' o' ∧ Ext n f o n' f' o' ∧ ∀ (t u : Nat), (t : Int) < w 1 → sTk w s t = some u → Cov n' f' o' u := by
  have hG := GS_rch hW hz hs
  have hW' := hW
  obtain ⟨hC, hP, hT, hR, hB, hWG, -⟩ := hW'
  have c1 := hC.2.1
  have c0 := hC.1
  have H' := H
  obtain ⟨-, ⟨sL, sJ, sW, ⟨s10, s11, s12, s13⟩, -, s1004⟩, -⟩ := H'
  have hp : sPl s < w 0 := hG.2.1.1
  have hp0 : 0 ≤ sPl s := by unfold sPl; omega
  obtain ⟨-, g1, g2, g3, g4, g5, g6, g7⟩ := hG
  have e11 : ((fd s 5 4 : Nat) : Int) = sPl s := rfl
  unfold srch_addTakes
  rw [s12, gh_hasRoom_b (sCar_lt hC s), bz_ne0]
  by_cases hroom : cnt (sCar w s).testBit 10 < 4
  · obtain ⟨M', n', f', o', b1, b2, b3, b4⟩ := takes_run (q := q) hW hz hs hroom H
    refine ⟨M', n', f', o', fun k => ?_, b2, b3, b4⟩
    have eV : iOr ((sCar w s : Nat) : Int) (iAnd (lUshr ((cpk w s : Nat) : Int) 10) 1023) = ((bset 10 (fun t => tsB s 2 t || tsB s 3 t) : Nat) : Int) := by
      have e1 : iAnd (lUshr ((cpk w s : Nat) : Int) 10) 1023 = ((fd (cpk w s) 10 10 : Nat) : Int) := cpk_ush (k := 10) (m := 10) (by decide) (by decide)
      rw [e1, ck_l, ← GS_sCar (GS_rch hW hz hs) c1.2, or_bs (by decide)]
    have eL : iAnd (lUshr ((cpk w s : Nat) : Int) 20) 1023 = ((bset 10 (ldB w s) : Nat) : Int) := by
      have e1 : iAnd (lUshr ((cpk w s : Nat) : Int) 20) 1023 = ((fd (cpk w s) 20 10 : Nat) : Int) := cpk_ush (k := 20) (m := 10) (by decide) (by decide)
      rw [e1, ck_d]
    have eA : iAnd (M 1004 (fd s 5 4)) (iXor ((bset 10 (fun t => tsB s 2 t || tsB s 3 t) : Nat) : Int) (-1)) = ((bset 10 (fun t => lyB w (sPl s) t && !(tsB s 2 t || tsB s 3 t)) : Nat) : Int) := by
      rw [s1004 _ (by unfold sPl at hp; omega), andn_s (bset_31 (by decide)) (by decide), e11]
      congr 1
      exact bset_cg 10 fun i hi => by rw [bset_bit, decide_eq_true hi, Bool.true_and]
    -- what lies where she is
    have key : ∀ g : Option Nat, (∀ t : Nat, t < 10 → (t : Int) < w 1 → (g = some t ↔ oP w (sPl s) 0 = 1 ∧ oP w (sPl s) 6 = t)) → ∀ t, t < 10 → ((lyB w (sPl s) t && !(tsB s 2 t || tsB s 3 t)) || (ldB w s t && decide (g = some t))) = tkV w s t := by
      intro g hg t ht
      unfold lyB tsB ldB tkV
      by_cases h1 : (t : Int) < w 1
      · have l4 := sG_lt s t
        have k3 := g3 t h1
        have k4 := g4 t h1
        have k7 := g7 t h1
        have kT := hT (t : Int) (by omega) h1
        rw [decide_eq_true h1, Bool.true_and, Bool.true_and, Bool.true_and]
        by_cases h0 : sG s t = 0
        · rw [decide_eq_true h0, decide_eq_false (show ¬ sG s t = 2 by omega), decide_eq_false (show ¬ sG s t = 3 by omega), Bool.or_false, Bool.not_false, Bool.and_true, Bool.true_and, Bool.true_and]
          rcases k7 h0 with e | e
          · rw [decide_eq_true e, decide_eq_false (show ¬ oT w (t : Int) 2 = 1 by omega), Bool.true_and, Bool.false_and, Bool.or_false]
          · obtain ⟨k5, k6⟩ := k4 h0 e
            rw [decide_eq_false (show ¬ oT w (t : Int) 2 = 0 by omega), decide_eq_true e, Bool.false_and, Bool.false_or, Bool.true_and]
            apply decide_eq_decide.mpr
            rw [hg t ht h1]
            constructor
            · rintro ⟨a1, a2⟩
              exact hWG.2 _ _ (by omega) (by omega) hp0 hp (by omega) (by omega)
            · intro a
              rw [← a]
              exact ⟨k5, k6⟩
        · rw [decide_eq_false h0, Bool.false_and, Bool.false_and, Bool.false_and, Bool.or_false]
          by_cases h2 : sG s t = 1
          · have := k3 h2
            rw [decide_eq_false (show ¬ oT w (t : Int) 2 = 0 by omega), Bool.false_and, Bool.false_and]
          · have : (decide (sG s t = 2) || decide (sG s t = 3)) = true := by
              by_cases h3 : sG s t = 2
              · rw [decide_eq_true h3]; rfl
              · rw [decide_eq_true (show sG s t = 3 by omega), Bool.or_true]
            rw [this, Bool.not_true, Bool.and_false]
      · rw [decide_eq_false h1, Bool.false_and, Bool.false_and, Bool.false_and, Bool.false_and, Bool.and_false, Bool.false_and]; rfl
    have none' : (∀ t : Nat, t < 10 → (t : Int) < w 1 → ¬ (oP w (sPl s) 0 = 1 ∧ oP w (sPl s) 6 = t)) → ∀ x : Int, x = ((bset 10 (fun _ => false) : Nat) : Int) → bV (srch_addTakes_J99 q ((cpk w s : Nat) : Int) x (iAnd (M 1004 (fd s 5 4)) (iXor ((bset 10 (fun t => tsB s 2 t || tsB s 3 t) : Nat) : Int) (-1))) M) k = k M' := fun hno x hx => by
      have := key none (fun t ht h1 => ⟨fun g => absurd g (by simp), fun g => absurd g (hno t ht h1)⟩)
      unfold srch_addTakes_J99
      rw [hx, eA, or_bs (by decide), bset_cg (f' := tkV w s) 10 (fun t ht => by
        rw [← this t ht]
        simp), show srch_addTakes_L105 q _ _ _ FU 0 M = _ from b1, bV_V]
    rw [decide_eq_true hroom, cn_t, s11, e11, land_hasKeeper_b sL hp0 (by omega), bz_eq0, kpB_eq hp0 hp, s12, eV, eL, s11, e11]
    by_cases hk : oP w (sPl s) 0 = 1
    · have l8 : M 8 (fd s 5 4) = oP w (sPl s) 6 := by
        have := (sL.2.2.2.1 (sPl s) hp0 hp hk).2.2.2.2
        rw [show (sPl s).toNat = fd s 5 4 by unfold sPl; omega] at this
        exact this
      have hpp := (hP (sPl s) hp0 hp).2.2.2.2.2.1
      rw [decide_eq_true hk, cn_t, bq_in hp0 (by omega), show (sPl s).toNat = fd s 5 4 by unfold sPl; omega, l8]
      unfold srch_addTakes_J67
      rw [s11, e11, bq_in hp0 (by omega), show (sPl s).toNat = fd s 5 4 by unfold sPl; omega, bq_ne (by omega) (by decide)]
      by_cases hg0 : oP w (sPl s) 6 = -1
      · rw [if_pos hg0]
        exact none' (fun t _ _ g => by omega) 0 rfl
      · obtain ⟨g, eg⟩ : ∃ g : Nat, oP w (sPl s) 6 = (g : Int) := ⟨(oP w (sPl s) 6).toNat, by omega⟩
        have := key (some g) (fun t ht h1 => ⟨fun e => ⟨hk, by rw [eg]; have := Option.some.inj e; omega⟩, fun e => by rw [eg] at e; exact congrArg some (by omega)⟩)
        rw [if_neg hg0, eg, one_bs (show g < 10 by omega) (by decide), and_bs (by decide)]
        unfold srch_addTakes_J99
        rw [eA, or_bs (by decide), bset_cg (f' := tkV w s) 10 (fun t ht => by
          rw [← this t ht]
          congr 2
          apply decide_eq_decide.mpr
          constructor
          · intro e; rw [e]
          · intro e; exact (Option.some.inj e).symm), show srch_addTakes_L105 q _ _ _ FU 0 M = _ from b1, bV_V]
    · rw [decide_eq_false hk, cn_f]
      unfold srch_addTakes_J67
      rw [s11, e11, bq_in hp0 (by omega), show (sPl s).toNat = fd s 5 4 by unfold sPl; omega, bq_ne (by decide) (by decide), if_pos rfl]
      exact none' (fun t _ _ g => hk g.1) 0 rfl
  · rw [decide_eq_false hroom, cn_f]
    refine ⟨M, n, f, o, fun k => bV_V, H, Ext.rf, fun t u ht hu => ?_⟩
    unfold sTk at hu
    rw [if_neg (fun g => hroom g.2.2)] at hu
    exact absurd hu (by simp)
end Spr2
