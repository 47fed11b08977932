/-! ===== THE CLASS SPREADS A STATE: paying ===== -/
section Spr3
variable {w : Nat → Int} {s n m q : Nat} {f : Nat → Nat} {o : Bool} {M0 M : MM}
theorem paid_b {k : Int → MM → OR} {t : Nat} (hW : WF m w) (hz : w 0 ≠ 0) (hs : Rch w s) (hS : SpC w s M) (hk : oP w (sPl s) 0 = 1) (hbit : (fd s 34 10).testBit (fd s 5 4) = false) (hst : sG s t = 2) (ht : (t : Int) < w 1) : bJ (srch_paid q ((cpk w s : Nat) : Int) (t : Int) M) k = k ((cpk w (sPd w s t) : Nat) : Int) M := by
  have hG := GS_rch hW hz hs
  have hW' := hW
  obtain ⟨hC, hP, hT, hR, hB, hWG, -⟩ := hW'
  have c1 := hC.2.1
  have c0 := hC.1
  obtain ⟨sL, sJ, sW, ⟨s10, s11, s12, s13⟩, -, -⟩ := hS
  have hp : sPl s < w 0 := hG.2.1.1
  have hp0 : 0 ≤ sPl s := by unfold sPl; omega
  have e11 : ((fd s 5 4 : Nat) : Int) = sPl s := rfl
  have ep : (sPl s).toNat = fd s 5 4 := by unfold sPl; omega
  have hp10 : fd s 5 4 < 10 := by unfold sPl at hp; omega
  have hpp := hP (sPl s) hp0 hp
  have hgl := hpp.2.2.2.2.2.1
  have h7 : oP w (sPl s) 7 = 0 := by
    rcases hpp.2.2.2.2.2.2.1 with g | g
    · exact g
    · have := hG.2.2.2.2.2.1 (fd s 5 4) hG.2.1.1 g
      rw [hbit] at this
      exact absurd this (by decide)
  have pay := ck_pay hG hk hbit hst hp10 hG.2.1.1 (by omega) c1.2 hgl.2 (fun h0 => (hWG.1 (sPl s) hp0 hp h0).1.mp h7)
  have l8 : M 8 (fd s 5 4) = oP w (sPl s) 6 := by
    have := (sL.2.2.2.1 (sPl s) hp0 hp hk).2.2.2.2
    rw [ep] at this
    exact this
  -- the last part: his gift
  have J : ∀ (c2 S6 : Nat), c2 < 2 ^ 61 → S6 < 1024 → srch_paid_J66 q (c2 : Int) (S6 : Int) M = some (rJ (((if 0 ≤ oP w (sPl s) 6 then c2 ||| 2 ^ (bif decide (cnt S6.testBit 10 < 4) then (oP w (sPl s) 6).toNat else 20 + (oP w (sPl s) 6).toNat) else c2 : Nat)) : Int), M) := by
    intro c2 S6 hc2 hS6
    have b63 : c2 < 9223372036854775808 := Nat.lt_trans hc2 (by decide)
    unfold srch_paid_J66
    rw [s11, e11, bq_in hp0 (by omega), ep, l8, bq_ne (by omega) (by decide)]
    by_cases hg0 : oP w (sPl s) 6 = -1
    · rw [if_pos hg0, if_neg (by omega)]
    · obtain ⟨g, eg⟩ : ∃ g : Nat, oP w (sPl s) 6 = (g : Int) := ⟨(oP w (sPl s) 6).toNat, by omega⟩
      have o1 : lOr (c2 : Int) (lShl 1 (g : Int)) = ((c2 ||| 2 ^ g : Nat) : Int) := by
        rw [nj_one (by omega), nj_or b63 (Nat.lt_trans (Nat.pow_lt_pow_right (by decide) (show g < 62 by omega)) (by decide))]
      have o2 : lOr (c2 : Int) (lShl 1 (20 + (g : Int))) = ((c2 ||| 2 ^ (20 + g) : Nat) : Int) := by
        rw [show 20 + (g : Int) = ((20 + g : Nat) : Int) by omega, nj_one (by omega), nj_or b63 (Nat.lt_trans (Nat.pow_lt_pow_right (by decide) (show 20 + g < 62 by omega)) (by decide))]
      rw [if_neg hg0, gh_hasRoom_b hS6, bz_eq0, eg, Int.toNat_natCast, if_pos (by omega), o1, o2]
      cases decide (cnt S6.testBit 10 < 4) <;> rfl
  have fin : (if 0 ≤ oP w (sPl s) 6 then (bif decide (oP w (sPl s) 5 = 1) then ((cpk w s ||| 2 ^ (30 + fd s 5 4)) &&& (9223372036854775807 ^^^ 2 ^ t)) ||| 2 ^ (10 + t) else (cpk w s ||| 2 ^ (30 + fd s 5 4))) ||| 2 ^ (bif decide (cnt (sCar w (sPd0 w s t)).testBit 10 < 4) then (oP w (sPl s) 6).toNat else 20 + (oP w (sPl s) 6).toNat) else (bif decide (oP w (sPl s) 5 = 1) then ((cpk w s ||| 2 ^ (30 + fd s 5 4)) &&& (9223372036854775807 ^^^ 2 ^ t)) ||| 2 ^ (10 + t) else (cpk w s ||| 2 ^ (30 + fd s 5 4)))) = cpk w (sPd w s t) := by
    rw [pay]
    unfold pyK
    by_cases h0 : 0 ≤ oP w (sPl s) 6
    · rw [if_pos h0, if_pos h0]
    · rw [if_neg h0, if_neg h0]
  have e1 : lOr ((cpk w s : Nat) : Int) (lShl 1 (30 + (sPl s))) = ((cpk w s ||| 2 ^ (30 + fd s 5 4) : Nat) : Int) := by
    rw [← e11, show 30 + ((fd s 5 4 : Nat) : Int) = ((30 + fd s 5 4 : Nat) : Int) by omega, nj_one (by omega), nj_or cpk_63 (Nat.lt_trans (Nat.pow_lt_pow_right (by decide) (show 30 + fd s 5 4 < 62 by omega)) (by decide))]
  have l1 : cpk w s ||| 2 ^ (30 + fd s 5 4) < 2 ^ 61 := or61 cpk_lt (by omega)
  have e2 : lOr (lAnd ((cpk w s ||| 2 ^ (30 + fd s 5 4) : Nat) : Int) (lXor (lShl 1 (t : Int)) (-1))) (lShl 1 (10 + (t : Int))) = ((((cpk w s ||| 2 ^ (30 + fd s 5 4)) &&& (9223372036854775807 ^^^ 2 ^ t)) ||| 2 ^ (10 + t) : Nat) : Int) := by
    have l63 : cpk w s ||| 2 ^ (30 + fd s 5 4) < 9223372036854775808 := Nat.lt_trans l1 (by decide)
    rw [show 10 + (t : Int) = ((10 + t : Nat) : Int) by omega, nj_one (by omega), nj_one (by omega), nj_andn l63, nj_or (Nat.lt_of_le_of_lt Nat.and_le_left l63) (Nat.lt_trans (Nat.pow_lt_pow_right (by decide) (show 10 + t < 62 by omega)) (by decide))]
  have e3 : iAnd ((sCar w s : Nat) : Int) (iXor (iShl 1 (t : Int)) (-1)) = ((bset (w 1).toNat (fun i => tsB s 2 i && !decide (i = t)) : Nat) : Int) := clr_bs (by omega) (by omega)
  have sc : sCar w (sPd0 w s t) = if oP w (sPl s) 5 = 1 then bset (w 1).toNat (fun i => tsB s 2 i && !decide (i = t)) else sCar w s := by
    unfold sCar
    by_cases h5 : oP w (sPl s) 5 = 1
    · rw [if_pos h5]
      apply bset_cg
      intro i hi
      unfold tsB
      rw [pd0_g hp10 (by omega) (by omega)]
      by_cases e : i = t
      · rw [if_pos ⟨e, h5⟩, decide_eq_true e, Bool.not_true, Bool.and_false]; rfl
      · rw [if_neg (fun g => e g.1), decide_eq_false e, Bool.not_false, Bool.and_true]
    · rw [if_neg h5]
      apply bset_cg
      intro i hi
      unfold tsB
      rw [pd0_g hp10 (by omega) (by omega), if_neg (fun g => h5 g.2)]
  have hl := sCar_lt hC (sPd0 w s t)
  unfold srch_paid
  rw [s11, s12, e11, sL.2.2.1, gh_bit_s (by decide) hp0 (by omega), tkB_eq hp0 hp, bz_ne1, e1, e2, e3]
  by_cases h5 : oP w (sPl s) 5 = 1
  · rw [if_pos h5] at sc
    rw [decide_eq_true h5, cn_t, ← sc, J _ _ (or61 (and61 l1) (by omega)) hl]
    rw [decide_eq_true h5, cn_t] at fin
    rw [fin]; rfl
  · rw [if_neg h5] at sc
    rw [sc] at hl fin
    rw [decide_eq_false h5, cn_f, J _ _ l1 hl]
    rw [decide_eq_false h5, cn_f] at fin
    rw [fin]; rfl
theorem pays_c (hW : WF m w) (hz : w 0 ≠ 0) (hs : Rch w s) (H : SC w s M0 M n f o) : ∃ M' n' f' o', (∀ k : MM → OR, bV (srch_addPays q ((cpk w s : Nat) : Int) M) k = k M') ∧ SC w s M0 M' n' f' o' ∧ Ext n f o n' f' o' ∧ ∀ (t u : Nat), (t : Int) < w 1 → sPy w s t = some u → Cov n' f' o' u := by
  have hG := GS_rch hW hz hs
  have hW' := hW
  obtain ⟨hC, hP, hT, hR, hB, hWG, -⟩ := hW'
  have c1 := hC.2.1
  have c0 := hC.1
  have H' := H
  obtain ⟨-, ⟨sL, sJ, sW, ⟨s10, s11, s12, s13⟩, s1003, -⟩, -⟩ := H'
  have hp : sPl s < w 0 := hG.2.1.1
  have hp0 : 0 ≤ sPl s := by unfold sPl; omega
  have e11 : ((fd s 5 4 : Nat) : Int) = sPl s := rfl
  have ep : (sPl s).toNat = fd s 5 4 := by unfold sPl; omega
  have hp10 : fd s 5 4 < 10 := by unfold sPl at hp; omega
  have h34 : fd s 34 10 < 1024 := fd_lt s 34 10
  unfold srch_addPays
  rw [s11, s13, e11, land_isHeldBy_b sL hp0 (by omega) (by omega), ep, bz_ne0, ← ep, kpB_eq hp0 hp, ep]
  by_cases hg : oP w (sPl s) 0 = 1 ∧ (fd s 34 10).testBit (fd s 5 4) = false
  · obtain ⟨hk, hbit⟩ := hg
    have eV : iAnd ((sCar w s : Nat) : Int) (M 1003 (fd s 5 4)) = ((bset 10 (fun t => tsB s 2 t && (decide ((t : Int) < w 1) && fitK w (t : Int) (sPl s))) : Nat) : Int) := by
      rw [s1003 _ (by omega), ← GS_sCar hG c1.2, and_bs (by decide)]
      congr 1
      apply bset_cg
      intro i hi
      congr 1
      exact opB_p sL hP hp0 hp hk i
    rw [decide_eq_true hk, hbit, Bool.not_false, Bool.and_true, cn_t, s11, e11, bq_in hp0 (by omega), ep, s12, eV]
    have loop := walk_loop (S := SC w s M0) (L := fun F _ i M => srch_addPays_L37 q ((cpk w s : Nat) : Int) ((bset 10 (fun t => tsB s 2 t && (decide ((t : Int) < w 1) && fitK w (t : Int) (sPl s))) : Nat) : Int) (fun M_17 => some (rV, M_17)) F i M) (K := fun _ M => some (rV, M)) (N := 10) (G := fun t u => (t : Int) < w 1 ∧ sPy w s t = some u) (fun F t M n f o ht HS => ?_) (fun F M n f o HS => ?_) 10 FU 0 M n f o (by omega) (FU_gt (by omega)) H
    · obtain ⟨M', n', f', o', b1, b2, b3, b4⟩ := loop
      refine ⟨M', n', f', o', fun k => ?_, b2, b3, fun t u ht hu => b4 t u (Nat.zero_le _) (by omega) ⟨ht, hu⟩⟩
      rw [show srch_addPays_L37 q _ _ _ FU 0 M = _ from b1, bV_V]
    · show ∃ M' n' f' o', srch_addPays_L37 q _ _ _ (F + 1) (t : Int) M = srch_addPays_L37 q _ _ _ F ((t : Int) + 1) M' ∧ _
      rw [srch_addPays_L37, bq_ge (by omega) (by decide), if_neg (by omega), gh_bit_s (by decide) (by omega) (by omega), Int.toNat_natCast, bz_ne1]
      cases hv : (tsB s 2 t && (decide ((t : Int) < w 1) && fitK w (t : Int) (sPl s))) with
      | false =>
        rw [cn_f]
        refine ⟨M, n, f, o, rfl, HS, Ext.rf, fun u hu => ?_⟩
        have hu' : (t : Int) < w 1 ∧ sPy w s t = some u := hu
        obtain ⟨hu1, hu2⟩ := hu'
        unfold sPy at hu2
        unfold tsB at hv
        rw [decide_eq_true hu1, Bool.true_and] at hv
        rw [if_neg (fun g => by rw [decide_eq_true g.2.2.1, g.2.2.2] at hv; exact absurd hv (by decide))] at hu2
        exact absurd hu2 (by simp)
      | true =>
        unfold tsB at hv
        rw [Bool.and_eq_true, Bool.and_eq_true] at hv
        have h2 := of_decide_eq_true hv.1
        have h1 := of_decide_eq_true hv.2.1
        have h3 := hv.2.2
        have hpy : sPy w s t = some (sPd w s t) := by
          unfold sPy
          rw [if_pos ⟨hk, hbit, h2, h3⟩]
        obtain ⟨M2, n2, f2, o2, b1, b2, b3, b4⟩ := SC_add (q := q) hW hz HS (Rch_suc hs (Or.inr (Or.inr (Or.inl ⟨t, h1, Or.inl hpy⟩))))
        rw [cn_t, paid_b hW hz hs HS.2.1 hk hbit h2 h1, b1]
        refine ⟨M2, n2, f2, o2, rfl, b2, b3, fun u hu => ?_⟩
        have hu' : (t : Int) < w 1 ∧ sPy w s t = some u := hu
        rw [hpy] at hu'
        obtain rfl := Option.some.inj hu'.2
        exact b4
    · show srch_addPays_L37 q _ _ _ (F + 1) ((10 : Nat) : Int) M = _
      rw [srch_addPays_L37, bq_ge (by decide) (by decide), if_pos (by decide)]
  · have hf : (decide (oP w (sPl s) 0 = 1) && !(fd s 34 10).testBit (fd s 5 4)) = false := by
      by_cases hk : oP w (sPl s) 0 = 1
      · cases hb : (fd s 34 10).testBit (fd s 5 4) with
        | true => simp
        | false => exact absurd ⟨hk, hb⟩ hg
      · rw [decide_eq_false hk, Bool.false_and]
    rw [hf, cn_f]
    refine ⟨M, n, f, o, fun k => bV_V, H, Ext.rf, fun t u ht hu => ?_⟩
    unfold sPy at hu
    rw [if_neg (fun g => hg ⟨g.1, g.2.1⟩)] at hu
    exact absurd hu (by simp)
end Spr3
