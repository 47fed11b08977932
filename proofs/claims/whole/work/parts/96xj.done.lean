/-! ===== THE CLASS HAS SEARCHED ===== -/
section DoneC
variable {w : Nat → Int} {m q : Nat}
theorem prepare_b {k : MM → OR} {M : MM} (hW : WF m w) (hL : LandR 3 w M) (hJ : JnyR 23 w M) (hlw : LawR 17 w M) : ∃ M', bV (srch_prepare q M) k = k M' ∧ StC w M' ∧ CSt w M' 0 (fun _ => 0) false ∧ (∀ p, p ≠ 1000 → p ≠ 1002 → p ≠ 1003 → p ≠ 1004 → M' p = M p) ∧ ∀ j, j ≠ 3 → j ≠ 4 → M' 1000 j = M 1000 j := by
  have hW' := hW
  obtain ⟨hC, hP, hT, hR, hB, hWG, -⟩ := hW'
  have c1 := hC.2.1
  obtain ⟨A, hA⟩ : ∃ A, A = mV (mU (mU M 1000 3 0) 1000 4 0) 1002 (fun j => if j < 16384 then 0 else (mU (mU M 1000 3 0) 1000 4 0) 1002 j) := ⟨_, rfl⟩
  have aF : ∀ p, p ≠ 1000 → p ≠ 1002 → A p = M p := fun p a b => by rw [hA, mV_ne b, mU_ne a, mU_ne a]
  have a0 : ∀ j, A 1000 j = if j = 4 then 0 else if j = 3 then 0 else M 1000 j := fun j => by
    rw [hA, mV_ne (by decide), mU_ap, if_pos rfl, mU_ap, if_pos rfl]
  have a2 : ∀ j, j < 16384 → A 1002 j = 0 := fun j hj => by
    rw [hA, mV_eq]
    exact if_pos hj
  obtain ⟨Bm, hBm⟩ : ∃ Bm, Bm = flM A 1003 0 (0 + 17) (fun l => ((bset 10 (opB 3 M (l : Int)) : Nat) : Int)) := ⟨_, rfl⟩
  obtain ⟨D, hD⟩ : ∃ D, D = flM Bm 1004 0 (0 + 10) (fun p => ((bset 10 (lyB w (p : Int)) : Nat) : Int)) := ⟨_, rfl⟩
  have bF : ∀ p, p ≠ 1003 → Bm p = A p := fun p a => by rw [hBm, flM_ne a]
  have dF : ∀ p, p ≠ 1004 → D p = Bm p := fun p a => by rw [hD, flM_ne a]
  have all : ∀ p, p ≠ 1000 → p ≠ 1002 → p ≠ 1003 → p ≠ 1004 → D p = M p := fun p x1 x2 x3 x4 => by rw [dF p x4, bF p x3, aF p x1 x2]
  have lD : ∀ j, j < 14 → D (3 + j) = M (3 + j) := fun j hj => all _ (by omega) (by omega) (by omega) (by omega)
  have L20 : ∀ K : MM → OR, srch_prepare_L20 q K FU 0 A = K Bm := by
    intro K
    have := fl_run0 (L := fun F i M => srch_prepare_L20 q K F i M) (K := K) (M := A) (a := 1003) (o := 0) (N := 17) (F := FU) (f := fun l => ((bset 10 (opB 3 M (l : Int)) : Nat) : Int)) (FU_gt (by decide)) (fun F i hi => ?_) (fun F => ?_)
    · rw [← hBm] at this
      exact this
    · have fr : ∀ j, j < 14 → (flM A 1003 0 (0 + i) (fun l => ((bset 10 (opB 3 M (l : Int)) : Nat) : Int))) (3 + j) = M (3 + j) := fun j hj => by rw [flM_ne (by omega), aF _ (by omega) (by omega)]
      have h1 : (flM A 1003 0 (0 + i) (fun l => ((bset 10 (opB 3 M (l : Int)) : Nat) : Int))) 3 1 = w 1 := by
        rw [fr 0 (by decide)]
        exact hL.1.2.1
      rw [srch_prepare_L20, bq_ge (by omega) (by decide), if_neg (by omega), land_openers_b (by rw [h1]; exact c1) (by omega) (by omega), opB_fr fr, bq_in (by omega) (by omega), sM_eq, Int.toNat_natCast, Nat.zero_add]
    · rw [srch_prepare_L20, bq_ge (by decide) (by decide), if_pos (by decide)]
  have L48 : ∀ K : MM → OR, srch_prepare_L48 q K FU 0 Bm = K D := by
    intro K
    have := fl_run0 (L := fun F i M => srch_prepare_L48 q K F i M) (K := K) (M := Bm) (a := 1004) (o := 0) (N := 10) (F := FU) (f := fun p => ((bset 10 (lyB w (p : Int)) : Nat) : Int)) (FU_gt (by decide)) (fun F i hi => ?_) (fun F => ?_)
    · rw [← hD] at this
      exact this
    · have hJ' : JnyR 23 w (flM Bm 1004 0 (0 + i) (fun p => ((bset 10 (lyB w (p : Int)) : Nat) : Int))) := JnyR_fr (fun j hj => by rw [flM_ne (by omega), bF _ (by omega), aF _ (by omega) (by omega)]) hJ
      rw [srch_prepare_L48, bq_ge (by omega) (by decide), if_neg (by omega), jny_lying_b hJ' hT hC (by omega) (by omega), bq_in (by omega) (by omega), sM_eq, Int.toNat_natCast, Nat.zero_add]
    · rw [srch_prepare_L48, bq_ge (by decide) (by decide), if_pos (by decide)]
  refine ⟨D, ?_, ⟨LandR_fr lD hL, JnyR_fr (fun j hj => all _ (by omega) (by omega) (by omega) (by omega)) hJ, LawR_fr (fun j hj => all _ (by omega) (by omega) (by omega) (by omega)) hlw, fun l hl => ?_, fun p hp => ?_⟩, ⟨⟨?_, by decide, ?_⟩, fun i hi => absurd hi (Nat.not_lt_zero i), HT_0 fun s hs => ?_, fun i hi => absurd hi (Nat.not_lt_zero i), fun i j hi => absurd hi (Nat.not_lt_zero i), fun h => absurd h (by decide)⟩, all, fun j x1 x2 => ?_⟩
  · unfold srch_prepare jdk_fill
    rw [sM_eq, sM_eq, bV_V, ← hA, L20, L48, bV_V]
  · rw [opB_fr lD, dF 1003 (by decide), hBm, flM_ap, if_pos (by omega), Nat.sub_zero]
  · rw [hD, flM_ap, if_pos (by omega), Nat.sub_zero]
  · rw [dF _ (by decide), bF _ (by decide), a0, if_neg (by decide), if_pos rfl]; rfl
  · rw [dF _ (by decide), bF _ (by decide), a0, if_pos rfl]; rfl
  · rw [dF _ (by decide), bF _ (by decide)]
    exact a2 s hs
  · rw [dF _ (by decide), bF _ (by decide), a0, if_neg x2, if_neg x1]
theorem run_b {M : MM} {v : Int} (hW : WF m w) (hm : m ≤ 1000) (hz : w 0 ≠ 0) (hL : LandR 3 w M) (hJ : JnyR 23 w M) (hlw : LawR 17 w M) (h5 : I32 (M 1000 5)) (hv : I32 v) (hne : M 1000 5 ≠ v) : ∃ M', (∀ k : MM → OR, bV (srch_run q v M) k = k M') ∧ Done w M' ∧ M' 1000 5 = v ∧ ∀ p, p ≠ 1000 → p ≠ 1001 → p ≠ 1002 → p ≠ 1003 → p ≠ 1004 → p ≠ 157 → p ≠ 21 → p ≠ 22 → M' p = M p := by
  have g1 : ∀ p, p ≠ 1000 → (mU M 1000 5 v) p = M p := fun p hp => mU_ne hp
  have J1 : JnyR 23 w (mU M 1000 5 v) := JnyR_fr (fun j hj => g1 _ (by omega)) hJ
  obtain ⟨M5, p1, p2, p3, p4, p5⟩ := prepare_b (q := q) (M := mU M 1000 5 v) (k := fun M_5 => (bJ (srch_firstState q M_5) fun z_10 M_9 => (bV (srch_add q z_10 M_9) fun M_13 => (srch_run_L28 q (fun M_61 => some (rV, M_61)) FU 0 M_13)))) hW (LandR_fr (fun j hj => g1 _ (by omega)) hL) J1 (LawR_fr (fun j hj => g1 _ (by omega)) hlw)
  obtain ⟨M6, n6, f6, o6, a1, a2, a3, a4, a5⟩ := add_c (q := q) hW hz p3 Rch_now
  have S6 : StC w M6 := StC_fr a3.1 p2
  have D6 : FrD M5 M6 := ⟨a3.1, fun j x1 x2 _ => a3.2 j x1 x2⟩
  obtain ⟨M', n', f', o', b1, b2, b3, b4, b5, b6⟩ := run_loop (q := q) (K := fun M_61 => some (rV, M_61)) hW hm hz 6000 0 FU M6 n6 f6 o6 rfl (FU_gt (by decide)) a2 S6 D6 (Nat.zero_le _) (fun j hj => absurd hj (Nat.not_lt_zero j))
  refine ⟨M', fun k => ?_, ?_, ?_, fun p x0 x1 x2 x3 x4 x5 x6 x7 => ?_⟩
  · unfold srch_run
    rw [bq_ne h5 hv, if_neg hne, sM_eq, p1, first_b hW p2.2.1, a1, show srch_run_L28 q _ FU 0 M6 = _ from b1, bV_V]
  · obtain ⟨⟨d3, dn, d4⟩, d1, dT, dR, dI, dB⟩ := b2
    cases o' with
    | true => exact Or.inr ⟨by rw [d4]; rfl, dB rfl⟩
    | false =>
      refine Or.inl ⟨by rw [d4]; rfl, n', f', d3, ⟨dn, dR, fun s hs => ?_, dI⟩, d1⟩
      have cl : ∀ j, j < n' → ∀ u, Suc w (f' j) u → ∃ i, i < n' ∧ f' i = u := fun j hj u hu => by
        rcases b6 with g | g
        · exact absurd g (by decide)
        · rcases g j hj u hu with g | g
          · exact absurd g (by decide)
          · exact g
      have h0 : ∃ i, i < n' ∧ f' i = nowS w := by
        rcases a5.up b5 with g | g
        · exact absurd g (by decide)
        · exact g
      exact closed_all h0 cl hs
  · rw [b4.2 5 (by decide) (by decide) (by decide), p5 5 (by decide) (by decide), mU_ap, if_pos rfl, if_pos rfl]
  · rw [b4.1 p x0 x1 x2 x5 x6 x7, p4 p x0 x2 x3 x4, g1 p x0]
/-- the class has what it asks for -/
theorem search_b {k : Nat} {M : MM} (hk : k ≤ 512) (hI : Inv k M) (hz : M 166 0 ≠ 0) : ∃ M' q, (∀ kk : Nat → MM → OR, bS (gh_searchFromNow M) kk = kk q M') ∧ Done (M 166) M' ∧ (0 < M' 0 17 ∧ M' 1000 5 = M' 0 18) ∧ (∀ j, j ≠ 17 → M' 0 j = M 0 j) ∧ ∀ p, p ≠ 0 → p ≠ 1000 → p ≠ 1001 → p ≠ 1002 → p ≠ 1003 → p ≠ 1004 → p ≠ 157 → p ≠ 21 → p ≠ 22 → M' p = M p := by
  obtain ⟨-, hW, hL, hJ, hlw, -, -, hS, hx, h18⟩ := hI
  obtain ⟨N, hN⟩ : ∃ N, N = srchN M := ⟨_, rfl⟩
  have n0 : (0 < N 0 17) ∧ (∀ j, j ≠ 17 → N 0 j = M 0 j) ∧ (∀ p, p ≠ 0 → p ≠ 1000 → p ≠ 1001 → p ≠ 1002 → p ≠ 1003 → p ≠ 1004 → N p = M p) ∧ (-1 ≤ N 1000 5 ∧ N 1000 5 ≤ N 0 18) ∧ (N 1000 5 = N 0 18 → Done (M 166) N) := by
    rw [hN]
    unfold srchN
    by_cases h0 : M 0 17 = 0
    · rw [if_pos h0]
      refine ⟨?_, fun j hj => ?_, fun p x0 x1 x2 x3 x4 x5 => ?_, ?_, fun g => ?_⟩
      · show 0 < (up (M 0) 17 (182 + M 999 0)) 17
        rw [up_eq]; omega
      · show (up (M 0) 17 (182 + M 999 0)) j = _
        rw [up_ne hj]
      · show (if p = 0 then _ else if p = 1000 then _ else if p = 1001 ∨ p = 1002 ∨ p = 1003 ∨ p = 1004 then _ else M p) = M p
        rw [if_neg x0, if_neg x1, if_neg (by omega)]
      · have e1 : (srchI M) 1000 5 = -1 := rfl
        have e2 : (srchI M) 0 18 = M 0 18 := rfl
        rw [e1, e2]; omega
      · have e1 : (srchI M) 1000 5 = -1 := rfl
        have e2 : (srchI M) 0 18 = M 0 18 := rfl
        rw [e1, e2] at g; omega
    · rw [if_neg h0]
      obtain ⟨s1, s2⟩ := hS
      obtain ⟨s3, s4⟩ := s2 h0
      exact ⟨by omega, fun _ _ => rfl, fun _ _ _ _ _ _ _ => rfl, s3, s4⟩
  obtain ⟨n1, n2, n3, n4, n5⟩ := n0
  have e18 : N 0 18 = M 0 18 := n2 18 (by decide)
  have go : ∀ M', (∀ kk : MM → OR, bV (srch_run ((N 0 17).toNat) (N 0 18) N) kk = kk M') → ∀ kk : Nat → MM → OR, bS (gh_searchFromNow M) kk = kk (M' 0 17).toNat M' := fun M' h kk => by
    unfold gh_searchFromNow
    rw [← hN, if_pos n1, h]; rfl
  by_cases h5 : N 1000 5 = N 0 18
  · refine ⟨N, (N 0 17).toNat, go N (fun kk => ?_), n5 h5, ⟨n1, h5⟩, n2, fun p x0 x1 x2 x3 x4 x5 _ _ _ => n3 p x0 x1 x2 x3 x4 x5⟩
    unfold srch_run
    rw [bq_ne (by omega) (by omega), if_pos h5, bV_V]
  · have hL' : LandR 3 (M 166) N := LandR_fr (fun j hj => n3 _ (by omega) (by omega) (by omega) (by omega) (by omega) (by omega)) hL
    have hJ' : JnyR 23 (M 166) N := JnyR_fr (fun j hj => n3 _ (by omega) (by omega) (by omega) (by omega) (by omega) (by omega)) hJ
    have hw' : LawR 17 (M 166) N := LawR_fr (fun j hj => n3 _ (by omega) (by omega) (by omega) (by omega) (by omega) (by omega)) hlw
    obtain ⟨M', r1, r2, r3, r4⟩ := run_b (q := (N 0 17).toNat) (M := N) (v := N 0 18) hW (by omega) hz hL' hJ' hw' (by omega) (by omega) h5
    have r0 : M' 0 = N 0 := r4 0 (by decide) (by decide) (by decide) (by decide) (by decide) (by decide) (by decide) (by decide)
    refine ⟨M', (M' 0 17).toNat, go M' r1, r2, ⟨by rw [r0]; exact n1, by rw [r0, r3]⟩, fun j hj => by rw [r0, n2 j hj], fun p x0 x1 x2 x3 x4 x5 x6 x7 x8 => by rw [r4 p x1 x2 x3 x4 x5 x6 x7 x8, n3 p x0 x1 x2 x3 x4 x5]⟩
end DoneC
