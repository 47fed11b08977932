/-! ===== QUESTIONS: place, thing, road, brother, girl, fits, log, count, fault ===== -/
def hN (E : Nat → MM → OR) (x : OR) : OR := bH x (fun z M2 => (bif inB 0 1 then (sM (mU M2 181 0 (w32 z)) fun M4 => some (rI 0, M4)) else none)) E
theorem ansC_ret {x : OR} {M M1 : MM} {E : Nat → MM → OR} {z : Int} (hx : EXC M) (h : x = some (rI z, M1)) (hz : I32 z) (C : Core M M1) (h9 : M1 999 = M 999) : AnsC (hN E x) M 0 z := by
  refine ⟨mU M1 181 0 z, ?_, fun _ => rfl, Core_mU C (by unfold coreA; omega) (by decide) (by decide) (by decide), ?_⟩
  · rw [h]
    show (bif inB 0 1 then some (rI 0, mU M1 181 0 (w32 z)) else none) = _
    rw [nw hz]; rfl
  · rw [mU_ne (by decide), h9]
    exact ⟨hx.1, by omega⟩
theorem ansC_thr {x : OR} {M M1 : MM} {E : Nat → MM → OR} {z j : Int} {c : Nat} (hx : EXC M) (h : x = some (.inr c, xM M1)) (hE : E c (xM M1) = some (rI j, xM M1)) (hj : j ≠ 0) (C : Core M M1) (h9 : M1 999 = M 999) : AnsC (hN E x) M j z := by
  refine ⟨xM M1, ?_, fun h => absurd h hj, Core_mU C (by unfold coreA; omega) (by decide) (by decide) (by decide), ?_⟩
  · rw [h]; exact hE
  · show 0 ≤ mU M1 999 0 (M1 999 0 + 1) 999 0 ∧ mU M1 999 0 (M1 999 0 + 1) 999 0 ≤ _
    rw [mU_eq, up_eq, h9]
    have := hx.1
    omega
/-- the reference says: thrown -/
theorem ansR_thr {y : OR} {N : MM} {c z z' : Int} (h : y = some (rI z', mU (mU N 165 0 0) 165 0 c)) (hc : c ≠ 0) : AnsR y N c z := by
  refine ⟨_, z', h, rfl, fun h => absurd h hc, Core_m165 (Core_m165 Core.rfl' (by decide) (by decide) (by decide) (by decide)) (by decide) (by decide) (by decide) (by decide), rfl, rfl⟩
theorem ansR_ret {y : OR} {N N2 : MM} {z : Int} (h : y = some (rI z, N2)) (h0 : N2 165 0 = 0) (C : Core N N2) (h1 : N2 181 = N 181) (h9 : N2 999 = N 999) : AnsR y N 0 z := ⟨N2, z, h, h0, fun _ => rfl, C, h1, h9⟩
theorem Core_t0 {N : MM} {x : Int} : Core N (mU N 165 0 x) := Core_m165 Core.rfl' (by decide) (by decide) (by decide) (by decide)
theorem ansR_r0 {y : OR} {N : MM} {z : Int} (h : y = some (rI z, mU N 165 0 0)) : AnsR y N 0 z := ansR_ret h rfl Core_t0 rfl rfl
theorem t0_166 {N : MM} : (mU N 165 0 0) 166 = N 166 := rfl
theorem mo_lyingAt_v {M : MM} {n : Nat} {v1 : Int} (hC : WC n (M 166)) (hT : WT (M 166)) (hv : I32 v1) : mo_lyingAt v1 M = some (rI ((bset 10 (lyB (M 166) v1) : Nat) : Int), M) := by
  obtain ⟨c0, c1, -⟩ := hC
  have hTT : M 166 1 = (((M 166 1).toNat : Nat) : Int) := by omega
  unfold mo_lyingAt
  rw [or_run0 (L := fun F a i => mo_lyingAt_L4 v1 (fun v4_7 M_8 => some (rI v4_7, M_8)) F a i M) (K := fun a => some (rI a, M)) (f := fun i => decide (oT (M 166) (i : Int) 2 = 0) && decide (oT (M 166) (i : Int) 3 = v1)) (N := (M 166 1).toNat) (by omega) (FU_gt (by omega)) ?_ ?_]
  · rw [← bset_ext (f := fun i => decide (oT (M 166) (i : Int) 2 = 0) && decide (oT (M 166) (i : Int) 3 = v1)) (show (M 166 1).toNat ≤ 10 by omega)]
    congr 4
    apply bset_cg
    intro i hi
    unfold lyB
    congr 1
    exact decide_eq_decide.mpr (by omega)
  · intro n a i hi ha
    obtain ⟨t0, t1, t2, t3⟩ := hT i (by omega) (by omega)
    rw [mo_lyingAt_L4, mo_things_b, bq_ge (by omega) (by omega), if_neg (by omega), mo_ofThing_b (by omega) (by omega) (by decide) (by decide), bq_ne (by omega) (by decide), nu_or0 ha]
    by_cases h2 : oT (M 166) (i : Int) 2 = 0
    · rw [if_pos h2, decide_eq_true h2, mo_ofThing_b (by omega) (by omega) (by decide) (by decide), bq_ne (by omega) hv]
      by_cases h3 : oT (M 166) (i : Int) 3 = v1
      · rw [if_pos h3, decide_eq_true h3]; rfl
      · rw [if_neg h3, decide_eq_false h3]; rfl
    · rw [if_neg h2, decide_eq_false h2]; rfl
  · intro n a
    rw [mo_lyingAt_L4, mo_things_b, bq_ge (by omega) (by omega), if_pos (by omega)]
def plV (w : Nat → Int) (p j : Int) : Int := if j = 8 then ((bset 10 (lyB w p) : Nat) : Int) else if j = 6 ∧ oP w p 7 = 1 then -1 else oP w p j
theorem gh_place_v {M : MM} {w : Nat → Int} {n : Nat} {p j : Int} (hW : WF n w) (hL : LandR 3 w M) (hJ : JnyR 23 w M) (h0 : 0 ≤ p) (h1 : p < w 0) (h2 : 0 ≤ j) (h3 : j ≤ 8) : gh_place p j M = some (rI (plV w p j), M) := by
  obtain ⟨hC, hP, hT, hR, hB, hG, -⟩ := hW
  have c0 := hC.1
  obtain ⟨p0, p1, p2, p3, p4, p5, p6, p7⟩ := hP p h0 h1
  have hg := hG.1 p h0 h1
  have c1 := hC.2.1
  unfold gh_place
  rw [checkPlace_t hC hL.1.1 h0 h1, land_hasKeeper_b hL h0 (by omega), kpB_eq h0 h1]
  by_cases hk : oP w p 0 = 1
  · obtain ⟨l1, l2, l3, l4, l5⟩ := hL.2.2.2.1 p h0 h1 hk
    rw [decide_eq_true hk]
    rcases (show j = 0 ∨ j = 1 ∨ j = 2 ∨ j = 3 ∨ j = 4 ∨ j = 5 ∨ j = 6 ∨ j = 7 ∨ j = 8 by omega) with rfl | rfl | rfl | rfl | rfl | rfl | rfl | rfl | rfl <;> unfold plV <;> simp (disch := omega) only [↓bq_eq, ↓bq_in, ↓if_pos, ↓if_neg, ↓bz_eq0, cond_true]
    · rw [hk]
    · rw [l1]
    · rw [l2]
    · rw [l3]
    · rw [l4]
    · rw [hL.2.2.1, gh_bit_s (by decide) h0 (by omega), tkB_eq h0 h1]
      rcases p4 with h | h <;> rw [h] <;> rfl
    · unfold gh_giftStillHad
      rw [land_hasKeeper_b hL h0 (by omega), kpB_eq h0 h1, decide_eq_true hk]
      simp (disch := omega) only [↓bq_in, ↓bz_eq0, cond_true]
      rw [show M 8 p.toNat = oP w p 6 from l5, bq_eq (by omega) (by decide)]
      by_cases hn : oP w p 6 = -1
      · rw [if_pos hn]
        by_cases h7 : oP w p 7 = 1
        · rw [if_pos ⟨trivial, h7⟩]; rfl
        · rw [if_neg (fun h => h7 h.2), hn]; rfl
      · obtain ⟨g1, g2⟩ := hg (by omega)
        rw [if_neg hn, hJ.2.2.2.1, gh_bit_s (by decide) (by omega) (by omega), stB_eq (by omega) (by omega), bz_ne1]
        by_cases h7 : oP w p 7 = 1
        · rw [if_pos ⟨trivial, h7⟩, decide_eq_false (fun h => by have := g1.2 h; omega)]; rfl
        · rw [if_neg (fun h => h7 h.2), decide_eq_true (g1.1 (by omega))]; rfl
    · rw [hJ.2.2.2.2.1, gh_bit_s (by decide) h0 (by omega), paB_eq h0 h1]
      rcases p6 with h | h <;> rw [h] <;> rfl
    · rw [jny_lying_b hJ hT hC h0 (by omega)]
  · obtain ⟨q1, q2, q3, q4, q5, q6, q7⟩ := p7 (by omega)
    rw [decide_eq_false hk]
    rcases (show j = 0 ∨ j = 1 ∨ j = 2 ∨ j = 3 ∨ j = 4 ∨ j = 5 ∨ j = 6 ∨ j = 7 ∨ j = 8 by omega) with rfl | rfl | rfl | rfl | rfl | rfl | rfl | rfl | rfl <;> unfold plV <;> simp (disch := omega) only [↓bq_eq, ↓bq_in, ↓if_pos, ↓if_neg, ↓bz_eq0, cond_false]
    · rw [show oP w p 0 = 0 by omega]
    · rw [q1]
    · rw [q2]
    · rw [q3]
    · rw [q4]
    · rw [hL.2.2.1, gh_bit_s (by decide) h0 (by omega), tkB_eq h0 h1, q5]; rfl
    · unfold gh_giftStillHad
      rw [land_hasKeeper_b hL h0 (by omega), kpB_eq h0 h1, decide_eq_false hk, q6]
      rfl
    · rw [hJ.2.2.2.2.1, gh_bit_s (by decide) h0 (by omega), paB_eq h0 h1, q7]; rfl
    · rw [jny_lying_b hJ hT hC h0 (by omega)]
theorem lyB_I {w : Nat → Int} {p : Int} : I32 ((bset 10 (lyB w p) : Nat) : Int) := by have := bset_lt (lyB w p) 10; omega
theorem plV_I {w : Nat → Int} {n : Nat} {p j : Int} (hW : WF n w) (h0 : 0 ≤ p) (h1 : p < w 0) (h2 : 0 ≤ j) (h3 : j ≤ 8) : I32 (plV w p j) := by
  obtain ⟨hC, hP, -⟩ := hW
  have c1 := hC.2.1
  obtain ⟨p0, p1, p2, p3, p4, p5, p6, p7⟩ := hP p h0 h1
  unfold plV
  by_cases h8 : j = 8
  · rw [if_pos h8]; exact lyB_I
  · rw [if_neg h8]
    split
    · decide
    · rcases (show j = 0 ∨ j = 1 ∨ j = 2 ∨ j = 3 ∨ j = 4 ∨ j = 5 ∨ j = 6 ∨ j = 7 by omega) with rfl | rfl | rfl | rfl | rfl | rfl | rfl | rfl <;> omega
theorem mo_place_r {N : MM} {n : Nat} {p j : Int} (hW : WF n (N 166)) (hp : I32 p) (hj : I32 j) : AnsR (mo_place p j N) N (if 0 ≤ p ∧ p < N 166 0 then (if 0 ≤ j ∧ j ≤ 8 then 0 else 2) else 1) (plV (N 166) p j) := by
  obtain ⟨hC, hP, hT, -⟩ := hW
  have c0 := hC.1
  by_cases h : 0 ≤ p ∧ p < N 166 0
  · rw [if_pos h]
    by_cases h2 : 0 ≤ j ∧ j ≤ 8
    · rw [if_pos h2]
      have p7 := (hP p h.1 h.2).2.2.2.2.2.2.1
      refine ansR_r0 ?_
      unfold mo_place mo_place_J34 plV
      rw [sM_eq, mo_noPlace_b (M := mU N 165 0 0) (by exact hC) hp, decide_eq_true (show 0 ≤ p ∧ p < (mU N 165 0 0) 166 0 from h), Bool.not_true, mo_throwsIf_f, bz_ne0]
      simp only [cond_false]
      rw [mo_in_b hj (by decide) (by decide), decide_eq_true h2, bz_ne0]
      simp only [cond_true]
      rw [mo_throwsIf_0, bq_eq (by decide) (by decide), if_pos rfl, bq_ne hj (by decide)]
      by_cases h8 : j = 8
      · subst h8
        rw [if_pos rfl, if_pos rfl, mo_lyingAt_v (M := mU N 165 0 0) (by exact hC) (by exact hT) hp]; rfl
      · rw [if_neg h8, if_neg h8, bq_ne hj (by decide)]
        by_cases h6 : j = 6
        · rw [if_pos h6, mo_of_b h.1 (by omega) (by decide) (by decide), bq_ne (by rw [t0_166]; omega) (by decide), t0_166]
          by_cases h7 : oP (N 166) p 7 = 1
          · rw [if_pos h7, if_pos ⟨h6, h7⟩]
          · rw [if_neg h7, if_neg (fun g => h7 g.2), mo_of_b h.1 (by omega) (by omega) (by omega)]; rfl
        · rw [if_neg h6, if_neg (fun g => h6 g.1), mo_of_b h.1 (by omega) (by omega) (by omega)]; rfl
    · rw [if_neg h2]
      refine ansR_thr (z' := 0) ?_ (by decide)
      unfold mo_place mo_place_J34
      rw [sM_eq, mo_noPlace_b (M := mU N 165 0 0) (by exact hC) hp, decide_eq_true (show 0 ≤ p ∧ p < (mU N 165 0 0) 166 0 from h), Bool.not_true, mo_throwsIf_f, bz_ne0]
      simp only [cond_false]
      rw [mo_in_b hj (by decide) (by decide), decide_eq_false h2, bz_ne0]
      rfl
  · rw [if_neg h]
    refine ansR_thr (z' := 0) ?_ (by decide)
    unfold mo_place
    rw [sM_eq, mo_noPlace_b (M := mU N 165 0 0) (by exact hC) hp, decide_eq_false (show ¬ (0 ≤ p ∧ p < (mU N 165 0 0) 166 0) from h)]
    rfl
theorem ok_place {p j : Int} (hp : I32 p) (hj : I32 j) : OpOK (drv_place p j) (mo_place p j) := by
  refine op_read fun k M hk hI => ?_
  obtain ⟨-, hW, hL, hJ, -⟩ := hI
  refine ⟨if 0 ≤ p ∧ p < M 166 0 then (if 0 ≤ j ∧ j ≤ 8 then 0 else 2) else 1, plV (M 166) p j, by split <;> (try split) <;> decide, fun h => ?_, fun hx => ?_, fun N hN e _ => by rw [← e]; exact mo_place_r hN.2.1 hp hj⟩
  · by_cases h1 : 0 ≤ p ∧ p < M 166 0
    · rw [if_pos h1] at h
      by_cases h2 : 0 ≤ j ∧ j ≤ 8
      · exact plV_I hW h1.1 h1.2 h2.1 h2.2
      · rw [if_neg h2] at h; exact absurd h (by decide)
    · rw [if_neg h1] at h; exact absurd h (by decide)
  · show AnsC (hN (fun c_6 M_2 => (bif Nat.beq c_6 15 then some (rI 1, M_2) else (bif Nat.beq c_6 16 then some (rI 2, M_2) else none))) (gh_place p j M)) M _ _
    by_cases h1 : 0 ≤ p ∧ p < M 166 0
    · rw [if_pos h1]
      by_cases h2 : 0 ≤ j ∧ j ≤ 8
      · rw [if_pos h2]
        exact ansC_ret hx (gh_place_v hW hL hJ h1.1 h1.2 h2.1 h2.2) (plV_I hW h1.1 h1.2 h2.1 h2.2) Core.rfl' rfl
      · rw [if_neg h2]
        refine ansC_thr (c := 16) hx ?_ rfl (by decide) Core.rfl' rfl
        have c0 := hW.1.1
        unfold gh_place
        rw [checkPlace_t hW.1 hL.1.1 h1.1 h1.2, land_hasKeeper_b hL h1.1 (by omega)]
        simp (disch := omega) only [↓bq_eq hj, ↓if_neg]
        exact thx_v hx
    · rw [if_neg h1]
      exact ansC_thr (c := 15) hx (checkPlace_f hW.1 hL.1.1 hx hp h1) rfl (by decide) Core.rfl' rfl
-- thing
def thV (w : Nat → Int) (t j : Int) : Int := if j = 3 ∧ 1 < oT w t 2 then -1 else oT w t j
theorem ok_thing {p j : Int} (hp : I32 p) (hj : I32 j) : OpOK (drv_thing p j) (mo_thing p j) := by
  refine op_read fun k M hk hI => ?_
  obtain ⟨-, hW, hL, hJ, -⟩ := hI
  have hz : 0 ≤ p ∧ p < M 166 1 → 0 ≤ j ∧ j ≤ 3 → I32 (thV (M 166) p j) := fun h1 h2 => by
    obtain ⟨t0, t1, t2, t3⟩ := hW.2.2.1 p h1.1 h1.2
    have := hW.1.1
    unfold thV
    split
    · decide
    · rcases (show j = 0 ∨ j = 1 ∨ j = 2 ∨ j = 3 by omega) with rfl | rfl | rfl | rfl <;> omega
  refine ⟨if 0 ≤ p ∧ p < M 166 1 then (if 0 ≤ j ∧ j ≤ 3 then 0 else 2) else 1, thV (M 166) p j, by split <;> (try split) <;> decide, fun h => ?_, fun hx => ?_, fun N hN e _ => ?_⟩
  · by_cases h1 : 0 ≤ p ∧ p < M 166 1
    · rw [if_pos h1] at h
      by_cases h2 : 0 ≤ j ∧ j ≤ 3
      · exact hz h1 h2
      · rw [if_neg h2] at h; exact absurd h (by decide)
    · rw [if_neg h1] at h; exact absurd h (by decide)
  · show AnsC (hN (fun c_6 M_2 => (bif Nat.beq c_6 15 then some (rI 1, M_2) else (bif Nat.beq c_6 16 then some (rI 2, M_2) else none))) (gh_thing p j M)) M _ _
    by_cases h1 : 0 ≤ p ∧ p < M 166 1
    · have c1 := hW.1.2.1
      obtain ⟨l1, l2⟩ := hL.2.2.2.2.1 p h1.1 h1.2
      obtain ⟨t0, t1, t2, t3⟩ := hW.2.2.1 p h1.1 h1.2
      rw [if_pos h1]
      by_cases h2 : 0 ≤ j ∧ j ≤ 3
      · rw [if_pos h2]
        refine ansC_ret hx ?_ (hz h1 h2) Core.rfl' rfl
        unfold gh_thing
        rw [checkThing_t hW.1 hL.1.2.1 h1.1 h1.2]
        rcases (show j = 0 ∨ j = 1 ∨ j = 2 ∨ j = 3 by omega) with rfl | rfl | rfl | rfl <;> unfold thV <;> simp (disch := omega) only [↓bq_eq, ↓bq_in, ↓if_pos, ↓if_neg]
        · rw [l1]
        · rw [l2]
        · rw [jny_lot_b hJ hW.2.2.1 hW.1 h1.1 (by omega), if_pos h1.2]
        · rw [jny_lot_b hJ hW.2.2.1 hW.1 h1.1 (by omega), if_pos h1.2, bq_gt (by omega) (by decide)]
          by_cases h3 : 1 < oT (M 166) p 2
          · rw [if_pos h3, if_pos ⟨trivial, h3⟩]
          · rw [if_neg h3, if_neg (fun g => h3 g.2), show M 24 p.toNat = oT (M 166) p 3 from hJ.2.2.2.2.2.2.1 p h1.1 h1.2]
      · rw [if_neg h2]
        refine ansC_thr (c := 16) hx ?_ rfl (by decide) Core.rfl' rfl
        unfold gh_thing
        rw [checkThing_t hW.1 hL.1.2.1 h1.1 h1.2]
        simp (disch := omega) only [↓bq_eq hj, ↓if_neg]
        exact thx_v hx
    · rw [if_neg h1]
      exact ansC_thr (c := 15) hx (checkThing_f hW.1 hL.1.2.1 hx hp h1) rfl (by decide) Core.rfl' rfl
  · have hWN := hN.2.1
    rw [← e]
    clear hW hL hJ hz e
    have hC := hWN.1
    have c1 := hC.2.1
    by_cases h : 0 ≤ p ∧ p < N 166 1
    · obtain ⟨t0, t1, t2, t3⟩ := hWN.2.2.1 p h.1 h.2
      rw [if_pos h]
      by_cases h2 : 0 ≤ j ∧ j ≤ 3
      · rw [if_pos h2]
        refine ansR_r0 ?_
        unfold mo_thing mo_thing_J33 thV
        rw [sM_eq, mo_noThing_b (M := mU N 165 0 0) (by exact hC) hp, decide_eq_true (show 0 ≤ p ∧ p < (mU N 165 0 0) 166 1 from h), Bool.not_true, mo_throwsIf_f, bz_ne0]
        simp only [cond_false]
        rw [mo_in_b hj (by decide) (by decide), decide_eq_true h2, bz_ne0]
        simp only [cond_true]
        rw [mo_throwsIf_0, bq_eq (by decide) (by decide), if_pos rfl, bq_ne hj (by decide)]
        by_cases h3 : j = 3
        · subst h3
          rw [if_pos rfl, mo_ofThing_b h.1 (by omega) (by decide) (by decide), t0_166, bq_le (by omega) (by decide)]
          by_cases h4 : 1 < oT (N 166) p 2
          · rw [if_neg (by omega), if_pos ⟨rfl, h4⟩]
          · rw [if_pos (by omega), if_neg (fun g => h4 g.2), mo_ofThing_b h.1 (by omega) (by decide) (by decide)]; rfl
        · rw [if_neg h3, if_neg (fun g => h3 g.1), mo_ofThing_b h.1 (by omega) h2.1 h2.2]; rfl
      · rw [if_neg h2]
        refine ansR_thr (z' := 0) ?_ (by decide)
        unfold mo_thing mo_thing_J33
        rw [sM_eq, mo_noThing_b (M := mU N 165 0 0) (by exact hC) hp, decide_eq_true (show 0 ≤ p ∧ p < (mU N 165 0 0) 166 1 from h), Bool.not_true, mo_throwsIf_f, bz_ne0]
        simp only [cond_false]
        rw [mo_in_b hj (by decide) (by decide), decide_eq_false h2, bz_ne0]
        rfl
    · rw [if_neg h]
      refine ansR_thr (z' := 0) ?_ (by decide)
      unfold mo_thing
      rw [sM_eq, mo_noThing_b (M := mU N 165 0 0) (by exact hC) hp, decide_eq_false (show ¬ (0 ≤ p ∧ p < (mU N 165 0 0) 166 1) from h)]
      rfl
