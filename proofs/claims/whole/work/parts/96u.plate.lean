/-! ===== PLATES: in how many ways; the class ===== -/
def pSel (can : Nat → Nat → Bool) (p S b : Nat) : Bool := !S.testBit b && can p b
def pW (can : Nat → Nat → Bool) (B : Nat) : Nat → Nat → Nat → Int
  | 0, _, _ => 1
  | d + 1, p, S => fo (fun b a => bif pSel can p S b then a + pW can B d (p + 1) (S ||| 2 ^ b) else a) B 0 0
section PlW
variable {can : Nat → Nat → Bool} {B : Nat}
theorem pW_J : ∀ d p S, 0 ≤ pW can B d p S ∧ pW can B d p S ≤ (B : Int) ^ d
  | 0, p, S => ⟨by show (0 : Int) ≤ 1; decide, by show (1 : Int) ≤ (B : Int) ^ 0; rw [Int.pow_zero]; decide⟩
  | d + 1, p, S => by
    have := fo_inv (g := fun b a => bif pSel can p S b then a + pW can B d (p + 1) (S ||| 2 ^ b) else a) (P := fun i a => 0 ≤ a ∧ a ≤ (i : Int) * (B : Int) ^ d) B 0 0 ⟨by decide, by simp⟩ (fun j a h1 h2 h3 => by
      have ih := pW_J d (p + 1) (S ||| 2 ^ j)
      have e : ((j + 1 : Nat) : Int) * (B : Int) ^ d = (j : Int) * (B : Int) ^ d + (B : Int) ^ d := by
        rw [show ((j + 1 : Nat) : Int) = (j : Int) + 1 by omega, Int.add_mul, Int.one_mul]
      rw [e]
      show 0 ≤ (bif pSel can p S j then a + pW can B d (p + 1) (S ||| 2 ^ j) else a) ∧ (bif pSel can p S j then a + pW can B d (p + 1) (S ||| 2 ^ j) else a) ≤ _
      generalize pW can B d (p + 1) (S ||| 2 ^ j) = x at ih
      generalize (j : Int) * (B : Int) ^ d = y at h3
      generalize (B : Int) ^ d = z at ih
      cases pSel can p S j with
      | true => rw [cn_t]; omega
      | false => rw [cn_f]; omega)
    rw [Nat.zero_add] at this
    show 0 ≤ fo _ B 0 0 ∧ fo _ B 0 0 ≤ _
    rw [Int.pow_succ, Int.mul_comm ((B : Int) ^ d)]
    exact this
theorem pow7 {B d : Nat} (hB : B ≤ 7) (hd : d ≤ 7) : (B : Int) ^ d ≤ 823543 := by
  have : B ^ d ≤ 7 ^ 7 := Nat.le_trans (Nat.pow_le_pow_left hB d) (Nat.pow_le_pow_right (by decide) hd)
  have e : ((B ^ d : Nat) : Int) = (B : Int) ^ d := Int.natCast_pow ..
  rw [← e]
  have e7 : (7 : Nat) ^ 7 = 823543 := rfl
  omega
theorem pW_I {d p S : Nat} (hB : B ≤ 7) (hd : d ≤ 7) : 0 ≤ pW can B d p S ∧ pW can B d p S ≤ 823543 := by
  have h1 := pW_J (can := can) (B := B) d p S
  have h2 := pow7 hB hd
  omega
theorem pW_ex {d p S : Nat} (h : pW can B (d + 1) p S ≠ 0) : ∃ b, b < B ∧ pSel can p S b = true ∧ 0 < pW can B d (p + 1) (S ||| 2 ^ b) := by
  apply Classical.byContradiction
  intro hn
  apply h
  have := fo_inv (g := fun b a => bif pSel can p S b then a + pW can B d (p + 1) (S ||| 2 ^ b) else a) (P := fun _ a => a = 0) B 0 0 rfl (fun j a h1 h2 h3 => by
    subst h3
    have ih := pW_J (can := can) (B := B) d (p + 1) (S ||| 2 ^ j)
    show (bif pSel can p S j then 0 + pW can B d (p + 1) (S ||| 2 ^ j) else 0) = 0
    cases hs : pSel can p S j with
    | false => rfl
    | true =>
      rw [cn_t]
      have : ¬ 0 < pW can B d (p + 1) (S ||| 2 ^ j) := fun g => hn ⟨j, by omega, hs, g⟩
      omega)
  exact this
end PlW
theorem or_pc {S b : Nat} (h : S.testBit b = false) (hb : b < 10) : cnt (S ||| 2 ^ b).testBit 10 = cnt S.testBit 10 + 1 := by
  rw [cnt_ins (f := S.testBit) (p := b) h (fun i => by
    rw [Nat.testBit_or, Nat.testBit_two_pow]
    congr 1
    exact decide_eq_decide.mpr eq_comm) 10, if_pos hb]
theorem or_gt {S b : Nat} (h : S.testBit b = false) : S < S ||| 2 ^ b := by
  refine Nat.lt_of_le_of_ne Nat.left_le_or fun g => ?_
  have : (S ||| 2 ^ b).testBit b = true := by rw [Nat.testBit_or, Nat.testBit_two_pow_self, Bool.or_true]
  rw [← g, h] at this
  exact absurd this (by decide)
theorem or_lt {S b B : Nat} (hS : S < 2 ^ B) (hb : b < B) : S ||| 2 ^ b < 2 ^ B := Nat.or_lt_two_pow hS (Nat.pow_lt_pow_right (by decide) hb)
theorem p2_7 {B : Nat} (h : B ≤ 7) : 2 ^ B ≤ 128 := Nat.pow_le_pow_right (by decide) h
def pCan (w : Nat → Int) (T : Nat → Int) (p b : Nat) : Bool := fitB (T (2 * p + 1)) (oB w (b : Int) 1) (oB w (b : Int) 2) && decide (oB w (b : Int) 3 % 24 ≤ T (2 * p))
section PlC
variable {M : MM} {w T : Nat → Int} {n m B : Nat}
theorem canBe_c {k : Int → MM → OR} {p b : Nat} (hL : LandR 3 w M) (hC : WC n w) (hB : WB w) (h2 : M 2 = T) (hp : p < 7) (hb : (b : Int) < w 3) (hT : I32 (T (2 * p))) : bI (ridd_canBeHis (p : Int) (b : Int) M) k = k (b2 (pCan w T p b)) M := by
  have c3 := hC.2.2.2.1
  have hbb := hB (b : Int) (by omega) hb
  have l5 := (hL.2.2.2.2.2.2 (b : Int) (by omega) hb).2.2.2.1
  rw [Int.toNat_natCast] at l5
  unfold ridd_canBeHis pCan
  rw [bq_in (by omega) (by omega), bq_in (by omega) (by omega), show 2 * (p : Int) + 1 = ((2 * p + 1 : Nat) : Int) by omega, show 2 * (p : Int) = ((2 * p : Nat) : Int) by omega, Int.toNat_natCast, Int.toNat_natCast, h2, land_opens_r hL hC hB (by omega) hb, bz_eq0, bq_in (by omega) (by omega), Int.toNat_natCast, show M 15 b = _ from l5, tmod24 (by omega) (by omega), bq_gt (by omega) hT]
  cases fitB (T (2 * p + 1)) (oB w (b : Int) 1) (oB w (b : Int) 2) with
  | false => rw [cn_f, bI_I]; rfl
  | true =>
    rw [cn_t, Bool.true_and]
    by_cases h : T (2 * p) < oB w (b : Int) 3 % 24
    · rw [if_pos h, bI_I, decide_eq_false (by omega)]; rfl
    · rw [if_neg h, bI_I, decide_eq_true (by omega)]; rfl
def p164 (M : MM) (C : Nat → Int) : MM := mV M 164 C
theorem plc_inner {K : MM → OR} {S c : Nat} (hL : LandR 3 w M) (hC : WC n w) (hB : WB w) (h2 : M 2 = T) (hT : ∀ p, p < m → I32 (T (2 * p))) (hm : m ≤ 7) (hw : w 3 = (B : Int)) (hS : S < 2 ^ B) (hc : c < m) (hpc : cnt S.testBit 10 = c) (hin : ∀ S', S < S' → S' < 2 ^ B → cnt S'.testBit 10 ≤ m → M 164 S' = pW (pCan w T) B (m - cnt S'.testBit 10) (cnt S'.testBit 10) S') :
    ridd_countWays_L36 (m : Int) (S : Int) (c : Int) K FU 0 (mU M 164 S 0) = K (mU M 164 S (pW (pCan w T) B (m - c) c S)) := by
  have c3 := hC.2.2.2.1
  have hB7 : B ≤ 7 := by omega
  have hS7 : S < 128 := Nat.lt_of_lt_of_le hS (p2_7 hB7)
  have run := fo_run0 (L := fun F a i => ridd_countWays_L36 (m : Int) (S : Int) (c : Int) K F i (mU M 164 S a)) (K := fun a => K (mU M 164 S a)) (g := fun b a => bif pSel (pCan w T) c S b then a + pW (pCan w T) B (m - (c + 1)) (c + 1) (S ||| 2 ^ b) else a) (N := B) (F := FU) (a := (0 : Int)) (FU_gt (by omega)) (fun f a b hb => ?_) (fun f a => ?_)
  · rw [show m - c = (m - (c + 1)) + 1 by omega]
    exact run
  · have e3 : (mU M 164 S a) 3 3 = (B : Int) := by rw [mU_ne (by decide), hL.1.2.2.2.1, hw]
    have hL' : LandR 3 w (mU M 164 S a) := LandR_fr (fun j hj => mU_ne (by omega)) hL
    rw [ridd_countWays_L36, e3, bq_ge (by omega) (by omega), if_neg (by omega), bq_ge (by omega) (by decide), if_neg (by omega), bq_ge (by omega) (by omega), if_neg (by omega), gh_bit_b (by omega) (by omega), bz_ne0, canBe_c (T := T) hL' hC hB (by rw [mU_ne (by decide)]; exact h2) (by omega) (by omega) (hT c hc), bz_eq0]
    unfold pSel
    cases hbit : S.testBit b with
    | true => rw [cn_t, Bool.not_true, Bool.false_and, cn_f]
    | false =>
      rw [cn_f, Bool.not_false, Bool.true_and]
      cases pCan w T c b with
      | false => rw [cn_f, cn_f]
      | true =>
        have hor := or_lt hS hb
        have hgt := or_gt hbit
        have hpc2 := or_pc hbit (show b < 10 by omega)
        rw [hpc] at hpc2
        have e7 := p2_7 hB7
        have eo : iOr (S : Int) (iShl 1 (b : Int)) = ((S ||| 2 ^ b : Nat) : Int) := by
          rw [nu_one (by omega), nu_or (by omega) (Nat.lt_of_lt_of_le (Nat.pow_lt_pow_right (by decide) (show b < 31 by omega)) (by decide))]
        have ev := hin _ hgt hor (by omega)
        rw [hpc2] at ev
        rw [cn_t, cn_t, bq_in (by omega) (by omega), eo, bq_in (by omega) (by omega), bq_in (by omega) (by omega), sM_eq, Int.toNat_natCast, Int.toNat_natCast, mU_twice, mU_ap, if_pos rfl, if_pos rfl, mU_ap, if_pos rfl, if_neg (by omega), ev]
  · have e3 : (mU M 164 S a) 3 3 = (B : Int) := by rw [mU_ne (by decide), hL.1.2.2.2.1, hw]
    rw [ridd_countWays_L36, e3, bq_ge (by omega) (by omega), if_pos (by omega)]
theorem plc_outer {K : MM → OR} (hC : WC n w) (hB : WB w) (hT : ∀ p, p < m → I32 (T (2 * p))) (hm : m ≤ 7) (hw : w 3 = (B : Int)) : ∀ (S F : Nat) (v : Int) (M : MM), v = (S : Int) - 1 → S ≤ 2 ^ B → S < F → LandR 3 w M → M 2 = T → (∀ S', S ≤ S' → S' < 2 ^ B → cnt S'.testBit 10 ≤ m → M 164 S' = pW (pCan w T) B (m - cnt S'.testBit 10) (cnt S'.testBit 10) S') →
    ∃ M', ridd_countWays_L8 (m : Int) K F v M = K M' ∧ (∀ p, p ≠ 164 → M' p = M p) ∧ ∀ S', S' < 2 ^ B → cnt S'.testBit 10 ≤ m → M' 164 S' = pW (pCan w T) B (m - cnt S'.testBit 10) (cnt S'.testBit 10) S'
  | 0, F, v, M, hv, hS, hF, hL, h2, hin => by
    obtain ⟨f, rfl⟩ : ∃ n, F = n + 1 := ⟨F - 1, by omega⟩
    refine ⟨M, ?_, fun _ _ => rfl, fun S' h1 h3 => hin S' (Nat.zero_le _) h1 h3⟩
    rw [ridd_countWays_L8, bq_lt (by omega) (by decide), if_pos (by omega)]
  | S + 1, F, v, M, hv, hS, hF, hL, h2, hin => by
    obtain ⟨f, rfl⟩ : ∃ n, F = n + 1 := ⟨F - 1, by omega⟩
    have c3 := hC.2.2.2.1
    have e7 := p2_7 (show B ≤ 7 by omega)
    obtain rfl : v = (S : Int) := by omega
    have hcl := cnt_le S.testBit 10
    obtain ⟨c, hc⟩ : ∃ c, cnt S.testBit 10 = c := ⟨_, rfl⟩
    have J : ∀ x y : Int, (∀ z : Int, z = x → ridd_countWays_L36 (m : Int) (S : Int) (c : Int) (fun M_17 => ridd_countWays_L8 (m : Int) K f ((S : Int) + -1) M_17) FU 0 (mU M 164 S z) = ridd_countWays_L8 (m : Int) K f ((S : Int) + -1) (mU M 164 S y)) → (c ≤ m → y = pW (pCan w T) B (m - c) c S) → ∃ M', ridd_countWays_J32 (m : Int) (ridd_countWays_L8 (m : Int) K f) K (S : Int) (c : Int) x (S : Int) M = K M' ∧ (∀ p, p ≠ 164 → M' p = M p) ∧ ∀ S', S' < 2 ^ B → cnt S'.testBit 10 ≤ m → M' 164 S' = pW (pCan w T) B (m - cnt S'.testBit 10) (cnt S'.testBit 10) S' := by
      intro x y hx hy
      obtain ⟨M', q1, q2, q3⟩ := plc_outer (K := K) hC hB hT hm hw S f ((S : Int) + -1) (mU M 164 S y) (by omega) (by omega) (by omega) (LandR_fr (fun j hj => mU_ne (by omega)) hL) (by rw [mU_ne (by decide)]; exact h2) (fun S' g1 g2 g3 => by
        rw [mU_ap, if_pos rfl]
        by_cases e : S' = S
        · subst e
          rw [if_pos rfl, hc]
          exact hy (by omega)
        · rw [if_neg e]
          exact hin S' (by omega) g2 g3)
      refine ⟨M', ?_, fun p hp => by rw [q2 p hp, mU_ne hp], q3⟩
      unfold ridd_countWays_J32
      rw [bq_in (by omega) (by omega), sM_eq, Int.toNat_natCast, hx x rfl]
      exact q1
    have stop : ∀ z : Int, m ≤ c → ridd_countWays_L36 (m : Int) (S : Int) (c : Int) (fun M_17 => ridd_countWays_L8 (m : Int) K f ((S : Int) + -1) M_17) FU 0 (mU M 164 S z) = ridd_countWays_L8 (m : Int) K f ((S : Int) + -1) (mU M 164 S z) := fun z hmc => by
      obtain ⟨q, hq⟩ : ∃ q, FU = q + 1 := ⟨FU - 1, by have := FU_gt (n := 1) (by decide); omega⟩
      have e3 : (mU M 164 S z) 3 3 = (B : Int) := by rw [mU_ne (by decide), hL.1.2.2.2.1, hw]
      rw [hq, ridd_countWays_L36, e3, bq_ge (by omega) (by omega)]
      by_cases g1 : (B : Int) ≤ 0
      · rw [if_pos g1]
      · rw [if_neg g1, bq_ge (by decide) (by decide), if_neg (by decide), bq_ge (by omega) (by omega), if_pos (by omega)]
    rw [ridd_countWays_L8, bq_lt (by omega) (by decide), if_neg (by omega), bc_v, bI_I, bcv_s (by omega), hc, bq_ne (by omega) (by omega)]
    by_cases h1 : c = m
    · rw [if_pos (by omega)]
      refine J 1 1 (fun z hz => ?_) (fun _ => ?_)
      · subst hz
        exact stop 1 (by omega)
      · rw [show m - c = 0 by omega]; rfl
    · rw [if_neg (by omega)]
      by_cases h3 : c < m
      · refine J 0 (pW (pCan w T) B (m - c) c S) (fun z hz => ?_) (fun _ => rfl)
        subst hz
        exact plc_inner hL hC hB h2 hT hm hw (by omega) h3 hc (fun S' g1 g2 g3 => hin S' (by omega) g2 g3)
      · refine J 0 0 (fun z hz => ?_) (fun g => absurd g (by omega))
        subst hz
        exact stop 0 (by omega)
theorem countWays_b {k : MM → OR} (hC : WC n w) (hB : WB w) (hT : ∀ p, p < m → I32 (T (2 * p))) (hm : m ≤ 7) (hw : w 3 = (B : Int)) (hL : LandR 3 w M) (h2 : M 2 = T) : ∃ M', bV (ridd_countWays (m : Int) M) k = k M' ∧ (∀ p, p ≠ 164 → M' p = M p) ∧ ∀ S', S' < 2 ^ B → cnt S'.testBit 10 ≤ m → M' 164 S' = pW (pCan w T) B (m - cnt S'.testBit 10) (cnt S'.testBit 10) S' := by
  have c3 := hC.2.2.2.1
  have e7 := p2_7 (show B ≤ 7 by omega)
  have e0 := Nat.two_pow_pos B
  obtain ⟨M', q1, q2, q3⟩ := plc_outer (K := fun M_20 => some (rV, M_20)) (M := M) hC hB hT hm hw (2 ^ B) FU (((2 ^ B : Nat) : Int) - 1) rfl (Nat.le_refl _) (FU_gt (by omega)) hL h2 (fun S' g1 g2 _ => absurd g2 (by omega))
  refine ⟨M', ?_, q2, q3⟩
  unfold ridd_countWays land_allBrothers
  rw [hL.1.2.2.2.1, hw, nu_one (by omega), bI_I, q1, bV_V]
end PlC
