/-! ===== PLATES: the first way; the reference; as a call ===== -/
def fstG (g : Nat → Bool) : Nat → Nat → Nat
  | 0, i => i
  | n + 1, i => if g i = true then i else fstG g n (i + 1)
theorem fstG_n {g : Nat → Bool} {n i : Nat} (h : g i = false) : fstG g (n + 1) i = fstG g n (i + 1) := by
  show (if g i = true then i else fstG g n (i + 1)) = _
  rw [if_neg (by rw [h]; decide)]
theorem fstG_y {g : Nat → Bool} {n i : Nat} (h : g i = true) : fstG g (n + 1) i = i := by
  show (if g i = true then i else fstG g n (i + 1)) = _
  rw [if_pos h]
theorem fstG_le (g : Nat → Bool) : ∀ n i, i ≤ fstG g n i ∧ fstG g n i ≤ i + n
  | 0, i => ⟨Nat.le_refl _, Nat.le_refl _⟩
  | n + 1, i => by
    have ih := fstG_le g n (i + 1)
    unfold fstG
    split <;> omega
theorem fstG_t {g : Nat → Bool} : ∀ n i, fstG g n i < i + n → g (fstG g n i) = true
  | 0, i, h => absurd h (by have := (fstG_le g 0 i).1; omega)
  | n + 1, i, h => by
    unfold fstG at h ⊢
    by_cases hg : g i = true
    · rw [if_pos hg]; exact hg
    · rw [if_neg hg] at h ⊢
      exact fstG_t n (i + 1) (by omega)
theorem fstG_ex {g : Nat → Bool} {j : Nat} (hj : g j = true) : ∀ n i, i ≤ j → j < i + n → fstG g n i < i + n
  | 0, i, h1, h2 => by omega
  | n + 1, i, h1, h2 => by
    unfold fstG
    by_cases hg : g i = true
    · rw [if_pos hg]; omega
    · rw [if_neg hg]
      by_cases e : j = i
      · subst e; exact absurd hj hg
      · have := fstG_ex hj n (i + 1) (by omega) (by omega)
        omega
def pGo (can : Nat → Nat → Bool) (B m p S b : Nat) : Bool := pSel can p S b && decide (0 < pW can B (m - (p + 1)) (p + 1) (S ||| 2 ^ b))
def pP (can : Nat → Nat → Bool) (B m : Nat) : Nat → Nat → Nat → Int → Int
  | 0, _, _, z => z
  | d + 1, p, S, _ => if fstG (pGo can B m p S) B 0 < B then pP can B m d (p + 1) (S ||| 2 ^ fstG (pGo can B m p S) B 0) (fstG (pGo can B m p S) B 0 : Nat) else -1
theorem pP_J {can : Nat → Nat → Bool} {B m : Nat} (hB : B ≤ 7) : ∀ d p S z, (-1 ≤ z ∧ z ≤ 7) → -1 ≤ pP can B m d p S z ∧ pP can B m d p S z ≤ 7
  | 0, p, S, z, h => h
  | d + 1, p, S, z, h => by
    unfold pP
    by_cases h1 : fstG (pGo can B m p S) B 0 < B
    · rw [if_pos h1]
      exact pP_J hB d _ _ _ ⟨by omega, by omega⟩
    · rw [if_neg h1]; decide
section PlD
variable {M : MM} {w T : Nat → Int} {n m B : Nat}
theorem least_b {k : Int → MM → OR} {S p : Nat} (hL : LandR 3 w M) (hC : WC n w) (hB : WB w) (h2 : M 2 = T) (hT : ∀ p, p < m → I32 (T (2 * p))) (hm : m ≤ 7) (hw : w 3 = (B : Int)) (hS : S < 2 ^ B) (hp : p < m) (hpc : cnt S.testBit 10 = p) (hin : ∀ S', S' < 2 ^ B → cnt S'.testBit 10 ≤ m → M 164 S' = pW (pCan w T) B (m - cnt S'.testBit 10) (cnt S'.testBit 10) S') :
    bI (ridd_leastThatGoesOn (p : Int) (S : Int) M) k = k (if fstG (pGo (pCan w T) B m p S) B 0 < B then ((fstG (pGo (pCan w T) B m p S) B 0 : Nat) : Int) else -1) M := by
  have c3 := hC.2.2.2.1
  have e7 := p2_7 (show B ≤ 7 by omega)
  unfold ridd_leastThatGoesOn
  have run : ∀ d F b, b + d = B → d < F → ridd_leastThatGoesOn_L2 (p : Int) (S : Int) (fun M_7 => some (rI (-1), M_7)) (fun v3_12 M_13 => some (rI v3_12, M_13)) F (b : Int) M = some (rI (if fstG (pGo (pCan w T) B m p S) d b < B then ((fstG (pGo (pCan w T) B m p S) d b : Nat) : Int) else -1), M) := by
    intro d
    induction d with
    | zero =>
      intro F b hb hF
      obtain ⟨f, rfl⟩ : ∃ n, F = n + 1 := ⟨F - 1, by omega⟩
      rw [ridd_leastThatGoesOn_L2, hL.1.2.2.2.1, hw, bq_ge (by omega) (by omega), if_pos (by omega)]
      show _ = some (rI (if b < B then (b : Int) else -1), M)
      rw [if_neg (by omega)]
    | succ d ih =>
      intro F b hb hF
      obtain ⟨f, rfl⟩ : ∃ n, F = n + 1 := ⟨F - 1, by omega⟩
      have next := ih f (b + 1) (by omega) (by omega)
      rw [ridd_leastThatGoesOn_L2, hL.1.2.2.2.1, hw, bq_ge (by omega) (by omega), if_neg (by omega), bq_ge (by omega) (by decide), if_neg (by omega), gh_bit_b (by omega) (by omega), bz_ne0, canBe_c (T := T) hL hC hB h2 (by omega) (by omega) (hT p hp), bz_eq0, show (b : Int) + 1 = ((b + 1 : Nat) : Int) by omega, next]
      have eg : pGo (pCan w T) B m p S b = ((!S.testBit b && pCan w T p b) && decide (0 < pW (pCan w T) B (m - (p + 1)) (p + 1) (S ||| 2 ^ b))) := rfl
      cases hbit : S.testBit b with
      | true =>
        rw [cn_t, fstG_n (by rw [eg, hbit]; simp)]
      | false =>
        rw [cn_f]
        cases hcan : pCan w T p b with
        | false => rw [cn_f, fstG_n (by rw [eg, hcan]; simp)]
        | true =>
          have hor := or_lt hS (show b < B by omega)
          have hpc2 := or_pc hbit (show b < 10 by omega)
          rw [hpc] at hpc2
          have eo : iOr (S : Int) (iShl 1 (b : Int)) = ((S ||| 2 ^ b : Nat) : Int) := by
            rw [nu_one (by omega), nu_or (by omega) (Nat.lt_of_lt_of_le (Nat.pow_lt_pow_right (by decide) (show b < 31 by omega)) (by decide))]
          have ev := hin _ hor (by omega)
          rw [hpc2] at ev
          have eI := pW_I (can := pCan w T) (B := B) (d := m - (p + 1)) (p := p + 1) (S := S ||| 2 ^ b) (by omega) (by omega)
          rw [cn_t, eo, bq_in (by omega) (by omega), Int.toNat_natCast, ev, bq_le (by omega) (by decide)]
          by_cases h0 : pW (pCan w T) B (m - (p + 1)) (p + 1) (S ||| 2 ^ b) ≤ 0
          · rw [if_pos h0, fstG_n (by rw [eg, hbit, hcan, decide_eq_false (by omega)]; simp)]
          · rw [if_neg h0, fstG_y (by rw [eg, hbit, hcan, decide_eq_true (by omega)]; rfl), if_pos (by omega)]
  have := run B FU 0 (by omega) (FU_gt (by omega))
  rw [show ridd_leastThatGoesOn_L2 (p : Int) (S : Int) _ _ FU 0 M = _ from this, bI_I]
theorem path_c {k : Nat} (hL : LandR 3 w M) (hC : WC n w) (hB : WB w) (h2 : M 2 = T) (hT : ∀ p, p < m → I32 (T (2 * p))) (hm : m ≤ 7) (hw : w 3 = (B : Int)) (hk : k < m) (hin : ∀ S', S' < 2 ^ B → cnt S'.testBit 10 ≤ m → M 164 S' = pW (pCan w T) B (m - cnt S'.testBit 10) (cnt S'.testBit 10) S') :
    ∀ (d F p S : Nat) (z : Int), p + d = k + 1 → d < F → S < 2 ^ B → cnt S.testBit 10 = p → ridd_platesAnswer_L25 (k : Int) (fun v4_7 M_8 => some (rI v4_7, M_8)) (fun M_14 => some (rI (-1), M_14)) F (S : Int) z (p : Int) M = some (rI (pP (pCan w T) B m d p S z), M)
  | 0, F, p, S, z, hp, hF, hS, hpc => by
    obtain ⟨f, rfl⟩ : ∃ n, F = n + 1 := ⟨F - 1, by omega⟩
    rw [ridd_platesAnswer_L25, bq_gt (by omega) (by omega), if_pos (by omega)]; rfl
  | d + 1, F, p, S, z, hp, hF, hS, hpc => by
    obtain ⟨f, rfl⟩ : ∃ n, F = n + 1 := ⟨F - 1, by omega⟩
    have c3 := hC.2.2.2.1
    have e7 := p2_7 (show B ≤ 7 by omega)
    rw [ridd_platesAnswer_L25, bq_gt (by omega) (by omega), if_neg (by omega), least_b hL hC hB h2 hT hm hw hS (by omega) hpc hin, pP]
    by_cases h1 : fstG (pGo (pCan w T) B m p S) B 0 < B
    · have ht := fstG_t B 0 (by omega) (g := pGo (pCan w T) B m p S)
      generalize hb : fstG (pGo (pCan w T) B m p S) B 0 = b at h1 ht
      have ht' : ((!S.testBit b && pCan w T p b) && decide (0 < pW (pCan w T) B (m - (p + 1)) (p + 1) (S ||| 2 ^ b))) = true := ht
      rw [Bool.and_eq_true, Bool.and_eq_true] at ht'
      have hbit : S.testBit b = false := by
        have := ht'.1.1
        cases h : S.testBit b with
        | true => rw [h] at this; exact absurd this (by decide)
        | false => rfl
      have hor := or_lt hS h1
      have hpc2 := or_pc hbit (show b < 10 by omega)
      have eo : iOr (S : Int) (iShl 1 (b : Int)) = ((S ||| 2 ^ b : Nat) : Int) := by
        rw [nu_one (by omega), nu_or (by omega) (Nat.lt_of_lt_of_le (Nat.pow_lt_pow_right (by decide) (show b < 31 by omega)) (by decide))]
      rw [if_pos h1, if_pos h1, bq_ne (by omega) (by decide), if_neg (by omega), eo, show (p : Int) + 1 = ((p + 1 : Nat) : Int) by omega]
      exact path_c hL hC hB h2 hT hm hw hk hin d f (p + 1) (S ||| 2 ^ b) (b : Int) (by omega) (by omega) hor (by omega)
    · rw [if_neg h1, if_neg h1, bq_ne (by decide) (by decide), if_pos rfl]
def plaV (w T : Nat → Int) (B m : Nat) (v : Int) : Int := if v = -1 then pW (pCan w T) B m 0 0 else pP (pCan w T) B m (v.toNat + 1) 0 0 (-1)
theorem plates_c {k : Int → MM → OR} {v : Int} (hL : LandR 3 w M) (hC : WC n w) (hB : WB w) (h2 : M 2 = T) (hT : ∀ p, p < m → I32 (T (2 * p))) (hm : m ≤ 7) (hw : w 3 = (B : Int)) (hv : -1 ≤ v ∧ v < m) : ∃ M', bI (ridd_platesAnswer (m : Int) v M) k = k (plaV w T B m v) M' ∧ ∀ p, p ≠ 164 → M' p = M p := by
  have c3 := hC.2.2.2.1
  have e0 := Nat.two_pow_pos B
  obtain ⟨M', q1, q2, q3⟩ := countWays_b (M := M) (k := fun M_2 => (bif cmpB .ne v (-1) then (ridd_platesAnswer_L25 v (fun v4_7 M_8 => some (rI v4_7, M_8)) (fun M_14 => some (rI (-1), M_14)) FU 0 (-1) 0 M_2) else (bif inB 0 128 then some (rI (M_2 164 0), M_2) else none))) hC hB hT hm hw hL h2
  have z0 : cnt (0 : Nat).testBit 10 = 0 := by decide
  refine ⟨M', ?_, q2⟩
  unfold ridd_platesAnswer plaV
  rw [q1, bq_ne (by omega) (by decide)]
  by_cases h1 : v = -1
  · have := q3 0 e0 (by omega)
    rw [z0, Nat.sub_zero] at this
    rw [if_pos h1, if_pos h1, bq_in (by decide) (by decide), this, bI_I]
  · obtain ⟨k, rfl⟩ : ∃ k : Nat, v = (k : Int) := ⟨v.toNat, by omega⟩
    have L' : LandR 3 w M' := LandR_fr (fun j hj => q2 _ (by omega)) hL
    have := path_c (M := M') (k := k) (m := m) L' hC hB (by rw [q2 2 (by decide)]; exact h2) hT hm hw (by omega) q3 (k + 1) FU 0 0 (-1) (by omega) (FU_gt (by omega)) e0 z0
    rw [if_neg h1, if_neg h1, Int.toNat_natCast, show ridd_platesAnswer_L25 (k : Int) _ _ FU 0 (-1) 0 M' = _ from this, bI_I]
end PlD
