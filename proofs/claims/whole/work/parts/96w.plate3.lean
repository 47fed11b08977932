/-! ===== PLATES, the reference; as a call ===== -/
section PlR
variable {M : MM} {w T : Nat → Int} {n m B : Nat}
theorem canBe_r {k : Int → MM → OR} {p b : Nat} (hwM : M 166 = w) (hC : WC n w) (hB : WB w) (h1 : M 170 (2 * p + 1) = T (2 * p + 1)) (h0 : M 170 (2 * p) = T (2 * p)) (hp : p < 7) (hb : (b : Int) < w 3) (hT : I32 (T (2 * p))) : bI (mo_canBe (p : Int) (b : Int) M) k = k (b2 (pCan w T p b)) M := by
  have c3 := hC.2.2.2.1
  have hbb := hB (b : Int) (by omega) hb
  unfold mo_canBe pCan
  rw [bq_in (by omega) (by omega), mo_ofBrother_b (by omega) (by omega) (by decide) (by decide), mo_ofBrother_b (by omega) (by omega) (by decide) (by decide), show 2 * (p : Int) + 1 = ((2 * p + 1 : Nat) : Int) by omega, show 2 * (p : Int) = ((2 * p : Nat) : Int) by omega, Int.toNat_natCast, h1, hwM, mo_isFit_b (by omega), bz_eq0, mo_ofBrother_b (by omega) (by omega) (by decide) (by decide), hwM, bq_in (by omega) (by omega), Int.toNat_natCast, h0, tmod24 (by omega) (by omega), bq_gt (by omega) hT]
  cases fitB (T (2 * p + 1)) (oB w (b : Int) 1) (oB w (b : Int) 2) with
  | false => rw [cn_f, bI_I]; rfl
  | true =>
    rw [cn_t, Bool.true_and]
    by_cases h : T (2 * p) < oB w (b : Int) 3 % 24
    · rw [if_pos h, bI_I, decide_eq_false (by omega)]; rfl
    · rw [if_neg h, bI_I, decide_eq_true (by omega)]; rfl
theorem pix {p S : Nat} (hp : p ≤ 7) (hS : S < 128) : iOr (iShl (p : Int) 7) (S : Int) = ((p * 128 + S : Nat) : Int) := by
  have e1 : iShl (p : Int) 7 = ((p <<< 7 : Nat) : Int) := nu_shl (a := p) (k := 7) (by decide) (by rw [Nat.shiftLeft_eq]; omega)
  rw [e1, nu_or (by rw [Nat.shiftLeft_eq]; omega) (by omega), ← Nat.shiftLeft_add_eq_or_of_lt (show S < 2 ^ 7 from hS), Nat.shiftLeft_eq]
theorem pix2 {p S b : Nat} (hp : p ≤ 7) (hS : S < 128) (hb : b < 7) : iOr (iOr (iShl (p : Int) 7) (S : Int)) (iShl 1 (b : Int)) = ((p * 128 + (S ||| 2 ^ b) : Nat) : Int) := by
  have h2 : 2 ^ b < 128 := Nat.pow_lt_pow_right (by decide) hb
  have h3 : S ||| 2 ^ b < 128 := Nat.or_lt_two_pow (n := 7) hS h2
  rw [pix hp hS, nu_one (by omega), nu_or (by omega) (by omega), ← pix hp h3]
  have e1 : iShl (p : Int) 7 = ((p <<< 7 : Nat) : Int) := nu_shl (a := p) (k := 7) (by decide) (by rw [Nat.shiftLeft_eq]; omega)
  rw [e1, nu_or (by rw [Nat.shiftLeft_eq]; omega) (by omega), ← Nat.or_assoc, ← Nat.shiftLeft_add_eq_or_of_lt (show S < 2 ^ 7 from hS), Nat.shiftLeft_eq]
/-- what stands on the other side while the table is filled -/
def plF (w T : Nat → Int) (m : Nat) (M0 M : MM) : Prop := (∀ p, p ≠ 180 → M p = M0 p)
theorem plr_row {K : Int → MM → OR} {v1 : Int} {S p : Nat} (hwM : M 166 = w) (hC : WC n w) (hB : WB w) (h170 : ∀ q, q < m → M 170 (2 * q + 1) = T (2 * q + 1) ∧ M 170 (2 * q) = T (2 * q) ∧ I32 (T (2 * q))) (hm : m ≤ 7) (hw : w 3 = (B : Int)) (hS : S < 2 ^ B) (hp : p < m) (hin : ∀ S', S' < 2 ^ B → M 180 ((p + 1) * 128 + S') = pW (pCan w T) B (m - (p + 1)) (p + 1) S') :
    mo_plates_L90 v1 (m : Int) (p : Int) (S : Int) K FU 0 0 M = K (pW (pCan w T) B (m - p) p S) M := by
  have c3 := hC.2.2.2.1
  have e7 := p2_7 (show B ≤ 7 by omega)
  have run := fo_run0 (L := fun F a i => mo_plates_L90 v1 (m : Int) (p : Int) (S : Int) K F a i M) (K := fun a => K a M) (g := fun b a => bif pSel (pCan w T) p S b then a + pW (pCan w T) B (m - (p + 1)) (p + 1) (S ||| 2 ^ b) else a) (N := B) (F := FU) (a := (0 : Int)) (FU_gt (by omega)) (fun f a b hb => ?_) (fun f a => ?_)
  · rw [show m - p = (m - (p + 1)) + 1 by omega]
    exact run
  · have hh := h170 p hp
    rw [mo_plates_L90, mo_brothers_b, hwM, hw, bq_ge (by omega) (by omega), if_neg (by omega), bq_ge (by omega) (by omega), if_neg (by omega), mo_has_b (by omega) (by omega), bz_ne0, canBe_r (T := T) hwM hC hB hh.1 hh.2.1 (by omega) (by omega) hh.2.2, bz_eq0, Int.add_zero]
    unfold pSel
    cases hbit : S.testBit b with
    | true => rw [cn_t, Bool.not_true, Bool.false_and, cn_f]
    | false =>
      rw [cn_f, Bool.not_false, Bool.true_and]
      cases pCan w T p b with
      | false => rw [cn_f, cn_f]
      | true =>
        have hor := or_lt hS hb
        rw [cn_t, cn_t, show (p : Int) + 1 = ((p + 1 : Nat) : Int) by omega, pix2 (by omega) (by omega) (by omega), bq_in (by omega) (by omega), Int.toNat_natCast, hin _ hor]
  · rw [mo_plates_L90, mo_brothers_b, hwM, hw, bq_ge (by omega) (by omega), if_pos (by omega)]
theorem plr_sets {K : MM → OR} {v1 : Int} {p : Nat} (hC : WC n w) (hB : WB w) (hm : m ≤ 7) (hw : w 3 = (B : Int)) (hp : p ≤ m) : ∀ (d F S : Nat) (M : MM), S + d = 2 ^ B → d < F → M 166 = w → (∀ q, q < m → M 170 (2 * q + 1) = T (2 * q + 1) ∧ M 170 (2 * q) = T (2 * q) ∧ I32 (T (2 * q))) → (∀ q S', p < q → q ≤ m → S' < 2 ^ B → M 180 (q * 128 + S') = pW (pCan w T) B (m - q) q S') → (∀ S', S' < S → M 180 (p * 128 + S') = pW (pCan w T) B (m - p) p S') →
    ∃ M', mo_plates_L63 v1 (m : Int) (p : Int) K F (S : Int) M = K M' ∧ (∀ a, a ≠ 180 → M' a = M a) ∧ ∀ q S', p ≤ q → q ≤ m → S' < 2 ^ B → M' 180 (q * 128 + S') = pW (pCan w T) B (m - q) q S'
  | 0, F, S, M, hd, hF, hwM, h170, hin, hrow => by
    obtain ⟨f, rfl⟩ : ∃ n, F = n + 1 := ⟨F - 1, by omega⟩
    have c3 := hC.2.2.2.1
    have e7 := p2_7 (show B ≤ 7 by omega)
    refine ⟨M, ?_, fun _ _ => rfl, fun q S' h1 h2 h3 => ?_⟩
    · rw [mo_plates_L63, mo_brothers_b, hwM, hw, nu_one (by omega), bq_ge (by omega) (by omega), if_pos (by omega)]
    · by_cases e : q = p
      · subst e; exact hrow S' (by omega)
      · exact hin q S' (by omega) h2 h3
  | d + 1, F, S, M, hd, hF, hwM, h170, hin, hrow => by
    obtain ⟨f, rfl⟩ : ∃ n, F = n + 1 := ⟨F - 1, by omega⟩
    have c3 := hC.2.2.2.1
    have e7 := p2_7 (show B ≤ 7 by omega)
    obtain ⟨M', q1, q2, q3⟩ := plr_sets (K := K) (v1 := v1) hC hB hm hw hp d f (S + 1) (mU M 180 (p * 128 + S) (pW (pCan w T) B (m - p) p S)) (by omega) (by omega) (by rw [mU_ne (by decide)]; exact hwM) (fun q hq => by rw [mU_ne (by decide)]; exact h170 q hq) (fun q S' h1 h2 h3 => by
      rw [mU_ap, if_pos rfl, if_neg (by omega)]
      exact hin q S' h1 h2 h3) (fun S' h1 => by
      rw [mU_ap, if_pos rfl]
      by_cases e : S' = S
      · subst e; rw [if_pos rfl]
      · rw [if_neg (by omega)]
        exact hrow S' (by omega))
    refine ⟨M', ?_, fun a ha => by rw [q2 a ha, mU_ne ha], q3⟩
    have put : ∀ x : Int, x = pW (pCan w T) B (m - p) p S → (bif inB (iOr (iShl (p : Int) 7) (S : Int)) 1024 then (sM (mU M 180 ((iOr (iShl (p : Int) 7) (S : Int))).toNat x) fun M_23 => (mo_plates_L63 v1 (m : Int) (p : Int) K f ((S : Int) + 1) M_23)) else none) = K M' := fun x hx => by
      rw [pix (by omega) (by omega), bq_in (by omega) (by omega), sM_eq, Int.toNat_natCast, hx, show (S : Int) + 1 = ((S + 1 : Nat) : Int) by omega]
      exact q1
    rw [mo_plates_L63, mo_brothers_b, hwM, hw, nu_one (by omega), bq_ge (by omega) (by omega), if_neg (by omega), bq_ne (by omega) (by omega)]
    by_cases h1 : p = m
    · rw [if_pos (by omega)]
      unfold mo_plates_J85
      obtain ⟨q, hq⟩ : ∃ q, FU = q + 1 := ⟨FU - 1, by have := FU_gt (n := 1) (by decide); omega⟩
      have stop : ∀ K2 : Int → MM → OR, mo_plates_L90 v1 (m : Int) (p : Int) (S : Int) K2 FU 1 0 M = K2 1 M := fun K2 => by
        rw [hq, mo_plates_L90, mo_brothers_b, hwM, hw, bq_ge (by decide) (by omega)]
        by_cases g1 : (B : Int) ≤ 0
        · rw [if_pos g1]
        · rw [if_neg g1, bq_ge (by omega) (by omega), if_pos (by omega)]
      rw [stop]
      exact put 1 (by rw [show m - p = 0 by omega]; rfl)
    · rw [if_neg (by omega)]
      unfold mo_plates_J85
      rw [plr_row (T := T) hwM hC hB h170 hm hw (by omega) (by omega) (fun S' h => hin (p + 1) S' (by omega) (by omega) h)]
      exact put _ rfl
theorem plr_table {K : MM → OR} {v1 : Int} (hC : WC n w) (hB : WB w) (hm : m ≤ 7) (hw : w 3 = (B : Int)) : ∀ (p F : Nat) (v : Int) (M : MM), v = (p : Int) - 1 → p ≤ m + 1 → p < F → M 166 = w → (∀ q, q < m → M 170 (2 * q + 1) = T (2 * q + 1) ∧ M 170 (2 * q) = T (2 * q) ∧ I32 (T (2 * q))) → (∀ q S', p ≤ q → q ≤ m → S' < 2 ^ B → M 180 (q * 128 + S') = pW (pCan w T) B (m - q) q S') →
    ∃ M', mo_plates_L55 v1 (m : Int) K F v M = K M' ∧ (∀ a, a ≠ 180 → M' a = M a) ∧ ∀ q S', q ≤ m → S' < 2 ^ B → M' 180 (q * 128 + S') = pW (pCan w T) B (m - q) q S'
  | 0, F, v, M, hv, hp, hF, hwM, h170, hin => by
    obtain ⟨f, rfl⟩ : ∃ n, F = n + 1 := ⟨F - 1, by omega⟩
    refine ⟨M, ?_, fun _ _ => rfl, fun q S' h1 h2 => hin q S' (Nat.zero_le _) h1 h2⟩
    rw [mo_plates_L55, bq_lt (by omega) (by decide), if_pos (by omega)]
  | p + 1, F, v, M, hv, hp, hF, hwM, h170, hin => by
    obtain ⟨f, rfl⟩ : ∃ n, F = n + 1 := ⟨F - 1, by omega⟩
    obtain rfl : v = (p : Int) := by omega
    have c3 := hC.2.2.2.1
    have e7 := p2_7 (show B ≤ 7 by omega)
    have e0 := Nat.two_pow_pos B
    obtain ⟨M1, q1, q2, q3⟩ := plr_sets (T := T) (K := fun M_25 => mo_plates_L55 v1 (m : Int) K f ((p : Int) + (-1)) M_25) (v1 := v1) hC hB hm hw (show p ≤ m by omega) (2 ^ B) FU 0 M (by omega) (FU_gt (by omega)) hwM h170 (fun q S' h1 h2 h3 => hin q S' (by omega) h2 h3) (fun S' h => absurd h (Nat.not_lt_zero S'))
    obtain ⟨M2, r1, r2, r3⟩ := plr_table (K := K) (v1 := v1) hC hB hm hw p f ((p : Int) + (-1)) M1 (by omega) (by omega) (by omega) (by rw [q2 166 (by decide)]; exact hwM) (fun q hq => by rw [q2 170 (by decide)]; exact h170 q hq) q3
    refine ⟨M2, ?_, fun a ha => by rw [r2 a ha, q2 a ha], r3⟩
    rw [mo_plates_L55, bq_lt (by omega) (by decide), if_neg (by omega), show mo_plates_L63 v1 (m : Int) (p : Int) _ FU 0 M = _ from q1]
    exact r1
theorem path_r {k : Nat} {K : Int → MM → OR} (hC : WC n w) (hB : WB w) (hm : m ≤ 7) (hw : w 3 = (B : Int)) (hwM : M 166 = w) (h170 : ∀ q, q < m → M 170 (2 * q + 1) = T (2 * q + 1) ∧ M 170 (2 * q) = T (2 * q) ∧ I32 (T (2 * q))) (hk : k < m) (htab : ∀ q S', q ≤ m → S' < 2 ^ B → M 180 (q * 128 + S') = pW (pCan w T) B (m - q) q S') :
    ∀ (d F p S : Nat) (z : Int), p + d = k + 1 → d < F → S < 2 ^ B → pW (pCan w T) B (m - p) p S ≠ 0 → mo_plates_L227 (k : Int) K F (S : Int) z (p : Int) M = K (pP (pCan w T) B m d p S z) M
  | 0, F, p, S, z, hp, hF, hS, hne => by
    obtain ⟨f, rfl⟩ : ∃ n, F = n + 1 := ⟨F - 1, by omega⟩
    rw [mo_plates_L227, bq_gt (by omega) (by omega), if_pos (by omega)]; rfl
  | d + 1, F, p, S, z, hp, hF, hS, hne => by
    obtain ⟨f, rfl⟩ : ∃ n, F = n + 1 := ⟨F - 1, by omega⟩
    have c3 := hC.2.2.2.1
    have e7 := p2_7 (show B ≤ 7 by omega)
    rw [show m - p = (m - (p + 1)) + 1 by omega] at hne
    obtain ⟨b0, g1, g2, g3⟩ := pW_ex hne
    have hex : pGo (pCan w T) B m p S b0 = true := by
      unfold pGo
      rw [g2, decide_eq_true g3]; rfl
    have hlt := fstG_ex hex B 0 (Nat.zero_le _) (by omega)
    rw [Nat.zero_add] at hlt
    have find : ∀ (K2 : Int → MM → OR) e F b, b + e = B → e < F → fstG (pGo (pCan w T) B m p S) e b < B → mo_plates_L236 (k : Int) (S : Int) (p : Int) K2 F (b : Int) M = K2 ((fstG (pGo (pCan w T) B m p S) e b : Nat) : Int) M := by
      intro K2 e
      induction e with
      | zero =>
        intro F b hb hF h
        exact absurd h (by show ¬ b < B; omega)
      | succ e ih =>
        intro F b hb hF h
        obtain ⟨f, rfl⟩ : ∃ n, F = n + 1 := ⟨F - 1, by omega⟩
        have hh := h170 p (by omega)
        have eg : pGo (pCan w T) B m p S b = ((!S.testBit b && pCan w T p b) && decide (0 < pW (pCan w T) B (m - (p + 1)) (p + 1) (S ||| 2 ^ b))) := rfl
        have next : pGo (pCan w T) B m p S b = false → mo_plates_L236 (k : Int) (S : Int) (p : Int) K2 f ((b : Int) + 1) M = K2 ((fstG (pGo (pCan w T) B m p S) (e + 1) b : Nat) : Int) M := fun hno => by
          rw [fstG_n hno, show (b : Int) + 1 = ((b + 1 : Nat) : Int) by omega]
          rw [fstG_n hno] at h
          exact ih f (b + 1) (by omega) (by omega) h
        rw [mo_plates_L236, mo_has_b (by omega) (by omega), bz_ne0, canBe_r (T := T) hwM hC hB hh.1 hh.2.1 (by omega) (by omega) hh.2.2, bz_eq0]
        cases hbit : S.testBit b with
        | true =>
          rw [cn_t]
          exact next (by rw [eg, hbit]; simp)
        | false =>
          rw [cn_f]
          cases hcan : pCan w T p b with
          | false =>
            rw [cn_f]
            exact next (by rw [eg, hcan]; simp)
          | true =>
            have hor := or_lt hS (show b < B by omega)
            have ev := htab (p + 1) _ (by omega) hor
            have eI := pW_I (can := pCan w T) (B := B) (d := m - (p + 1)) (p := p + 1) (S := S ||| 2 ^ b) (by omega) (by omega)
            rw [cn_t, show (p : Int) + 1 = ((p + 1 : Nat) : Int) by omega, pix2 (by omega) (by omega) (by omega), bq_in (by omega) (by omega), Int.toNat_natCast, ev, bq_ne (by omega) (by decide)]
            by_cases h0 : pW (pCan w T) B (m - (p + 1)) (p + 1) (S ||| 2 ^ b) = 0
            · rw [if_pos h0]
              exact next (by rw [eg, hbit, hcan, decide_eq_false (by omega)]; simp)
            · rw [if_neg h0, fstG_y (by rw [eg, hbit, hcan, decide_eq_true (by omega)]; rfl)]
    rw [mo_plates_L227, bq_gt (by omega) (by omega), if_neg (by omega), show mo_plates_L236 (k : Int) (S : Int) (p : Int) _ FU 0 M = _ from find _ B FU 0 (by omega) (FU_gt (by omega)) hlt, pP, if_pos hlt]
    have ht := fstG_t B 0 (by omega) (g := pGo (pCan w T) B m p S)
    generalize hb : fstG (pGo (pCan w T) B m p S) B 0 = b at hlt ht
    have ht' : ((!S.testBit b && pCan w T p b) && decide (0 < pW (pCan w T) B (m - (p + 1)) (p + 1) (S ||| 2 ^ b))) = true := ht
    rw [Bool.and_eq_true] at ht'
    have hpos := of_decide_eq_true ht'.2
    have hor := or_lt hS hlt
    have eo : iOr (S : Int) (iShl 1 (b : Int)) = ((S ||| 2 ^ b : Nat) : Int) := by
      rw [nu_one (by omega), nu_or (by omega) (Nat.lt_of_lt_of_le (Nat.pow_lt_pow_right (by decide) (show b < 31 by omega)) (by decide))]
    rw [eo, show (p : Int) + 1 = ((p + 1 : Nat) : Int) by omega]
    exact path_r hC hB hm hw hwM h170 hk htab d f (p + 1) (S ||| 2 ^ b) (b : Int) (by omega) (by omega) hor (by omega)
theorem pP_0 {can : Nat → Nat → Bool} {d : Nat} {z : Int} (h : pW can B m 0 0 = 0) (hm : 0 < m) : pP can B m (d + 1) 0 0 z = -1 := by
  have hn : ¬ fstG (pGo can B m 0 0) B 0 < B := fun g => by
    have ht := fstG_t B 0 (by omega) (g := pGo can B m 0 0)
    have ht' : (pSel can 0 0 (fstG (pGo can B m 0 0) B 0) && decide (0 < pW can B (m - (0 + 1)) (0 + 1) (0 ||| 2 ^ fstG (pGo can B m 0 0) B 0))) = true := ht
    rw [Bool.and_eq_true] at ht'
    have hpos := of_decide_eq_true ht'.2
    obtain ⟨m', rfl⟩ : ∃ q, m = q + 1 := ⟨m - 1, by omega⟩
    have key := fo_inv (g := fun b a => bif pSel can 0 0 b then a + pW can B m' (0 + 1) (0 ||| 2 ^ b) else a) (P := fun i a => 0 ≤ a ∧ (fstG (pGo can B (m' + 1) 0 0) B 0 < i → 0 < a)) B 0 0 ⟨by decide, fun h => absurd h (Nat.not_lt_zero _)⟩ (fun j a h1 h2 h3 => by
      have ih := pW_J (can := can) (B := B) m' (0 + 1) (0 ||| 2 ^ j)
      show 0 ≤ (bif pSel can 0 0 j then a + pW can B m' (0 + 1) (0 ||| 2 ^ j) else a) ∧ (_ → 0 < (bif pSel can 0 0 j then a + pW can B m' (0 + 1) (0 ||| 2 ^ j) else a))
      by_cases e : fstG (pGo can B (m' + 1) 0 0) B 0 = j
      · rw [e] at ht'
        rw [ht'.1, cn_t]
        rw [e] at hpos
        have hp2 : 0 < pW can B m' (0 + 1) (0 ||| 2 ^ j) := hpos
        omega
      · cases pSel can 0 0 j with
        | true => rw [cn_t]; omega
        | false => rw [cn_f]; omega)
    rw [Nat.zero_add] at key
    have h' : fo (fun b a => bif pSel can 0 0 b then a + pW can B m' (0 + 1) (0 ||| 2 ^ b) else a) B 0 0 = 0 := h
    rw [h'] at key
    exact absurd (key.2 (by omega)) (by decide)
  show (if fstG (pGo can B m 0 0) B 0 < B then _ else -1) = -1
  rw [if_neg hn]
end PlR
theorem ok_plates {v1 : Int} (h1 : I32 v1) : OpOK (drv_plates v1) (mo_plates v1) := by
  refine op_tape fun k M hk hI hx => ?_
  obtain ⟨n, t1, t2, t3, t4⟩ := TapeR_n hI.1
  have hx9 := hI.2.2.2.2.2.2.2.2.1
  have hW := hI.2.1
  have hL := hI.2.2.1
  have c3 := hW.1.2.2.2.1
  obtain ⟨B, hB⟩ : ∃ B : Nat, M 166 3 = (B : Int) := ⟨(M 166 3).toNat, by omega⟩
  obtain ⟨m, hm⟩ : ∃ m, n / 2 = m := ⟨_, rfl⟩
  have ed : (w32 ((n : Nat) : Int)).tdiv (w32 2) = ((n / 2 : Nat) : Int) := by
    rw [nw (show I32 ((n : Nat) : Int) by omega), show w32 2 = 2 from rfl]; rfl
  -- refused
  have bad : (prOK (M 2) 24 16 n = true → ¬ (m ≤ 7 ∧ -1 ≤ v1 ∧ v1 < m)) → ∃ c z M1 M2, drv_plates v1 M = some (rI c, M1) ∧ mo_plates v1 M1 = some (rI z, M2) ∧ M2 165 0 = c ∧ I32 c ∧ (c = 0 → M2 181 0 = z ∧ I32 z) ∧ CoreT M M2 ∧ TapeR M2 ∧ (0 ≤ M2 999 0 ∧ M2 999 0 ≤ M 999 0 + 1) := by
    intro hbad
    refine ⟨1, 0, xM (mU M 1 1 0), mU (usM (xM (mU M 1 1 0)) n) 165 0 1, ?_, ?_, rfl, by decide, fun g => absurd g (by decide), ?_⟩
    · unfold drv_plates gh_plates
      have e13 : ∀ (K1 : Int → MM → OR), bH (thx 13 (mU M 1 1 0)) K1 (fun c_6 M_2 => (bif Nat.beq c_6 13 then some (rI 1, M_2) else none)) = some (rI 1, xM (mU M 1 1 0)) := fun K1 => by
        rw [thx_v (M := mU M 1 1 0) hx, bH_X]; rfl
      rw [useUp_b (fun j hj => ⟨(t4 j hj).1, (t4 j hj).2.1⟩) t1 (by decide) (by decide) t3, hm]
      cases hp : prOK (M 2) 24 16 n with
      | false => rw [if_neg (by decide), bq_eq (by decide) (by decide), if_pos rfl, e13]
      | true =>
        have hb := hbad hp
        rw [if_pos rfl, bq_eq (by omega) (by decide), if_neg (by omega), bq_le (by omega) (by decide)]
        by_cases g1 : (m : Int) ≤ 7
        · rw [if_pos g1, bq_lt h1 (by decide)]
          by_cases g2 : v1 < -1
          · rw [if_pos g2, e13]
          · rw [if_neg g2, bq_lt h1 (by omega), if_neg (by omega), e13]
        · rw [if_neg g1, e13]
    · have J : ∀ v3 : Int, mo_plates_J38 v1 v3 (usM (xM (mU M 1 1 0)) n) = some (rI 0, mU (usM (xM (mU M 1 1 0)) n) 165 0 1) := fun v3 => by
        unfold mo_plates_J38 mo_plates_J43
        rw [mo_throwsIf_1, bq_eq (by decide) (by decide), if_neg (by decide)]
      have e10 : (usM (xM (mU M 1 1 0)) n) 165 10 = (n : Int) := rfl
      unfold mo_plates
      rw [readTwos_b (T := M 2) (M := xM (mU M 1 1 0)) (a := 23) (b := 15) t4 t2 (by decide) (by decide) t3, bz_eq0, J, e10, ed, hm, bq_gt (by omega) (by decide), mo_in_b h1 (by decide) (by omega), bz_ne0]
      have e2416 : prOK (M 2) (23 + 1) (15 + 1) n = prOK (M 2) 24 16 n := rfl
      rw [e2416]
      cases hp : prOK (M 2) 24 16 n with
      | false => rw [cn_f]
      | true =>
        have hb := hbad hp
        rw [cn_t]
        by_cases g1 : (7 : Int) < m
        · rw [if_pos g1]
        · rw [if_neg g1, decide_eq_false (by omega), cn_f, J]
    · obtain ⟨u1, u2⟩ := used_up (n := n) (M2 := mU (usM (xM (mU M 1 1 0)) n) 165 0 1) hI.1 (fun p g1 g2 g3 g4 g5 g6 => by
        unfold usM xM
        rw [mU_ne g2, mU_ne g2, mU_ne g2, mU_ne g2, mU_ne g2, mU_ne g4, mU_ne g1]) rfl rfl rfl rfl rfl rfl
      exact ⟨u1, u2, by show 0 ≤ M 999 0 + 1; omega, by show M 999 0 + 1 ≤ _; omega⟩
  cases hp : prOK (M 2) 24 16 n with
  | false => exact bad (fun h => absurd (hp.symm.trans h) (by decide))
  | true =>
    by_cases hg : m ≤ 7 ∧ -1 ≤ v1 ∧ v1 < m
    · obtain ⟨g1, g2, g3⟩ := hg
      obtain ⟨p1, p2⟩ := prOK_t hp
      rw [hm] at p1 p2
      have e7 := p2_7 (show B ≤ 7 by omega)
      have e0 := Nat.two_pow_pos B
      have cT : ∀ p, p < m → I32 (M 2 (2 * p)) := fun p hp' => by
        have := (p2 p hp').1
        have := (t4 (2 * p) (by omega)).1
        omega
      obtain ⟨M', q1, q2⟩ := plates_c (M := mU M 1 1 0) (w := M 166) (T := M 2) (B := B) (k := fun z_6 M_5 => some (rI z_6, M_5)) (LandR_fr (fun j hj => mU_ne (by omega)) hL) hW.1 hW.2.2.2.2.1 rfl cT g1 hB ⟨g2, g3⟩
      have hz : I32 (plaV (M 166) (M 2) B m v1) := by
        unfold plaV
        split
        · have := pW_I (can := pCan (M 166) (M 2)) (B := B) (d := m) (p := 0) (S := 0) (by omega) g1
          omega
        · have := pP_J (can := pCan (M 166) (M 2)) (B := B) (m := m) (by omega) (v1.toNat + 1) 0 0 (-1) ⟨by decide, by decide⟩
          omega
      generalize hzz : plaV (M 166) (M 2) B m v1 = z at q1 hz
      have r170 : ∀ N : MM, N 170 = M 170 → ∀ q, q < m → N 170 (2 * q + 1) = M 2 (2 * q + 1) ∧ N 170 (2 * q) = M 2 (2 * q) ∧ I32 (M 2 (2 * q)) := fun N hN q hq => by
        have a1 := p2 q hq
        have a2 := t4 (2 * q) (by omega)
        have a3 := t4 (2 * q + 1) (by omega)
        rw [hN, a2.2.2, a3.2.2]
        unfold sgB
        rw [if_pos (by omega), if_pos (by omega)]
        exact ⟨rfl, rfl, by omega⟩
      have hfr1 : ∀ p, p ≠ 1 → p ≠ 181 → p ≠ 164 → (mU M' 181 0 z) p = M p := fun p a1 a2 a3 => by rw [mU_ne a2, q2 p a3, mU_ne a1]
      obtain ⟨N2, s1, s2, s3⟩ := plr_table (w := M 166) (T := M 2) (K := fun M_30 => (bif cmpB .eq v1 (-1) then (bif cmpB .ne v1 (-1) then some (rI (-1), M_30) else (bif inB 0 1024 then some (rI (M_30 180 0), M_30) else none)) else (bif inB 0 1024 then (bif cmpB .ne (M_30 180 0) 0 then (mo_plates_L227 v1 (fun v5_50 M_51 => some (rI v5_50, M_51)) FU 0 (-1) 0 M_30) else (bif cmpB .ne v1 (-1) then some (rI (-1), M_30) else (bif inB 0 1024 then some (rI (M_30 180 0), M_30) else none))) else none))) (v1 := v1) hW.1 hW.2.2.2.2.1 g1 hB (m + 1) FU (m : Int) (usM (mU M' 181 0 z) n) (by omega) (Nat.le_refl _) (FU_gt (by omega)) (by show (mU M' 181 0 z) 166 = _; rw [hfr1 166 (by decide) (by decide) (by decide)]) (r170 _ (by show (mU M' 181 0 z) 170 = _; rw [hfr1 170 (by decide) (by decide) (by decide)])) (fun q S' a1 a2 _ => absurd a1 (by omega))
      have hu : ∀ p, p ≠ 165 → p ≠ 180 → N2 p = (mU M' 181 0 z) p := fun p a1 a2 => by
        rw [s2 p a2]
        unfold usM
        rw [mU_ne a1, mU_ne a1, mU_ne a1, mU_ne a1]
      have hu165 : N2 165 = (usM (mU M' 181 0 z) n) 165 := s2 165 (by decide)
      have hm165 : (mU M' 181 0 z) 165 = M 165 := hfr1 165 (by decide) (by decide) (by decide)
      have hm1 : (mU M' 181 0 z) 1 = (mU M 1 1 0) 1 := by rw [mU_ne (by decide), q2 1 (by decide)]
      have nw166 : N2 166 = M 166 := by rw [hu 166 (by decide) (by decide), hfr1 166 (by decide) (by decide) (by decide)]
      have n170 : N2 170 = M 170 := by rw [hu 170 (by decide) (by decide), hfr1 170 (by decide) (by decide) (by decide)]
      have n0 : N2 180 0 = pW (pCan (M 166) (M 2)) B m 0 0 := by
        have := s3 0 0 (Nat.zero_le _) e0
        exact this
      have nI := pW_I (can := pCan (M 166) (M 2)) (B := B) (d := m) (p := 0) (S := 0) (by omega) g1
      refine ⟨0, z, mU M' 181 0 z, N2, ?_, ?_, by rw [hu165]; rfl, by decide, fun _ => ⟨by rw [hu 181 (by decide) (by decide)]; rfl, hz⟩, ?_⟩
      · unfold drv_plates gh_plates
        rw [useUp_b (fun j hj => ⟨(t4 j hj).1, (t4 j hj).2.1⟩) t1 (by decide) (by decide) t3, hm, hp, if_pos rfl, bq_eq (by omega) (by decide), if_neg (by omega), bq_le (by omega) (by decide), if_pos (by omega), bq_lt h1 (by decide), if_neg (by omega), bq_lt h1 (by omega), if_pos g3, q1, bH_I, bq_in (by decide) (by decide), sM_eq, nw hz]
      · have e10 : (usM (mU M' 181 0 z) n) 165 10 = (n : Int) := rfl
        unfold mo_plates
        rw [readTwos_b (T := M 2) (M := mU M' 181 0 z) (a := 23) (b := 15) (by rw [hfr1 170 (by decide) (by decide) (by decide)]; exact t4) (by rw [hm165]; exact t2) (by decide) (by decide) t3, show prOK (M 2) (23 + 1) (15 + 1) n = true from hp, bz_eq0, cn_t, e10, ed, hm, bq_gt (by omega) (by decide), if_neg (by omega), mo_in_b h1 (by decide) (by omega), bz_ne0, decide_eq_true (by omega), cn_t]
        unfold mo_plates_J43
        rw [mo_throwsIf_0, bq_eq (by decide) (by decide), if_pos rfl, s1, bq_eq h1 (by decide), ← hzz]
        unfold plaV
        by_cases g4 : v1 = -1
        · rw [if_pos g4, if_pos g4, bq_ne h1 (by decide), if_pos g4, bq_in (by decide) (by decide), n0]
        · obtain ⟨c, rfl⟩ : ∃ c : Nat, v1 = (c : Int) := ⟨v1.toNat, by omega⟩
          rw [if_neg g4, if_neg g4, bq_in (by decide) (by decide), n0, bq_ne (by omega) (by decide), Int.toNat_natCast]
          by_cases g5 : pW (pCan (M 166) (M 2)) B m 0 0 = 0
          · rw [if_pos g5, bq_ne (by omega) (by decide), if_neg g4, pP_0 g5 (by omega)]
          · have := path_r (M := N2) (w := M 166) (T := M 2) (k := c) (K := fun v5_50 M_51 => some (rI v5_50, M_51)) hW.1 hW.2.2.2.2.1 g1 hB nw166 (r170 _ n170) (by omega) s3 (c + 1) FU 0 0 (-1) (by omega) (FU_gt (by omega)) e0 g5
            rw [if_neg g5, show mo_plates_L227 (c : Int) _ FU 0 (-1) 0 N2 = _ from this]
      · obtain ⟨u1, u2⟩ := used_up (n := n) (M2 := N2) hI.1 (fun p a1 a2 a3 a4 a5 a6 => by rw [hu p a2 a6, hfr1 p a1 a3 a5]) (by rw [hu 1 (by decide) (by decide), hm1]; rfl) (by rw [hu 1 (by decide) (by decide), hm1]; rfl) (by rw [hu165]; rfl) (by rw [hu165]; show (mU M' 181 0 z) 165 13 = _; rw [hm165]) (by rw [hu165]; show (mU M' 181 0 z) 165 5 = _; rw [hm165]) (by rw [hu165]; show (mU M' 181 0 z) 165 6 = _; rw [hm165])
        have e9 : N2 999 = M 999 := by rw [hu 999 (by decide) (by decide), hfr1 999 (by decide) (by decide) (by decide)]
        exact ⟨u1, u2, by rw [e9]; exact hx9.1, by rw [e9]; omega⟩
    · exact bad (fun _ => hg)
