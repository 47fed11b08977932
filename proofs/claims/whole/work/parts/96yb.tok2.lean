/-! ===== TEXTS: numbers; what is needed; the reference's side ===== -/
/-- a number that can stand there -/
def nuO (T : Nat → Int) (n q : Nat) (lo hi : Int) : Bool := decide (q < dgE T n q) && (decide (dgE T n q ≤ q + 3) && (decide (lo ≤ dgV T q (dgE T n q - q)) && decide (dgV T q (dgE T n q - q) ≤ hi)))
theorem nuO_i {T : Nat → Int} {n q : Nat} {lo hi : Int} : nuO T n q lo hi = true ↔ (q < dgE T n q ∧ dgE T n q ≤ q + 3 ∧ lo ≤ dgV T q (dgE T n q - q) ∧ dgV T q (dgE T n q - q) ≤ hi) := by
  unfold nuO
  rw [Bool.and_eq_true, Bool.and_eq_true, Bool.and_eq_true, decide_eq_true_iff, decide_eq_true_iff, decide_eq_true_iff, decide_eq_true_iff]
def nuV (T : Nat → Int) (n q : Nat) : Int := dgV T q (dgE T n q - q)
theorem dgV_J {T : Nat → Int} {q : Nat} : ∀ k, k ≤ 3 → (∀ j, q ≤ j → j < q + k → isD T j = true) → 0 ≤ dgV T q k ∧ dgV T q k < 10 ^ k
  | 0, _, _ => ⟨Int.le_refl 0, by show (0 : Int) < 10 ^ 0; decide⟩
  | k + 1, hk, h => by
    have ih := dgV_J k (by omega) (fun j h1 h2 => h j h1 (by omega))
    have hd := h (q + k) (by omega) (by omega)
    unfold isD at hd
    rw [Bool.and_eq_true] at hd
    have d1 := of_decide_eq_true hd.1
    have d2 := of_decide_eq_true hd.2
    show 0 ≤ 10 * dgV T q k + T (q + k) - 48 ∧ 10 * dgV T q k + T (q + k) - 48 < 10 ^ (k + 1)
    rw [Int.pow_succ]
    generalize (10 : Int) ^ k = z at ih ⊢
    omega
theorem p10 {k : Nat} (h : k ≤ 3) : (10 : Int) ^ k ≤ 1000 := by
  match k, h with
  | 0, _ => decide
  | 1, _ => decide
  | 2, _ => decide
  | 3, _ => decide
theorem nuV_J {T : Nat → Int} {n q : Nat} (hq : q ≤ n) (h3 : dgE T n q ≤ q + 3) : 0 ≤ nuV T n q ∧ nuV T n q < 1000 := by
  have hl := dgE_le (T := T) hq
  have := dgV_J (T := T) (q := q) (dgE T n q - q) (by omega) (fun j h1 h2 => runF_in (n - q) q j h1 (by unfold dgE at h2 hl; omega))
  have := p10 (k := dgE T n q - q) (by omega)
  unfold nuV
  omega
section Nu
variable {C : MM} {p l n : Nat} {b : Int} {T : Nat → Int}
theorem num_L {K : Int → Int → MM → OR} {lo hi : Int} (h : TC T n C) (hp : p ≤ n) : ∀ d F i v, p + i + d = n → d < F → (v = if i ≤ 3 then dgV T p i else dgV T p 3) → tape_needNumber_L9 lo hi K F (i : Int) v (tpT C p l b) = K ((runF (isD T) d (p + i) - p : Nat) : Int) (if runF (isD T) d (p + i) - p ≤ 3 then dgV T p (runF (isD T) d (p + i) - p) else dgV T p 3) (tpT C p l b)
  | 0, F, i, v, hd, hF, hv => by
    obtain ⟨F, rfl⟩ : ∃ n, F = n + 1 := ⟨F - 1, by omega⟩
    have hn := h.2.1
    rw [tape_needNumber_L9, cT_4, cT_1, h.1, bq_ge (by omega) (by omega), if_pos (by omega), hv]
    show K (i : Int) (if i ≤ 3 then _ else _) _ = K ((p + i - p : Nat) : Int) (if p + i - p ≤ 3 then dgV T p (p + i - p) else _) _
    rw [show p + i - p = i by omega]
  | d + 1, F, i, v, hd, hF, hv => by
    obtain ⟨F, rfl⟩ : ∃ n, F = n + 1 := ⟨F - 1, by omega⟩
    have hn := h.2.1
    have hb := h.2.2.2 (p + i) (by omega)
    rw [tape_needNumber_L9, cT_4, cT_1, h.1, bq_ge (by omega) (by omega), if_neg (by omega), bq_in (by omega) (by omega), show (p : Int) + (i : Int) = ((p + i : Nat) : Int) by omega, Int.toNat_natCast, cT_ne (by decide), h.2.2.1 _ (by omega), isWithin_b (by omega) (by decide) (by decide), bz_eq0]
    show (bif isD T (p + i) then _ else _) = _
    cases hD : isD T (p + i) with
    | true =>
      have hD' := hD
      unfold isD at hD'
      rw [Bool.and_eq_true] at hD'
      rw [cn_t, runF_t hD, bq_ge (by omega) (by decide), show (i : Int) + 1 = ((i + 1 : Nat) : Int) by omega, show p + i + 1 = p + (i + 1) by omega]
      by_cases h3 : (3 : Int) ≤ i
      · rw [if_pos h3]
        refine num_L h hp d F (i + 1) v (by omega) (by omega) ?_
        rw [hv, if_neg (show ¬ i + 1 ≤ 3 by omega)]
        by_cases e : i = 3
        · rw [e, if_pos (by decide)]
        · rw [if_neg (by omega)]
      · rw [if_neg h3, cT_4, bq_in (by omega) (by omega), show (p : Int) + (i : Int) = ((p + i : Nat) : Int) by omega, Int.toNat_natCast, cT_ne (by decide), h.2.2.1 _ (by omega)]
        refine num_L h hp d F (i + 1) _ (by omega) (by omega) ?_
        rw [if_pos (show i + 1 ≤ 3 by omega), hv, if_pos (show i ≤ 3 by omega)]; rfl
    | false =>
      rw [cn_f, runF_f hD, hv, show p + i - p = i by omega]
theorem num_b {k : Int → MM → OR} {lo hi : Int} (h : TC T n C) (hp : p ≤ n) (hlo : I32 lo) (hhi : I32 hi) : bI (tape_needNumber lo hi (tpT C p l (-1))) k = if nuO T n (skB T n p) lo hi = true then k (nuV T n (skB T n p)) (tpT C (dgE T n (skB T n p)) (skB T n p) (-1)) else k lo (tpT C (skB T n p) l ((skB T n p : Nat) : Int)) := by
  have hn := h.2.1
  have hl := skB_le (T := T) hp
  generalize hq : skB T n p = q at hl
  have hd := dgE_le (T := T) hl.2
  unfold tape_needNumber
  rw [skip_b h hp, hq]
  have w := num_L (K := fun v3_7 v4_8 M_9 => tape_needNumber_J76 lo hi v3_7 v4_8 M_9) (lo := lo) (hi := hi) (l := l) (b := -1) h hl.2 (n - q) FU 0 0 (by omega) (FU_gt (by omega)) rfl
  rw [show tape_needNumber_L9 lo hi _ FU 0 0 (tpT C q l (-1)) = _ from w]
  have e1 : runF (isD T) (n - q) (q + 0) = dgE T n q := rfl
  rw [e1]
  unfold tape_needNumber_J76
  have F1 : bI (bV (tape_failAt (q : Int) (tpT C q l (-1))) fun M_11 => some (rI lo, M_11)) k = k lo (tpT C q l ((q : Nat) : Int)) := by
    rw [failAt_b (by decide), if_pos rfl, bI_I]
  rw [cT_2, bq_ne (by decide) (by decide), if_pos rfl, cT_4, bq_eq (by omega) (by decide), bq_gt (by omega) (by decide)]
  by_cases g0 : dgE T n q = q
  · rw [if_pos (by omega), if_neg (fun g => by have := (nuO_i.mp g).1; omega)]
    exact F1
  · rw [if_neg (by omega)]
    by_cases g3 : dgE T n q ≤ q + 3
    · have hv := nuV_J (T := T) hl.2 g3
      have ev : dgV T q (dgE T n q - q) = nuV T n q := rfl
      rw [if_neg (by omega), if_pos (show dgE T n q - q ≤ 3 by omega), ev, bq_lt (by omega) hlo, bq_le (by omega) hhi]
      by_cases g1 : nuV T n q < lo
      · rw [if_pos g1, if_neg (fun g => by have := (nuO_i.mp g).2.2.1; unfold nuV at g1; omega)]
        exact F1
      · rw [if_neg g1]
        by_cases g2 : nuV T n q ≤ hi
        · rw [if_pos g2, if_pos (nuO_i.mpr ⟨by omega, g3, by unfold nuV at g1; omega, g2⟩), sM_eq, cT_l (x := q) rfl, sM_eq, cT_4, cT_p (x := dgE T n q) (by omega), bI_I]
        · rw [if_neg g2, if_neg (fun g => g2 (nuO_i.mp g).2.2.2)]
          exact F1
    · rw [if_pos (by omega), if_neg (fun g => g3 (nuO_i.mp g).2.1)]
      exact F1
theorem num_w {k : Int → MM → OR} {lo hi : Int} (h : TC T n C) (hp : p ≤ n) (hb : I32 b) (hne : b ≠ -1) : bI (tape_needNumber lo hi (tpT C p l b)) k = k lo (tpT C (skB T n p) l b) := by
  have hn := h.2.1
  have hl := skB_le (T := T) hp
  generalize hq : skB T n p = q at hl
  unfold tape_needNumber
  rw [skip_b h hp, hq]
  have w := num_L (K := fun v3_7 v4_8 M_9 => tape_needNumber_J76 lo hi v3_7 v4_8 M_9) (lo := lo) (hi := hi) (l := l) (b := b) h hl.2 (n - q) FU 0 0 (by omega) (FU_gt (by omega)) rfl
  rw [show tape_needNumber_L9 lo hi _ FU 0 0 (tpT C q l b) = _ from w]
  unfold tape_needNumber_J76
  rw [cT_2, bq_ne hb (by decide), if_neg hne, failAt_b hb, if_neg hne, bI_I]
theorem need_b {k : MM → OR} {t : Nat} (h : TC T n C) (hp : p ≤ n) (ht : wOK t) : bV (tape_needWord t (tpT C p l (-1))) k = if wdB T n t (skB T n p) = true then k (tpT C (skB T n p + wLen t) (skB T n p) (-1)) else k (tpT C (skB T n p) l ((skB T n p : Nat) : Int)) := by
  have hl := skB_le (T := T) hp
  unfold tape_needWord
  rw [word_b h hp ht]
  by_cases g : wdB T n t (skB T n p) = true
  · rw [if_pos g, if_pos g, bq_ne (by decide) (by decide), if_neg (by decide), bV_V]
  · rw [if_neg g, if_neg g, bq_ne (by decide) (by decide), if_pos rfl, fail_b h hl.2 (by decide), if_pos rfl, skB_sk hp, bV_V]
theorem need_w {k : MM → OR} {t : Nat} (h : TC T n C) (hp : p ≤ n) (hb : I32 b) (hne : b ≠ -1) : bV (tape_needWord t (tpT C p l b)) k = k (tpT C (skB T n p) l b) := by
  unfold tape_needWord
  rw [word_w hb hne, bq_ne (by decide) (by decide), if_pos rfl, fail_b h hp hb, if_neg hne, bV_V]
theorem digit_b {k : Int → MM → OR} (h : TC T n C) (hp : p ≤ n) (hb : I32 b) : bI (tape_nextIsDigit (tpT C p l b)) k = k (b2 (decide (b = -1) && (decide (skB T n p < n) && isD T (skB T n p)))) (tpT C (skB T n p) l b) := by
  have hn := h.2.1
  have hl := skB_le (T := T) hp
  unfold tape_nextIsDigit
  rw [skip_b h hp, cT_2, bq_ne hb (by decide)]
  by_cases h0 : b = -1
  · rw [if_pos h0, decide_eq_true h0, Bool.true_and, cT_4, cT_1, h.1, bq_ge (by omega) (by omega)]
    by_cases h1 : (n : Int) ≤ (skB T n p : Nat)
    · rw [if_pos h1, decide_eq_false (by omega), Bool.false_and, bI_I]; rfl
    · have ht := h.2.2.2 (skB T n p) (by omega)
      rw [if_neg h1, decide_eq_true (show skB T n p < n by omega), Bool.true_and, bq_in (by omega) (by omega), Int.toNat_natCast, cT_ne (by decide), h.2.2.1 _ (by omega), isWithin_b (by omega) (by decide) (by decide), bz_eq0]
      show bI (bif isD T (skB T n p) then _ else _) k = _
      cases isD T (skB T n p) <;> rfl
  · rw [if_neg h0, decide_eq_false h0, Bool.false_and, bI_I]; rfl
end Nu
-- the reference's memory: its reader's row over the rest
def nT (N : MM) (p e : Nat) : MM := fun a => if a = 165 then (fun j => if j = 9 then (p : Int) else if j = 11 then (e : Int) else N 165 j) else N a
def TN (T : Nat → Int) (n : Nat) (N : MM) : Prop := N 165 10 = (n : Int) ∧ n ≤ 400 ∧ (∀ j, j < n → N 170 j = sgB (T j)) ∧ ∀ j, j < n → 0 ≤ T j ∧ T j < 256
section NT
variable {N : MM} {p e n : Nat} {T : Nat → Int}
theorem nT_ne {a : Nat} (h : a ≠ 165) : nT N p e a = N a := if_neg h
theorem nT_9 : nT N p e 165 9 = (p : Int) := rfl
theorem nT_11 : nT N p e 165 11 = (e : Int) := rfl
theorem nT_j {j : Nat} (h9 : j ≠ 9) (h11 : j ≠ 11) : nT N p e 165 j = N 165 j := by
  show (if j = 9 then _ else if j = 11 then _ else N 165 j) = _
  rw [if_neg h9, if_neg h11]
theorem nT_p {x : Nat} {z : Int} (h : z = (x : Int)) : mU (nT N p e) 165 9 z = nT N x e := by
  subst h
  funext a j
  rw [mU_ap]
  by_cases ha : a = 165
  · subst ha
    rw [if_pos rfl]
    by_cases hj : j = 9
    · subst hj; rw [if_pos rfl]; rfl
    · rw [if_neg hj]
      show (if j = 9 then _ else _) = (if j = 9 then _ else _)
      rw [if_neg hj, if_neg hj]
  · rw [if_neg ha, nT_ne ha, nT_ne ha]
theorem nT_e {x : Nat} {z : Int} (h : z = (x : Int)) : mU (nT N p e) 165 11 z = nT N p x := by
  subst h
  funext a j
  rw [mU_ap]
  by_cases ha : a = 165
  · subst ha
    rw [if_pos rfl]
    by_cases hj : j = 11
    · subst hj; rw [if_pos rfl]; rfl
    · rw [if_neg hj]
      show (if j = 9 then _ else if j = 11 then _ else _) = (if j = 9 then _ else if j = 11 then _ else _)
      rw [if_neg hj, if_neg hj]
  · rw [if_neg ha, nT_ne ha, nT_ne ha]
theorem nT_u {a k : Nat} {x : Int} (h : a ≠ 165) : mU (nT N p e) a k x = nT (mU N a k x) p e := by
  funext c j
  rw [mU_ap]
  by_cases hc : c = 165
  · subst hc
    rw [if_neg (fun g => h g.symm)]
    show (if j = 9 then _ else _) = (if j = 9 then _ else if j = 11 then _ else (mU N a k x) 165 j)
    rw [mU_ne (fun g => h g.symm)]
  · rw [nT_ne hc, nT_ne hc, mU_ap]
theorem nT_v {k : Nat} {x : Int} (h9 : k ≠ 9) (h11 : k ≠ 11) : mU (nT N p e) 165 k x = nT (mU N 165 k x) p e := by
  funext c j
  rw [mU_ap]
  by_cases hc : c = 165
  · subst hc
    rw [if_pos rfl]
    show _ = (if j = 9 then _ else if j = 11 then _ else (mU N 165 k x) 165 j)
    rw [mU_ap, if_pos rfl]
    show (if j = k then x else if j = 9 then _ else if j = 11 then _ else N 165 j) = _
    by_cases hk : j = k
    · subst hk
      rw [if_pos rfl, if_neg h9, if_neg h11, if_pos rfl]
    · rw [if_neg hk, if_neg hk]
  · rw [if_neg hc, nT_ne hc, nT_ne hc, mU_ne hc]
theorem sg_in {x lo hi : Int} (hx : 0 ≤ x ∧ x < 256) (h1 : 0 ≤ lo) (h2 : hi ≤ 127) : (lo ≤ sgB x ∧ sgB x ≤ hi) ↔ (lo ≤ x ∧ x ≤ hi) := by
  unfold sgB
  split <;> omega
theorem sg_eq {x c : Int} (hx : 0 ≤ x ∧ x < 256) (h1 : 0 ≤ c ∧ c ≤ 127) : sgB x = c ↔ x = c := by
  unfold sgB
  split <;> omega
theorem sg_I {x : Int} (hx : 0 ≤ x ∧ x < 256) : I32 (sgB x) := by
  unfold sgB
  split <;> omega
theorem isAt_b {k : Int → MM → OR} {lo hi : Int} (h : TN T n N) (hpn : p ≤ n) (h1 : 0 ≤ lo) (h2 : hi ≤ 127) (h3 : lo ≤ hi) : bI (mo_isAt lo hi (nT N p e)) k = k (b2 (decide (p < n) && (decide (lo ≤ T p) && decide (T p ≤ hi)))) (nT N p e) := by
  have hn := h.2.1
  unfold mo_isAt
  rw [nT_9, nT_j (by decide) (by decide), h.1, bq_ge (by omega) (by omega)]
  by_cases hp : (n : Int) ≤ p
  · rw [if_pos hp, decide_eq_false (by omega), Bool.false_and, bI_I]; rfl
  · have hb := h.2.2.2 p (by omega)
    have hs := sg_I hb
    have hi' := sg_in (lo := lo) (hi := hi) hb h1 h2
    rw [if_neg hp, decide_eq_true (show p < n by omega), Bool.true_and, bq_in (by omega) (by omega), Int.toNat_natCast, nT_ne (by decide), h.2.2.1 p (by omega), bq_lt hs (by omega), bq_in (by omega) (by omega), bq_gt hs (by omega)]
    by_cases g1 : sgB (T p) < lo
    · rw [if_pos g1, bI_I]
      have : (decide (lo ≤ T p) && decide (T p ≤ hi)) = false := by
        by_cases a : lo ≤ T p
        · by_cases c : T p ≤ hi
          · have := hi'.mpr ⟨a, c⟩; omega
          · rw [decide_eq_false c, Bool.and_false]
        · rw [decide_eq_false a, Bool.false_and]
      rw [this]; rfl
    · rw [if_neg g1]
      by_cases g2 : hi < sgB (T p)
      · rw [if_pos g2, bI_I]
        have : (decide (lo ≤ T p) && decide (T p ≤ hi)) = false := by
          by_cases a : lo ≤ T p
          · by_cases c : T p ≤ hi
            · have := hi'.mpr ⟨a, c⟩; omega
            · rw [decide_eq_false c, Bool.and_false]
          · rw [decide_eq_false a, Bool.false_and]
        rw [this]; rfl
      · have := hi'.mp ⟨by omega, by omega⟩
        rw [if_neg g2, bI_I, decide_eq_true this.1, decide_eq_true this.2]; rfl
end NT
