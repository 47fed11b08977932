/-! ===== TEXTS: the reference's blanks, words, numbers ===== -/
section NR
variable {N : MM} {p e n : Nat} {T : Nat → Int}
theorem TN_u {a k : Nat} {x : Int} (h : TN T n N) (h1 : a ≠ 165) (h2 : a ≠ 170) : TN T n (mU N a k x) := by
  unfold TN at *
  rw [mU_ne (fun g => h1 g.symm), mU_ne (fun g => h2 g.symm)]
  exact h
theorem TN_v {k : Nat} {x : Int} (h : TN T n N) (h1 : k ≠ 10) : TN T n (mU N 165 k x) := by
  unfold TN at *
  rw [mU_ap, if_pos rfl, if_neg (fun g => h1 g.symm), mU_ne (by decide)]
  exact h
theorem rb_L {K : MM → OR} (h : TN T n N) : ∀ d F p, p + d = n → d < F → mo_blanks_L0 K F (nT N p e) = K (nT N (skB T n p) e)
  | 0, F, p, hp, hF => by
    obtain ⟨F, rfl⟩ : ∃ n, F = n + 1 := ⟨F - 1, by omega⟩
    obtain rfl : p = n := hp
    rw [mo_blanks_L0, isAt_b h (Nat.le_refl p) (by decide) (by decide) (by decide), decide_eq_false (by omega), Bool.false_and, bz_eq0, cn_f, skB_end]
  | d + 1, F, p, hp, hF => by
    obtain ⟨F, rfl⟩ : ∃ n, F = n + 1 := ⟨F - 1, by omega⟩
    rw [mo_blanks_L0, isAt_b h (by omega) (by decide) (by decide) (by decide), decide_eq_true (show p < n by omega), Bool.true_and, bz_eq0]
    by_cases h32 : T p = 32
    · rw [decide_eq_true (show (32 : Int) ≤ T p by omega), decide_eq_true (show T p ≤ 32 by omega), Bool.true_and, cn_t, sM_eq, nT_9, nT_p (x := p + 1) (by omega), rb_L h d F (p + 1) (by omega) (by omega)]
      congr 2
      unfold skB
      rw [show n - p = d + 1 by omega, show n - (p + 1) = d by omega, runF_t (decide_eq_true h32)]
    · have : (decide ((32 : Int) ≤ T p) && decide (T p ≤ 32)) = false := by
        by_cases a : (32 : Int) ≤ T p
        · rw [decide_eq_false (show ¬ T p ≤ 32 by omega), Bool.and_false]
        · rw [decide_eq_false a, Bool.false_and]
      rw [this, cn_f, skB_id (by omega) h32]
theorem blanks_b {k : MM → OR} (h : TN T n N) (hp : p ≤ n) : bV (mo_blanks (nT N p e)) k = k (nT N (skB T n p) (skB T n p)) := by
  unfold mo_blanks
  rw [isAt_b h hp (by decide) (by decide) (by decide), bz_eq0]
  by_cases h1 : p < n
  · rw [decide_eq_true h1, Bool.true_and]
    by_cases h32 : T p = 32
    · rw [decide_eq_true (show (32 : Int) ≤ T p by omega), decide_eq_true (show T p ≤ 32 by omega), Bool.true_and, cn_t, sM_eq, nT_9, nT_p (x := p + 1) (by omega), rb_L h (n - (p + 1)) FU (p + 1) (by omega) (FU_gt (by have := h.2.1; omega)), sM_eq, nT_9, nT_e (x := skB T n (p + 1)) rfl, bV_V]
      have : skB T n (p + 1) = skB T n p := by
        unfold skB
        rw [show n - p = (n - (p + 1)) + 1 by omega, runF_t (decide_eq_true h32)]
      rw [this]
    · have : (decide ((32 : Int) ≤ T p) && decide (T p ≤ 32)) = false := by
        by_cases a : (32 : Int) ≤ T p
        · rw [decide_eq_false (show ¬ T p ≤ 32 by omega), Bool.and_false]
        · rw [decide_eq_false a, Bool.false_and]
      rw [this, cn_f, sM_eq, nT_9, nT_e (x := p) rfl, skB_id h1 h32, bV_V]
  · obtain rfl : p = n := by omega
    rw [decide_eq_false (by omega), Bool.false_and, cn_f, sM_eq, nT_9, nT_e (x := p) rfl, skB_end, bV_V]
theorem rl_L {K : MM → OR} (h : TN T n N) : ∀ d F p, p + d = n → d < F → mo_letters_L4 K F (nT N p e) = K (nT N (ltE T n p) e)
  | 0, F, p, hp, hF => by
    obtain ⟨F, rfl⟩ : ∃ n, F = n + 1 := ⟨F - 1, by omega⟩
    obtain rfl : p = n := hp
    rw [mo_letters_L4, isAt_b h (Nat.le_refl p) (by decide) (by decide) (by decide), decide_eq_false (by omega), Bool.false_and, bz_eq0, cn_f]
    congr 2
    unfold ltE
    rw [Nat.sub_self]; rfl
  | d + 1, F, p, hp, hF => by
    obtain ⟨F, rfl⟩ : ∃ n, F = n + 1 := ⟨F - 1, by omega⟩
    rw [mo_letters_L4, isAt_b h (by omega) (by decide) (by decide) (by decide), decide_eq_true (show p < n by omega), Bool.true_and, bz_eq0]
    show (bif isL T p then _ else _) = _
    cases hL : isL T p with
    | true =>
      rw [cn_t, sM_eq, nT_9, nT_p (x := p + 1) (by omega), rl_L h d F (p + 1) (by omega) (by omega)]
      congr 2
      unfold ltE
      rw [show n - p = d + 1 by omega, show n - (p + 1) = d by omega, runF_t hL]
    | false =>
      rw [cn_f]
      congr 2
      unfold ltE
      rw [show n - p = d + 1 by omega, runF_f hL]
theorem letters_b {k : MM → OR} (h : TN T n N) (hp : p ≤ n) : bV (mo_letters (nT N p e)) k = k (nT N (ltE T n (skB T n p)) (skB T n p)) := by
  have hl := skB_le (T := T) hp
  unfold mo_letters
  rw [blanks_b h hp, rl_L h (n - skB T n p) FU (skB T n p) (by omega) (FU_gt (by have := h.2.1; omega)), bV_V]
theorem rw_L {K : Int → MM → OR} {t : Nat} (h : TN T n N) (ht : wOK t) (he : e + wLen t ≤ n) : ∀ d F i, i + d = wLen t → d + 1 < F → mo_isWord_L24 t K F 1 (i : Int) (nT N p e) = K (b2 (wdA T t e d i)) (nT N p e)
  | 0, F, i, hd, hF => by
    obtain ⟨F, rfl⟩ : ∃ n, F = n + 1 := ⟨F - 1, by omega⟩
    have h20 := ht.1
    unfold mo_isWord_L24 jdk_length
    rw [bq_eq (by decide) (by decide), if_neg (by decide), bI_I, show (stN.getD t 0 : Nat) = wLen t from rfl, bq_ge (by omega) (by omega), if_pos (by omega)]; rfl
  | d + 1, F, i, hd, hF => by
    obtain ⟨F, rfl⟩ : ∃ n, F = n + 1 := ⟨F - 1, by omega⟩
    obtain ⟨G, rfl⟩ : ∃ n, F = n + 1 := ⟨F - 1, by omega⟩
    have h20 := ht.1
    have hn := h.2.1
    have hc := ht.2 i (by omega)
    have hb := h.2.2.2 (e + i) (by omega)
    have ec : jdk_charAt t (i : Int) (nT N p e) = some (rI (wCh t i), nT N p e) := by
      unfold jdk_charAt
      rw [bq_in (by omega) (show (i : Int) < ((stN.getD t 0 : Nat) : Int) by have : wLen t = stN.getD t 0 := rfl; omega), Int.toNat_natCast]; rfl
    have stop : ∀ v : Int, mo_isWord_L24 t K (G + 1) 0 v (nT N p e) = K 0 (nT N p e) := fun v => by
      rw [mo_isWord_L24, bq_eq (by decide) (by decide), if_pos rfl]
    have eL : jdk_length t (nT N p e) = some (rI ((wLen t : Nat) : Int), nT N p e) := rfl
    rw [mo_isWord_L24, bq_eq (by decide) (by decide), if_neg (by decide), eL, bI_I, bq_ge (by omega) (by omega), if_neg (by omega), nT_11, bq_in (by omega) (by omega), ec, bI_I, show (e : Int) + (i : Int) = ((e + i : Nat) : Int) by omega, Int.toNat_natCast, nT_ne (by decide), h.2.2.1 _ (by omega), bq_ne (sg_I hb) (by omega)]
    show _ = K (b2 (decide (T (e + i) = wCh t i) && wdA T t e d (i + 1))) _
    by_cases g : T (e + i) = wCh t i
    · rw [if_pos ((sg_eq hb (by omega)).mpr g), decide_eq_true g, Bool.true_and, show (i : Int) + 1 = ((i + 1 : Nat) : Int) by omega]
      exact rw_L h ht he d (G + 1) (i + 1) (by omega) (by omega)
    · rw [if_neg (fun g2 => g ((sg_eq hb (by omega)).mp g2)), decide_eq_false g, Bool.false_and, stop]; rfl
/-- the word that goes from e to p -/
theorem isWord_b {k : Int → MM → OR} {t : Nat} (h : TN T n N) (ht : wOK t) (hp : p = ltE T n e) (he : e ≤ n) : bI (mo_isWord t (nT N p e)) k = k (b2 (wdB T n t e)) (nT N p e) := by
  have h20 := ht.1
  have hn := h.2.1
  have hl := ltE_le (T := T) he
  have eL : jdk_length t (nT N p e) = some (rI ((wLen t : Nat) : Int), nT N p e) := rfl
  unfold mo_isWord mo_isWord_J21 wdB
  rw [eL, bI_I, nT_9, nT_11, bq_ne (by omega) (by omega), ← hp]
  by_cases g : p = e + wLen t
  · have w := rw_L (K := fun v2_10 M_11 => (bif zo v2_10 then some (rI v2_10, M_11) else none)) (p := p) h ht (show e + wLen t ≤ n by omega) (wLen t) FU 0 (by omega) (FU_gt (by omega))
    rw [if_pos (by omega), decide_eq_true g, Bool.true_and, show mo_isWord_L24 t _ FU 1 0 (nT N p e) = _ from w, bz_zo, bI_I]
  · obtain ⟨G, hG⟩ : ∃ G, FU = G + 1 := ⟨FU - 1, by have := FU_gt (n := 1) (by decide); omega⟩
    rw [if_neg (by omega), decide_eq_false g, Bool.false_and, hG, mo_isWord_L24, bq_eq (by decide) (by decide), if_pos rfl, zo_0, bI_I]; rfl
theorem passes_b {k : Int → MM → OR} {t : Nat} (h : TN T n N) (hp : p ≤ n) (ht : wOK t) : bI (mo_passes t (nT N p e)) k = if wdB T n t (skB T n p) = true then k 1 (nT N (skB T n p + wLen t) (skB T n p)) else k 0 (nT N (skB T n p) (skB T n p)) := by
  have hl := skB_le (T := T) hp
  unfold mo_passes
  rw [letters_b h hp, isWord_b h ht rfl hl.2, bz_eq0]
  cases hw : wdB T n t (skB T n p) with
  | true =>
    have e1 : ltE T n (skB T n p) = skB T n p + wLen t := by
      unfold wdB at hw
      rw [Bool.and_eq_true] at hw
      exact of_decide_eq_true hw.1
    rw [cn_t, if_pos rfl, bI_I, e1]
  | false =>
    rw [cn_f, if_neg (by decide), sM_eq, nT_11, nT_p (x := skB T n p) rfl, bI_I]
theorem sign_b {k : Int → MM → OR} {c : Int} (h : TN T n N) (hp : p ≤ n) (hc : 0 ≤ c ∧ c ≤ 127) : bI (mo_isSign c (nT N p e)) k = if skB T n p < n ∧ T (skB T n p) = c then k 1 (nT N (skB T n p + 1) (skB T n p)) else k 0 (nT N (skB T n p) (skB T n p)) := by
  have hl := skB_le (T := T) hp
  unfold mo_isSign
  rw [blanks_b h hp, isAt_b h hl.2 hc.1 hc.2 (Int.le_refl c), bz_ne0]
  by_cases g : skB T n p < n ∧ T (skB T n p) = c
  · rw [if_pos g, decide_eq_true g.1, Bool.true_and, decide_eq_true (show c ≤ T (skB T n p) by omega), decide_eq_true (show T (skB T n p) ≤ c by omega), Bool.true_and, cn_t, sM_eq, nT_9, nT_p (x := skB T n p + 1) (by omega), bI_I]
  · have : (decide (skB T n p < n) && (decide (c ≤ T (skB T n p)) && decide (T (skB T n p) ≤ c))) = false := by
      by_cases a : skB T n p < n
      · have a2 : T (skB T n p) ≠ c := fun a2 => g ⟨a, a2⟩
        by_cases a3 : c ≤ T (skB T n p)
        · rw [decide_eq_false (show ¬ T (skB T n p) ≤ c by omega), Bool.and_false, Bool.and_false]
        · rw [decide_eq_false a3, Bool.false_and, Bool.and_false]
      · rw [decide_eq_false a, Bool.false_and]
    rw [if_neg g, this, cn_f, bI_I]
theorem rn_L {K : Int → MM → OR} {lo hi : Int} (h : TN T n N) : ∀ d F p v, p + d = n → d < F → e ≤ p → (v = if p - e ≤ 3 then dgV T e (p - e) else dgV T e 3) → mo_number_L6 lo hi K F v (nT N p e) = K (if runF (isD T) d p - e ≤ 3 then dgV T e (runF (isD T) d p - e) else dgV T e 3) (nT N (runF (isD T) d p) e)
  | 0, F, p, v, hp, hF, he, hv => by
    obtain ⟨F, rfl⟩ : ∃ n, F = n + 1 := ⟨F - 1, by omega⟩
    obtain rfl : p = n := hp
    rw [mo_number_L6, isAt_b h (Nat.le_refl p) (by decide) (by decide) (by decide), decide_eq_false (by omega), Bool.false_and, bz_eq0, cn_f, hv]; rfl
  | d + 1, F, p, v, hp, hF, he, hv => by
    obtain ⟨F, rfl⟩ : ∃ n, F = n + 1 := ⟨F - 1, by omega⟩
    have hn := h.2.1
    have hb := h.2.2.2 p (by omega)
    rw [mo_number_L6, isAt_b h (by omega) (by decide) (by decide) (by decide), decide_eq_true (show p < n by omega), Bool.true_and, bz_eq0]
    show (bif isD T p then _ else _) = _
    cases hD : isD T p with
    | true =>
      have hD' := hD
      unfold isD at hD'
      rw [Bool.and_eq_true] at hD'
      have d1 := of_decide_eq_true hD'.1
      have d2 := of_decide_eq_true hD'.2
      rw [cn_t, runF_t hD, nT_9, nT_11, bq_ge (by omega) (by decide)]
      by_cases h3 : (3 : Int) ≤ (p : Int) - (e : Int)
      · rw [if_pos h3, sM_eq, nT_p (x := p + 1) (by omega)]
        refine rn_L h d F (p + 1) v (by omega) (by omega) (by omega) ?_
        rw [hv, if_neg (show ¬ p + 1 - e ≤ 3 by omega)]
        by_cases g : p - e = 3
        · rw [g, if_pos (by decide)]
        · rw [if_neg (by omega)]
      · rw [if_neg h3, bq_in (by omega) (by omega), sM_eq, nT_p (x := p + 1) (by omega), Int.toNat_natCast, nT_ne (by decide), h.2.2.1 p (by omega), show sgB (T p) = T p by unfold sgB; rw [if_pos (by omega)]]
        refine rn_L h d F (p + 1) _ (by omega) (by omega) (by omega) ?_
        rw [if_pos (show p + 1 - e ≤ 3 by omega), hv, if_pos (show p - e ≤ 3 by omega), show p + 1 - e = (p - e) + 1 by omega]
        show _ = 10 * dgV T e (p - e) + T (e + (p - e)) - 48
        rw [show e + (p - e) = p by omega]
    | false =>
      rw [cn_f, runF_f hD, hv]
theorem number_b {k : Int → MM → OR} {lo hi : Int} (h : TN T n N) (hp : p ≤ n) (hlo : I32 lo) (hhi : I32 hi) : bI (mo_number lo hi (nT N p e)) k = if nuO T n (skB T n p) lo hi = true then k (nuV T n (skB T n p)) (nT N (dgE T n (skB T n p)) (skB T n p)) else k (-1) (nT N (dgE T n (skB T n p)) (skB T n p)) := by
  have hn := h.2.1
  have hl := skB_le (T := T) hp
  unfold mo_number
  rw [blanks_b h hp]
  generalize skB T n p = q at hl
  have hd := dgE_le (T := T) hl.2
  have w := rn_L (K := fun v3_11 M_12 => (bif cmpB .eq (M_12 165 9) (M_12 165 11) then some (rI (-1), M_12) else (bif cmpB .gt ((M_12 165 9) - (M_12 165 11)) 3 then some (rI (-1), M_12) else (bif cmpB .lt v3_11 lo then some (rI (-1), M_12) else (bif cmpB .le v3_11 hi then some (rI v3_11, M_12) else some (rI (-1), M_12)))))) (lo := lo) (hi := hi) (e := q) h (n - q) FU q 0 (by omega) (FU_gt (by omega)) (Nat.le_refl q) (by rw [Nat.sub_self, if_pos (by decide)]; rfl)
  have e1 : runF (isD T) (n - q) q = dgE T n q := rfl
  rw [e1] at w
  rw [w, nT_9, nT_11, bq_eq (by omega) (by omega), bq_gt (by omega) (by decide)]
  by_cases g0 : dgE T n q = q
  · rw [if_pos (by omega), if_neg (fun g => by have := (nuO_i.mp g).1; omega), bI_I]
  · rw [if_neg (by omega)]
    by_cases g3 : dgE T n q ≤ q + 3
    · have hv := nuV_J (T := T) hl.2 g3
      have ev : dgV T q (dgE T n q - q) = nuV T n q := rfl
      rw [if_neg (by omega), if_pos (show dgE T n q - q ≤ 3 by omega), ev, bq_lt (by omega) hlo, bq_le (by omega) hhi]
      by_cases g1 : nuV T n q < lo
      · rw [if_pos g1, if_neg (fun g => by have := (nuO_i.mp g).2.2.1; unfold nuV at g1; omega), bI_I]
      · rw [if_neg g1]
        by_cases g2 : nuV T n q ≤ hi
        · rw [if_pos g2, if_pos (nuO_i.mpr ⟨by omega, g3, by unfold nuV at g1; omega, g2⟩), bI_I]
        · rw [if_neg g2, if_neg (fun g => g2 (nuO_i.mp g).2.2.2), bI_I]
    · rw [if_pos (by omega), if_neg (fun g => g3 (nuO_i.mp g).2.1), bI_I]
/-- a word, then a number -/
theorem after_b {k : Int → MM → OR} {t : Nat} {lo hi : Int} (h : TN T n N) (hp : p ≤ n) (ht : wOK t) (hlo : I32 lo) (hhi : I32 hi) : bI (mo_after t lo hi (nT N p e)) k = if wdB T n t (skB T n p) = true then bI (mo_number lo hi (nT N (skB T n p + wLen t) (skB T n p))) k else k (-1) (nT N (ltE T n (skB T n p)) (skB T n p)) := by
  have hl := skB_le (T := T) hp
  unfold mo_after
  rw [letters_b h hp, isWord_b h ht rfl hl.2, bz_eq0]
  cases hw : wdB T n t (skB T n p) with
  | true =>
    have e1 : ltE T n (skB T n p) = skB T n p + wLen t := by
      unfold wdB at hw
      rw [Bool.and_eq_true] at hw
      exact of_decide_eq_true hw.1
    have hl2 := ltE_le (T := T) hl.2
    rw [cn_t, if_pos rfl, e1, number_b h (by omega) hlo hhi]
    by_cases g : nuO T n (skB T n (skB T n p + wLen t)) lo hi = true
    · rw [if_pos g, bI_I, number_b h (by omega) hlo hhi, if_pos g]
    · rw [if_neg g, bI_I, number_b h (by omega) hlo hhi, if_neg g]
  | false =>
    rw [cn_f, if_neg (by decide), bI_I]
theorem wd_le {t q : Nat} (hq : q ≤ n) (h : wdB T n t q = true) : q + wLen t ≤ n := by
  have hl := ltE_le (T := T) hq
  unfold wdB at h
  rw [Bool.and_eq_true] at h
  have := of_decide_eq_true h.1
  omega
end NR
