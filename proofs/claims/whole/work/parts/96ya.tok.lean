/-! ===== TEXTS: blanks, words, numbers on both sides ===== -/
def runF (f : Nat → Bool) : Nat → Nat → Nat
  | 0, p => p
  | k + 1, p => if f p = true then runF f k (p + 1) else p
theorem runF_le (f : Nat → Bool) : ∀ k p, p ≤ runF f k p ∧ runF f k p ≤ p + k
  | 0, p => ⟨Nat.le_refl p, Nat.le_refl p⟩
  | k + 1, p => by
    have := runF_le f k (p + 1)
    show p ≤ (if f p = true then runF f k (p + 1) else p) ∧ (if f p = true then runF f k (p + 1) else p) ≤ p + (k + 1)
    split <;> omega
theorem runF_in {f : Nat → Bool} : ∀ k p j, p ≤ j → j < runF f k p → f j = true
  | 0, p, j, h1, h2 => by
    have h2' : j < p := h2
    omega
  | k + 1, p, j, h1, h2 => by
    have h2' : j < (if f p = true then runF f k (p + 1) else p) := h2
    by_cases hp : f p = true
    · rw [if_pos hp] at h2'
      by_cases e : j = p
      · rw [e]; exact hp
      · exact runF_in k (p + 1) j (by omega) h2'
    · rw [if_neg hp] at h2'; omega
theorem runF_t {f : Nat → Bool} {k p : Nat} (h : f p = true) : runF f (k + 1) p = runF f k (p + 1) := by
  show (if f p = true then _ else _) = _
  rw [if_pos h]
theorem runF_f {f : Nat → Bool} {k p : Nat} (h : f p = false) : runF f (k + 1) p = p := by
  show (if f p = true then _ else _) = _
  rw [if_neg (by rw [h]; decide)]
/-- after blanks; after letters; after digits -/
def skB (T : Nat → Int) (n p : Nat) : Nat := runF (fun j => decide (T j = 32)) (n - p) p
def isL (T : Nat → Int) (j : Nat) : Bool := decide (97 ≤ T j) && decide (T j ≤ 122)
def isD (T : Nat → Int) (j : Nat) : Bool := decide (48 ≤ T j) && decide (T j ≤ 57)
def ltE (T : Nat → Int) (n p : Nat) : Nat := runF (isL T) (n - p) p
def dgE (T : Nat → Int) (n p : Nat) : Nat := runF (isD T) (n - p) p
theorem skB_le {T : Nat → Int} {n p : Nat} (h : p ≤ n) : p ≤ skB T n p ∧ skB T n p ≤ n := by
  have := runF_le (fun j => decide (T j = 32)) (n - p) p
  unfold skB
  omega
theorem ltE_le {T : Nat → Int} {n p : Nat} (h : p ≤ n) : p ≤ ltE T n p ∧ ltE T n p ≤ n := by
  have := runF_le (isL T) (n - p) p
  unfold ltE
  omega
theorem dgE_le {T : Nat → Int} {n p : Nat} (h : p ≤ n) : p ≤ dgE T n p ∧ dgE T n p ≤ n := by
  have := runF_le (isD T) (n - p) p
  unfold dgE
  omega
theorem skB_end {T : Nat → Int} {n : Nat} : skB T n n = n := by
  unfold skB
  rw [Nat.sub_self]; rfl
theorem skB_stop {T : Nat → Int} {n : Nat} : ∀ d p, p + d = n → skB T n p < n → T (skB T n p) ≠ 32
  | 0, p, h, h2 => by
    obtain rfl : p = n := h
    rw [skB_end] at h2
    omega
  | d + 1, p, h, h2 => by
    unfold skB at h2 ⊢
    rw [show n - p = d + 1 by omega] at h2 ⊢
    by_cases hp : T p = 32
    · rw [runF_t (decide_eq_true hp)] at h2 ⊢
      have := skB_stop (T := T) (n := n) d (p + 1) (by omega)
      unfold skB at this
      rw [show n - (p + 1) = d by omega] at this
      exact this h2
    · rw [runF_f (decide_eq_false hp)]; exact hp
theorem skB_id {T : Nat → Int} {n p : Nat} (h : p < n) (h2 : T p ≠ 32) : skB T n p = p := by
  unfold skB
  rw [show n - p = (n - p - 1) + 1 by omega]
  exact runF_f (decide_eq_false h2)
theorem skB_sk {T : Nat → Int} {n p : Nat} (h : p ≤ n) : skB T n (skB T n p) = skB T n p := by
  have hl := skB_le (T := T) h
  by_cases h1 : skB T n p < n
  · exact skB_id h1 (skB_stop (n - p) p (by omega) h1)
  · rw [show skB T n p = n by omega, skB_end]
/-- a word -/
def wLen (t : Nat) : Nat := stN.getD t 0
def wCh (t i : Nat) : Int := ((stB.getD t []).getD i 0).toInt
def wdA (T : Nat → Int) (t q : Nat) : Nat → Nat → Bool
  | 0, _ => true
  | d + 1, i => decide (T (q + i) = wCh t i) && wdA T t q d (i + 1)
def wdB (T : Nat → Int) (n t q : Nat) : Bool := decide (ltE T n q = q + wLen t) && wdA T t q (wLen t) 0
def wOK (t : Nat) : Prop := (wLen t ≤ 20) ∧ ∀ i, i < wLen t → 97 ≤ wCh t i ∧ wCh t i ≤ 122
/-- digits -/
def dgV (T : Nat → Int) (q : Nat) : Nat → Int
  | 0 => 0
  | k + 1 => 10 * dgV T q k + T (q + k) - 48
-- the class's memory: its tape's row over the rest
def tpT (C : MM) (p l : Nat) (b : Int) : MM := fun a => if a = 1 then (fun j => if j = 4 then (p : Int) else if j = 3 then (l : Int) else if j = 2 then b else C 1 j) else C a
section CT
variable {C : MM} {p l n : Nat} {b : Int} {T : Nat → Int}
theorem cT_ne {a : Nat} (h : a ≠ 1) : tpT C p l b a = C a := if_neg h
theorem cT_4 : tpT C p l b 1 4 = (p : Int) := rfl
theorem cT_3 : tpT C p l b 1 3 = (l : Int) := rfl
theorem cT_2 : tpT C p l b 1 2 = b := rfl
theorem cT_1 : tpT C p l b 1 1 = C 1 1 := rfl
theorem cT_j {j : Nat} (h2 : j ≠ 2) (h3 : j ≠ 3) (h4 : j ≠ 4) : tpT C p l b 1 j = C 1 j := by
  show (if j = 4 then _ else if j = 3 then _ else if j = 2 then _ else C 1 j) = _
  rw [if_neg h4, if_neg h3, if_neg h2]
theorem cT_p {x : Nat} {z : Int} (h : z = (x : Int)) : mU (tpT C p l b) 1 4 z = tpT C x l b := by
  subst h
  funext a j
  rw [mU_ap]
  by_cases ha : a = 1
  · subst ha
    rw [if_pos rfl]
    by_cases hj : j = 4
    · subst hj; rw [if_pos rfl]; rfl
    · rw [if_neg hj]
      show (if j = 4 then _ else _) = (if j = 4 then _ else _)
      rw [if_neg hj, if_neg hj]
  · rw [if_neg ha, cT_ne ha, cT_ne ha]
theorem cT_l {x : Nat} {z : Int} (h : z = (x : Int)) : mU (tpT C p l b) 1 3 z = tpT C p x b := by
  subst h
  funext a j
  rw [mU_ap]
  by_cases ha : a = 1
  · subst ha
    rw [if_pos rfl]
    by_cases hj : j = 3
    · subst hj; rw [if_pos rfl]; rfl
    · rw [if_neg hj]
      show (if j = 4 then _ else if j = 3 then _ else _) = (if j = 4 then _ else if j = 3 then _ else _)
      rw [if_neg hj, if_neg hj]
  · rw [if_neg ha, cT_ne ha, cT_ne ha]
theorem cT_b {z : Int} : mU (tpT C p l b) 1 2 z = tpT C p l z := by
  funext a j
  rw [mU_ap]
  by_cases ha : a = 1
  · subst ha
    rw [if_pos rfl]
    by_cases hj : j = 2
    · subst hj; rw [if_pos rfl]; rfl
    · rw [if_neg hj]
      show (if j = 4 then _ else if j = 3 then _ else if j = 2 then _ else _) = (if j = 4 then _ else if j = 3 then _ else if j = 2 then _ else _)
      rw [if_neg hj, if_neg hj]
  · rw [if_neg ha, cT_ne ha, cT_ne ha]
theorem cT_u {a k : Nat} {x : Int} (h : a ≠ 1) : mU (tpT C p l b) a k x = tpT (mU C a k x) p l b := by
  funext c j
  rw [mU_ap]
  by_cases hc : c = 1
  · subst hc
    rw [if_neg (fun e => h e.symm)]
    show (if j = 4 then _ else _) = (if j = 4 then _ else if j = 3 then _ else if j = 2 then _ else (mU C a k x) 1 j)
    rw [mU_ne (fun e => h e.symm)]
  · rw [cT_ne hc, cT_ne hc, mU_ap]
def TC (T : Nat → Int) (n : Nat) (C : MM) : Prop := C 1 1 = (n : Int) ∧ n ≤ 400 ∧ (∀ j, j < n → C 2 j = T j) ∧ ∀ j, j < n → 0 ≤ T j ∧ T j < 256
theorem TC_u {a k : Nat} {x : Int} (h : TC T n C) (h1 : a ≠ 1) (h2 : a ≠ 2) : TC T n (mU C a k x) := by
  unfold TC at *
  rw [mU_ne (fun e => h1 e.symm), mU_ne (fun e => h2 e.symm)]
  exact h
theorem TC_fr {C' : MM} (h : TC T n C) (h1 : C' 1 1 = C 1 1) (h2 : C' 2 = C 2) : TC T n C' := by
  unfold TC at *
  rw [h1, h2]
  exact h
theorem skip_L {K : MM → OR} (h : TC T n C) : ∀ d F p, p + d = n → d < F → tape_skipBlanks_L0 K F (tpT C p l b) = K (tpT C (skB T n p) l b)
  | 0, F, p, hp, hF => by
    obtain ⟨F, rfl⟩ : ∃ n, F = n + 1 := ⟨F - 1, by omega⟩
    obtain rfl : p = n := hp
    have hn := h.2.1
    rw [tape_skipBlanks_L0, cT_4, cT_1, h.1, bq_ge (by omega) (by omega), if_pos (by omega), skB_end]
  | d + 1, F, p, hp, hF => by
    obtain ⟨F, rfl⟩ : ∃ n, F = n + 1 := ⟨F - 1, by omega⟩
    have hn := h.2.1
    have hb := h.2.2.2 p (by omega)
    rw [tape_skipBlanks_L0, cT_4, cT_1, h.1, bq_ge (by omega) (by omega), if_neg (by omega), bq_in (by omega) (by omega), Int.toNat_natCast, cT_ne (by decide), h.2.2.1 p (by omega), bq_ne (by omega) (by decide)]
    by_cases h32 : T p = 32
    · rw [if_pos h32, sM_eq, cT_p (x := p + 1) (by omega), skip_L h d F (p + 1) (by omega) (by omega)]
      congr 2
      unfold skB
      rw [show n - p = d + 1 by omega, show n - (p + 1) = d by omega, runF_t (decide_eq_true h32)]
    · rw [if_neg h32, skB_id (by omega) h32]
theorem skip_b {k : MM → OR} (h : TC T n C) (hp : p ≤ n) : bV (tape_skipBlanks (tpT C p l b)) k = k (tpT C (skB T n p) l b) := by
  have hn := h.2.1
  unfold tape_skipBlanks
  rw [cT_4, cT_1, h.1, bq_ge (by omega) (by omega)]
  by_cases h1 : (n : Int) ≤ p
  · obtain rfl : p = n := by omega
    rw [if_pos h1, skB_end, bV_V]
  · have hb := h.2.2.2 p (by omega)
    rw [if_neg h1, bq_in (by omega) (by omega), Int.toNat_natCast, cT_ne (by decide), h.2.2.1 p (by omega), bq_ne (by omega) (by decide)]
    by_cases h32 : T p = 32
    · rw [if_pos h32, sM_eq, cT_p (x := p + 1) (by omega), skip_L h (n - (p + 1)) FU (p + 1) (by omega) (FU_gt (by omega)), bV_V]
      congr 2
      unfold skB
      rw [show n - p = (n - (p + 1)) + 1 by omega, runF_t (decide_eq_true h32)]
    · rw [if_neg h32, skB_id (by omega) h32, bV_V]
theorem failAt_b {k : MM → OR} {z : Int} (hb : I32 b) : bV (tape_failAt z (tpT C p l b)) k = k (tpT C p l (if b = -1 then z else b)) := by
  unfold tape_failAt
  rw [cT_2, bq_ne hb (by decide)]
  by_cases h : b = -1
  · rw [if_pos h, if_pos h, sM_eq, cT_b, bV_V]
  · rw [if_neg h, if_neg h, bV_V]
theorem fail_b {k : MM → OR} (h : TC T n C) (hp : p ≤ n) (hb : I32 b) : bV (tape_fail (tpT C p l b)) k = k (tpT C (skB T n p) l (if b = -1 then ((skB T n p : Nat) : Int) else b)) := by
  unfold tape_fail
  rw [skip_b h hp, cT_4, failAt_b hb, bV_V]
theorem atEnd_b {k : Int → MM → OR} (h : TC T n C) (hp : p ≤ n) : bI (tape_isAtEnd (tpT C p l b)) k = k (b2 (decide (skB T n p = n))) (tpT C (skB T n p) l b) := by
  have hn := h.2.1
  have hl := skB_le (T := T) hp
  unfold tape_isAtEnd
  rw [skip_b h hp, cT_4, cT_1, h.1, bq_lt (by omega) (by omega)]
  by_cases h1 : ((skB T n p : Nat) : Int) < n
  · rw [if_pos h1, decide_eq_false (by omega), bI_I]; rfl
  · rw [if_neg h1, decide_eq_true (by omega), bI_I]; rfl
theorem mark_b {k : Int → MM → OR} {c : Int} (h : TC T n C) (hp : p ≤ n) (hb : I32 b) (hc : I32 c) : bI (tape_tookMark c (tpT C p l b)) k = if b = -1 ∧ skB T n p < n ∧ T (skB T n p) = c then k 1 (tpT C (skB T n p + 1) (skB T n p) b) else k 0 (tpT C (skB T n p) l b) := by
  have hn := h.2.1
  have hl := skB_le (T := T) hp
  unfold tape_tookMark
  rw [skip_b h hp, cT_2, bq_ne hb (by decide)]
  by_cases h0 : b = -1
  · rw [if_pos h0, cT_4, cT_1, h.1, bq_ge (by omega) (by omega)]
    by_cases h1 : (n : Int) ≤ (skB T n p : Nat)
    · rw [if_pos h1, if_neg (by omega), bI_I]
    · have ht := h.2.2.2 (skB T n p) (by omega)
      rw [if_neg h1, bq_in (by omega) (by omega), Int.toNat_natCast, cT_ne (by decide), h.2.2.1 _ (by omega), bq_eq (by omega) hc]
      by_cases h2 : T (skB T n p) = c
      · rw [if_pos h2, if_pos ⟨h0, by omega, h2⟩, sM_eq, cT_l (x := skB T n p) rfl, sM_eq, cT_4, cT_p (x := skB T n p + 1) (by omega), bI_I]
      · rw [if_neg h2, if_neg (fun g => h2 g.2.2), bI_I]
  · rw [if_neg h0, if_neg (fun g => h0 g.1), bI_I]
theorem isWithin_b {k : Int → MM → OR} {M : MM} {x lo hi : Int} (hx : I32 x) (h1 : I32 lo) (h2 : I32 hi) : bI (tape_isWithin x lo hi M) k = k (b2 (decide (lo ≤ x) && decide (x ≤ hi))) M := by
  unfold tape_isWithin
  rw [bq_lt hx h1, bq_gt hx h2]
  by_cases g1 : x < lo
  · rw [if_pos g1, decide_eq_false (by omega), bI_I]; rfl
  · rw [if_neg g1, decide_eq_true (show lo ≤ x by omega), Bool.true_and]
    by_cases g2 : hi < x
    · rw [if_pos g2, decide_eq_false (by omega), bI_I]; rfl
    · rw [if_neg g2, decide_eq_true (show x ≤ hi by omega), bI_I]; rfl
theorem word_L {K : Int → MM → OR} {t : Nat} (h : TC T n C) (hp : p ≤ n) : ∀ d F i, p + i + d = n → d < F → tape_tookWord_L16 t K F (i : Int) (tpT C p l b) = K ((runF (isL T) d (p + i) - p : Nat) : Int) (tpT C p l b)
  | 0, F, i, hd, hF => by
    obtain ⟨F, rfl⟩ : ∃ n, F = n + 1 := ⟨F - 1, by omega⟩
    have hn := h.2.1
    rw [tape_tookWord_L16, cT_4, cT_1, h.1, bq_ge (by omega) (by omega), if_pos (by omega)]
    show K (i : Int) _ = K ((p + i - p : Nat) : Int) _
    rw [show p + i - p = i by omega]
  | d + 1, F, i, hd, hF => by
    obtain ⟨F, rfl⟩ : ∃ n, F = n + 1 := ⟨F - 1, by omega⟩
    have hn := h.2.1
    have hb := h.2.2.2 (p + i) (by omega)
    rw [tape_tookWord_L16, cT_4, cT_1, h.1, bq_ge (by omega) (by omega), if_neg (by omega), bq_in (by omega) (by omega), show (p : Int) + (i : Int) = ((p + i : Nat) : Int) by omega, Int.toNat_natCast, cT_ne (by decide), h.2.2.1 _ (by omega), isWithin_b (by omega) (by decide) (by decide), bz_eq0]
    show (bif isL T (p + i) then _ else _) = _
    cases hL : isL T (p + i) with
    | true =>
      rw [cn_t, runF_t hL, show (i : Int) + 1 = ((i + 1 : Nat) : Int) by omega, show p + i + 1 = p + (i + 1) by omega]
      exact word_L h hp d F (i + 1) (by omega) (by omega)
    | false =>
      rw [cn_f, runF_f hL, show p + i - p = i by omega]
theorem chars_b {K1 K2 : MM → OR} {t : Nat} {v2 : Int} (h : TC T n C) (ht : wOK t) (hv : v2 = (wLen t : Nat)) (hpn : p + wLen t ≤ n) : ∀ d F i, i + d = wLen t → d < F → tape_tookWord_L68 t v2 K1 K2 F (i : Int) (tpT C p l b) = bif wdA T t p d i then K1 (tpT C p l b) else K2 (tpT C p l b)
  | 0, F, i, hd, hF => by
    obtain ⟨F, rfl⟩ : ∃ n, F = n + 1 := ⟨F - 1, by omega⟩
    have := ht.1
    rw [tape_tookWord_L68, hv, bq_ge (by omega) (by omega), if_pos (by omega)]
    show _ = (bif true then _ else _)
    rw [cn_t]
  | d + 1, F, i, hd, hF => by
    obtain ⟨F, rfl⟩ : ∃ n, F = n + 1 := ⟨F - 1, by omega⟩
    have hn := h.2.1
    have h20 := ht.1
    have hb := h.2.2.2 (p + i) (by omega)
    have hc := ht.2 i (by omega)
    have ec : jdk_charAt t (i : Int) (tpT C p l b) = some (rI (wCh t i), tpT C p l b) := by
      unfold jdk_charAt
      rw [bq_in (by omega) (show (i : Int) < ((stN.getD t 0 : Nat) : Int) by have : wLen t = stN.getD t 0 := rfl; omega), Int.toNat_natCast]; rfl
    rw [tape_tookWord_L68, hv, bq_ge (by omega) (by omega), if_neg (by omega), cT_4, bq_in (by omega) (by omega), ec, bI_I, show (p : Int) + (i : Int) = ((p + i : Nat) : Int) by omega, Int.toNat_natCast, cT_ne (by decide), h.2.2.1 _ (by omega), bq_eq (by omega) (by omega)]
    show _ = (bif (decide (T (p + i) = wCh t i) && wdA T t p d (i + 1)) then _ else _)
    by_cases g : T (p + i) = wCh t i
    · rw [if_pos g, decide_eq_true g, Bool.true_and, show (i : Int) + 1 = ((i + 1 : Nat) : Int) by omega, ← hv]
      exact chars_b h ht hv hpn d F (i + 1) (by omega) (by omega)
    · rw [if_neg g, decide_eq_false g, Bool.false_and, cn_f]
theorem word_b {k : Int → MM → OR} {t : Nat} (h : TC T n C) (hp : p ≤ n) (ht : wOK t) : bI (tape_tookWord t (tpT C p l (-1))) k = if wdB T n t (skB T n p) = true then k 1 (tpT C (skB T n p + wLen t) (skB T n p) (-1)) else k 0 (tpT C (skB T n p) l (-1)) := by
  have hn := h.2.1
  have hl := skB_le (T := T) hp
  have h20 := ht.1
  generalize hq : skB T n p = q at hl
  unfold tape_tookWord
  rw [cT_2, bq_eq (by decide) (by decide), if_pos rfl, skip_b h hp, hq]
  have w := word_L (K := fun v2_7 M_8 => tape_tookWord_J56 t v2_7 M_8) (t := t) (l := l) (b := -1) h hl.2 (n - q) FU 0 (by omega) (FU_gt (by omega))
  rw [show tape_tookWord_L16 t _ FU 0 (tpT C q l (-1)) = _ from w]
  have hlt := ltE_le (T := T) hl.2
  have e1 : runF (isL T) (n - q) (q + 0) = ltE T n q := rfl
  rw [e1]
  unfold tape_tookWord_J56 jdk_length
  rw [bI_I, show (stN.getD t 0 : Nat) = wLen t from rfl, bq_eq (by omega) (by omega)]
  unfold wdB
  by_cases g : ltE T n q = q + wLen t
  · rw [if_pos (by omega), decide_eq_true g, Bool.true_and]
    have c := chars_b (K1 := fun M_16 => (sM (mU M_16 1 3 (M_16 1 4)) fun M_19 => (sM (mU M_19 1 4 ((M_19 1 4) + ((ltE T n q - q : Nat) : Int))) fun M_21 => some (rI 1, M_21)))) (K2 := fun M_23 => some (rI 0, M_23)) (t := t) (v2 := ((ltE T n q - q : Nat) : Int)) (p := q) (l := l) (b := -1) h ht (by omega) (by omega) (wLen t) FU 0 (by omega) (FU_gt (by omega))
    rw [show tape_tookWord_L68 t _ _ _ FU 0 (tpT C q l (-1)) = _ from c]
    cases hw : wdA T t q (wLen t) 0 with
    | true =>
      rw [cn_t, if_pos rfl, sM_eq, cT_4, cT_l (x := q) rfl, sM_eq, cT_4, cT_p (x := q + wLen t) (by omega), bI_I]
    | false =>
      rw [cn_f, if_neg (by decide), bI_I]
  · rw [if_neg (by omega), decide_eq_false g, Bool.false_and, if_neg (by decide), bI_I]
theorem word_w {k : Int → MM → OR} {t : Nat} (hb : I32 b) (h : b ≠ -1) : bI (tape_tookWord t (tpT C p l b)) k = k 0 (tpT C p l b) := by
  unfold tape_tookWord
  rw [cT_2, bq_eq hb (by decide), if_neg h, bI_I]
end CT
