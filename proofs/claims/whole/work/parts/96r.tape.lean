/-! ===== CALLS THAT USE THE TAPE ===== -/
def CoreT (M M' : MM) : Prop := (∀ a, coreA a → a ≠ 2 → a ≠ 170 → M' a = M a) ∧ (M' 165 5 = M 165 5 ∧ M' 165 6 = M 165 6) ∧ (M' 0 10 = M 0 10 ∧ M' 0 17 = M 0 17 ∧ M' 0 18 = M 0 18)
theorem Inv_coreT {k k' : Nat} {M M' : MM} (H : Inv k M) (C : CoreT M M') (T : TapeR M') (hk : k ≤ k') (x0 : 0 ≤ M' 999 0) (x1 : M' 999 0 ≤ k') : Inv k' M' := by
  obtain ⟨i1, i2, i3, i4, i5, i6, i7, i8, i9, i10⟩ := H
  obtain ⟨c1, ⟨c4, c5⟩, c8, c9, c10⟩ := C
  have hw : M' 166 = M 166 := c1 166 (by unfold coreA; omega) (by decide) (by decide)
  have c3' : ∀ j, j < 14 → M' (3 + j) = M (3 + j) := fun j hj => c1 _ (by unfold coreA; omega) (by omega) (by omega)
  refine ⟨T, by rw [hw]; exact WF_mono hk i2, by rw [hw]; exact LandR_fr c3' i3, by rw [hw]; exact JnyR_fr (fun j hj => c1 _ (by unfold coreA; omega) (by omega) (by omega)) i4, by rw [hw]; exact LawR_fr (fun j hj => c1 _ (by unfold coreA; omega) (by omega) (by omega)) i5, MemR_fr hk c5 (fun a h1 h2 => c1 _ (by unfold coreA; omega) (by omega) (by omega)) (c1 _ (by unfold coreA; omega) (by decide) (by decide)) c3' (by rw [hw]) i6, ImgR_fr hk c4 c8 (c1 _ (by unfold coreA; omega) (by decide) (by decide)) (fun a h1 h2 => c1 _ (by unfold coreA; omega) (by omega) (by omega)) i7, SrR_fr (c1 _ (by unfold coreA; omega) (by decide) (by decide)) (c1 _ (by unfold coreA; omega) (by decide) (by decide)) c9 c10 hw i8, ⟨x0, x1⟩, by rw [c10]; exact ⟨i10.1, by omega⟩⟩
theorem op_tape {D R : MM → OR} (H : ∀ k M, k ≤ 512 → Inv k M → EXC M → ∃ c z M1 M2, D M = some (rI c, M1) ∧ R M1 = some (rI z, M2) ∧ M2 165 0 = c ∧ I32 c ∧ (c = 0 → M2 181 0 = z ∧ I32 z) ∧ CoreT M M2 ∧ TapeR M2 ∧ (0 ≤ M2 999 0 ∧ M2 999 0 ≤ M 999 0 + 1)) : OpOK D R := by
  intro k M hk hI
  have hx := hI.2.2.2.2.2.2.2.2.1
  obtain ⟨c, z, M1, M2, a1, a2, a3, a4, a5, a6, a7, a8⟩ := H k M (by omega) hI ⟨hx.1, by omega⟩
  exact ⟨c, z, M1, M2, a1, a2, a3, a4, a5, Inv_coreT hI a6 a7 (by omega) a8.1 (by omega)⟩
theorem ok_feed {a b c d e : Int} : OpOK0 (gh_feed a b c d e) (mo_feed a b c d e) := by
  intro k M hk hI
  have hx := hI.2.2.2.2.2.2.2.2.1
  obtain ⟨z, M1, M2, a1, a2, a3, a4, a5, a6, a7⟩ := feed_both (a := a) (b := b) (c := c) (d := d) (e := e) hI.1
  have e999 : M2 999 = M 999 := a7 999 (by decide) (by decide) (by decide) (by decide) (by decide)
  have e0 : M2 0 = M 0 := a7 0 (by decide) (by decide) (by decide) (by decide) (by decide)
  refine ⟨z, M1, M2, a1, a2, ?_, Inv_coreT hI ⟨fun p hp p2 p3 => a7 p (by unfold coreA at hp; omega) p2 (by unfold coreA at hp; omega) p3 (by unfold coreA at hp; omega), ⟨a6 5 (by decide) (by decide), a6 6 (by decide) (by decide)⟩, by rw [e0]; exact ⟨rfl, rfl, rfl⟩⟩ a3 (by omega) (by rw [e999]; exact hx.1) (by rw [e999]; omega)⟩
  obtain ⟨n, t1, t2, t3, -⟩ := hI.1
  by_cases h : n + 20 ≤ 400
  · rw [tape_feed_v t1 h] at a1
    have := congrArg (fun o => Option.map Prod.fst o) a1
    have e : rI ((n + 20 : Nat) : Int) = rI z := Option.some.inj this
    have e2 : ((n + 20 : Nat) : Int) = z := by injection e with e; injection e with e; injection e with e
    omega
  · unfold gh_feed at a1
    rw [bif_f (by rw [cq_le (by omega) (by decide), t1]; exact decide_eq_false (by omega))] at a1
    have := congrArg (fun o => Option.map Prod.fst o) a1
    have e : rI (-1) = rI z := Option.some.inj this
    have e2 : (-1 : Int) = z := by injection e with e; injection e with e; injection e with e
    omega
theorem ok_end {v : Int} (hv : I32 v) : OpOK0 (gh_end v) (mo_end v) := by
  intro k M hk hI
  have hx := hI.2.2.2.2.2.2.2.2.1
  obtain ⟨z, M1, M2, a1, a2, a0, a3, a4, a5, a6, a7⟩ := end_both hv hI.1
  have e999 : M2 999 = M 999 := a7 999 (by decide) (by decide)
  have e0 : M2 0 = M 0 := a7 0 (by decide) (by decide)
  exact ⟨z, M1, M2, a1, a2, by rcases a0 with rfl | rfl <;> decide, Inv_coreT hI ⟨fun p hp p2 p3 => a7 p (by unfold coreA at hp; omega) (by unfold coreA at hp; omega), ⟨a6 5 (by decide) (by decide), a6 6 (by decide) (by decide)⟩, by rw [e0]; exact ⟨rfl, rfl, rfl⟩⟩ a3 (by omega) (by rw [e999]; exact hx.1) (by rw [e999]; omega)⟩
-- pairs of bytes
def twOK (T : Nat → Int) (a b : Int) : Nat → Nat → Bool
  | 0, _ => true
  | n + 1, i => (decide (T (2 * i) < a) && decide (T (2 * i + 1) < b)) && twOK T a b n (i + 1)
theorem twOK_at {T : Nat → Int} {a b : Int} : ∀ n i, twOK T a b n i = true → ∀ j, i ≤ j → j < i + n → T (2 * j) < a ∧ T (2 * j + 1) < b
  | 0, i, _, j, h1, h2 => by omega
  | n + 1, i, h, j, h1, h2 => by
    have h' : ((decide (T (2 * i) < a) && decide (T (2 * i + 1) < b)) && twOK T a b n (i + 1)) = true := h
    rw [Bool.and_eq_true, Bool.and_eq_true] at h'
    by_cases e : j = i
    · subst e
      exact ⟨of_decide_eq_true h'.1.1, of_decide_eq_true h'.1.2⟩
    · exact twOK_at n (i + 1) h'.2 j (by omega) (by omega)
section Pairs
variable {M : MM} {n : Nat} {a b : Int}
theorem pairs_c {K1 K2 : MM → OR} (hT : ∀ j, j < n → 0 ≤ M 2 j ∧ M 2 j < 256) (ha : I32 a) (hb : I32 b) (hn : n ≤ 400) (h2 : n % 2 = 0) : ∀ m F i, 2 * i + 2 * m = n → m < F → tape_useUpPairs_L21 a b (n : Int) K1 K2 F ((2 * i : Nat) : Int) M = bif twOK (M 2) a b m i then K1 M else K2 M
  | 0, F, i, hi, hF => by
    obtain ⟨f, rfl⟩ : ∃ n, F = n + 1 := ⟨F - 1, by omega⟩
    rw [tape_useUpPairs_L21, bq_ge (by omega) (by omega), if_pos (by omega), twOK, cn_t]
  | m + 1, F, i, hi, hF => by
    obtain ⟨f, rfl⟩ : ∃ n, F = n + 1 := ⟨F - 1, by omega⟩
    have t1 := hT (2 * i) (by omega)
    have t2 := hT (2 * i + 1) (by omega)
    rw [tape_useUpPairs_L21, bq_ge (by omega) (by omega), if_neg (by omega), bq_in (by omega) (by omega), Int.toNat_natCast, bq_ge (by omega) ha, twOK]
    by_cases c1 : M 2 (2 * i) < a
    · rw [if_neg (by omega), bq_in (by omega) (by omega), show ((2 * i : Nat) : Int) + 1 = ((2 * i + 1 : Nat) : Int) by omega, Int.toNat_natCast, bq_lt (by omega) hb, decide_eq_true c1, Bool.true_and]
      by_cases c2 : M 2 (2 * i + 1) < b
      · rw [if_pos c2, decide_eq_true c2, Bool.true_and, show ((2 * i : Nat) : Int) + 2 = ((2 * (i + 1) : Nat) : Int) by omega]
        exact pairs_c hT ha hb hn h2 m f (i + 1) (by omega) (by omega)
      · rw [if_neg c2, decide_eq_false c2, Bool.false_and, cn_f]
    · rw [if_pos (by omega), decide_eq_false c1, Bool.false_and, Bool.false_and, cn_f]
def prOK (T : Nat → Int) (a b : Int) (n : Nat) : Bool := decide (n % 2 = 0) && twOK T a b (n / 2) 0
theorem useUp_b {k : Int → MM → OR} (hT : ∀ j, j < n → 0 ≤ M 2 j ∧ M 2 j < 256) (h1 : M 1 1 = n) (ha : I32 a) (hb : I32 b) (hn : n ≤ 400) : bI (tape_useUpPairs a b M) k = k (if prOK (M 2) a b n = true then ((n / 2 : Nat) : Int) else -1) (mU M 1 1 0) := by
  unfold tape_useUpPairs prOK
  have em : (w32 ((n : Nat) : Int)).tmod (w32 2) = ((n % 2 : Nat) : Int) := by
    rw [nw (show I32 ((n : Nat) : Int) by omega), show w32 2 = 2 from rfl]; rfl
  have ed : (w32 ((n : Nat) : Int)).tdiv (w32 2) = ((n / 2 : Nat) : Int) := by
    rw [nw (show I32 ((n : Nat) : Int) by omega), show w32 2 = 2 from rfl]; rfl
  rw [sM_eq, h1, em, ed, bq_eq (by omega) (by decide)]
  by_cases h2 : n % 2 = 0
  · rw [if_pos (by omega), decide_eq_true h2, Bool.true_and]
    have := pairs_c (M := mU M 1 1 0) (n := n) (K1 := fun M_3 => some (rI ((n / 2 : Nat) : Int), M_3)) (K2 := fun M_8 => some (rI (-1), M_8)) (fun j hj => hT j hj) ha hb hn h2 (n / 2) FU 0 (by omega) (FU_gt (by omega))
    rw [show tape_useUpPairs_L21 a b (n : Int) _ _ FU 0 (mU M 1 1 0) = _ from this]
    show bI (bif twOK (M 2) a b (n / 2) 0 then _ else _) k = _
    cases twOK (M 2) a b (n / 2) 0 with
    | true => rw [cn_t, if_pos rfl, bI_I]
    | false => rw [cn_f, if_neg (by decide), bI_I]
  · rw [if_neg (by omega), decide_eq_false h2, Bool.false_and, if_neg (by decide), bI_I]
/-- the tape as the reference holds it -/
def sgB (x : Int) : Int := if x < 128 then x else x - 256
theorem pairs_r {K : Int → MM → OR} {T : Nat → Int} (hT : ∀ j, j < n → 0 ≤ T j ∧ T j < 256 ∧ M 170 j = sgB (T j)) (ha : 0 ≤ a ∧ a ≤ 100) (hb : 0 ≤ b ∧ b ≤ 100) (hn : n ≤ 400) (h2 : n % 2 = 0) (h10 : M 165 10 = n) : ∀ m F i, 2 * i + 2 * m = n → m + 1 < F → mo_readTwos_L22 a b K F 1 ((2 * i : Nat) : Int) M = K (b2 (twOK T (a + 1) (b + 1) m i)) M
  | 0, F, i, hi, hF => by
    obtain ⟨f, rfl⟩ : ∃ n, F = n + 1 := ⟨F - 1, by omega⟩
    rw [mo_readTwos_L22, h10, bq_ge (by omega) (by omega), if_pos (by omega)]; rfl
  | m + 1, F, i, hi, hF => by
    obtain ⟨f, rfl⟩ : ∃ n, F = n + 1 := ⟨F - 1, by omega⟩
    obtain ⟨g, rfl⟩ : ∃ n, f = n + 1 := ⟨f - 1, by omega⟩
    have t1 := hT (2 * i) (by omega)
    have t2 := hT (2 * i + 1) (by omega)
    have s1 : I32 (M 170 (2 * i)) ∧ ((0 ≤ M 170 (2 * i) ∧ M 170 (2 * i) ≤ a) ↔ T (2 * i) < a + 1) := by
      rw [t1.2.2]
      unfold sgB
      split <;> omega
    have s2 : I32 (M 170 (2 * i + 1)) ∧ ((0 ≤ M 170 (2 * i + 1) ∧ M 170 (2 * i + 1) ≤ b) ↔ T (2 * i + 1) < b + 1) := by
      rw [t2.2.2]
      unfold sgB
      split <;> omega
    have stop : ∀ v : Int, I32 (v + 1) → mo_readTwos_L22 a b K (g + 1) 0 v M = K 0 M := fun v hv => by
      rw [mo_readTwos_L22, h10, bq_ge hv (by omega)]
      by_cases g1 : (n : Int) ≤ v + 1
      · rw [if_pos g1]
      · rw [if_neg g1, bq_eq (by decide) (by decide), if_pos rfl]
    rw [mo_readTwos_L22, h10, bq_ge (by omega) (by omega), if_neg (by omega), bq_eq (by decide) (by decide), if_neg (by decide), bq_in (by omega) (by omega), Int.toNat_natCast, mo_in_b s1.1 (by decide) (by omega), bz_eq0, twOK]
    by_cases c1 : T (2 * i) < a + 1
    · rw [decide_eq_true (s1.2.mpr c1), cn_t, bq_in (by omega) (by omega), show ((2 * i : Nat) : Int) + 1 = ((2 * i + 1 : Nat) : Int) by omega, Int.toNat_natCast, mo_in_b s2.1 (by decide) (by omega), bz_eq0, decide_eq_true c1, Bool.true_and]
      by_cases c2 : T (2 * i + 1) < b + 1
      · rw [decide_eq_true (s2.2.mpr c2), cn_t, decide_eq_true c2, Bool.true_and, show ((2 * i : Nat) : Int) + 2 = ((2 * (i + 1) : Nat) : Int) by omega]
        exact pairs_r hT ha hb hn h2 h10 m (g + 1) (i + 1) (by omega) (by omega)
      · rw [decide_eq_false (fun g => c2 (s2.2.mp g)), cn_f, decide_eq_false c2, Bool.false_and, stop _ (by omega)]; rfl
    · rw [decide_eq_false (fun g => c1 (s1.2.mp g)), cn_f, decide_eq_false c1, Bool.false_and, Bool.false_and, stop _ (by omega)]; rfl
def usM (M : MM) (n : Nat) : MM := mU (mU (mU (mU M 165 0 0) 165 10 (n : Int)) 165 8 0) 165 9 0
theorem readTwos_b {k : Int → MM → OR} {T : Nat → Int} (hT : ∀ j, j < n → 0 ≤ T j ∧ T j < 256 ∧ M 170 j = sgB (T j)) (h8 : M 165 8 = n) (ha : 0 ≤ a ∧ a ≤ 100) (hb : 0 ≤ b ∧ b ≤ 100) (hn : n ≤ 400) : bI (mo_readTwos a b M) k = k (b2 (prOK T (a + 1) (b + 1) n)) (usM M n) := by
  unfold mo_readTwos mo_uses mo_readTwos_J18 prOK
  have em : (w32 ((n : Nat) : Int)).tmod (w32 2) = ((n % 2 : Nat) : Int) := by
    rw [nw (show I32 ((n : Nat) : Int) by omega), show w32 2 = 2 from rfl]; rfl
  have e8 : (mU M 165 0 0) 165 8 = (n : Int) := h8
  rw [sM_eq, sM_eq, sM_eq, sM_eq, bV_V, e8]
  have hu : mU (mU (mU (mU M 165 0 0) 165 10 (n : Int)) 165 8 0) 165 9 0 = usM M n := rfl
  rw [hu]
  have e10 : (usM M n) 165 10 = (n : Int) := rfl
  rw [e10, em, bq_ne (by omega) (by decide)]
  by_cases h2 : n % 2 = 0
  · rw [if_pos (by omega), decide_eq_true h2, Bool.true_and]
    have := pairs_r (M := usM M n) (K := fun v3_10 M_11 => (bif zo v3_10 then some (rI v3_10, M_11) else none)) hT ha hb hn h2 e10 (n / 2) FU 0 (by omega) (FU_gt (by omega))
    rw [show mo_readTwos_L22 a b _ FU 1 0 (usM M n) = _ from this, bz_zo, bI_I]
  · rw [if_neg (by omega), decide_eq_false h2, Bool.false_and]
    obtain ⟨f, hf⟩ : ∃ f, FU = f + 1 := ⟨FU - 1, by have := FU_gt (n := 1) (by decide); omega⟩
    rw [hf, mo_readTwos_L22, e10, bq_ge (by decide) (by omega), bq_eq (by decide) (by decide), if_pos rfl, ite_self, zo_0, bI_I]; rfl
end Pairs
