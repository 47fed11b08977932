set_option maxRecDepth 16384
/-! ===== THE TAPE on both sides ===== -/
def TapeR (M : MM) : Prop := ∃ n : Nat, M 1 1 = n ∧ M 165 8 = n ∧ n ≤ 400 ∧ M 1 2 = M 165 13 ∧ (-1 ≤ M 1 2 ∧ M 1 2 ≤ 400) ∧ ∀ j, j < n → 0 ≤ M 2 j ∧ M 2 j < 256 ∧ M 170 j = if M 2 j < 128 then M 2 j else M 2 j - 256
theorem sM_eq {M : MM} {k : MM → OR} : sM M k = k M := rfl
theorem mo_feed_v {M : MM} {n : Nat} {a b c d e : Int} (hn : M 165 8 = n) (h : n + 20 ≤ 400) : ∃ M', mo_feed a b c d e M = some (rI ((n + 20 : Nat) : Int), M') ∧ M' 165 8 = ((n + 20 : Nat) : Int) ∧ M' 165 0 = 0 ∧ (∀ k, k ≠ 0 → k ≠ 8 → M' 165 k = M 165 k) ∧
    (∀ k, M' 170 k = if n ≤ k ∧ k < n + 20 then nB (iB (iShr (if (k - n) / 4 = 0 then a else if (k - n) / 4 = 1 then b else if (k - n) / 4 = 2 then c else if (k - n) / 4 = 3 then d else e) (24 - 8 * (((k - n) % 4 : Nat) : Int)))) else M 170 k) ∧ ∀ p, p ≠ 165 → p ≠ 170 → p ≠ 171 → M' p = M p := by
  unfold mo_feed
  show ∃ M', (bif cmpB .le ((mU M 165 0 0) 165 8 + 20) 400 then _ else _) = _ ∧ _
  have e8 : (mU M 165 0 0) 165 8 = n := hn
  rw [e8, bif_t (by rw [cq_le (by omega) (by decide)]; exact decide_eq_true (by omega))]
  generalize hM5 : mU (mU (mU (mU (mU (mU M 165 0 0) 171 0 a) 171 1 b) 171 2 c) 171 3 d) 171 4 e = M5
  have hf : ∀ i, i < 5 → M5 171 i = (if i = 0 then a else if i = 1 then b else if i = 2 then c else if i = 3 then d else e) := by
    intro i hi
    rw [← hM5]
    match i, hi with
    | 0, _ => rfl
    | 1, _ => rfl
    | 2, _ => rfl
    | 3, _ => rfl
    | 4, _ => rfl
    | i + 5, h9 => exact absurd h9 (by omega)
  have h165 : M5 165 = (mU M 165 0 0) 165 := by rw [← hM5]; rfl
  have hoff : ∀ p, p ≠ 165 → p ≠ 171 → M5 p = M p := fun p h1 h2 => by rw [← hM5, mU_ne h2, mU_ne h2, mU_ne h2, mU_ne h2, mU_ne h2, mU_ne h1]
  have hn5 : M5 165 8 = n := by rw [h165]; exact hn
  generalize hg : (fun j => nB (iB (iShr (M5 171 (j / 4)) (24 - 8 * ((j % 4 : Nat) : Int))))) = g
  have key : ∀ (K : MM → OR) (F : Nat), mo_feed_L60 K (F + 1 + 20) 0 M5 = K (flM M5 170 n (n + 20) g) := fun K F => by
    have k9 := mo_feed_L60_v (M := M5) (K := K) (n := n) (g := g) (F := F) hn5 h (fun j _ => by rw [← hg]) 20 0 rfl
    rw [show n + 0 = n from rfl, flM_0] at k9
    exact k9
  rw [bif_t (show inB 0 5 = true by decide), sM_eq, bif_t (show inB 1 5 = true by decide), sM_eq, bif_t (show inB 2 5 = true by decide), sM_eq, bif_t (show inB 3 5 = true by decide), sM_eq, bif_t (show inB 4 5 = true by decide), sM_eq, hM5]
  have eF : FU = 999979 + 1 + 20 := rfl
  rw [eF, key, sM_eq]
  refine ⟨mU (flM M5 170 n (n + 20) g) 165 8 ((n + 20 : Nat) : Int), ?_, rfl, ?_, ?_, ?_, ?_⟩
  · have e9 : mU (flM M5 170 n (n + 20) g) 165 8 ((flM M5 170 n (n + 20) g) 165 8 + 20) = mU (flM M5 170 n (n + 20) g) 165 8 ((n + 20 : Nat) : Int) := by
      rw [flM_ne (by decide), hn5]; rfl
    rw [e9]
    rfl
  · rw [mU_eq, up_ne (by decide), flM_ne (by decide), h165]; rfl
  · intro k h1 h2
    rw [mU_eq, up_ne h2, flM_ne (by decide), h165, mU_eq, up_ne h1]
  · intro k
    rw [mU_ne (by decide)]
    unfold flM
    rw [mV_eq]
    by_cases hk : n ≤ k ∧ k < n + 20
    · rw [if_pos hk, if_pos hk, ← hg]
      show nB (iB (iShr (M5 171 ((k - n) / 4)) _)) = _
      rw [hf _ (by omega)]
    · rw [if_neg hk, if_neg hk, hoff 170 (by decide) (by decide)]
  · intro p h1 h2 h3
    rw [mU_ne h1, flM_ne h2, hoff p h1 h3]
/-- promise 2 -/
theorem feed_both {M : MM} {a b c d e : Int} (T : TapeR M) : ∃ z M1 M2, gh_feed a b c d e M = some (rI z, M1) ∧ mo_feed a b c d e M1 = some (rI z, M2) ∧ TapeR M2 ∧ M2 165 0 = 0 ∧ (∀ k, k ≠ 1 → M2 1 k = M 1 k) ∧ (∀ k, k ≠ 0 → k ≠ 8 → M2 165 k = M 165 k) ∧ ∀ p, p ≠ 1 → p ≠ 2 → p ≠ 165 → p ≠ 170 → p ≠ 171 → M2 p = M p := by
  obtain ⟨n, t1, t2, t3, t4, t5, t6⟩ := T
  by_cases h : n + 20 ≤ 400
  · generalize hf : (fun j => by4 (if j / 4 = 0 then a else if j / 4 = 1 then b else if j / 4 = 2 then c else if j / 4 = 3 then d else e) (j % 4)) = f
    have g1 := tape_feed_v (a := a) (b := b) (c := c) (d := d) (e := e) t1 h
    rw [hf] at g1
    have h8 : (tpM M n (n + 20) f) 165 8 = n := t2
    obtain ⟨M2, g2, q1, q2, q3, q4, q5⟩ := mo_feed_v (a := a) (b := b) (c := c) (d := d) (e := e) h8 h
    have p1 : M2 1 = up (M 1) 1 ((n + 20 : Nat) : Int) := q5 1 (by decide) (by decide) (by decide)
    have p2 : M2 2 = fun k => if n ≤ k ∧ k < n + 20 then f (k - n) else M 2 k := q5 2 (by decide) (by decide) (by decide)
    refine ⟨_, _, M2, g1, g2, ⟨n + 20, by rw [p1, up_eq], q1, h, ?_, ?_, ?_⟩, q2, fun k hk => by rw [p1, up_ne hk], fun k h1 h2 => q3 k h1 h2, fun p h1 h2 h3 h4 h5 => ?_⟩
    · rw [p1, up_ne (by decide), q3 13 (by decide) (by decide)]; exact t4
    · rw [p1, up_ne (by decide)]; exact t5
    · intro j hj
      rw [p2, q4 j]
      show 0 ≤ (if n ≤ j ∧ j < n + 20 then f (j - n) else M 2 j) ∧ (if n ≤ j ∧ j < n + 20 then f (j - n) else M 2 j) < 256 ∧ _ = if (if n ≤ j ∧ j < n + 20 then f (j - n) else M 2 j) < 128 then (if n ≤ j ∧ j < n + 20 then f (j - n) else M 2 j) else (if n ≤ j ∧ j < n + 20 then f (j - n) else M 2 j) - 256
      by_cases hk : n ≤ j ∧ j < n + 20
      · rw [if_pos hk, if_pos hk, ← hf]
        exact by4_sg _ _ (Nat.mod_lt _ (by decide))
      · rw [if_neg hk, if_neg hk]
        exact t6 j (by omega)
    · rw [q5 p h3 h4 h5]
      show (if p = 2 then _ else if p = 1 then _ else M p) = M p
      rw [if_neg h2, if_neg h1]
  · refine ⟨-1, M, mU M 165 0 0, ?_, ?_, ⟨n, t1, t2, t3, t4, t5, t6⟩, rfl, fun k _ => rfl, fun k h1 _ => ?_, fun p _ _ h3 _ _ => mU_ne h3⟩
    · unfold gh_feed
      rw [bif_f (by rw [cq_le (by omega) (by decide), t1]; exact decide_eq_false (by omega))]
    · unfold mo_feed
      show (bif cmpB .le ((mU M 165 0 0) 165 8 + 20) 400 then _ else _) = _
      have e8 : (mU M 165 0 0) 165 8 = n := t2
      rw [e8, bif_f (by rw [cq_le (by omega) (by decide)]; exact decide_eq_false (by omega))]
    · rw [mU_eq, up_ne h1]
/-- promise 3 -/
theorem end_both {M : MM} {v : Int} (hv : I32 v) (T : TapeR M) : ∃ z M1 M2, gh_end v M = some (rI z, M1) ∧ mo_end v M1 = some (rI z, M2) ∧ (z = 0 ∨ z = 1) ∧ TapeR M2 ∧ M2 165 0 = 0 ∧ (∀ k, k ≠ 1 → M2 1 k = M 1 k) ∧ (∀ k, k ≠ 0 → k ≠ 8 → M2 165 k = M 165 k) ∧ ∀ p, p ≠ 1 → p ≠ 165 → M2 p = M p := by
  obtain ⟨n, t1, t2, t3, t4, t5, t6⟩ := T
  by_cases h0 : v < 0
  · refine ⟨0, M, mU M 165 0 0, ?_, ?_, Or.inl rfl, ⟨n, t1, t2, t3, t4, t5, t6⟩, rfl, fun _ _ => rfl, fun k h1 _ => by rw [mU_eq, up_ne h1], fun p _ h2 => mU_ne h2⟩
    · unfold gh_end
      rw [bif_t (by rw [cq_lt hv (by decide)]; exact decide_eq_true h0)]
    · unfold mo_end
      dsimp only [sM]
      rw [bif_t (by rw [cq_lt hv (by decide)]; exact decide_eq_true h0)]
  · by_cases h1 : v ≤ n
    · obtain ⟨m, rfl⟩ : ∃ m : Nat, v = (m : Int) := ⟨v.toNat, by omega⟩
      refine ⟨1, mU M 1 1 m, mU (mU (mU M 1 1 m) 165 0 0) 165 8 m, ?_, ?_, Or.inr rfl, ⟨m, rfl, rfl, by omega, t4, t5, fun j hj => t6 j (by omega)⟩, rfl, fun k hk => ?_, fun k k1 k2 => ?_, fun p p1 p2 => ?_⟩
      · unfold gh_end
        dsimp only [sM]
        rw [bif_f (by rw [cq_lt hv (by decide)]; exact decide_eq_false h0), bif_t (by rw [cq_le hv (by omega), t1]; exact decide_eq_true h1)]
      · unfold mo_end
        dsimp only [sM]
        have e8 : (mU (mU M 1 1 m) 165 0 0) 165 8 = n := t2
        rw [bif_f (by rw [cq_lt hv (by decide)]; exact decide_eq_false h0), e8, bif_t (by rw [cq_le hv (by omega)]; exact decide_eq_true h1)]
      · show up (M 1) 1 (m : Int) k = _
        rw [up_ne hk]
      · rw [mU_eq, up_ne k2, mU_eq, up_ne k1]; rfl
      · rw [mU_ne p2, mU_ne p2, mU_ne p1]
    · refine ⟨0, M, mU M 165 0 0, ?_, ?_, Or.inl rfl, ⟨n, t1, t2, t3, t4, t5, t6⟩, rfl, fun _ _ => rfl, fun k h1 _ => by rw [mU_eq, up_ne h1], fun p _ h2 => mU_ne h2⟩
      · unfold gh_end
        rw [bif_f (by rw [cq_lt hv (by decide)]; exact decide_eq_false h0), bif_f (by rw [cq_le hv (by omega), t1]; exact decide_eq_false h1)]
      · unfold mo_end
        dsimp only [sM]
        have e8 : (mU M 165 0 0) 165 8 = n := t2
        rw [bif_f (by rw [cq_lt hv (by decide)]; exact decide_eq_false h0), e8, bif_f (by rw [cq_le hv (by omega)]; exact decide_eq_false h1)]
/-- promise 6 -/
theorem fault_both {M : MM} (T : TapeR M) : ∃ z M2, gh_fault M = some (rI z, M) ∧ mo_fault M = some (rI z, M2) ∧ M2 = mU M 165 0 0 := by
  obtain ⟨n, t1, t2, t3, t4, t5, t6⟩ := T
  refine ⟨M 1 2, _, rfl, ?_, rfl⟩
  unfold mo_fault sM
  rw [t4]
  rfl
