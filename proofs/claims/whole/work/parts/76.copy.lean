/-! ===== COPIES: lands, laws, journeys ===== -/
theorem if_ne {α : Type} {p q : Nat} {x y : α} (h : p ≠ q) : (if p = q then x else y) = y := if_neg h
theorem copyRow_b {M : MM} {a b n : Nat} {k : MM → OR} : bV (land_copyRow a b n M) k = k (mV M b (fun j => if j < n then M a j else M b j)) := rfl
theorem jny_copy_v {M : MM} {a b : Nat} (h : a + 5 < b ∨ b + 5 < a) : ∃ M', jny_copyFrom a b M = some (rV, M') ∧ (∀ k, k < 9 → M' a k = M b k) ∧ (∀ j, j < 10 → M' (a + 1) j = M (b + 1) j) ∧ (∀ j, j < 7 → M' (a + 2) j = M (b + 2) j) ∧ (∀ j, j < 10 → M' (a + 3) j = M (b + 3) j ∧ M' (a + 4) j = M (b + 4) j ∧ M' (a + 5) j = M (b + 5) j) ∧ ∀ p, (p < a ∨ a + 5 < p) → M' p = M p := by
  unfold jny_copyFrom
  rw [sM_eq]
  try simp (disch := omega) only [mU_ne, mV_ne]
  rw [sM_eq]
  try simp (disch := omega) only [mU_ne, mV_ne]
  rw [sM_eq]
  try simp (disch := omega) only [mU_ne, mV_ne]
  rw [sM_eq]
  try simp (disch := omega) only [mU_ne, mV_ne]
  rw [sM_eq]
  try simp (disch := omega) only [mU_ne, mV_ne]
  rw [sM_eq]
  try simp (disch := omega) only [mU_ne, mV_ne]
  rw [sM_eq]
  try simp (disch := omega) only [mU_ne, mV_ne]
  rw [sM_eq]
  try simp (disch := omega) only [mU_ne, mV_ne]
  rw [sM_eq]
  try simp (disch := omega) only [mU_ne, mV_ne]
  rw [copyRow_b]
  try simp (disch := omega) only [mU_ne, mV_ne]
  rw [copyRow_b]
  try simp (disch := omega) only [mU_ne, mV_ne]
  rw [copyRow_b]
  try simp (disch := omega) only [mU_ne, mV_ne]
  rw [copyRow_b]
  try simp (disch := omega) only [mU_ne, mV_ne]
  rw [copyRow_b]
  try simp (disch := omega) only [mU_ne, mV_ne]
  refine ⟨_, rfl, fun k hk => ?_, fun j hj => ?_, fun j hj => ?_, fun j hj => ?_, fun p hp => ?_⟩
  · rcases (show k = 0 ∨ k = 1 ∨ k = 2 ∨ k = 3 ∨ k = 4 ∨ k = 5 ∨ k = 6 ∨ k = 7 ∨ k = 8 by omega) with rfl | rfl | rfl | rfl | rfl | rfl | rfl | rfl | rfl <;> simp (disch := omega) only [mV_ne, mU_eq, up_eq, up_ne]
  · simp (disch := omega) only [mV_ne, mU_ne, mV_eq, hj, if_true]
  · simp (disch := omega) only [mV_ne, mU_ne, mV_eq, hj, if_true]
  · refine ⟨?_, ?_, ?_⟩ <;> simp (disch := omega) only [mV_ne, mU_ne, mV_eq, hj, if_true]
  · simp (disch := omega) only [mV_ne, mU_ne]
theorem land_copy_v {M : MM} {a b : Nat} (h : a + 13 < b ∨ b + 13 < a) : ∃ M', land_copyFrom a b M = some (rV, M') ∧ (∀ k, k < 7 → M' a k = M b k) ∧ (∀ j, j < 17 → M' (a + 1) j = M (b + 1) j ∧ M' (a + 2) j = M (b + 2) j) ∧ (∀ j, j < 10 → M' (a + 3) j = M (b + 3) j ∧ M' (a + 4) j = M (b + 4) j ∧ M' (a + 5) j = M (b + 5) j ∧ M' (a + 6) j = M (b + 6) j ∧ M' (a + 7) j = M (b + 7) j) ∧ (∀ j, j < 32 → M' (a + 8) j = M (b + 8) j) ∧ (∀ j, j < 16 → M' (a + 9) j = M (b + 9) j ∧ M' (a + 10) j = M (b + 10) j) ∧ (∀ j, j < 7 → M' (a + 11) j = M (b + 11) j ∧ M' (a + 12) j = M (b + 12) j ∧ M' (a + 13) j = M (b + 13) j) ∧ ∀ p, (p < a ∨ a + 13 < p) → M' p = M p := by
  unfold land_copyFrom
  rw [sM_eq]
  try simp (disch := omega) only [mU_ne, mV_ne]
  rw [sM_eq]
  try simp (disch := omega) only [mU_ne, mV_ne]
  rw [sM_eq]
  try simp (disch := omega) only [mU_ne, mV_ne]
  rw [sM_eq]
  try simp (disch := omega) only [mU_ne, mV_ne]
  rw [sM_eq]
  try simp (disch := omega) only [mU_ne, mV_ne]
  rw [sM_eq]
  try simp (disch := omega) only [mU_ne, mV_ne]
  rw [sM_eq]
  try simp (disch := omega) only [mU_ne, mV_ne]
  rw [copyRow_b]
  try simp (disch := omega) only [mU_ne, mV_ne]
  rw [copyRow_b]
  try simp (disch := omega) only [mU_ne, mV_ne]
  rw [copyRow_b]
  try simp (disch := omega) only [mU_ne, mV_ne]
  rw [copyRow_b]
  try simp (disch := omega) only [mU_ne, mV_ne]
  rw [copyRow_b]
  try simp (disch := omega) only [mU_ne, mV_ne]
  rw [copyRow_b]
  try simp (disch := omega) only [mU_ne, mV_ne]
  rw [copyRow_b]
  try simp (disch := omega) only [mU_ne, mV_ne]
  rw [copyRow_b]
  try simp (disch := omega) only [mU_ne, mV_ne]
  rw [copyRow_b]
  try simp (disch := omega) only [mU_ne, mV_ne]
  rw [copyRow_b]
  try simp (disch := omega) only [mU_ne, mV_ne]
  rw [copyRow_b]
  try simp (disch := omega) only [mU_ne, mV_ne]
  rw [copyRow_b]
  try simp (disch := omega) only [mU_ne, mV_ne]
  rw [copyRow_b]
  try simp (disch := omega) only [mU_ne, mV_ne]
  refine ⟨_, rfl, fun k hk => ?_, fun j hj => ?_, fun j hj => ?_, fun j hj => ?_, fun j hj => ?_, fun j hj => ?_, fun p hp => ?_⟩
  · rcases (show k = 0 ∨ k = 1 ∨ k = 2 ∨ k = 3 ∨ k = 4 ∨ k = 5 ∨ k = 6 by omega) with rfl | rfl | rfl | rfl | rfl | rfl | rfl <;> simp (disch := omega) only [mV_ne, mU_eq, up_eq, up_ne]
  · refine ⟨?_, ?_⟩ <;> simp (disch := omega) only [mV_ne, mU_ne, mV_eq, hj, if_true]
  · refine ⟨?_, ?_, ?_, ?_, ?_⟩ <;> simp (disch := omega) only [mV_ne, mU_ne, mV_eq, hj, if_true]
  · simp (disch := omega) only [mV_ne, mU_ne, mV_eq, hj, if_true]
  · refine ⟨?_, ?_⟩ <;> simp (disch := omega) only [mV_ne, mU_ne, mV_eq, hj, if_true]
  · refine ⟨?_, ?_, ?_⟩ <;> simp (disch := omega) only [mV_ne, mU_ne, mV_eq, hj, if_true]
  · simp (disch := omega) only [mV_ne, mU_ne]
theorem law_copy_v {M : MM} {a b : Nat} (h : a + 3 < b ∨ b + 3 < a) : ∃ M', law_copyFrom a b M = some (rV, M') ∧ M' a 0 = M b 0 ∧ M' a 4 = M b 4 ∧ (∀ j, j < 12 → M' (a + 1) j = M (b + 1) j ∧ M' (a + 2) j = M (b + 2) j) ∧ (∀ j, j < 400 → M' (a + 3) j = M (b + 3) j) ∧ ∀ p, (p < a ∨ a + 3 < p) → M' p = M p := by
  unfold law_copyFrom
  rw [sM_eq]
  try simp (disch := omega) only [mU_ne, mV_ne]
  rw [sM_eq]
  try simp (disch := omega) only [mU_ne, mV_ne]
  rw [copyRow_b]
  try simp (disch := omega) only [mU_ne, mV_ne]
  rw [copyRow_b]
  try simp (disch := omega) only [mU_ne, mV_ne]
  rw [copyRow_b]
  try simp (disch := omega) only [mU_ne, mV_ne]
  refine ⟨_, rfl, ?_, ?_, fun j hj => ?_, fun j hj => ?_, fun p hp => ?_⟩
  · simp (disch := omega) only [mV_ne, mU_eq, up_eq, up_ne]
  · simp (disch := omega) only [mV_ne, mU_eq, up_eq, up_ne]
  · refine ⟨?_, ?_⟩ <;> simp (disch := omega) only [mV_ne, mU_ne, mV_eq, hj, if_true]
  · simp (disch := omega) only [mV_ne, mU_ne, mV_eq, hj, if_true]
  · simp (disch := omega) only [mV_ne, mU_ne]
-- what is read of a journey, a land, a law
theorem JnyR_cp {a b n : Nat} {w : Nat → Int} {M M' : MM} (hC : WC n w) (h1 : ∀ k, k < 9 → M' a k = M b k) (h2 : ∀ j, j < 10 → M' (a + 1) j = M (b + 1) j) (h3 : ∀ j, j < 7 → M' (a + 2) j = M (b + 2) j) (h4 : ∀ j, j < 10 → M' (a + 3) j = M (b + 3) j ∧ M' (a + 4) j = M (b + 4) j ∧ M' (a + 5) j = M (b + 5) j) (H : JnyR b w M) : JnyR a w M' := by
  obtain ⟨⟨j0, j1, j2, j8⟩, j3, j4, j5, j6, j7, q1, q2, q3, q4⟩ := H
  obtain ⟨c0, c1, c2, c3, c4, c5, c6, c7, c8, c9, -⟩ := hC
  refine ⟨⟨(h1 0 (by decide)).trans j0, (h1 1 (by decide)).trans j1, (h1 2 (by decide)).trans j2, (h1 8 (by decide)).trans j8⟩, (h1 3 (by decide)).trans j3, (h1 4 (by decide)).trans j4, (h1 5 (by decide)).trans j5, (h1 6 (by decide)).trans j6, (h1 7 (by decide)).trans j7, fun t g1 g2 => (h2 _ (by omega)).trans (q1 t g1 g2), fun t g1 g2 => (h2 _ (by omega)).trans (q2 t g1 g2), fun t g1 g2 g3 => (h3 _ (by omega)).trans (q3 t g1 g2 g3), fun k g1 g2 => ?_⟩
  obtain ⟨e1, e2, e3⟩ := h4 k.toNat (by omega)
  obtain ⟨f1, f2, f3⟩ := q4 k g1 g2
  exact ⟨e1.trans f1, e2.trans f2, e3.trans f3⟩
theorem LandR_cp {a b n : Nat} {w : Nat → Int} {M M' : MM} (hC : WC n w) (h1 : ∀ k, k < 7 → M' a k = M b k) (h2 : ∀ j, j < 17 → M' (a + 1) j = M (b + 1) j ∧ M' (a + 2) j = M (b + 2) j) (h3 : ∀ j, j < 10 → M' (a + 3) j = M (b + 3) j ∧ M' (a + 4) j = M (b + 4) j ∧ M' (a + 5) j = M (b + 5) j ∧ M' (a + 6) j = M (b + 6) j ∧ M' (a + 7) j = M (b + 7) j) (h4 : ∀ j, j < 32 → M' (a + 8) j = M (b + 8) j) (h5 : ∀ j, j < 16 → M' (a + 9) j = M (b + 9) j ∧ M' (a + 10) j = M (b + 10) j) (h6 : ∀ j, j < 7 → M' (a + 11) j = M (b + 11) j ∧ M' (a + 12) j = M (b + 12) j ∧ M' (a + 13) j = M (b + 13) j) (H : LandR b w M) : LandR a w M' := by
  obtain ⟨⟨l0, l1, l2, l3, l4⟩, l5, l6, q1, q2, q3, q4⟩ := H
  obtain ⟨c0, c1, c2, c3, c4, c5, c6, c7, c8, c9, -⟩ := hC
  refine ⟨⟨(h1 0 (by decide)).trans l0, (h1 1 (by decide)).trans l1, (h1 2 (by decide)).trans l2, (h1 3 (by decide)).trans l3, (h1 4 (by decide)).trans l4⟩, (h1 5 (by decide)).trans l5, (h1 6 (by decide)).trans l6, fun p g1 g2 g3 => ?_, fun t g1 g2 => ?_, fun r g1 g2 => ?_, fun b' g1 g2 => ?_⟩
  · obtain ⟨e1, e2, e3, e4, e5⟩ := q1 p g1 g2 g3
    obtain ⟨f1, f2, f3, -⟩ := h3 p.toNat (by omega)
    exact ⟨(h2 _ (by omega)).1.trans e1, (h2 _ (by omega)).2.trans e2, f1.trans e3, f2.trans e4, f3.trans e5⟩
  · obtain ⟨e1, e2⟩ := q2 t g1 g2
    obtain ⟨-, -, -, f4, f5⟩ := h3 t.toNat (by omega)
    exact ⟨f4.trans e1, f5.trans e2⟩
  · obtain ⟨e1, e2, e3, e4⟩ := q3 r g1 g2
    exact ⟨(h4 _ (by omega)).trans e1, (h4 _ (by omega)).trans e2, (h5 _ (by omega)).1.trans e3, (h5 _ (by omega)).2.trans e4⟩
  · obtain ⟨e1, e2, e3, e4, e5⟩ := q4 b' g1 g2
    obtain ⟨f1, f2, f3⟩ := h6 b'.toNat (by omega)
    exact ⟨f1.trans e1, (h2 _ (by omega)).1.trans e2, (h2 _ (by omega)).2.trans e3, f2.trans e4, f3.trans e5⟩
theorem LawR_cp {a b : Nat} {w : Nat → Int} {M M' : MM} (h0 : M' a 0 = M b 0) (h2 : ∀ j, j < 12 → M' (a + 1) j = M (b + 1) j ∧ M' (a + 2) j = M (b + 2) j) (h3 : ∀ j, j < 400 → M' (a + 3) j = M (b + 3) j) (H : LawR b w M) : LawR a w M' := by
  rcases H with ⟨g1, g2⟩ | ⟨g1, g2, g3, g4⟩
  · exact Or.inl ⟨g1, h0.trans g2⟩
  · refine Or.inr ⟨g1, h0.trans g2, g3, fun l hl => ?_⟩
    obtain ⟨e1, e2, e3, e4, e5, e6⟩ := g4 l hl
    have hl12 : l < 12 := by omega
    refine ⟨?_, ?_, ?_, e4, fun i g5 g6 => ?_, e6⟩
    · rw [(h2 l hl12).1]; exact e1
    · rw [e2]
      by_cases h : l = 0
      · rw [if_pos h, if_pos h]
      · rw [if_neg h, if_neg h, (h2 (l - 1) (by omega)).2]
    · rw [(h2 l hl12).2]; exact e3
    · rw [h3 i (by unfold lEn at g6; omega)]; exact e5 i g5 g6
