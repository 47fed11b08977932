/-! ===== WHAT IS KEPT depends on few places; answers of both sides ===== -/
theorem LandR_fr {a : Nat} {w : Nat → Int} {M M' : MM} (h : ∀ j, j < 14 → M' (a + j) = M (a + j)) (H : LandR a w M) : LandR a w M' := by
  have h0 : M' a = M a := h 0 (by decide)
  unfold LandR at H ⊢
  rw [h0, h 1 (by decide), h 2 (by decide), h 3 (by decide), h 4 (by decide), h 5 (by decide), h 6 (by decide), h 7 (by decide), h 8 (by decide), h 9 (by decide), h 10 (by decide), h 11 (by decide), h 12 (by decide), h 13 (by decide)]
  exact H
theorem JnyR_fr {a : Nat} {w : Nat → Int} {M M' : MM} (h : ∀ j, j < 6 → M' (a + j) = M (a + j)) (H : JnyR a w M) : JnyR a w M' := by
  have h0 : M' a = M a := h 0 (by decide)
  unfold JnyR at H ⊢
  rw [h0, h 1 (by decide), h 2 (by decide), h 3 (by decide), h 4 (by decide), h 5 (by decide)]
  exact H
theorem LawR_fr {a : Nat} {w : Nat → Int} {M M' : MM} (h : ∀ j, j < 4 → M' (a + j) = M (a + j)) (H : LawR a w M) : LawR a w M' := by
  have h0 : M' a = M a := h 0 (by decide)
  unfold LawR LawT LineR at H ⊢
  rw [h0, h 1 (by decide), h 2 (by decide), h 3 (by decide)]
  exact H
theorem WC_mono {k k' : Nat} {w : Nat → Int} (h : k ≤ k') (H : WC k w) : WC k' w := by
  obtain ⟨h0, h1, h2, h3, h4, h5, h6, h7, h8, h9, h10⟩ := H
  exact ⟨h0, h1, h2, h3, h4, h5, ⟨h6.1, by omega⟩, h7, h8, h9, h10⟩
theorem WF_mono {k k' : Nat} {w : Nat → Int} (h : k ≤ k') (H : WF k w) : WF k' w := ⟨WC_mono h H.1, H.2⟩
def coreA (a : Nat) : Prop := a = 2 ∨ (3 ≤ a ∧ a ≤ 20) ∨ (23 ≤ a ∧ a ≤ 28) ∨ (55 ≤ a ∧ a ≤ 80) ∨ (83 ≤ a ∧ a ≤ 156) ∨ (166 ≤ a ∧ a ≤ 170 ∧ a ≠ 168) ∨ (1000 ≤ a ∧ a ≤ 1001)
def Core (M M' : MM) : Prop := (∀ a, coreA a → M' a = M a) ∧ (M' 1 1 = M 1 1 ∧ M' 1 2 = M 1 2) ∧ (M' 165 5 = M 165 5 ∧ M' 165 6 = M 165 6 ∧ M' 165 8 = M 165 8 ∧ M' 165 13 = M 165 13) ∧ (M' 0 10 = M 0 10 ∧ M' 0 17 = M 0 17 ∧ M' 0 18 = M 0 18)
theorem Core.rfl' {M : MM} : Core M M := ⟨fun _ _ => rfl, ⟨rfl, rfl⟩, ⟨rfl, rfl, rfl, rfl⟩, rfl, rfl, rfl⟩
theorem Core.trans' {M M1 M2 : MM} (h : Core M M1) (g : Core M1 M2) : Core M M2 := by
  obtain ⟨h1, ⟨h2, h3⟩, ⟨h4, h5, h6, h7⟩, h8, h9, h10⟩ := h
  obtain ⟨g1, ⟨g2, g3⟩, ⟨g4, g5, g6, g7⟩, g8, g9, g10⟩ := g
  exact ⟨fun a ha => (g1 a ha).trans (h1 a ha), ⟨g2.trans h2, g3.trans h3⟩, ⟨g4.trans h4, g5.trans h5, g6.trans h6, g7.trans h7⟩, g8.trans h8, g9.trans h9, g10.trans h10⟩
theorem Core.w {M M' : MM} (h : Core M M') : M' 166 = M 166 := h.1 166 (by unfold coreA; omega)
theorem TapeR_fr {M M' : MM} (h2 : M' 2 = M 2) (h170 : M' 170 = M 170) (h1 : M' 1 1 = M 1 1) (h12 : M' 1 2 = M 1 2) (h8 : M' 165 8 = M 165 8) (h13 : M' 165 13 = M 165 13) (H : TapeR M) : TapeR M' := by
  unfold TapeR at H ⊢
  rw [h2, h170, h1, h12, h8, h13]
  exact H
theorem RowOK_fr {k k' a : Nat} {r : Nat → Int} {M M' : MM} (hk : k ≤ k') (h3 : ∀ j, j < 14 → M' (3 + j) = M (3 + j)) (ha : ∀ j, j < 6 → M' (a + j) = M (a + j)) (h5 : M' 166 5 = M 166 5) (H : RowOK k a r M) : RowOK k' a r M' := ⟨WF_mono hk H.1, LandR_fr h3 H.2.1, JnyR_fr ha H.2.2.1, H.2.2.2.trans h5.symm⟩
theorem slJ_lt {nx rem j : Nat} : slJ nx rem j < 12 := Nat.mod_lt _ (by decide)
theorem MemR_fr {k k' : Nat} {M M' : MM} (hk : k ≤ k') (h6 : M' 165 6 = M 165 6) (h83 : ∀ a, 83 ≤ a → a ≤ 156 → M' a = M a) (h169 : M' 169 = M 169) (h3 : ∀ j, j < 14 → M' (3 + j) = M (3 + j)) (h5 : M' 166 5 = M 166 5) (H : MemR k M) : MemR k' M' := by
  obtain ⟨rem, nx, m1, m2, m3, m4, m5, m6⟩ := H
  have e : ∀ j, rwJ M' j = rwJ M j := fun j => by unfold rwJ; rw [h169]
  refine ⟨rem, nx, h6.trans m1, by rw [h83 83 (by omega) (by omega)]; exact m2, by rw [h83 83 (by omega) (by omega)]; exact m3, m4, m5, fun j hj => ?_⟩
  rw [e]
  exact RowOK_fr hk h3 (fun i hi => h83 _ (by omega) (by have := slJ_lt (nx := nx) (rem := rem) (j := j); omega)) h5 (m6 j hj)
theorem ImgR_fr {k k' : Nat} {M M' : MM} (hk : k ≤ k') (h5 : M' 165 5 = M 165 5) (h10 : M' 0 10 = M 0 10) (h167 : M' 167 = M 167) (h55 : ∀ a, 55 ≤ a → a ≤ 80 → M' a = M a) (H : ImgR k M) : ImgR k' M' := by
  unfold ImgR
  rw [h5, h10, h167]
  rcases H with H | ⟨i1, i2, i3, i4, i5, i6⟩
  · exact Or.inl H
  · exact Or.inr ⟨i1, i2, WF_mono hk i3, LandR_fr (fun j hj => h55 _ (by omega) (by omega)) i4, JnyR_fr (fun j hj => h55 _ (by omega) (by omega)) i5, LawR_fr (fun j hj => h55 _ (by omega) (by omega)) i6⟩
theorem Done_fr {w : Nat → Int} {M M' : MM} (h0 : M' 1000 = M 1000) (h1 : M' 1001 = M 1001) (H : Done w M) : Done w M' := by
  unfold Done at H ⊢
  rw [h0, h1]; exact H
theorem SrR_fr {M M' : MM} (h0 : M' 1000 = M 1000) (h1 : M' 1001 = M 1001) (h17 : M' 0 17 = M 0 17) (h18 : M' 0 18 = M 0 18) (hw : M' 166 = M 166) (H : SrR M) : SrR M' := by
  refine ⟨by rw [h17]; exact H.1, fun h => ?_⟩
  rw [h17] at h
  rw [h0, h18, hw]
  exact ⟨(H.2 h).1, fun g => Done_fr h0 h1 ((H.2 h).2 g)⟩
theorem Inv_core {k k' : Nat} {M M' : MM} (H : Inv k M) (C : Core M M') (hk : k ≤ k') (x0 : 0 ≤ M' 999 0) (x1 : M' 999 0 ≤ k') : Inv k' M' := by
  obtain ⟨i1, i2, i3, i4, i5, i6, i7, i8, i9, i10⟩ := H
  have hw := C.w
  obtain ⟨c1, ⟨c2, c3⟩, ⟨c4, c5, c6, c7⟩, c8, c9, c10⟩ := C
  have c3' : ∀ j, j < 14 → M' (3 + j) = M (3 + j) := fun j hj => c1 _ (by unfold coreA; omega)
  refine ⟨TapeR_fr (c1 _ (by unfold coreA; omega)) (c1 _ (by unfold coreA; omega)) c2 c3 c6 c7 i1, by rw [hw]; exact WF_mono hk i2, by rw [hw]; exact LandR_fr c3' i3, by rw [hw]; exact JnyR_fr (fun j hj => c1 _ (by unfold coreA; omega)) i4, by rw [hw]; exact LawR_fr (fun j hj => c1 _ (by unfold coreA; omega)) i5, MemR_fr hk c5 (fun a h1 h2 => c1 _ (by unfold coreA; omega)) (c1 _ (by unfold coreA; omega)) c3' (by rw [hw]) i6, ImgR_fr hk c4 c8 (c1 _ (by unfold coreA; omega)) (fun a h1 h2 => c1 _ (by unfold coreA; omega)) i7, SrR_fr (c1 _ (by unfold coreA; omega)) (c1 _ (by unfold coreA; omega)) c9 c10 hw i8, ⟨x0, x1⟩, by rw [c10]; exact ⟨i10.1, by omega⟩⟩
-- writing a place that is not of the core
theorem Core_mU {M M' : MM} {a j : Nat} {x : Int} (h : Core M M') (ha : ¬ coreA a) (h0 : a ≠ 0) (h1 : a ≠ 1) (h2 : a ≠ 165) : Core M (mU M' a j x) := by
  refine h.trans' ⟨fun b hb => mU_ne (fun e => ha (e ▸ hb)), ?_, ?_, ?_⟩ <;> simp only [mU_ne (Ne.symm h0), mU_ne (Ne.symm h1), mU_ne (Ne.symm h2)] <;> simp
theorem Core_mV {M M' : MM} {a : Nat} {f : Nat → Int} (h : Core M M') (ha : ¬ coreA a) (h0 : a ≠ 0) (h1 : a ≠ 1) (h2 : a ≠ 165) : Core M (mV M' a f) := by
  refine h.trans' ⟨fun b hb => mV_ne (fun e => ha (e ▸ hb)), ?_, ?_, ?_⟩ <;> simp only [mV_ne (Ne.symm h0), mV_ne (Ne.symm h1), mV_ne (Ne.symm h2)] <;> simp
/-- a field of the reference's object that is not kept -/
theorem Core_m165 {M M' : MM} {j : Nat} {x : Int} (h : Core M M') (h5 : j ≠ 5) (h6 : j ≠ 6) (h8 : j ≠ 8) (h13 : j ≠ 13) : Core M (mU M' 165 j x) := by
  refine h.trans' ⟨fun b hb => mU_ne (by unfold coreA at hb; omega), ⟨rfl, rfl⟩, ?_, rfl, rfl, rfl⟩
  rw [mU_eq]
  exact ⟨up_ne (Ne.symm h5), up_ne (Ne.symm h6), up_ne (Ne.symm h8), up_ne (Ne.symm h13)⟩
-- answers: what the class's side does to the memory, what the reference's
def AnsC (x : OR) (M : MM) (c z : Int) : Prop := ∃ M1, x = some (rI c, M1) ∧ (c = 0 → M1 181 0 = z) ∧ Core M M1 ∧ (0 ≤ M1 999 0 ∧ M1 999 0 ≤ M 999 0 + 1)
def AnsR (y : OR) (N : MM) (c z : Int) : Prop := ∃ N2 z', y = some (rI z', N2) ∧ N2 165 0 = c ∧ (c = 0 → z' = z) ∧ Core N N2 ∧ N2 181 = N 181 ∧ N2 999 = N 999
/-- one call, whatever it does -/
def OpOK (D R : MM → OR) : Prop := ∀ k M, k ≤ 511 → Inv k M → ∃ c z M1 M2, D M = some (rI c, M1) ∧ R M1 = some (rI z, M2) ∧ M2 165 0 = c ∧ I32 c ∧ (c = 0 → M2 181 0 = z ∧ I32 z) ∧ Inv (k + 1) M2
/-- one call that throws nothing -/
def OpOK0 (D R : MM → OR) : Prop := ∀ k M, k ≤ 511 → Inv k M → ∃ z M1 M2, D M = some (rI z, M1) ∧ R M1 = some (rI z, M2) ∧ I32 z ∧ Inv (k + 1) M2
theorem op_read {D R : MM → OR} (H : ∀ k M, k ≤ 512 → Inv k M → ∃ c z, I32 c ∧ (c = 0 → I32 z) ∧ (EXC M → AnsC (D M) M c z) ∧ ∀ N, Inv (k + 1) N → N 166 = M 166 → Core M N → AnsR (R N) N c z) : OpOK D R := by
  intro k M hk hI
  obtain ⟨c, z, hc, hz, hA, hR⟩ := H k M (by omega) hI
  have hx := hI.2.2.2.2.2.2.2.2.1
  obtain ⟨M1, a1, a2, a3, a4⟩ := hA ⟨hx.1, by omega⟩
  have hI1 : Inv (k + 1) M1 := Inv_core hI a3 (by omega) a4.1 (by omega)
  obtain ⟨N2, z', r1, r2, r3, r4, r5, r6⟩ := hR M1 hI1 a3.w a3
  refine ⟨c, z', M1, N2, a1, r1, r2, hc, fun h => ⟨by rw [r5, a2 h, r3 h], by rw [r3 h]; exact hz h⟩, Inv_core hI1 r4 (Nat.le_refl _) (by rw [r6]; exact a4.1) (by rw [r6]; omega)⟩
