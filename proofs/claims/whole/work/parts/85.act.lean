/-! ===== ACTS: what an act leaves ===== -/
def StEq (w w' : Nat → Int) : Prop := (∀ k, k < 6 → w' k = w k) ∧ (∀ p j : Int, 0 ≤ p → p < w 0 → 0 ≤ j → j ≤ 6 → oP w' p j = oP w p j) ∧ (∀ t j : Int, 0 ≤ t → t < w 1 → 0 ≤ j → j ≤ 1 → oT w' t j = oT w t j) ∧ (∀ r j : Int, 0 ≤ r → r < w 2 → 0 ≤ j → j ≤ 3 → oR w' r j = oR w r j) ∧ ∀ b j : Int, 0 ≤ b → b < w 3 → 0 ≤ j → j ≤ 4 → oB w' b j = oB w b j
theorem kpB_st {w w' : Nat → Int} (h : StEq w w') (i : Nat) : kpB w' i = kpB w i := by
  unfold kpB
  rw [h.1 0 (by decide)]
  by_cases hi : (i : Int) < w 0
  · rw [h.2.1 i 0 (by omega) hi (by decide) (by decide)]
  · rw [decide_eq_false hi, Bool.false_and, Bool.false_and]
theorem tkB_st {w w' : Nat → Int} (h : StEq w w') (i : Nat) : tkB w' i = tkB w i := by
  unfold tkB
  rw [h.1 0 (by decide)]
  by_cases hi : (i : Int) < w 0
  · rw [h.2.1 i 5 (by omega) hi (by decide) (by decide)]
  · rw [decide_eq_false hi, Bool.false_and, Bool.false_and]
theorem LandR_st {a : Nat} {w w' : Nat → Int} {M : MM} (h : StEq w w') (H : LandR a w M) : LandR a w' M := by
  obtain ⟨l0, l5, l6, q1, q2, q3, q4⟩ := H
  obtain ⟨h0, hp, ht, hr, hb⟩ := id h
  refine ⟨?_, ?_, ?_, fun p g0 g1 => ?_, fun p g0 g1 => ?_, fun p g0 g1 => ?_, fun p g0 g1 => ?_⟩
  · rw [h0 0 (by decide), h0 1 (by decide), h0 2 (by decide), h0 3 (by decide), h0 4 (by decide)]; exact l0
  · rw [bset_cg 10 (fun i _ => kpB_st h i)]; exact l5
  · rw [bset_cg 10 (fun i _ => tkB_st h i)]; exact l6
  · rw [h0 0 (by decide)] at g1
    rw [hp p 0 g0 g1 (by decide) (by decide), hp p 1 g0 g1 (by decide) (by decide), hp p 2 g0 g1 (by decide) (by decide), hp p 3 g0 g1 (by decide) (by decide), hp p 4 g0 g1 (by decide) (by decide), hp p 6 g0 g1 (by decide) (by decide)]
    exact q1 p g0 g1
  · rw [h0 1 (by decide)] at g1
    rw [ht p 0 g0 g1 (by decide) (by decide), ht p 1 g0 g1 (by decide) (by decide)]
    exact q2 p g0 g1
  · rw [h0 2 (by decide)] at g1
    rw [hr p 0 g0 g1 (by decide) (by decide), hr p 1 g0 g1 (by decide) (by decide), hr p 2 g0 g1 (by decide) (by decide), hr p 3 g0 g1 (by decide) (by decide)]
    exact q3 p g0 g1
  · rw [h0 3 (by decide)] at g1
    rw [hb p 0 g0 g1 (by decide) (by decide), hb p 1 g0 g1 (by decide) (by decide), hb p 2 g0 g1 (by decide) (by decide), hb p 3 g0 g1 (by decide) (by decide), hb p 4 g0 g1 (by decide) (by decide)]
    exact q4 p g0 g1
/-- the row behind an act is well formed -/
theorem WF_act {k : Nat} {w w' : Nat → Int} (hW : WF k w) (h : StEq w w') (h6 : w 6 ≤ w' 6 ∧ w' 6 ≤ 200 * ((k + 1 : Nat) : Int)) (h7 : 0 ≤ w' 7 ∧ (w' 7 < w 0 ∨ (w 0 = 0 ∧ w' 7 = 0))) (h8 : -1 ≤ w' 8 ∧ w' 8 < w 2 ∨ w' 8 = -1) (h9 : 0 ≤ w' 9 ∧ w' 9 ≤ 10)
    (hp : ∀ p : Int, 0 ≤ p → p < w 0 → (oP w' p 7 = 0 ∨ oP w' p 7 = 1) ∧ (oP w p 0 = 0 → oP w' p 7 = 0)) (ht : ∀ t : Int, 0 ≤ t → t < w 1 → (0 ≤ oT w' t 2 ∧ oT w' t 2 ≤ 3) ∧ (0 ≤ oT w' t 3 ∧ oT w' t 3 < w 0)) (hb : ∀ b : Int, 0 ≤ b → b < w 3 → -1 ≤ oB w' b 5 ∧ oB w' b 5 ≤ w' 6)
    (hg : ∀ p : Int, 0 ≤ p → p < w 0 → 0 ≤ oP w p 6 → (oP w' p 7 = 0 ↔ oT w' (oP w p 6) 2 = 1) ∧ (oP w' p 7 = 0 → oT w' (oP w p 6) 3 = p)) (hl : WL w') : WF (k + 1) w' := by
  obtain ⟨hC, hP, hT, hR, hB, hG, hL⟩ := hW
  obtain ⟨c0, c1, c2, c3, c4, c5, c6, c7, c8, c9, c10⟩ := hC
  obtain ⟨e0, ep, et, er, eb⟩ := h
  have a0 := e0 0 (by decide)
  have a1 := e0 1 (by decide)
  have a2 := e0 2 (by decide)
  have a3 := e0 3 (by decide)
  refine ⟨?_, fun p g0 g1 => ?_, fun t g0 g1 => ?_, fun r g0 g1 => ?_, fun b g0 g1 => ?_, ⟨fun p g0 g1 => ?_, fun p q g0 g1 g2 g3 => ?_⟩, hl⟩
  · unfold WC
    rw [a0, a1, a2, a3, e0 4 (by decide), e0 5 (by decide)]
    exact ⟨c0, c1, c2, c3, c4, c5, ⟨by omega, h6.2⟩, h7, h8, h9, c10⟩
  · rw [a0] at g1
    obtain ⟨p0, p1, p2, p3, p4, p5, p6, p7⟩ := hP p g0 g1
    obtain ⟨q1, q2⟩ := hp p g0 g1
    rw [ep p 0 g0 g1 (by decide) (by decide), ep p 1 g0 g1 (by decide) (by decide), ep p 2 g0 g1 (by decide) (by decide), ep p 3 g0 g1 (by decide) (by decide), ep p 4 g0 g1 (by decide) (by decide), ep p 5 g0 g1 (by decide) (by decide), ep p 6 g0 g1 (by decide) (by decide), a1]
    exact ⟨p0, p1, p2, p3, p4, p5, q1, fun g => by obtain ⟨r1, r2, r3, r4, r5, r6, -⟩ := p7 g; exact ⟨r1, r2, r3, r4, r5, r6, q2 g⟩⟩
  · rw [a1] at g1
    obtain ⟨t0, t1, -⟩ := hT t g0 g1
    rw [et t 0 g0 g1 (by decide) (by decide), et t 1 g0 g1 (by decide) (by decide), a0]
    exact ⟨t0, t1, ht t g0 g1⟩
  · rw [a2] at g1
    rw [er r 0 g0 g1 (by decide) (by decide), er r 1 g0 g1 (by decide) (by decide), er r 2 g0 g1 (by decide) (by decide), er r 3 g0 g1 (by decide) (by decide), a0]
    exact hR r g0 g1
  · rw [a3] at g1
    obtain ⟨b0, b1, b2, b3, b4, -⟩ := hB b g0 g1
    rw [eb b 0 g0 g1 (by decide) (by decide), eb b 1 g0 g1 (by decide) (by decide), eb b 2 g0 g1 (by decide) (by decide), eb b 3 g0 g1 (by decide) (by decide), eb b 4 g0 g1 (by decide) (by decide), a0]
    exact ⟨b0, b1, b2, b3, b4, hb b g0 g1⟩
  · rw [a0] at g1
    rw [ep p 6 g0 g1 (by decide) (by decide)]
    exact hg p g0 g1
  · rw [a0] at g1 g3
    rw [ep p 6 g0 g1 (by decide) (by decide), ep q 6 g2 g3 (by decide) (by decide)]
    exact hG.2 p q g0 g1 g2 g3
/-- the class has kept the journey -/
def RA (rem nx : Nat) (M M1 : MM) : Prop := (∀ k, k < 9 → M1 (85 + 6 * nx) k = M 23 k) ∧ (∀ j, j < 10 → M1 (85 + 6 * nx + 1) j = M 24 j) ∧ (∀ j, j < 7 → M1 (85 + 6 * nx + 2) j = M 25 j) ∧ (∀ j, j < 10 → M1 (85 + 6 * nx + 3) j = M 26 j ∧ M1 (85 + 6 * nx + 4) j = M 27 j ∧ M1 (85 + 6 * nx + 5) j = M 28 j) ∧
    M1 83 0 = ((if rem < 12 then rem + 1 else 12 : Nat) : Int) ∧ M1 83 1 = (((nx + 1) % 12 : Nat) : Int) ∧ M1 0 18 = M 0 18 + 1 ∧ (∀ j, j ≠ 18 → M1 0 j = M 0 j) ∧ ∀ p, p ≠ 0 → p ≠ 83 → (p < 85 + 6 * nx ∨ 85 + 6 * nx + 5 < p) → M1 p = M p
/-- the reference has kept its row -/
def RB (rem : Nat) (N N2 : MM) : Prop := N2 165 6 = ((if rem < 12 then rem + 1 else 12 : Nat) : Int) ∧ (∀ j, j ≠ 6 → N2 165 j = N 165 j) ∧ (∀ p, p ≠ 165 → p ≠ 169 → N2 p = N p) ∧
    (rem < 12 → (∀ j k, j < rem → k < 266 → N2 169 (266 * j + k) = N 169 (266 * j + k)) ∧ ∀ k, k < 266 → N2 169 (266 * rem + k) = N 166 k) ∧
    (rem = 12 → (∀ j k, j < 11 → k < 266 → N2 169 (266 * j + k) = N 169 (266 * (j + 1) + k)) ∧ ∀ k, k < 266 → N2 169 (266 * 11 + k) = N 166 k)
theorem RA_ex {k : Nat} {M : MM} (hM : MemR k M) : ∃ rem nx M1, M 165 6 = (rem : Nat) ∧ M 83 0 = (rem : Nat) ∧ M 83 1 = (nx : Nat) ∧ rem ≤ 12 ∧ nx < 12 ∧ gh_rememberAct M = some (rV, M1) ∧ RA rem nx M M1 := by
  obtain ⟨rem, nx, m1, m2, m3, m4, m5, m6⟩ := hM
  obtain ⟨M1, e, q⟩ := rememberAct_v m2 m3 m4 m5
  exact ⟨rem, nx, M1, m1, m2, m3, m4, m5, e, q⟩
theorem RB_ex {rem : Nat} {N : MM} (h : N 165 6 = rem) (hr : rem ≤ 12) : ∃ N2, mo_remembers N = some (rV, N2) ∧ RB rem N N2 := remembers_v h hr
/-- an act has come to its end: M ahead of it, M1 when the class has kept the journey, N0 when the reference is about to keep its row, N1 when it has, M2 at the end -/
theorem act_end {k rem nx : Nat} {M M1 N0 N1 M2 : MM} (hI : Inv k M) (hk : k ≤ 511) (m1 : M 165 6 = rem) (m2 : M 83 0 = rem) (m3 : M 83 1 = nx) (hr : rem ≤ 12) (hn : nx < 12) (A : RA rem nx M M1)
    (n0 : ∀ p, p ≠ 165 → p ≠ 172 → p ≠ 181 → ¬ (23 ≤ p ∧ p ≤ 28) → N0 p = M1 p) (n5 : ∀ j, (j = 5 ∨ j = 6 ∨ j = 8 ∨ j = 13) → N0 165 j = M 165 j) (B : RB rem N0 N1)
    (e0 : ∀ p, p ≠ 165 → p ≠ 172 → p ≠ 166 → M2 p = N1 p) (e5 : ∀ j, (j = 5 ∨ j = 6 ∨ j = 8 ∨ j = 13) → M2 165 j = N1 165 j) (e266 : ∀ j, 266 ≤ j → M2 166 j = M 166 j) (hW : WF (k + 1) (M2 166)) (hS : StEq (M 166) (M2 166)) (hJ : JnyR 23 (M2 166) N0) : Inv (k + 1) M2 := by
  obtain ⟨i1, i2, i3, i4, i5, i6, i7, i8, i9, i10⟩ := hI
  obtain ⟨A1, A2, A3, A4, A5, A6, A7, A8, A9⟩ := A
  obtain ⟨B1, B2, B3, B4, B5⟩ := B
  have g1 : ∀ p, p ≠ 165 → p ≠ 172 → p ≠ 166 → p ≠ 169 → p ≠ 181 → ¬ (23 ≤ p ∧ p ≤ 28) → M2 p = M1 p := fun p h1 h2 h3 h4 h5 h6 => by rw [e0 p h1 h2 h3, B3 p h1 h4, n0 p h1 h2 h5 h6]
  have gM : ∀ p, p ≠ 165 → p ≠ 172 → p ≠ 166 → p ≠ 169 → p ≠ 181 → ¬ (23 ≤ p ∧ p ≤ 28) → p ≠ 0 → p ≠ 83 → (p < 85 + 6 * nx ∨ 85 + 6 * nx + 5 < p) → M2 p = M p := fun p h1 h2 h3 h4 h5 h6 h7 h8 h9 => (g1 p h1 h2 h3 h4 h5 h6).trans (A9 p h7 h8 h9)
  have c3 : ∀ j, j < 14 → M2 (3 + j) = M (3 + j) := fun j hj => gM _ (by omega) (by omega) (by omega) (by omega) (by omega) (by omega) (by omega) (by omega) (by omega)
  have h5 : M2 166 5 = M 166 5 := hS.1 5 (by decide)
  have n166 : N0 166 = M 166 := by rw [n0 166 (by decide) (by decide) (by decide) (by decide), A9 166 (by decide) (by decide) (by omega)]
  have n169 : N0 169 = M 169 := by rw [n0 169 (by decide) (by decide) (by decide) (by decide), A9 169 (by decide) (by decide) (by omega)]
  have p165 : ∀ j, (j = 5 ∨ j = 8 ∨ j = 13) → M2 165 j = M 165 j := fun j hj => by rw [e5 j (by omega), B2 j (by omega), n5 j (by omega)]
  refine ⟨TapeR_fr (gM 2 (by decide) (by decide) (by decide) (by decide) (by decide) (by decide) (by decide) (by decide) (by omega)) (gM 170 (by decide) (by decide) (by decide) (by decide) (by decide) (by decide) (by decide) (by decide) (by omega)) (by rw [gM 1 (by decide) (by decide) (by decide) (by decide) (by decide) (by decide) (by decide) (by decide) (by omega)]) (by rw [gM 1 (by decide) (by decide) (by decide) (by decide) (by decide) (by decide) (by decide) (by decide) (by omega)]) (p165 8 (by decide)) (p165 13 (by decide)) i1, hW, LandR_st hS (LandR_fr c3 i3), JnyR_fr (fun j hj => by rw [e0 _ (by omega) (by omega) (by omega), B3 _ (by omega) (by omega)]) hJ, ?_, ?_, ?_, ?_, ?_, ?_⟩
  · refine LawR_cg (w := M 166) (fun j hj => ?_) (LawR_fr (fun j hj => gM _ (by omega) (by omega) (by omega) (by omega) (by omega) (by omega) (by omega) (by omega) (by omega)) i5)
    rcases hj with rfl | hj
    · exact h5
    · exact e266 j hj.1
  · have e169 : M2 169 = N1 169 := e0 169 (by decide) (by decide) (by decide)
    refine MemR_act (by omega) i6 i2 i3 i4 h5 c3 rem nx m1 m2 m3 hr hn (fun j hj => ?_) (fun j hj => ?_) (fun j hj => ?_) (fun j hj => ?_) ?_ ?_ (fun p q1 q2 q3 => gM p (by omega) (by omega) (by omega) (by omega) (by omega) (by omega) (by omega) (by omega) q3) ?_ (fun h => ?_) (fun h => ?_)
    · rw [g1 _ (by omega) (by omega) (by omega) (by omega) (by omega) (by omega)]; exact A1 j hj
    · rw [g1 _ (by omega) (by omega) (by omega) (by omega) (by omega) (by omega)]; exact A2 j hj
    · rw [g1 _ (by omega) (by omega) (by omega) (by omega) (by omega) (by omega)]; exact A3 j hj
    · rw [g1 _ (by omega) (by omega) (by omega) (by omega) (by omega) (by omega), g1 _ (by omega) (by omega) (by omega) (by omega) (by omega) (by omega), g1 _ (by omega) (by omega) (by omega) (by omega) (by omega) (by omega)]; exact A4 j hj
    · rw [g1 83 (by decide) (by decide) (by decide) (by decide) (by decide) (by decide)]; exact A5
    · rw [g1 83 (by decide) (by decide) (by decide) (by decide) (by decide) (by decide)]; exact A6
    · rw [e5 6 (by decide)]; exact B1
    · rw [e169, ← n169, ← n166]; exact B4 h
    · rw [e169, ← n169, ← n166]; exact B5 h
  · exact ImgR_fr (by omega) (p165 5 (by decide)) (by rw [g1 0 (by decide) (by decide) (by decide) (by decide) (by decide) (by decide), A8 10 (by decide)]) (gM 167 (by decide) (by decide) (by decide) (by decide) (by decide) (by decide) (by decide) (by decide) (by omega)) (fun a q1 q2 => gM _ (by omega) (by omega) (by omega) (by omega) (by omega) (by omega) (by omega) (by omega) (by omega)) i7
  · have e17 : M2 0 17 = M 0 17 := by rw [g1 0 (by decide) (by decide) (by decide) (by decide) (by decide) (by decide), A8 17 (by decide)]
    have e18 : M2 0 18 = M 0 18 + 1 := by rw [g1 0 (by decide) (by decide) (by decide) (by decide) (by decide) (by decide), A7]
    refine ⟨by rw [e17]; exact i8.1, fun h => ?_⟩
    rw [e17] at h
    have := (i8.2 h).1
    rw [e18, gM 1000 (by decide) (by decide) (by decide) (by decide) (by decide) (by decide) (by decide) (by decide) (by omega)]
    exact ⟨⟨this.1, by omega⟩, fun g => absurd g (by omega)⟩
  · rw [gM 999 (by decide) (by decide) (by decide) (by decide) (by decide) (by decide) (by decide) (by decide) (by omega)]
    exact ⟨i9.1, by omega⟩
  · rw [g1 0 (by decide) (by decide) (by decide) (by decide) (by decide) (by decide), A7]
    exact ⟨by omega, by omega⟩
